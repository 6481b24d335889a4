-- ===== PART A: goes FIRST, ahead of the names: the tables' words, and 'selects' of the private methods out of them =====
/-- a private method of a class that the tables say can be made, by its rows of tables_1 -/
def lw_okq (q : MethodName × Nat) : Prop := (q.1.cls ≠ "java/lang/invoke/MethodHandle" ∧ q.1.cls ≠ "java/lang/invoke/VarHandle") ∧ Cond.instantiable q.1.cls q.2 ∈ tables_1 ∧ Cond.privateMethod q.1 ∈ tables_1 ∧ Cond.instanceMethod q.1 ∈ tables_1
theorem lw_p0 : lw_okq (⟨"TouchSelect", "rowOf", "(I)LTouchSelect$TestRow;"⟩, 6) := ⟨⟨by decide +kernel, by decide +kernel⟩, List.mem_of_getElem? (i := 11) (by decide +kernel), List.mem_of_getElem? (i := 229) (by decide +kernel), List.mem_of_getElem? (i := 230) (by decide +kernel)⟩
theorem lw_p1 : lw_okq (⟨"TouchSelect", "placeInSelection", "(I)V"⟩, 6) := ⟨⟨by decide +kernel, by decide +kernel⟩, List.mem_of_getElem? (i := 11) (by decide +kernel), List.mem_of_getElem? (i := 281) (by decide +kernel), List.mem_of_getElem? (i := 282) (by decide +kernel)⟩
theorem lw_p2 : lw_okq (⟨"TouchSelect$TestRow", "firstReasonOfReads", "(LTouchSelect$Sources;)I"⟩, 11) := ⟨⟨by decide +kernel, by decide +kernel⟩, List.mem_of_getElem? (i := 181) (by decide +kernel), List.mem_of_getElem? (i := 289) (by decide +kernel), List.mem_of_getElem? (i := 290) (by decide +kernel)⟩
theorem lw_p3 : lw_okq (⟨"TouchSelect$TestRow", "hasKept", "(I)Z"⟩, 11) := ⟨⟨by decide +kernel, by decide +kernel⟩, List.mem_of_getElem? (i := 181) (by decide +kernel), List.mem_of_getElem? (i := 293) (by decide +kernel), List.mem_of_getElem? (i := 294) (by decide +kernel)⟩
theorem lw_p4 : lw_okq (⟨"TouchSelect$TestRow", "reasonOfRead", "(ILTouchSelect$Sources;)I"⟩, 11) := ⟨⟨by decide +kernel, by decide +kernel⟩, List.mem_of_getElem? (i := 181) (by decide +kernel), List.mem_of_getElem? (i := 297) (by decide +kernel), List.mem_of_getElem? (i := 298) (by decide +kernel)⟩
theorem lw_p5 : lw_okq (⟨"TouchSelect$TestRow", "isAsItWas", "(ILTouchSelect$Sources;)Z"⟩, 11) := ⟨⟨by decide +kernel, by decide +kernel⟩, List.mem_of_getElem? (i := 181) (by decide +kernel), List.mem_of_getElem? (i := 301) (by decide +kernel), List.mem_of_getElem? (i := 302) (by decide +kernel)⟩
theorem lw_p6 : lw_okq (⟨"TouchSelect$Ranking", "isGreater", "(III)Z"⟩, 4) := ⟨⟨by decide +kernel, by decide +kernel⟩, List.mem_of_getElem? (i := 78) (by decide +kernel), List.mem_of_getElem? (i := 317) (by decide +kernel), List.mem_of_getElem? (i := 318) (by decide +kernel)⟩
theorem lw_p7 : lw_okq (⟨"TouchSelect", "takeExtras", "(I)V"⟩, 6) := ⟨⟨by decide +kernel, by decide +kernel⟩, List.mem_of_getElem? (i := 11) (by decide +kernel), List.mem_of_getElem? (i := 321) (by decide +kernel), List.mem_of_getElem? (i := 322) (by decide +kernel)⟩
theorem lw_p8 : lw_okq (⟨"TouchSelectModel", "isFile", "(I)Z"⟩, 32) := ⟨⟨by decide +kernel, by decide +kernel⟩, List.mem_of_getElem? (i := 362) (by decide +kernel), List.mem_of_getElem? (i := 473) (by decide +kernel), List.mem_of_getElem? (i := 474) (by decide +kernel)⟩
theorem lw_p9 : lw_okq (⟨"TouchSelectModel", "isFunction", "(I)Z"⟩, 32) := ⟨⟨by decide +kernel, by decide +kernel⟩, List.mem_of_getElem? (i := 362) (by decide +kernel), List.mem_of_getElem? (i := 485) (by decide +kernel), List.mem_of_getElem? (i := 486) (by decide +kernel)⟩
theorem lw_p10 : lw_okq (⟨"TouchSelectModel", "isTest", "(I)Z"⟩, 32) := ⟨⟨by decide +kernel, by decide +kernel⟩, List.mem_of_getElem? (i := 362) (by decide +kernel), List.mem_of_getElem? (i := 497) (by decide +kernel), List.mem_of_getElem? (i := 498) (by decide +kernel)⟩
theorem lw_p11 : lw_okq (⟨"TouchSelectModel", "keepAll", "(I)V"⟩, 32) := ⟨⟨by decide +kernel, by decide +kernel⟩, List.mem_of_getElem? (i := 362) (by decide +kernel), List.mem_of_getElem? (i := 509) (by decide +kernel), List.mem_of_getElem? (i := 510) (by decide +kernel)⟩
theorem lw_p12 : lw_okq (⟨"TouchSelectModel", "reason", "(I)I"⟩, 32) := ⟨⟨by decide +kernel, by decide +kernel⟩, List.mem_of_getElem? (i := 362) (by decide +kernel), List.mem_of_getElem? (i := 517) (by decide +kernel), List.mem_of_getElem? (i := 518) (by decide +kernel)⟩
theorem lw_p13 : lw_okq (⟨"TouchSelectModel", "reasonOf", "(II)I"⟩, 32) := ⟨⟨by decide +kernel, by decide +kernel⟩, List.mem_of_getElem? (i := 362) (by decide +kernel), List.mem_of_getElem? (i := 521) (by decide +kernel), List.mem_of_getElem? (i := 522) (by decide +kernel)⟩
theorem lw_p14 : lw_okq (⟨"TouchSelectModel", "isAsItWas", "(II)Z"⟩, 32) := ⟨⟨by decide +kernel, by decide +kernel⟩, List.mem_of_getElem? (i := 362) (by decide +kernel), List.mem_of_getElem? (i := 525) (by decide +kernel), List.mem_of_getElem? (i := 526) (by decide +kernel)⟩
theorem lw_p15 : lw_okq (⟨"TouchSelectModel", "isRest", "(II)Z"⟩, 32) := ⟨⟨by decide +kernel, by decide +kernel⟩, List.mem_of_getElem? (i := 362) (by decide +kernel), List.mem_of_getElem? (i := 529) (by decide +kernel), List.mem_of_getElem? (i := 530) (by decide +kernel)⟩
def lw_privs_1 : List (MethodName × Nat) := [(⟨"TouchSelect", "rowOf", "(I)LTouchSelect$TestRow;"⟩, 6), (⟨"TouchSelect", "placeInSelection", "(I)V"⟩, 6), (⟨"TouchSelect$TestRow", "firstReasonOfReads", "(LTouchSelect$Sources;)I"⟩, 11), (⟨"TouchSelect$TestRow", "hasKept", "(I)Z"⟩, 11), (⟨"TouchSelect$TestRow", "reasonOfRead", "(ILTouchSelect$Sources;)I"⟩, 11), (⟨"TouchSelect$TestRow", "isAsItWas", "(ILTouchSelect$Sources;)Z"⟩, 11), (⟨"TouchSelect$Ranking", "isGreater", "(III)Z"⟩, 4), (⟨"TouchSelect", "takeExtras", "(I)V"⟩, 6), (⟨"TouchSelectModel", "isFile", "(I)Z"⟩, 32), (⟨"TouchSelectModel", "isFunction", "(I)Z"⟩, 32), (⟨"TouchSelectModel", "isTest", "(I)Z"⟩, 32), (⟨"TouchSelectModel", "keepAll", "(I)V"⟩, 32), (⟨"TouchSelectModel", "reason", "(I)I"⟩, 32), (⟨"TouchSelectModel", "reasonOf", "(II)I"⟩, 32), (⟨"TouchSelectModel", "isAsItWas", "(II)Z"⟩, 32), (⟨"TouchSelectModel", "isRest", "(II)Z"⟩, 32)]
theorem lw_r1 : ∀ q ∈ lw_privs_1, lw_okq q := List.forall_mem_cons.mpr ⟨lw_p0, List.forall_mem_cons.mpr ⟨lw_p1, List.forall_mem_cons.mpr ⟨lw_p2, List.forall_mem_cons.mpr ⟨lw_p3, List.forall_mem_cons.mpr ⟨lw_p4, List.forall_mem_cons.mpr ⟨lw_p5, List.forall_mem_cons.mpr ⟨lw_p6, List.forall_mem_cons.mpr ⟨lw_p7, List.forall_mem_cons.mpr ⟨lw_p8, List.forall_mem_cons.mpr ⟨lw_p9, List.forall_mem_cons.mpr ⟨lw_p10, List.forall_mem_cons.mpr ⟨lw_p11, List.forall_mem_cons.mpr ⟨lw_p12, List.forall_mem_cons.mpr ⟨lw_p13, List.forall_mem_cons.mpr ⟨lw_p14, List.forall_mem_cons.mpr ⟨lw_p15, fun _ h => absurd h List.not_mem_nil⟩⟩⟩⟩⟩⟩⟩⟩⟩⟩⟩⟩⟩⟩⟩⟩
theorem lw_p16 : lw_okq (⟨"TouchSelectModel", "isBody", "(II)Z"⟩, 32) := ⟨⟨by decide +kernel, by decide +kernel⟩, List.mem_of_getElem? (i := 362) (by decide +kernel), List.mem_of_getElem? (i := 533) (by decide +kernel), List.mem_of_getElem? (i := 534) (by decide +kernel)⟩
theorem lw_p17 : lw_okq (⟨"TouchSelectModel", "take", "(I)V"⟩, 32) := ⟨⟨by decide +kernel, by decide +kernel⟩, List.mem_of_getElem? (i := 362) (by decide +kernel), List.mem_of_getElem? (i := 546) (by decide +kernel), List.mem_of_getElem? (i := 547) (by decide +kernel)⟩
theorem lw_p18 : lw_okq (⟨"TouchSelectModel", "bestOf", "([Z)I"⟩, 32) := ⟨⟨by decide +kernel, by decide +kernel⟩, List.mem_of_getElem? (i := 362) (by decide +kernel), List.mem_of_getElem? (i := 550) (by decide +kernel), List.mem_of_getElem? (i := 551) (by decide +kernel)⟩
theorem lw_p19 : lw_okq (⟨"TouchSelectModel", "shareOf", "(I)I"⟩, 32) := ⟨⟨by decide +kernel, by decide +kernel⟩, List.mem_of_getElem? (i := 362) (by decide +kernel), List.mem_of_getElem? (i := 554) (by decide +kernel), List.mem_of_getElem? (i := 555) (by decide +kernel)⟩
def lw_privs_2 : List (MethodName × Nat) := [(⟨"TouchSelectModel", "isBody", "(II)Z"⟩, 32), (⟨"TouchSelectModel", "take", "(I)V"⟩, 32), (⟨"TouchSelectModel", "bestOf", "([Z)I"⟩, 32), (⟨"TouchSelectModel", "shareOf", "(I)I"⟩, 32)]
theorem lw_r2 : ∀ q ∈ lw_privs_2, lw_okq q := List.forall_mem_cons.mpr ⟨lw_p16, List.forall_mem_cons.mpr ⟨lw_p17, List.forall_mem_cons.mpr ⟨lw_p18, List.forall_mem_cons.mpr ⟨lw_p19, fun _ h => absurd h List.not_mem_nil⟩⟩⟩⟩
def lw_privs : List (MethodName × Nat) := lw_privs_1 ++ (lw_privs_2)
def lw_tbl : List Cond := k2_sels lw_privs ++ tables_1
theorem lw_privs_ok : ∀ q ∈ lw_privs, lw_okq q := by
  show ∀ q ∈ lw_privs_1 ++ (lw_privs_2), lw_okq q
  exact List.forall_mem_append.mpr ⟨lw_r1, lw_r2⟩

def gw_tbl : List Cond := lw_tbl.filter goodWord
theorem gw_of0 {w : Cond} (k : Nat) (h : (k2_sels lw_privs)[k]? = some w) (hg : goodWord w = true) : w ∈ gw_tbl := List.mem_filter.mpr ⟨List.mem_append_left _ (List.mem_of_getElem? h), hg⟩
theorem gw_of1 {w : Cond} (k : Nat) (h : tables_1_1[k]? = some w) (hg : goodWord w = true) : w ∈ gw_tbl := List.mem_filter.mpr ⟨List.mem_append_right _ (List.mem_append_left _ (List.mem_of_getElem? h)), hg⟩
theorem gw_of2 {w : Cond} (k : Nat) (h : tables_1_2[k]? = some w) (hg : goodWord w = true) : w ∈ gw_tbl := List.mem_filter.mpr ⟨List.mem_append_right _ (List.mem_append_right _ (List.mem_append_left _ (List.mem_of_getElem? h))), hg⟩
theorem gw_of3 {w : Cond} (k : Nat) (h : tables_1_3[k]? = some w) (hg : goodWord w = true) : w ∈ gw_tbl := List.mem_filter.mpr ⟨List.mem_append_right _ (List.mem_append_right _ (List.mem_append_right _ (List.mem_of_getElem? h))), hg⟩
theorem gw_in {c0 w : Cond} (h : w ∈ gw_tbl) : w ∈ c0 :: gw_tbl := List.mem_cons_of_mem _ h
theorem gw_good {c0 c1 : Cond} (h : c1 ∈ gw_tbl) : GoodIn (c0 :: gw_tbl) (c1 :: gw_tbl) := fun w hw => by
  have h1 : w ∈ gw_tbl := by
    rcases List.mem_cons.mp hw with e | e
    · rw [e]; exact h
    · exact e
  exact ⟨gw_in h1, good_of_word (List.mem_filter.mp h1).2⟩
section GW
variable {R : Room} {s : State} {args : Array Value} {own C host : String} {index maxL mc ms : Nat} {y : MethodName} {bytes : ByteArray} {ret : Option FieldType} {c0 : Cond} {rm : Room}
theorem gw_V (n : Nat) (ht : ∀ w ∈ c0 :: gw_tbl, w.before args s = true) (h1 : Cond.methodLink own index y ∈ gw_tbl) (h2 : Cond.instanceMethod y ∈ gw_tbl) (h3 : Cond.selects C y y ∈ gw_tbl) (h4 : Cond.initialized y.cls ∈ gw_tbl) (h5 : Cond.code y bytes maxL ret ∈ gw_tbl) (hrc : rm.cells = mc) (hrs : rm.slots = ms)
    (hd : y.cls ≠ "java/lang/invoke/MethodHandle" ∧ y.cls ≠ "java/lang/invoke/VarHandle" ∧ (parseMethodDescriptor y.desc).map (fun d => d.parameters.length) = some n) (hR : rm.frames + 1 ≤ R.frames ∧ 8 + (maxL + 11) + rm.locals ≤ R.locals) : CallW R s args own C index y bytes maxL ret (Cond.code y bytes maxL ret :: gw_tbl) rm mc ms n :=
  ⟨callB_of n ht (gw_good h5) rfl hrc hrs (ht _ (gw_in h4)) (ht _ (gw_in h1)) hd hR, ht _ (gw_in h2), ht _ (gw_in h3)⟩
theorem gw_S (n : Nat) (ht : ∀ w ∈ c0 :: gw_tbl, w.before args s = true) (h1 : Cond.methodLink own index y ∈ gw_tbl) (h2 : Cond.static y ∈ gw_tbl) (h4 : Cond.initialized y.cls ∈ gw_tbl) (h5 : Cond.code y bytes maxL ret ∈ gw_tbl) (hrc : rm.cells = mc) (hrs : rm.slots = ms)
    (hd : y.cls ≠ "java/lang/invoke/MethodHandle" ∧ y.cls ≠ "java/lang/invoke/VarHandle" ∧ (parseMethodDescriptor y.desc).map (fun d => d.parameters.length) = some n) (hR : rm.frames + 1 ≤ R.frames ∧ 8 + (maxL + 11) + rm.locals ≤ R.locals) : CallB R s args own index y bytes maxL ret (Cond.code y bytes maxL ret :: gw_tbl) rm mc ms n ∧ (Cond.static y).before args s = true :=
  ⟨callB_of n ht (gw_good h5) rfl hrc hrs (ht _ (gw_in h4)) (ht _ (gw_in h1)) hd hR, ht _ (gw_in h2)⟩
theorem gw_I (n : Nat) (ht : ∀ w ∈ c0 :: gw_tbl, w.before args s = true) (h1 : Cond.methodLink own index y ∈ gw_tbl) (h4 : Cond.initialized y.cls ∈ gw_tbl) (h2 : Cond.instanceMethod y ∈ gw_tbl) (h5 : Cond.code y bytes maxL none ∈ gw_tbl) (hy1 : y.name = "<init>") (hrc : rm.cells = mc) (hrs : rm.slots = ms)
    (hd : y.cls ≠ "java/lang/invoke/MethodHandle" ∧ y.cls ≠ "java/lang/invoke/VarHandle" ∧ (parseMethodDescriptor y.desc).map (fun d => d.parameters.length) = some n) (hR : rm.frames + 1 ≤ R.frames ∧ 8 + (maxL + 11) + rm.locals ≤ R.locals) : CallB R s args own index y bytes maxL none (Cond.code y bytes maxL none :: gw_tbl) rm mc ms n ∧ y.name = "<init>" ∧ (Cond.instanceMethod y).before args s = true :=
  ⟨callB_of n ht (gw_good h5) rfl hrc hrs (ht _ (gw_in h4)) (ht _ (gw_in h1)) hd hR, hy1, ht _ (gw_in h2)⟩
theorem gw_IN (n : Nat) (ht : ∀ w ∈ c0 :: gw_tbl, w.before args s = true) (h1 : va_Nw (.methodLinkNest own index y host) s) (h4 : Cond.initialized y.cls ∈ gw_tbl) (h2 : Cond.instanceMethod y ∈ gw_tbl) (h5 : Cond.code y bytes maxL none ∈ gw_tbl) (hy1 : y.name = "<init>") (hrc : rm.cells = mc) (hrs : rm.slots = ms)
    (hd : y.cls ≠ "java/lang/invoke/MethodHandle" ∧ y.cls ≠ "java/lang/invoke/VarHandle" ∧ (parseMethodDescriptor y.desc).map (fun d => d.parameters.length) = some n) (hR : rm.frames + 1 ≤ R.frames ∧ 8 + (maxL + 11) + rm.locals ≤ R.locals) : va_CN R s args own index y host bytes maxL none (Cond.code y bytes maxL none :: gw_tbl) rm mc ms n ∧ y.name = "<init>" ∧ (Cond.instanceMethod y).before args s = true :=
  ⟨va_cnB n ht (gw_good h5) rfl hrc hrs h1 (ht _ (gw_in h4)) hd hR, hy1, ht _ (gw_in h2)⟩
end GW
theorem gw_0 : (Jvm.Cond.initialized "TouchSelectLaw") ∈ gw_tbl := gw_of1 0 rfl rfl
theorem gw_1 : (Jvm.Cond.initialized "TouchSelect") ∈ gw_tbl := gw_of1 1 rfl rfl
theorem gw_2 : (Jvm.Cond.initialized "TouchSelect$Sources") ∈ gw_tbl := gw_of1 2 rfl rfl
theorem gw_3 : (Jvm.Cond.initialized "TouchSelect$Selection") ∈ gw_tbl := gw_of1 3 rfl rfl
theorem gw_4 : (Jvm.Cond.initialized "TouchSelect$Ranking") ∈ gw_tbl := gw_of1 4 rfl rfl
theorem gw_5 : (Jvm.Cond.initialized "TouchSelect$MissedRows") ∈ gw_tbl := gw_of1 5 rfl rfl
theorem gw_6 : (Jvm.Cond.initialized "TouchSelectModel") ∈ gw_tbl := gw_of1 6 rfl rfl
theorem gw_7 : (Jvm.Cond.initialized "TouchSelect$TestRow") ∈ gw_tbl := gw_of1 7 rfl rfl
theorem gw_8 : (Jvm.Cond.initialized "java/lang/Long") ∈ gw_tbl := gw_of1 8 rfl rfl
theorem gw_9 : (Jvm.Cond.initialized "java/lang/System") ∈ gw_tbl := gw_of1 9 rfl rfl
theorem gw_10 : (Jvm.Cond.classLink "TouchSelectLaw" (7 : Nat) "TouchSelect") ∈ gw_tbl := gw_of1 10 rfl rfl
theorem gw_11 : (Jvm.Cond.instantiable "TouchSelect" (6 : Nat)) ∈ gw_tbl := gw_of1 11 rfl rfl
theorem gw_12 : (Jvm.Cond.methodLink "TouchSelectLaw" (9 : Nat) ({ cls := "TouchSelect", name := "<init>", desc := "()V" } : Jvm.MethodName)) ∈ gw_tbl := gw_of1 12 rfl rfl
theorem gw_13 : (Jvm.Cond.instanceMethod ({ cls := "TouchSelect", name := "<init>", desc := "()V" } : Jvm.MethodName)) ∈ gw_tbl := gw_of1 13 rfl rfl
theorem gw_14 : (Jvm.Cond.code ({ cls := "TouchSelect", name := "<init>", desc := "()V" } : Jvm.MethodName) prog_1_method_1_code (1 : Nat) (Option.none : Option Jvm.ClassFile.FieldType)) ∈ gw_tbl := gw_of1 14 rfl rfl
theorem gw_15 : (Jvm.Cond.methodLink "TouchSelect" (3 : Nat) ({ cls := "java/lang/Object", name := "<init>", desc := "()V" } : Jvm.MethodName)) ∈ gw_tbl := gw_of1 15 rfl rfl
theorem gw_16 : (Jvm.Cond.instanceMethod ({ cls := "java/lang/Object", name := "<init>", desc := "()V" } : Jvm.MethodName)) ∈ gw_tbl := gw_of1 16 rfl rfl
theorem gw_17 : (Jvm.Cond.code ({ cls := "java/lang/Object", name := "<init>", desc := "()V" } : Jvm.MethodName) object_method_1_code (1 : Nat) (Option.none : Option Jvm.ClassFile.FieldType)) ∈ gw_tbl := gw_of1 17 rfl rfl
theorem gw_18 : (Jvm.Cond.classLink "TouchSelect" (9 : Nat) "TouchSelect$Sources") ∈ gw_tbl := gw_of1 18 rfl rfl
theorem gw_19 : (Jvm.Cond.instantiable "TouchSelect$Sources" (6 : Nat)) ∈ gw_tbl := gw_of1 19 rfl rfl
theorem gw_20 : (Jvm.Cond.instanceMethod ({ cls := "TouchSelect$Sources", name := "<init>", desc := "()V" } : Jvm.MethodName)) ∈ gw_tbl := gw_of1 21 rfl rfl
theorem gw_21 : (Jvm.Cond.code ({ cls := "TouchSelect$Sources", name := "<init>", desc := "()V" } : Jvm.MethodName) prog_5_method_1_code (1 : Nat) (Option.none : Option Jvm.ClassFile.FieldType)) ∈ gw_tbl := gw_of1 22 rfl rfl
theorem gw_22 : (Jvm.Cond.methodLink "TouchSelect$Sources" (3 : Nat) ({ cls := "java/lang/Object", name := "<init>", desc := "()V" } : Jvm.MethodName)) ∈ gw_tbl := gw_of1 23 rfl rfl
theorem gw_23 : (Jvm.Cond.fieldLink "TouchSelect$Sources" (9 : Nat) "TouchSelect$Sources" "rests" "[J") ∈ gw_tbl := gw_of1 24 rfl rfl
theorem gw_24 : (Jvm.Cond.fieldLink "TouchSelect$TestRow" (55 : Nat) "TouchSelect$Sources" "rests" "[J") ∈ gw_tbl := gw_of1 25 rfl rfl
theorem gw_25 : (Jvm.Cond.fieldLink "TouchSelect$Sources" (15 : Nat) "TouchSelect$Sources" "touched" "[Z") ∈ gw_tbl := gw_of1 26 rfl rfl
theorem gw_26 : (Jvm.Cond.fieldLink "TouchSelect" (144 : Nat) "TouchSelect$Sources" "touched" "[Z") ∈ gw_tbl := gw_of1 27 rfl rfl
theorem gw_27 : (Jvm.Cond.fieldLink "TouchSelect$Sources" (19 : Nat) "TouchSelect$Sources" "fileCount" "I") ∈ gw_tbl := gw_of1 28 rfl rfl
theorem gw_28 : (Jvm.Cond.fieldLink "TouchSelect$Sources" (23 : Nat) "TouchSelect$Sources" "functions" "[J") ∈ gw_tbl := gw_of1 29 rfl rfl
theorem gw_29 : (Jvm.Cond.fieldLink "TouchSelect$TestRow" (66 : Nat) "TouchSelect$Sources" "functions" "[J") ∈ gw_tbl := gw_of1 30 rfl rfl
theorem gw_30 : (Jvm.Cond.fieldLink "TouchSelect$Sources" (26 : Nat) "TouchSelect$Sources" "fileOf" "[I") ∈ gw_tbl := gw_of1 31 rfl rfl
theorem gw_31 : (Jvm.Cond.fieldLink "TouchSelect" (84 : Nat) "TouchSelect$Sources" "fileOf" "[I") ∈ gw_tbl := gw_of1 32 rfl rfl
theorem gw_32 : (Jvm.Cond.fieldLink "TouchSelect$TestRow" (88 : Nat) "TouchSelect$Sources" "fileOf" "[I") ∈ gw_tbl := gw_of1 33 rfl rfl
theorem gw_33 : (Jvm.Cond.fieldLink "TouchSelect$Sources" (30 : Nat) "TouchSelect$Sources" "functionCount" "I") ∈ gw_tbl := gw_of1 34 rfl rfl
theorem gw_34 : (Jvm.Cond.fieldLink "TouchSelect$TestRow" (69 : Nat) "TouchSelect$Sources" "functionCount" "I") ∈ gw_tbl := gw_of1 35 rfl rfl
theorem gw_35 : (Jvm.Cond.laysFinal "TouchSelect$Sources" "TouchSelect$Sources" "rests" "[J") ∈ gw_tbl := gw_of1 36 rfl rfl
theorem gw_36 : (Jvm.Cond.laysFinal "TouchSelect$Sources" "TouchSelect$Sources" "touched" "[Z") ∈ gw_tbl := gw_of1 38 rfl rfl
theorem gw_37 : (Jvm.Cond.lays "TouchSelect$Sources" "TouchSelect$Sources" "fileCount" "I") ∈ gw_tbl := gw_of1 40 rfl rfl
theorem gw_38 : (Jvm.Cond.laysFinal "TouchSelect$Sources" "TouchSelect$Sources" "functions" "[J") ∈ gw_tbl := gw_of1 42 rfl rfl
theorem gw_39 : (Jvm.Cond.laysFinal "TouchSelect$Sources" "TouchSelect$Sources" "fileOf" "[I") ∈ gw_tbl := gw_of1 44 rfl rfl
theorem gw_40 : (Jvm.Cond.lays "TouchSelect$Sources" "TouchSelect$Sources" "functionCount" "I") ∈ gw_tbl := gw_of1 46 rfl rfl
theorem gw_41 : (Jvm.Cond.arrayClass Jvm.ClassFile.FieldType.long) ∈ gw_tbl := gw_of1 49 rfl rfl
theorem gw_42 : (Jvm.Cond.arrayClass Jvm.ClassFile.FieldType.boolean) ∈ gw_tbl := gw_of1 50 rfl rfl
theorem gw_43 : (Jvm.Cond.arrayClass Jvm.ClassFile.FieldType.int) ∈ gw_tbl := gw_of1 51 rfl rfl
theorem gw_44 : (Jvm.Cond.classLink "TouchSelect" (16 : Nat) "TouchSelect$TestRow") ∈ gw_tbl := gw_of1 52 rfl rfl
theorem gw_45 : (Jvm.Cond.classLink "TouchSelect" (26 : Nat) "TouchSelect$Selection") ∈ gw_tbl := gw_of1 54 rfl rfl
theorem gw_46 : (Jvm.Cond.instantiable "TouchSelect$Selection" (4 : Nat)) ∈ gw_tbl := gw_of1 55 rfl rfl
theorem gw_47 : (Jvm.Cond.instanceMethod ({ cls := "TouchSelect$Selection", name := "<init>", desc := "()V" } : Jvm.MethodName)) ∈ gw_tbl := gw_of1 57 rfl rfl
theorem gw_48 : (Jvm.Cond.code ({ cls := "TouchSelect$Selection", name := "<init>", desc := "()V" } : Jvm.MethodName) prog_4_method_1_code (1 : Nat) (Option.none : Option Jvm.ClassFile.FieldType)) ∈ gw_tbl := gw_of1 58 rfl rfl
theorem gw_49 : (Jvm.Cond.methodLink "TouchSelect$Selection" (3 : Nat) ({ cls := "java/lang/Object", name := "<init>", desc := "()V" } : Jvm.MethodName)) ∈ gw_tbl := gw_of1 59 rfl rfl
theorem gw_50 : (Jvm.Cond.fieldLink "TouchSelect$Selection" (9 : Nat) "TouchSelect$Selection" "members" "[I") ∈ gw_tbl := gw_of1 60 rfl rfl
theorem gw_51 : (Jvm.Cond.fieldLink "TouchSelect" (127 : Nat) "TouchSelect$Selection" "members" "[I") ∈ gw_tbl := gw_of1 61 rfl rfl
theorem gw_52 : (Jvm.Cond.fieldLink "TouchSelect$Selection" (15 : Nat) "TouchSelect$Selection" "size" "I") ∈ gw_tbl := gw_of1 62 rfl rfl
theorem gw_53 : (Jvm.Cond.fieldLink "TouchSelect" (126 : Nat) "TouchSelect$Selection" "size" "I") ∈ gw_tbl := gw_of1 63 rfl rfl
theorem gw_54 : (Jvm.Cond.fieldLink "TouchSelect$Selection" (19 : Nat) "TouchSelect$Selection" "count" "I") ∈ gw_tbl := gw_of1 64 rfl rfl
theorem gw_55 : (Jvm.Cond.fieldLink "TouchSelect" (88 : Nat) "TouchSelect$Selection" "count" "I") ∈ gw_tbl := gw_of1 65 rfl rfl
theorem gw_56 : (Jvm.Cond.fieldLink "TouchSelect$Selection" (22 : Nat) "TouchSelect$Selection" "touchedThen" "[Z") ∈ gw_tbl := gw_of1 66 rfl rfl
theorem gw_57 : (Jvm.Cond.fieldLink "TouchSelect" (91 : Nat) "TouchSelect$Selection" "touchedThen" "[Z") ∈ gw_tbl := gw_of1 67 rfl rfl
theorem gw_58 : (Jvm.Cond.laysFinal "TouchSelect$Selection" "TouchSelect$Selection" "members" "[I") ∈ gw_tbl := gw_of1 68 rfl rfl
theorem gw_59 : (Jvm.Cond.lays "TouchSelect$Selection" "TouchSelect$Selection" "size" "I") ∈ gw_tbl := gw_of1 70 rfl rfl
theorem gw_60 : (Jvm.Cond.lays "TouchSelect$Selection" "TouchSelect$Selection" "count" "I") ∈ gw_tbl := gw_of1 72 rfl rfl
theorem gw_61 : (Jvm.Cond.laysFinal "TouchSelect$Selection" "TouchSelect$Selection" "touchedThen" "[Z") ∈ gw_tbl := gw_of1 74 rfl rfl
theorem gw_62 : (Jvm.Cond.classLink "TouchSelect" (33 : Nat) "TouchSelect$Ranking") ∈ gw_tbl := gw_of1 77 rfl rfl
theorem gw_63 : (Jvm.Cond.instantiable "TouchSelect$Ranking" (4 : Nat)) ∈ gw_tbl := gw_of1 78 rfl rfl
theorem gw_64 : (Jvm.Cond.instanceMethod ({ cls := "TouchSelect$Ranking", name := "<init>", desc := "()V" } : Jvm.MethodName)) ∈ gw_tbl := gw_of1 80 rfl rfl
theorem gw_65 : (Jvm.Cond.code ({ cls := "TouchSelect$Ranking", name := "<init>", desc := "()V" } : Jvm.MethodName) prog_3_method_1_code (1 : Nat) (Option.none : Option Jvm.ClassFile.FieldType)) ∈ gw_tbl := gw_of1 81 rfl rfl
theorem gw_66 : (Jvm.Cond.methodLink "TouchSelect$Ranking" (3 : Nat) ({ cls := "java/lang/Object", name := "<init>", desc := "()V" } : Jvm.MethodName)) ∈ gw_tbl := gw_of1 82 rfl rfl
theorem gw_67 : (Jvm.Cond.fieldLink "TouchSelect$Ranking" (9 : Nat) "TouchSelect$Ranking" "tests" "[I") ∈ gw_tbl := gw_of1 83 rfl rfl
theorem gw_68 : (Jvm.Cond.fieldLink "TouchSelect" (172 : Nat) "TouchSelect$Ranking" "tests" "[I") ∈ gw_tbl := gw_of1 84 rfl rfl
theorem gw_69 : (Jvm.Cond.fieldLink "TouchSelect$Ranking" (15 : Nat) "TouchSelect$Ranking" "shares" "[I") ∈ gw_tbl := gw_of1 85 rfl rfl
theorem gw_70 : (Jvm.Cond.fieldLink "TouchSelect$Ranking" (18 : Nat) "TouchSelect$Ranking" "times" "[I") ∈ gw_tbl := gw_of1 86 rfl rfl
theorem gw_71 : (Jvm.Cond.fieldLink "TouchSelect" (169 : Nat) "TouchSelect$Ranking" "times" "[I") ∈ gw_tbl := gw_of1 87 rfl rfl
theorem gw_72 : (Jvm.Cond.fieldLink "TouchSelect$Ranking" (21 : Nat) "TouchSelect$Ranking" "size" "I") ∈ gw_tbl := gw_of1 88 rfl rfl
theorem gw_73 : (Jvm.Cond.fieldLink "TouchSelect" (113 : Nat) "TouchSelect$Ranking" "size" "I") ∈ gw_tbl := gw_of1 89 rfl rfl
theorem gw_74 : (Jvm.Cond.laysFinal "TouchSelect$Ranking" "TouchSelect$Ranking" "tests" "[I") ∈ gw_tbl := gw_of1 90 rfl rfl
theorem gw_75 : (Jvm.Cond.laysFinal "TouchSelect$Ranking" "TouchSelect$Ranking" "shares" "[I") ∈ gw_tbl := gw_of1 92 rfl rfl
theorem gw_76 : (Jvm.Cond.laysFinal "TouchSelect$Ranking" "TouchSelect$Ranking" "times" "[I") ∈ gw_tbl := gw_of1 94 rfl rfl
theorem gw_77 : (Jvm.Cond.lays "TouchSelect$Ranking" "TouchSelect$Ranking" "size" "I") ∈ gw_tbl := gw_of1 96 rfl rfl
theorem gw_78 : (Jvm.Cond.classLink "TouchSelect" (40 : Nat) "TouchSelect$MissedRows") ∈ gw_tbl := gw_of1 99 rfl rfl
theorem gw_79 : (Jvm.Cond.instantiable "TouchSelect$MissedRows" (3 : Nat)) ∈ gw_tbl := gw_of1 100 rfl rfl
theorem gw_80 : (Jvm.Cond.instanceMethod ({ cls := "TouchSelect$MissedRows", name := "<init>", desc := "()V" } : Jvm.MethodName)) ∈ gw_tbl := gw_of1 102 rfl rfl
theorem gw_81 : (Jvm.Cond.code ({ cls := "TouchSelect$MissedRows", name := "<init>", desc := "()V" } : Jvm.MethodName) prog_2_method_1_code (1 : Nat) (Option.none : Option Jvm.ClassFile.FieldType)) ∈ gw_tbl := gw_of1 103 rfl rfl
theorem gw_82 : (Jvm.Cond.methodLink "TouchSelect$MissedRows" (3 : Nat) ({ cls := "java/lang/Object", name := "<init>", desc := "()V" } : Jvm.MethodName)) ∈ gw_tbl := gw_of1 104 rfl rfl
theorem gw_83 : (Jvm.Cond.fieldLink "TouchSelect$MissedRows" (9 : Nat) "TouchSelect$MissedRows" "tests" "[I") ∈ gw_tbl := gw_of1 105 rfl rfl
theorem gw_84 : (Jvm.Cond.fieldLink "TouchSelect" (155 : Nat) "TouchSelect$MissedRows" "tests" "[I") ∈ gw_tbl := gw_of1 106 rfl rfl
theorem gw_85 : (Jvm.Cond.fieldLink "TouchSelect$MissedRows" (15 : Nat) "TouchSelect$MissedRows" "selections" "[I") ∈ gw_tbl := gw_of1 107 rfl rfl
theorem gw_86 : (Jvm.Cond.fieldLink "TouchSelect" (157 : Nat) "TouchSelect$MissedRows" "selections" "[I") ∈ gw_tbl := gw_of1 108 rfl rfl
theorem gw_87 : (Jvm.Cond.fieldLink "TouchSelect$MissedRows" (18 : Nat) "TouchSelect$MissedRows" "size" "I") ∈ gw_tbl := gw_of1 109 rfl rfl
theorem gw_88 : (Jvm.Cond.fieldLink "TouchSelect" (154 : Nat) "TouchSelect$MissedRows" "size" "I") ∈ gw_tbl := gw_of1 110 rfl rfl
theorem gw_89 : (Jvm.Cond.laysFinal "TouchSelect$MissedRows" "TouchSelect$MissedRows" "tests" "[I") ∈ gw_tbl := gw_of1 111 rfl rfl
theorem gw_90 : (Jvm.Cond.laysFinal "TouchSelect$MissedRows" "TouchSelect$MissedRows" "selections" "[I") ∈ gw_tbl := gw_of1 113 rfl rfl
theorem gw_91 : (Jvm.Cond.lays "TouchSelect$MissedRows" "TouchSelect$MissedRows" "size" "I") ∈ gw_tbl := gw_of1 115 rfl rfl
theorem gw_92 : (Jvm.Cond.fieldLink "TouchSelect" (12 : Nat) "TouchSelect" "sources" "LTouchSelect$Sources;") ∈ gw_tbl := gw_of1 118 rfl rfl
theorem gw_93 : (Jvm.Cond.fieldLink "TouchSelect" (18 : Nat) "TouchSelect" "tests" "[LTouchSelect$TestRow;") ∈ gw_tbl := gw_of1 119 rfl rfl
theorem gw_94 : (Jvm.Cond.fieldLink "TouchSelect" (22 : Nat) "TouchSelect" "testCount" "I") ∈ gw_tbl := gw_of1 120 rfl rfl
theorem gw_95 : (Jvm.Cond.fieldLink "TouchSelect" (29 : Nat) "TouchSelect" "latest" "LTouchSelect$Selection;") ∈ gw_tbl := gw_of1 121 rfl rfl
theorem gw_96 : (Jvm.Cond.fieldLink "TouchSelect" (36 : Nat) "TouchSelect" "extras" "LTouchSelect$Ranking;") ∈ gw_tbl := gw_of1 122 rfl rfl
theorem gw_97 : (Jvm.Cond.fieldLink "TouchSelect" (43 : Nat) "TouchSelect" "missedRows" "LTouchSelect$MissedRows;") ∈ gw_tbl := gw_of1 123 rfl rfl
theorem gw_98 : (Jvm.Cond.laysFinal "TouchSelect" "TouchSelect" "sources" "LTouchSelect$Sources;") ∈ gw_tbl := gw_of1 124 rfl rfl
theorem gw_99 : (Jvm.Cond.laysFinal "TouchSelect" "TouchSelect" "tests" "[LTouchSelect$TestRow;") ∈ gw_tbl := gw_of1 126 rfl rfl
theorem gw_100 : (Jvm.Cond.lays "TouchSelect" "TouchSelect" "testCount" "I") ∈ gw_tbl := gw_of1 128 rfl rfl
theorem gw_101 : (Jvm.Cond.laysFinal "TouchSelect" "TouchSelect" "latest" "LTouchSelect$Selection;") ∈ gw_tbl := gw_of1 130 rfl rfl
theorem gw_102 : (Jvm.Cond.laysFinal "TouchSelect" "TouchSelect" "extras" "LTouchSelect$Ranking;") ∈ gw_tbl := gw_of1 132 rfl rfl
theorem gw_103 : (Jvm.Cond.laysFinal "TouchSelect" "TouchSelect" "missedRows" "LTouchSelect$MissedRows;") ∈ gw_tbl := gw_of1 134 rfl rfl
theorem gw_104 : (Jvm.Cond.methodLink "TouchSelectLaw" (15 : Nat) ({ cls := "TouchSelect", name := "file", desc := "(J)I" } : Jvm.MethodName)) ∈ gw_tbl := gw_of1 137 rfl rfl
theorem gw_105 : (Jvm.Cond.instanceMethod ({ cls := "TouchSelect", name := "file", desc := "(J)I" } : Jvm.MethodName)) ∈ gw_tbl := gw_of1 138 rfl rfl
theorem gw_106 : (Jvm.Cond.selects "TouchSelect" ({ cls := "TouchSelect", name := "file", desc := "(J)I" } : Jvm.MethodName) ({ cls := "TouchSelect", name := "file", desc := "(J)I" } : Jvm.MethodName)) ∈ gw_tbl := gw_of1 139 rfl rfl
theorem gw_107 : (Jvm.Cond.code ({ cls := "TouchSelect", name := "file", desc := "(J)I" } : Jvm.MethodName) prog_1_method_2_code (3 : Nat) (Option.some Jvm.ClassFile.FieldType.int)) ∈ gw_tbl := gw_of1 140 rfl rfl
theorem gw_108 : (Jvm.Cond.methodLink "TouchSelect" (47 : Nat) ({ cls := "TouchSelect$Sources", name := "addFile", desc := "(J)I" } : Jvm.MethodName)) ∈ gw_tbl := gw_of1 141 rfl rfl
theorem gw_109 : (Jvm.Cond.instanceMethod ({ cls := "TouchSelect$Sources", name := "addFile", desc := "(J)I" } : Jvm.MethodName)) ∈ gw_tbl := gw_of1 142 rfl rfl
theorem gw_110 : (Jvm.Cond.selects "TouchSelect$Sources" ({ cls := "TouchSelect$Sources", name := "addFile", desc := "(J)I" } : Jvm.MethodName) ({ cls := "TouchSelect$Sources", name := "addFile", desc := "(J)I" } : Jvm.MethodName)) ∈ gw_tbl := gw_of1 143 rfl rfl
theorem gw_111 : (Jvm.Cond.code ({ cls := "TouchSelect$Sources", name := "addFile", desc := "(J)I" } : Jvm.MethodName) prog_5_method_4_code (3 : Nat) (Option.some Jvm.ClassFile.FieldType.int)) ∈ gw_tbl := gw_of1 144 rfl rfl
theorem gw_112 : (Jvm.Cond.methodLink "TouchSelectLaw" (20 : Nat) ({ cls := "TouchSelect", name := "function", desc := "(IJ)I" } : Jvm.MethodName)) ∈ gw_tbl := gw_of1 145 rfl rfl
theorem gw_113 : (Jvm.Cond.instanceMethod ({ cls := "TouchSelect", name := "function", desc := "(IJ)I" } : Jvm.MethodName)) ∈ gw_tbl := gw_of1 146 rfl rfl
theorem gw_114 : (Jvm.Cond.selects "TouchSelect" ({ cls := "TouchSelect", name := "function", desc := "(IJ)I" } : Jvm.MethodName) ({ cls := "TouchSelect", name := "function", desc := "(IJ)I" } : Jvm.MethodName)) ∈ gw_tbl := gw_of1 147 rfl rfl
theorem gw_115 : (Jvm.Cond.code ({ cls := "TouchSelect", name := "function", desc := "(IJ)I" } : Jvm.MethodName) prog_1_method_3_code (4 : Nat) (Option.some Jvm.ClassFile.FieldType.int)) ∈ gw_tbl := gw_of1 148 rfl rfl
theorem gw_116 : (Jvm.Cond.methodLink "TouchSelect" (51 : Nat) ({ cls := "TouchSelect$Sources", name := "addFunction", desc := "(IJ)I" } : Jvm.MethodName)) ∈ gw_tbl := gw_of1 149 rfl rfl
theorem gw_117 : (Jvm.Cond.instanceMethod ({ cls := "TouchSelect$Sources", name := "addFunction", desc := "(IJ)I" } : Jvm.MethodName)) ∈ gw_tbl := gw_of1 150 rfl rfl
theorem gw_118 : (Jvm.Cond.selects "TouchSelect$Sources" ({ cls := "TouchSelect$Sources", name := "addFunction", desc := "(IJ)I" } : Jvm.MethodName) ({ cls := "TouchSelect$Sources", name := "addFunction", desc := "(IJ)I" } : Jvm.MethodName)) ∈ gw_tbl := gw_of1 151 rfl rfl
theorem gw_119 : (Jvm.Cond.code ({ cls := "TouchSelect$Sources", name := "addFunction", desc := "(IJ)I" } : Jvm.MethodName) prog_5_method_5_code (4 : Nat) (Option.some Jvm.ClassFile.FieldType.int)) ∈ gw_tbl := gw_of1 152 rfl rfl
theorem gw_120 : (Jvm.Cond.methodLink "TouchSelect$Sources" (33 : Nat) ({ cls := "TouchSelect$Sources", name := "hasFile", desc := "(I)Z" } : Jvm.MethodName)) ∈ gw_tbl := gw_of1 153 rfl rfl
theorem gw_121 : (Jvm.Cond.instanceMethod ({ cls := "TouchSelect$Sources", name := "hasFile", desc := "(I)Z" } : Jvm.MethodName)) ∈ gw_tbl := gw_of1 154 rfl rfl
theorem gw_122 : (Jvm.Cond.selects "TouchSelect$Sources" ({ cls := "TouchSelect$Sources", name := "hasFile", desc := "(I)Z" } : Jvm.MethodName) ({ cls := "TouchSelect$Sources", name := "hasFile", desc := "(I)Z" } : Jvm.MethodName)) ∈ gw_tbl := gw_of1 155 rfl rfl
theorem gw_123 : (Jvm.Cond.code ({ cls := "TouchSelect$Sources", name := "hasFile", desc := "(I)Z" } : Jvm.MethodName) prog_5_method_2_code (2 : Nat) (Option.some Jvm.ClassFile.FieldType.boolean)) ∈ gw_tbl := gw_of1 156 rfl rfl
theorem gw_124 : (Jvm.Cond.methodLink "TouchSelectLaw" (25 : Nat) ({ cls := "TouchSelect", name := "change", desc := "(IJ)Z" } : Jvm.MethodName)) ∈ gw_tbl := gw_of1 157 rfl rfl
theorem gw_125 : (Jvm.Cond.instanceMethod ({ cls := "TouchSelect", name := "change", desc := "(IJ)Z" } : Jvm.MethodName)) ∈ gw_tbl := gw_of1 158 rfl rfl
theorem gw_126 : (Jvm.Cond.selects "TouchSelect" ({ cls := "TouchSelect", name := "change", desc := "(IJ)Z" } : Jvm.MethodName) ({ cls := "TouchSelect", name := "change", desc := "(IJ)Z" } : Jvm.MethodName)) ∈ gw_tbl := gw_of1 159 rfl rfl
theorem gw_127 : (Jvm.Cond.code ({ cls := "TouchSelect", name := "change", desc := "(IJ)Z" } : Jvm.MethodName) prog_1_method_4_code (4 : Nat) (Option.some Jvm.ClassFile.FieldType.boolean)) ∈ gw_tbl := gw_of1 160 rfl rfl
theorem gw_128 : (Jvm.Cond.methodLink "TouchSelect" (55 : Nat) ({ cls := "TouchSelect$Sources", name := "putRest", desc := "(IJ)Z" } : Jvm.MethodName)) ∈ gw_tbl := gw_of1 161 rfl rfl
theorem gw_129 : (Jvm.Cond.instanceMethod ({ cls := "TouchSelect$Sources", name := "putRest", desc := "(IJ)Z" } : Jvm.MethodName)) ∈ gw_tbl := gw_of1 162 rfl rfl
theorem gw_130 : (Jvm.Cond.selects "TouchSelect$Sources" ({ cls := "TouchSelect$Sources", name := "putRest", desc := "(IJ)Z" } : Jvm.MethodName) ({ cls := "TouchSelect$Sources", name := "putRest", desc := "(IJ)Z" } : Jvm.MethodName)) ∈ gw_tbl := gw_of1 163 rfl rfl
theorem gw_131 : (Jvm.Cond.code ({ cls := "TouchSelect$Sources", name := "putRest", desc := "(IJ)Z" } : Jvm.MethodName) prog_5_method_6_code (4 : Nat) (Option.some Jvm.ClassFile.FieldType.boolean)) ∈ gw_tbl := gw_of1 164 rfl rfl
theorem gw_132 : (Jvm.Cond.methodLink "TouchSelectLaw" (30 : Nat) ({ cls := "TouchSelect", name := "changeFunction", desc := "(IJ)Z" } : Jvm.MethodName)) ∈ gw_tbl := gw_of1 165 rfl rfl
theorem gw_133 : (Jvm.Cond.instanceMethod ({ cls := "TouchSelect", name := "changeFunction", desc := "(IJ)Z" } : Jvm.MethodName)) ∈ gw_tbl := gw_of1 166 rfl rfl
theorem gw_134 : (Jvm.Cond.selects "TouchSelect" ({ cls := "TouchSelect", name := "changeFunction", desc := "(IJ)Z" } : Jvm.MethodName) ({ cls := "TouchSelect", name := "changeFunction", desc := "(IJ)Z" } : Jvm.MethodName)) ∈ gw_tbl := gw_of1 167 rfl rfl
theorem gw_135 : (Jvm.Cond.code ({ cls := "TouchSelect", name := "changeFunction", desc := "(IJ)Z" } : Jvm.MethodName) prog_1_method_5_code (4 : Nat) (Option.some Jvm.ClassFile.FieldType.boolean)) ∈ gw_tbl := gw_of1 168 rfl rfl
theorem gw_136 : (Jvm.Cond.methodLink "TouchSelect" (59 : Nat) ({ cls := "TouchSelect$Sources", name := "putFunction", desc := "(IJ)Z" } : Jvm.MethodName)) ∈ gw_tbl := gw_of1 169 rfl rfl
theorem gw_137 : (Jvm.Cond.instanceMethod ({ cls := "TouchSelect$Sources", name := "putFunction", desc := "(IJ)Z" } : Jvm.MethodName)) ∈ gw_tbl := gw_of1 170 rfl rfl
theorem gw_138 : (Jvm.Cond.selects "TouchSelect$Sources" ({ cls := "TouchSelect$Sources", name := "putFunction", desc := "(IJ)Z" } : Jvm.MethodName) ({ cls := "TouchSelect$Sources", name := "putFunction", desc := "(IJ)Z" } : Jvm.MethodName)) ∈ gw_tbl := gw_of1 171 rfl rfl
theorem gw_139 : (Jvm.Cond.code ({ cls := "TouchSelect$Sources", name := "putFunction", desc := "(IJ)Z" } : Jvm.MethodName) prog_5_method_7_code (4 : Nat) (Option.some Jvm.ClassFile.FieldType.boolean)) ∈ gw_tbl := gw_of1 172 rfl rfl
theorem gw_140 : (Jvm.Cond.methodLink "TouchSelect$Sources" (37 : Nat) ({ cls := "TouchSelect$Sources", name := "hasFunction", desc := "(I)Z" } : Jvm.MethodName)) ∈ gw_tbl := gw_of1 173 rfl rfl
theorem gw_141 : (Jvm.Cond.instanceMethod ({ cls := "TouchSelect$Sources", name := "hasFunction", desc := "(I)Z" } : Jvm.MethodName)) ∈ gw_tbl := gw_of1 174 rfl rfl
theorem gw_142 : (Jvm.Cond.selects "TouchSelect$Sources" ({ cls := "TouchSelect$Sources", name := "hasFunction", desc := "(I)Z" } : Jvm.MethodName) ({ cls := "TouchSelect$Sources", name := "hasFunction", desc := "(I)Z" } : Jvm.MethodName)) ∈ gw_tbl := gw_of1 175 rfl rfl
theorem gw_143 : (Jvm.Cond.code ({ cls := "TouchSelect$Sources", name := "hasFunction", desc := "(I)Z" } : Jvm.MethodName) prog_5_method_3_code (2 : Nat) (Option.some Jvm.ClassFile.FieldType.boolean)) ∈ gw_tbl := gw_of1 176 rfl rfl
theorem gw_144 : (Jvm.Cond.methodLink "TouchSelectLaw" (34 : Nat) ({ cls := "TouchSelect", name := "test", desc := "(II)I" } : Jvm.MethodName)) ∈ gw_tbl := gw_of1 177 rfl rfl
theorem gw_145 : (Jvm.Cond.instanceMethod ({ cls := "TouchSelect", name := "test", desc := "(II)I" } : Jvm.MethodName)) ∈ gw_tbl := gw_of1 178 rfl rfl
theorem gw_146 : (Jvm.Cond.selects "TouchSelect" ({ cls := "TouchSelect", name := "test", desc := "(II)I" } : Jvm.MethodName) ({ cls := "TouchSelect", name := "test", desc := "(II)I" } : Jvm.MethodName)) ∈ gw_tbl := gw_of1 179 rfl rfl
theorem gw_147 : (Jvm.Cond.code ({ cls := "TouchSelect", name := "test", desc := "(II)I" } : Jvm.MethodName) prog_1_method_6_code (3 : Nat) (Option.some Jvm.ClassFile.FieldType.int)) ∈ gw_tbl := gw_of1 180 rfl rfl
theorem gw_148 : (Jvm.Cond.instantiable "TouchSelect$TestRow" (11 : Nat)) ∈ gw_tbl := gw_of1 181 rfl rfl
theorem gw_149 : (Jvm.Cond.methodLink "TouchSelect" (62 : Nat) ({ cls := "TouchSelect$TestRow", name := "<init>", desc := "(II)V" } : Jvm.MethodName)) ∈ gw_tbl := gw_of1 182 rfl rfl
theorem gw_150 : (Jvm.Cond.instanceMethod ({ cls := "TouchSelect$TestRow", name := "<init>", desc := "(II)V" } : Jvm.MethodName)) ∈ gw_tbl := gw_of1 183 rfl rfl
theorem gw_151 : (Jvm.Cond.code ({ cls := "TouchSelect$TestRow", name := "<init>", desc := "(II)V" } : Jvm.MethodName) prog_6_method_1_code (3 : Nat) (Option.none : Option Jvm.ClassFile.FieldType)) ∈ gw_tbl := gw_of1 184 rfl rfl
theorem gw_152 : (Jvm.Cond.methodLink "TouchSelect$TestRow" (3 : Nat) ({ cls := "java/lang/Object", name := "<init>", desc := "()V" } : Jvm.MethodName)) ∈ gw_tbl := gw_of1 185 rfl rfl
theorem gw_153 : (Jvm.Cond.fieldLink "TouchSelect$TestRow" (43 : Nat) "TouchSelect$TestRow" "mode" "I") ∈ gw_tbl := gw_of1 186 rfl rfl
theorem gw_154 : (Jvm.Cond.fieldLink "TouchSelect$TestRow" (46 : Nat) "TouchSelect$TestRow" "time" "I") ∈ gw_tbl := gw_of1 187 rfl rfl
theorem gw_155 : (Jvm.Cond.fieldLink "TouchSelect" (162 : Nat) "TouchSelect$TestRow" "time" "I") ∈ gw_tbl := gw_of1 188 rfl rfl
theorem gw_156 : (Jvm.Cond.fieldLink "TouchSelect$TestRow" (9 : Nat) "TouchSelect$TestRow" "setting" "J") ∈ gw_tbl := gw_of1 189 rfl rfl
theorem gw_157 : (Jvm.Cond.fieldLink "TouchSelect" (69 : Nat) "TouchSelect$TestRow" "setting" "J") ∈ gw_tbl := gw_of1 190 rfl rfl
theorem gw_158 : (Jvm.Cond.fieldLink "TouchSelect$TestRow" (15 : Nat) "TouchSelect$TestRow" "readsNow" "J") ∈ gw_tbl := gw_of1 191 rfl rfl
theorem gw_159 : (Jvm.Cond.fieldLink "TouchSelect$TestRow" (18 : Nat) "TouchSelect$TestRow" "hasRun" "Z") ∈ gw_tbl := gw_of1 192 rfl rfl
theorem gw_160 : (Jvm.Cond.fieldLink "TouchSelect$TestRow" (22 : Nat) "TouchSelect$TestRow" "keptReads" "J") ∈ gw_tbl := gw_of1 193 rfl rfl
theorem gw_161 : (Jvm.Cond.fieldLink "TouchSelect" (133 : Nat) "TouchSelect$TestRow" "keptReads" "J") ∈ gw_tbl := gw_of1 194 rfl rfl
theorem gw_162 : (Jvm.Cond.fieldLink "TouchSelect$TestRow" (25 : Nat) "TouchSelect$TestRow" "keptSetting" "J") ∈ gw_tbl := gw_of1 195 rfl rfl
theorem gw_163 : (Jvm.Cond.fieldLink "TouchSelect$TestRow" (28 : Nat) "TouchSelect$TestRow" "keptRests" "[J") ∈ gw_tbl := gw_of1 196 rfl rfl
theorem gw_164 : (Jvm.Cond.fieldLink "TouchSelect$TestRow" (32 : Nat) "TouchSelect$TestRow" "keptFunctions" "[J") ∈ gw_tbl := gw_of1 197 rfl rfl
theorem gw_165 : (Jvm.Cond.fieldLink "TouchSelect$TestRow" (35 : Nat) "TouchSelect$TestRow" "keptFunctionCount" "I") ∈ gw_tbl := gw_of1 198 rfl rfl
theorem gw_166 : (Jvm.Cond.fieldLink "TouchSelect$TestRow" (39 : Nat) "TouchSelect$TestRow" "failures" "[I") ∈ gw_tbl := gw_of1 199 rfl rfl
theorem gw_167 : (Jvm.Cond.fieldLink "TouchSelect" (151 : Nat) "TouchSelect$TestRow" "failures" "[I") ∈ gw_tbl := gw_of1 200 rfl rfl
theorem gw_168 : (Jvm.Cond.laysFinal "TouchSelect$TestRow" "TouchSelect$TestRow" "mode" "I") ∈ gw_tbl := gw_of1 201 rfl rfl
theorem gw_169 : (Jvm.Cond.laysFinal "TouchSelect$TestRow" "TouchSelect$TestRow" "time" "I") ∈ gw_tbl := gw_of1 203 rfl rfl
theorem gw_170 : (Jvm.Cond.lays "TouchSelect$TestRow" "TouchSelect$TestRow" "setting" "J") ∈ gw_tbl := gw_of1 205 rfl rfl
theorem gw_171 : (Jvm.Cond.lays "TouchSelect$TestRow" "TouchSelect$TestRow" "readsNow" "J") ∈ gw_tbl := gw_of1 207 rfl rfl
theorem gw_172 : (Jvm.Cond.lays "TouchSelect$TestRow" "TouchSelect$TestRow" "hasRun" "Z") ∈ gw_tbl := gw_of1 209 rfl rfl
theorem gw_173 : (Jvm.Cond.lays "TouchSelect$TestRow" "TouchSelect$TestRow" "keptReads" "J") ∈ gw_tbl := gw_of1 211 rfl rfl
theorem gw_174 : (Jvm.Cond.lays "TouchSelect$TestRow" "TouchSelect$TestRow" "keptSetting" "J") ∈ gw_tbl := gw_of1 213 rfl rfl
theorem gw_175 : (Jvm.Cond.laysFinal "TouchSelect$TestRow" "TouchSelect$TestRow" "keptRests" "[J") ∈ gw_tbl := gw_of1 215 rfl rfl
theorem gw_176 : (Jvm.Cond.laysFinal "TouchSelect$TestRow" "TouchSelect$TestRow" "keptFunctions" "[J") ∈ gw_tbl := gw_of1 217 rfl rfl
theorem gw_177 : (Jvm.Cond.lays "TouchSelect$TestRow" "TouchSelect$TestRow" "keptFunctionCount" "I") ∈ gw_tbl := gw_of1 219 rfl rfl
theorem gw_178 : (Jvm.Cond.laysFinal "TouchSelect$TestRow" "TouchSelect$TestRow" "failures" "[I") ∈ gw_tbl := gw_of1 221 rfl rfl
theorem gw_179 : (Jvm.Cond.methodLink "TouchSelectLaw" (39 : Nat) ({ cls := "TouchSelect", name := "setting", desc := "(IJ)Z" } : Jvm.MethodName)) ∈ gw_tbl := gw_of1 224 rfl rfl
theorem gw_180 : (Jvm.Cond.instanceMethod ({ cls := "TouchSelect", name := "setting", desc := "(IJ)Z" } : Jvm.MethodName)) ∈ gw_tbl := gw_of1 225 rfl rfl
theorem gw_181 : (Jvm.Cond.selects "TouchSelect" ({ cls := "TouchSelect", name := "setting", desc := "(IJ)Z" } : Jvm.MethodName) ({ cls := "TouchSelect", name := "setting", desc := "(IJ)Z" } : Jvm.MethodName)) ∈ gw_tbl := gw_of1 226 rfl rfl
theorem gw_182 : (Jvm.Cond.code ({ cls := "TouchSelect", name := "setting", desc := "(IJ)Z" } : Jvm.MethodName) prog_1_method_7_code (5 : Nat) (Option.some Jvm.ClassFile.FieldType.boolean)) ∈ gw_tbl := gw_of1 227 rfl rfl
theorem gw_183 : (Jvm.Cond.methodLink "TouchSelect" (65 : Nat) ({ cls := "TouchSelect", name := "rowOf", desc := "(I)LTouchSelect$TestRow;" } : Jvm.MethodName)) ∈ gw_tbl := gw_of1 228 rfl rfl
theorem gw_184 : (Jvm.Cond.instanceMethod ({ cls := "TouchSelect", name := "rowOf", desc := "(I)LTouchSelect$TestRow;" } : Jvm.MethodName)) ∈ gw_tbl := gw_of1 230 rfl rfl
theorem gw_185 : (Jvm.Cond.code ({ cls := "TouchSelect", name := "rowOf", desc := "(I)LTouchSelect$TestRow;" } : Jvm.MethodName) prog_1_method_18_code (2 : Nat) (Option.some (Jvm.ClassFile.FieldType.object "TouchSelect$TestRow"))) ∈ gw_tbl := gw_of1 231 rfl rfl
theorem gw_186 : (Jvm.Cond.methodLink "TouchSelectLaw" (43 : Nat) ({ cls := "TouchSelect", name := "reads", desc := "(III)I" } : Jvm.MethodName)) ∈ gw_tbl := gw_of1 232 rfl rfl
theorem gw_187 : (Jvm.Cond.instanceMethod ({ cls := "TouchSelect", name := "reads", desc := "(III)I" } : Jvm.MethodName)) ∈ gw_tbl := gw_of1 233 rfl rfl
theorem gw_188 : (Jvm.Cond.selects "TouchSelect" ({ cls := "TouchSelect", name := "reads", desc := "(III)I" } : Jvm.MethodName) ({ cls := "TouchSelect", name := "reads", desc := "(III)I" } : Jvm.MethodName)) ∈ gw_tbl := gw_of1 234 rfl rfl
theorem gw_189 : (Jvm.Cond.code ({ cls := "TouchSelect", name := "reads", desc := "(III)I" } : Jvm.MethodName) prog_1_method_8_code (5 : Nat) (Option.some Jvm.ClassFile.FieldType.int)) ∈ gw_tbl := gw_of1 235 rfl rfl
theorem gw_190 : (Jvm.Cond.methodLink "TouchSelect" (73 : Nat) ({ cls := "TouchSelect$Sources", name := "hasFile", desc := "(I)Z" } : Jvm.MethodName)) ∈ gw_tbl := gw_of1 236 rfl rfl
theorem gw_191 : (Jvm.Cond.methodLink "TouchSelect" (77 : Nat) ({ cls := "TouchSelect$TestRow", name := "addRead", desc := "(I)I" } : Jvm.MethodName)) ∈ gw_tbl := gw_of1 237 rfl rfl
theorem gw_192 : (Jvm.Cond.instanceMethod ({ cls := "TouchSelect$TestRow", name := "addRead", desc := "(I)I" } : Jvm.MethodName)) ∈ gw_tbl := gw_of1 238 rfl rfl
theorem gw_193 : (Jvm.Cond.selects "TouchSelect$TestRow" ({ cls := "TouchSelect$TestRow", name := "addRead", desc := "(I)I" } : Jvm.MethodName) ({ cls := "TouchSelect$TestRow", name := "addRead", desc := "(I)I" } : Jvm.MethodName)) ∈ gw_tbl := gw_of1 239 rfl rfl
theorem gw_194 : (Jvm.Cond.code ({ cls := "TouchSelect$TestRow", name := "addRead", desc := "(I)I" } : Jvm.MethodName) prog_6_method_2_code (4 : Nat) (Option.some Jvm.ClassFile.FieldType.int)) ∈ gw_tbl := gw_of2 0 rfl rfl
theorem gw_195 : (Jvm.Cond.methodLink "TouchSelect$TestRow" (49 : Nat) ({ cls := "java/lang/Long", name := "bitCount", desc := "(J)I" } : Jvm.MethodName)) ∈ gw_tbl := gw_of2 1 rfl rfl
theorem gw_196 : (Jvm.Cond.static ({ cls := "java/lang/Long", name := "bitCount", desc := "(J)I" } : Jvm.MethodName)) ∈ gw_tbl := gw_of2 2 rfl rfl
theorem gw_197 : (Jvm.Cond.code ({ cls := "java/lang/Long", name := "bitCount", desc := "(J)I" } : Jvm.MethodName) prog_9_method_50_code (2 : Nat) (Option.some Jvm.ClassFile.FieldType.int)) ∈ gw_tbl := gw_of2 3 rfl rfl
theorem gw_198 : (Jvm.Cond.constantLong "java/lang/Long" (314 : Nat) (6148914691236517205 : Int64)) ∈ gw_tbl := gw_of2 4 rfl rfl
theorem gw_199 : (Jvm.Cond.constantLong "java/lang/Long" (316 : Nat) (3689348814741910323 : Int64)) ∈ gw_tbl := gw_of2 5 rfl rfl
theorem gw_200 : (Jvm.Cond.constantLong "java/lang/Long" (318 : Nat) (1085102592571150095 : Int64)) ∈ gw_tbl := gw_of2 6 rfl rfl
theorem gw_201 : (Jvm.Cond.methodLink "TouchSelect" (81 : Nat) ({ cls := "TouchSelect$Sources", name := "hasFunction", desc := "(I)Z" } : Jvm.MethodName)) ∈ gw_tbl := gw_of2 7 rfl rfl
theorem gw_202 : (Jvm.Cond.methodLink "TouchSelectLaw" (48 : Nat) ({ cls := "TouchSelect", name := "outcome", desc := "(IZ)I" } : Jvm.MethodName)) ∈ gw_tbl := gw_of2 8 rfl rfl
theorem gw_203 : (Jvm.Cond.instanceMethod ({ cls := "TouchSelect", name := "outcome", desc := "(IZ)I" } : Jvm.MethodName)) ∈ gw_tbl := gw_of2 9 rfl rfl
theorem gw_204 : (Jvm.Cond.selects "TouchSelect" ({ cls := "TouchSelect", name := "outcome", desc := "(IZ)I" } : Jvm.MethodName) ({ cls := "TouchSelect", name := "outcome", desc := "(IZ)I" } : Jvm.MethodName)) ∈ gw_tbl := gw_of2 10 rfl rfl
theorem gw_205 : (Jvm.Cond.code ({ cls := "TouchSelect", name := "outcome", desc := "(IZ)I" } : Jvm.MethodName) prog_1_method_9_code (4 : Nat) (Option.some Jvm.ClassFile.FieldType.int)) ∈ gw_tbl := gw_of2 11 rfl rfl
theorem gw_206 : (Jvm.Cond.methodLink "TouchSelect" (95 : Nat) ({ cls := "TouchSelect$TestRow", name := "failWith", desc := "([Z)V" } : Jvm.MethodName)) ∈ gw_tbl := gw_of2 12 rfl rfl
theorem gw_207 : (Jvm.Cond.instanceMethod ({ cls := "TouchSelect$TestRow", name := "failWith", desc := "([Z)V" } : Jvm.MethodName)) ∈ gw_tbl := gw_of2 13 rfl rfl
theorem gw_208 : (Jvm.Cond.selects "TouchSelect$TestRow" ({ cls := "TouchSelect$TestRow", name := "failWith", desc := "([Z)V" } : Jvm.MethodName) ({ cls := "TouchSelect$TestRow", name := "failWith", desc := "([Z)V" } : Jvm.MethodName)) ∈ gw_tbl := gw_of2 14 rfl rfl
theorem gw_209 : (Jvm.Cond.code ({ cls := "TouchSelect$TestRow", name := "failWith", desc := "([Z)V" } : Jvm.MethodName) prog_6_method_4_code (3 : Nat) (Option.none : Option Jvm.ClassFile.FieldType)) ∈ gw_tbl := gw_of2 15 rfl rfl
theorem gw_210 : (Jvm.Cond.methodLink "TouchSelect" (99 : Nat) ({ cls := "TouchSelect$Selection", name := "holds", desc := "(I)Z" } : Jvm.MethodName)) ∈ gw_tbl := gw_of2 16 rfl rfl
theorem gw_211 : (Jvm.Cond.instanceMethod ({ cls := "TouchSelect$Selection", name := "holds", desc := "(I)Z" } : Jvm.MethodName)) ∈ gw_tbl := gw_of2 17 rfl rfl
theorem gw_212 : (Jvm.Cond.selects "TouchSelect$Selection" ({ cls := "TouchSelect$Selection", name := "holds", desc := "(I)Z" } : Jvm.MethodName) ({ cls := "TouchSelect$Selection", name := "holds", desc := "(I)Z" } : Jvm.MethodName)) ∈ gw_tbl := gw_of2 18 rfl rfl
theorem gw_213 : (Jvm.Cond.code ({ cls := "TouchSelect$Selection", name := "holds", desc := "(I)Z" } : Jvm.MethodName) prog_4_method_4_code (3 : Nat) (Option.some Jvm.ClassFile.FieldType.boolean)) ∈ gw_tbl := gw_of2 19 rfl rfl
theorem gw_214 : (Jvm.Cond.methodLink "TouchSelect" (102 : Nat) ({ cls := "TouchSelect$MissedRows", name := "add", desc := "(II)V" } : Jvm.MethodName)) ∈ gw_tbl := gw_of2 20 rfl rfl
theorem gw_215 : (Jvm.Cond.instanceMethod ({ cls := "TouchSelect$MissedRows", name := "add", desc := "(II)V" } : Jvm.MethodName)) ∈ gw_tbl := gw_of2 21 rfl rfl
theorem gw_216 : (Jvm.Cond.selects "TouchSelect$MissedRows" ({ cls := "TouchSelect$MissedRows", name := "add", desc := "(II)V" } : Jvm.MethodName) ({ cls := "TouchSelect$MissedRows", name := "add", desc := "(II)V" } : Jvm.MethodName)) ∈ gw_tbl := gw_of2 22 rfl rfl
theorem gw_217 : (Jvm.Cond.code ({ cls := "TouchSelect$MissedRows", name := "add", desc := "(II)V" } : Jvm.MethodName) prog_2_method_2_code (3 : Nat) (Option.none : Option Jvm.ClassFile.FieldType)) ∈ gw_tbl := gw_of2 23 rfl rfl
theorem gw_218 : (Jvm.Cond.methodLink "TouchSelect" (105 : Nat) ({ cls := "TouchSelect$TestRow", name := "keep", desc := "(LTouchSelect$Sources;)I" } : Jvm.MethodName)) ∈ gw_tbl := gw_of2 24 rfl rfl
theorem gw_219 : (Jvm.Cond.instanceMethod ({ cls := "TouchSelect$TestRow", name := "keep", desc := "(LTouchSelect$Sources;)I" } : Jvm.MethodName)) ∈ gw_tbl := gw_of2 25 rfl rfl
theorem gw_220 : (Jvm.Cond.selects "TouchSelect$TestRow" ({ cls := "TouchSelect$TestRow", name := "keep", desc := "(LTouchSelect$Sources;)I" } : Jvm.MethodName) ({ cls := "TouchSelect$TestRow", name := "keep", desc := "(LTouchSelect$Sources;)I" } : Jvm.MethodName)) ∈ gw_tbl := gw_of2 26 rfl rfl
theorem gw_221 : (Jvm.Cond.code ({ cls := "TouchSelect$TestRow", name := "keep", desc := "(LTouchSelect$Sources;)I" } : Jvm.MethodName) prog_6_method_3_code (2 : Nat) (Option.some Jvm.ClassFile.FieldType.int)) ∈ gw_tbl := gw_of2 27 rfl rfl
theorem gw_222 : (Jvm.Cond.methodLink "TouchSelect$TestRow" (60 : Nat) ({ cls := "java/lang/System", name := "arraycopy", desc := "(Ljava/lang/Object;ILjava/lang/Object;II)V" } : Jvm.MethodName)) ∈ gw_tbl := gw_of2 28 rfl rfl
theorem gw_223 : (Jvm.Cond.static ({ cls := "java/lang/System", name := "arraycopy", desc := "(Ljava/lang/Object;ILjava/lang/Object;II)V" } : Jvm.MethodName)) ∈ gw_tbl := gw_of2 29 rfl rfl
theorem gw_224 : (Jvm.Cond.native ({ cls := "java/lang/System", name := "arraycopy", desc := "(Ljava/lang/Object;ILjava/lang/Object;II)V" } : Jvm.MethodName)) ∈ gw_tbl := gw_of2 30 rfl rfl
theorem gw_225 : (Jvm.Cond.methodLink "TouchSelectLaw" (53 : Nat) ({ cls := "TouchSelect", name := "select", desc := "(I)I" } : Jvm.MethodName)) ∈ gw_tbl := gw_of2 31 rfl rfl
theorem gw_226 : (Jvm.Cond.instanceMethod ({ cls := "TouchSelect", name := "select", desc := "(I)I" } : Jvm.MethodName)) ∈ gw_tbl := gw_of2 32 rfl rfl
theorem gw_227 : (Jvm.Cond.selects "TouchSelect" ({ cls := "TouchSelect", name := "select", desc := "(I)I" } : Jvm.MethodName) ({ cls := "TouchSelect", name := "select", desc := "(I)I" } : Jvm.MethodName)) ∈ gw_tbl := gw_of2 33 rfl rfl
theorem gw_228 : (Jvm.Cond.code ({ cls := "TouchSelect", name := "select", desc := "(I)I" } : Jvm.MethodName) prog_1_method_10_code (3 : Nat) (Option.some Jvm.ClassFile.FieldType.int)) ∈ gw_tbl := gw_of2 34 rfl rfl
theorem gw_229 : (Jvm.Cond.constant "TouchSelect" (109 : Nat) (100000 : Int32)) ∈ gw_tbl := gw_of2 35 rfl rfl
theorem gw_230 : (Jvm.Cond.methodLink "TouchSelect" (110 : Nat) ({ cls := "TouchSelect$Selection", name := "startNext", desc := "()V" } : Jvm.MethodName)) ∈ gw_tbl := gw_of2 36 rfl rfl
theorem gw_231 : (Jvm.Cond.instanceMethod ({ cls := "TouchSelect$Selection", name := "startNext", desc := "()V" } : Jvm.MethodName)) ∈ gw_tbl := gw_of2 37 rfl rfl
theorem gw_232 : (Jvm.Cond.selects "TouchSelect$Selection" ({ cls := "TouchSelect$Selection", name := "startNext", desc := "()V" } : Jvm.MethodName) ({ cls := "TouchSelect$Selection", name := "startNext", desc := "()V" } : Jvm.MethodName)) ∈ gw_tbl := gw_of2 38 rfl rfl
theorem gw_233 : (Jvm.Cond.code ({ cls := "TouchSelect$Selection", name := "startNext", desc := "()V" } : Jvm.MethodName) prog_4_method_2_code (1 : Nat) (Option.none : Option Jvm.ClassFile.FieldType)) ∈ gw_tbl := gw_of2 39 rfl rfl
theorem gw_234 : (Jvm.Cond.methodLink "TouchSelect" (116 : Nat) ({ cls := "TouchSelect", name := "placeInSelection", desc := "(I)V" } : Jvm.MethodName)) ∈ gw_tbl := gw_of2 40 rfl rfl
theorem gw_235 : (Jvm.Cond.instanceMethod ({ cls := "TouchSelect", name := "placeInSelection", desc := "(I)V" } : Jvm.MethodName)) ∈ gw_tbl := gw_of2 42 rfl rfl
theorem gw_236 : (Jvm.Cond.code ({ cls := "TouchSelect", name := "placeInSelection", desc := "(I)V" } : Jvm.MethodName) prog_1_method_19_code (4 : Nat) (Option.none : Option Jvm.ClassFile.FieldType)) ∈ gw_tbl := gw_of2 43 rfl rfl
theorem gw_237 : (Jvm.Cond.methodLink "TouchSelect" (130 : Nat) ({ cls := "TouchSelect$TestRow", name := "reasonNow", desc := "(LTouchSelect$Sources;)I" } : Jvm.MethodName)) ∈ gw_tbl := gw_of2 44 rfl rfl
theorem gw_238 : (Jvm.Cond.instanceMethod ({ cls := "TouchSelect$TestRow", name := "reasonNow", desc := "(LTouchSelect$Sources;)I" } : Jvm.MethodName)) ∈ gw_tbl := gw_of2 45 rfl rfl
theorem gw_239 : (Jvm.Cond.selects "TouchSelect$TestRow" ({ cls := "TouchSelect$TestRow", name := "reasonNow", desc := "(LTouchSelect$Sources;)I" } : Jvm.MethodName) ({ cls := "TouchSelect$TestRow", name := "reasonNow", desc := "(LTouchSelect$Sources;)I" } : Jvm.MethodName)) ∈ gw_tbl := gw_of2 46 rfl rfl
theorem gw_240 : (Jvm.Cond.code ({ cls := "TouchSelect$TestRow", name := "reasonNow", desc := "(LTouchSelect$Sources;)I" } : Jvm.MethodName) prog_6_method_6_code (2 : Nat) (Option.some Jvm.ClassFile.FieldType.int)) ∈ gw_tbl := gw_of2 47 rfl rfl
theorem gw_241 : (Jvm.Cond.methodLink "TouchSelect$TestRow" (72 : Nat) ({ cls := "TouchSelect$TestRow", name := "firstReasonOfReads", desc := "(LTouchSelect$Sources;)I" } : Jvm.MethodName)) ∈ gw_tbl := gw_of2 48 rfl rfl
theorem gw_242 : (Jvm.Cond.instanceMethod ({ cls := "TouchSelect$TestRow", name := "firstReasonOfReads", desc := "(LTouchSelect$Sources;)I" } : Jvm.MethodName)) ∈ gw_tbl := gw_of2 50 rfl rfl
theorem gw_243 : (Jvm.Cond.code ({ cls := "TouchSelect$TestRow", name := "firstReasonOfReads", desc := "(LTouchSelect$Sources;)I" } : Jvm.MethodName) prog_6_method_7_code (5 : Nat) (Option.some Jvm.ClassFile.FieldType.int)) ∈ gw_tbl := gw_of2 51 rfl rfl
theorem gw_244 : (Jvm.Cond.methodLink "TouchSelect$TestRow" (76 : Nat) ({ cls := "TouchSelect$TestRow", name := "hasKept", desc := "(I)Z" } : Jvm.MethodName)) ∈ gw_tbl := gw_of2 52 rfl rfl
theorem gw_245 : (Jvm.Cond.instanceMethod ({ cls := "TouchSelect$TestRow", name := "hasKept", desc := "(I)Z" } : Jvm.MethodName)) ∈ gw_tbl := gw_of2 54 rfl rfl
theorem gw_246 : (Jvm.Cond.code ({ cls := "TouchSelect$TestRow", name := "hasKept", desc := "(I)Z" } : Jvm.MethodName) prog_6_method_9_code (2 : Nat) (Option.some Jvm.ClassFile.FieldType.boolean)) ∈ gw_tbl := gw_of2 55 rfl rfl
theorem gw_247 : (Jvm.Cond.methodLink "TouchSelect$TestRow" (80 : Nat) ({ cls := "TouchSelect$TestRow", name := "reasonOfRead", desc := "(ILTouchSelect$Sources;)I" } : Jvm.MethodName)) ∈ gw_tbl := gw_of2 56 rfl rfl
theorem gw_248 : (Jvm.Cond.instanceMethod ({ cls := "TouchSelect$TestRow", name := "reasonOfRead", desc := "(ILTouchSelect$Sources;)I" } : Jvm.MethodName)) ∈ gw_tbl := gw_of2 58 rfl rfl
theorem gw_249 : (Jvm.Cond.code ({ cls := "TouchSelect$TestRow", name := "reasonOfRead", desc := "(ILTouchSelect$Sources;)I" } : Jvm.MethodName) prog_6_method_10_code (5 : Nat) (Option.some Jvm.ClassFile.FieldType.int)) ∈ gw_tbl := gw_of2 59 rfl rfl
theorem gw_250 : (Jvm.Cond.methodLink "TouchSelect$TestRow" (84 : Nat) ({ cls := "TouchSelect$TestRow", name := "isAsItWas", desc := "(ILTouchSelect$Sources;)Z" } : Jvm.MethodName)) ∈ gw_tbl := gw_of2 60 rfl rfl
theorem gw_251 : (Jvm.Cond.instanceMethod ({ cls := "TouchSelect$TestRow", name := "isAsItWas", desc := "(ILTouchSelect$Sources;)Z" } : Jvm.MethodName)) ∈ gw_tbl := gw_of2 62 rfl rfl
theorem gw_252 : (Jvm.Cond.code ({ cls := "TouchSelect$TestRow", name := "isAsItWas", desc := "(ILTouchSelect$Sources;)Z" } : Jvm.MethodName) prog_6_method_11_code (5 : Nat) (Option.some Jvm.ClassFile.FieldType.boolean)) ∈ gw_tbl := gw_of2 63 rfl rfl
theorem gw_253 : (Jvm.Cond.methodLink "TouchSelect" (160 : Nat) ({ cls := "TouchSelect$Selection", name := "add", desc := "(I)V" } : Jvm.MethodName)) ∈ gw_tbl := gw_of2 64 rfl rfl
theorem gw_254 : (Jvm.Cond.instanceMethod ({ cls := "TouchSelect$Selection", name := "add", desc := "(I)V" } : Jvm.MethodName)) ∈ gw_tbl := gw_of2 65 rfl rfl
theorem gw_255 : (Jvm.Cond.selects "TouchSelect$Selection" ({ cls := "TouchSelect$Selection", name := "add", desc := "(I)V" } : Jvm.MethodName) ({ cls := "TouchSelect$Selection", name := "add", desc := "(I)V" } : Jvm.MethodName)) ∈ gw_tbl := gw_of2 66 rfl rfl
theorem gw_256 : (Jvm.Cond.code ({ cls := "TouchSelect$Selection", name := "add", desc := "(I)V" } : Jvm.MethodName) prog_4_method_3_code (2 : Nat) (Option.none : Option Jvm.ClassFile.FieldType)) ∈ gw_tbl := gw_of2 67 rfl rfl
theorem gw_257 : (Jvm.Cond.methodLink "TouchSelect" (147 : Nat) ({ cls := "TouchSelect$TestRow", name := "sumFailures", desc := "([Z)I" } : Jvm.MethodName)) ∈ gw_tbl := gw_of2 68 rfl rfl
theorem gw_258 : (Jvm.Cond.instanceMethod ({ cls := "TouchSelect$TestRow", name := "sumFailures", desc := "([Z)I" } : Jvm.MethodName)) ∈ gw_tbl := gw_of2 69 rfl rfl
theorem gw_259 : (Jvm.Cond.selects "TouchSelect$TestRow" ({ cls := "TouchSelect$TestRow", name := "sumFailures", desc := "([Z)I" } : Jvm.MethodName) ({ cls := "TouchSelect$TestRow", name := "sumFailures", desc := "([Z)I" } : Jvm.MethodName)) ∈ gw_tbl := gw_of2 70 rfl rfl
theorem gw_260 : (Jvm.Cond.code ({ cls := "TouchSelect$TestRow", name := "sumFailures", desc := "([Z)I" } : Jvm.MethodName) prog_6_method_5_code (4 : Nat) (Option.some Jvm.ClassFile.FieldType.int)) ∈ gw_tbl := gw_of2 71 rfl rfl
theorem gw_261 : (Jvm.Cond.methodLink "TouchSelect" (165 : Nat) ({ cls := "TouchSelect$Ranking", name := "insert", desc := "(III)V" } : Jvm.MethodName)) ∈ gw_tbl := gw_of2 72 rfl rfl
theorem gw_262 : (Jvm.Cond.instanceMethod ({ cls := "TouchSelect$Ranking", name := "insert", desc := "(III)V" } : Jvm.MethodName)) ∈ gw_tbl := gw_of2 73 rfl rfl
theorem gw_263 : (Jvm.Cond.selects "TouchSelect$Ranking" ({ cls := "TouchSelect$Ranking", name := "insert", desc := "(III)V" } : Jvm.MethodName) ({ cls := "TouchSelect$Ranking", name := "insert", desc := "(III)V" } : Jvm.MethodName)) ∈ gw_tbl := gw_of2 74 rfl rfl
theorem gw_264 : (Jvm.Cond.code ({ cls := "TouchSelect$Ranking", name := "insert", desc := "(III)V" } : Jvm.MethodName) prog_3_method_2_code (5 : Nat) (Option.none : Option Jvm.ClassFile.FieldType)) ∈ gw_tbl := gw_of2 75 rfl rfl
theorem gw_265 : (Jvm.Cond.methodLink "TouchSelect$Ranking" (25 : Nat) ({ cls := "TouchSelect$Ranking", name := "isGreater", desc := "(III)Z" } : Jvm.MethodName)) ∈ gw_tbl := gw_of2 76 rfl rfl
theorem gw_266 : (Jvm.Cond.instanceMethod ({ cls := "TouchSelect$Ranking", name := "isGreater", desc := "(III)Z" } : Jvm.MethodName)) ∈ gw_tbl := gw_of2 78 rfl rfl
theorem gw_267 : (Jvm.Cond.code ({ cls := "TouchSelect$Ranking", name := "isGreater", desc := "(III)Z" } : Jvm.MethodName) prog_3_method_3_code (4 : Nat) (Option.some Jvm.ClassFile.FieldType.boolean)) ∈ gw_tbl := gw_of2 79 rfl rfl
theorem gw_268 : (Jvm.Cond.methodLink "TouchSelect" (120 : Nat) ({ cls := "TouchSelect", name := "takeExtras", desc := "(I)V" } : Jvm.MethodName)) ∈ gw_tbl := gw_of2 80 rfl rfl
theorem gw_269 : (Jvm.Cond.instanceMethod ({ cls := "TouchSelect", name := "takeExtras", desc := "(I)V" } : Jvm.MethodName)) ∈ gw_tbl := gw_of2 82 rfl rfl
theorem gw_270 : (Jvm.Cond.code ({ cls := "TouchSelect", name := "takeExtras", desc := "(I)V" } : Jvm.MethodName) prog_1_method_20_code (4 : Nat) (Option.none : Option Jvm.ClassFile.FieldType)) ∈ gw_tbl := gw_of2 83 rfl rfl
theorem gw_271 : (Jvm.Cond.methodLink "TouchSelect" (123 : Nat) ({ cls := "TouchSelect$Sources", name := "handOverTouched", desc := "([Z)V" } : Jvm.MethodName)) ∈ gw_tbl := gw_of2 84 rfl rfl
theorem gw_272 : (Jvm.Cond.instanceMethod ({ cls := "TouchSelect$Sources", name := "handOverTouched", desc := "([Z)V" } : Jvm.MethodName)) ∈ gw_tbl := gw_of2 85 rfl rfl
theorem gw_273 : (Jvm.Cond.selects "TouchSelect$Sources" ({ cls := "TouchSelect$Sources", name := "handOverTouched", desc := "([Z)V" } : Jvm.MethodName) ({ cls := "TouchSelect$Sources", name := "handOverTouched", desc := "([Z)V" } : Jvm.MethodName)) ∈ gw_tbl := gw_of2 86 rfl rfl
theorem gw_274 : (Jvm.Cond.code ({ cls := "TouchSelect$Sources", name := "handOverTouched", desc := "([Z)V" } : Jvm.MethodName) prog_5_method_8_code (3 : Nat) (Option.none : Option Jvm.ClassFile.FieldType)) ∈ gw_tbl := gw_of2 87 rfl rfl
theorem gw_275 : (Jvm.Cond.methodLink "TouchSelectLaw" (58 : Nat) ({ cls := "TouchSelect", name := "at", desc := "(I)I" } : Jvm.MethodName)) ∈ gw_tbl := gw_of2 88 rfl rfl
theorem gw_276 : (Jvm.Cond.instanceMethod ({ cls := "TouchSelect", name := "at", desc := "(I)I" } : Jvm.MethodName)) ∈ gw_tbl := gw_of2 89 rfl rfl
theorem gw_277 : (Jvm.Cond.selects "TouchSelect" ({ cls := "TouchSelect", name := "at", desc := "(I)I" } : Jvm.MethodName) ({ cls := "TouchSelect", name := "at", desc := "(I)I" } : Jvm.MethodName)) ∈ gw_tbl := gw_of2 90 rfl rfl
theorem gw_278 : (Jvm.Cond.code ({ cls := "TouchSelect", name := "at", desc := "(I)I" } : Jvm.MethodName) prog_1_method_11_code (2 : Nat) (Option.some Jvm.ClassFile.FieldType.int)) ∈ gw_tbl := gw_of2 91 rfl rfl
theorem gw_279 : (Jvm.Cond.methodLink "TouchSelectLaw" (62 : Nat) ({ cls := "TouchSelect", name := "why", desc := "(I)I" } : Jvm.MethodName)) ∈ gw_tbl := gw_of2 92 rfl rfl
theorem gw_280 : (Jvm.Cond.instanceMethod ({ cls := "TouchSelect", name := "why", desc := "(I)I" } : Jvm.MethodName)) ∈ gw_tbl := gw_of2 93 rfl rfl
theorem gw_281 : (Jvm.Cond.selects "TouchSelect" ({ cls := "TouchSelect", name := "why", desc := "(I)I" } : Jvm.MethodName) ({ cls := "TouchSelect", name := "why", desc := "(I)I" } : Jvm.MethodName)) ∈ gw_tbl := gw_of2 94 rfl rfl
theorem gw_282 : (Jvm.Cond.code ({ cls := "TouchSelect", name := "why", desc := "(I)I" } : Jvm.MethodName) prog_1_method_12_code (3 : Nat) (Option.some Jvm.ClassFile.FieldType.int)) ∈ gw_tbl := gw_of2 95 rfl rfl
theorem gw_283 : (Jvm.Cond.methodLink "TouchSelectLaw" (66 : Nat) ({ cls := "TouchSelect", name := "kept", desc := "(II)I" } : Jvm.MethodName)) ∈ gw_tbl := gw_of2 96 rfl rfl
theorem gw_284 : (Jvm.Cond.instanceMethod ({ cls := "TouchSelect", name := "kept", desc := "(II)I" } : Jvm.MethodName)) ∈ gw_tbl := gw_of2 97 rfl rfl
theorem gw_285 : (Jvm.Cond.selects "TouchSelect" ({ cls := "TouchSelect", name := "kept", desc := "(II)I" } : Jvm.MethodName) ({ cls := "TouchSelect", name := "kept", desc := "(II)I" } : Jvm.MethodName)) ∈ gw_tbl := gw_of2 98 rfl rfl
theorem gw_286 : (Jvm.Cond.code ({ cls := "TouchSelect", name := "kept", desc := "(II)I" } : Jvm.MethodName) prog_1_method_13_code (4 : Nat) (Option.some Jvm.ClassFile.FieldType.int)) ∈ gw_tbl := gw_of2 99 rfl rfl
theorem gw_287 : (Jvm.Cond.methodLink "TouchSelect" (136 : Nat) ({ cls := "java/lang/Long", name := "bitCount", desc := "(J)I" } : Jvm.MethodName)) ∈ gw_tbl := gw_of2 100 rfl rfl
theorem gw_288 : (Jvm.Cond.methodLink "TouchSelect" (141 : Nat) ({ cls := "TouchSelect$TestRow", name := "countHarmless", desc := "(LTouchSelect$Sources;)I" } : Jvm.MethodName)) ∈ gw_tbl := gw_of2 101 rfl rfl
theorem gw_289 : (Jvm.Cond.instanceMethod ({ cls := "TouchSelect$TestRow", name := "countHarmless", desc := "(LTouchSelect$Sources;)I" } : Jvm.MethodName)) ∈ gw_tbl := gw_of2 102 rfl rfl
theorem gw_290 : (Jvm.Cond.selects "TouchSelect$TestRow" ({ cls := "TouchSelect$TestRow", name := "countHarmless", desc := "(LTouchSelect$Sources;)I" } : Jvm.MethodName) ({ cls := "TouchSelect$TestRow", name := "countHarmless", desc := "(LTouchSelect$Sources;)I" } : Jvm.MethodName)) ∈ gw_tbl := gw_of2 103 rfl rfl
theorem gw_291 : (Jvm.Cond.code ({ cls := "TouchSelect$TestRow", name := "countHarmless", desc := "(LTouchSelect$Sources;)I" } : Jvm.MethodName) prog_6_method_8_code (4 : Nat) (Option.some Jvm.ClassFile.FieldType.int)) ∈ gw_tbl := gw_of2 104 rfl rfl
theorem gw_292 : (Jvm.Cond.methodLink "TouchSelectLaw" (70 : Nat) ({ cls := "TouchSelect", name := "share", desc := "(I)I" } : Jvm.MethodName)) ∈ gw_tbl := gw_of2 105 rfl rfl
theorem gw_293 : (Jvm.Cond.instanceMethod ({ cls := "TouchSelect", name := "share", desc := "(I)I" } : Jvm.MethodName)) ∈ gw_tbl := gw_of2 106 rfl rfl
theorem gw_294 : (Jvm.Cond.selects "TouchSelect" ({ cls := "TouchSelect", name := "share", desc := "(I)I" } : Jvm.MethodName) ({ cls := "TouchSelect", name := "share", desc := "(I)I" } : Jvm.MethodName)) ∈ gw_tbl := gw_of2 107 rfl rfl
theorem gw_295 : (Jvm.Cond.code ({ cls := "TouchSelect", name := "share", desc := "(I)I" } : Jvm.MethodName) prog_1_method_14_code (3 : Nat) (Option.some Jvm.ClassFile.FieldType.int)) ∈ gw_tbl := gw_of2 108 rfl rfl
theorem gw_296 : (Jvm.Cond.methodLink "TouchSelectLaw" (74 : Nat) ({ cls := "TouchSelect", name := "together", desc := "(II)I" } : Jvm.MethodName)) ∈ gw_tbl := gw_of2 109 rfl rfl
theorem gw_297 : (Jvm.Cond.instanceMethod ({ cls := "TouchSelect", name := "together", desc := "(II)I" } : Jvm.MethodName)) ∈ gw_tbl := gw_of2 110 rfl rfl
theorem gw_298 : (Jvm.Cond.selects "TouchSelect" ({ cls := "TouchSelect", name := "together", desc := "(II)I" } : Jvm.MethodName) ({ cls := "TouchSelect", name := "together", desc := "(II)I" } : Jvm.MethodName)) ∈ gw_tbl := gw_of2 111 rfl rfl
theorem gw_299 : (Jvm.Cond.code ({ cls := "TouchSelect", name := "together", desc := "(II)I" } : Jvm.MethodName) prog_1_method_15_code (4 : Nat) (Option.some Jvm.ClassFile.FieldType.int)) ∈ gw_tbl := gw_of2 112 rfl rfl
theorem gw_300 : (Jvm.Cond.methodLink "TouchSelectLaw" (78 : Nat) ({ cls := "TouchSelect", name := "touched", desc := "(I)Z" } : Jvm.MethodName)) ∈ gw_tbl := gw_of2 113 rfl rfl
theorem gw_301 : (Jvm.Cond.instanceMethod ({ cls := "TouchSelect", name := "touched", desc := "(I)Z" } : Jvm.MethodName)) ∈ gw_tbl := gw_of2 114 rfl rfl
theorem gw_302 : (Jvm.Cond.selects "TouchSelect" ({ cls := "TouchSelect", name := "touched", desc := "(I)Z" } : Jvm.MethodName) ({ cls := "TouchSelect", name := "touched", desc := "(I)Z" } : Jvm.MethodName)) ∈ gw_tbl := gw_of2 115 rfl rfl
theorem gw_303 : (Jvm.Cond.code ({ cls := "TouchSelect", name := "touched", desc := "(I)Z" } : Jvm.MethodName) prog_1_method_16_code (2 : Nat) (Option.some Jvm.ClassFile.FieldType.boolean)) ∈ gw_tbl := gw_of2 116 rfl rfl
theorem gw_304 : (Jvm.Cond.methodLink "TouchSelectLaw" (83 : Nat) ({ cls := "TouchSelect", name := "missed", desc := "(II)I" } : Jvm.MethodName)) ∈ gw_tbl := gw_of2 117 rfl rfl
theorem gw_305 : (Jvm.Cond.instanceMethod ({ cls := "TouchSelect", name := "missed", desc := "(II)I" } : Jvm.MethodName)) ∈ gw_tbl := gw_of2 118 rfl rfl
theorem gw_306 : (Jvm.Cond.selects "TouchSelect" ({ cls := "TouchSelect", name := "missed", desc := "(II)I" } : Jvm.MethodName) ({ cls := "TouchSelect", name := "missed", desc := "(II)I" } : Jvm.MethodName)) ∈ gw_tbl := gw_of2 119 rfl rfl
theorem gw_307 : (Jvm.Cond.code ({ cls := "TouchSelect", name := "missed", desc := "(II)I" } : Jvm.MethodName) prog_1_method_17_code (3 : Nat) (Option.some Jvm.ClassFile.FieldType.int)) ∈ gw_tbl := gw_of2 120 rfl rfl
theorem gw_308 : (Jvm.Cond.classLink "TouchSelectLaw" (10 : Nat) "TouchSelectModel") ∈ gw_tbl := gw_of2 121 rfl rfl
theorem gw_309 : (Jvm.Cond.instantiable "TouchSelectModel" (32 : Nat)) ∈ gw_tbl := gw_of2 122 rfl rfl
theorem gw_310 : (Jvm.Cond.methodLink "TouchSelectLaw" (12 : Nat) ({ cls := "TouchSelectModel", name := "<init>", desc := "()V" } : Jvm.MethodName)) ∈ gw_tbl := gw_of2 123 rfl rfl
theorem gw_311 : (Jvm.Cond.instanceMethod ({ cls := "TouchSelectModel", name := "<init>", desc := "()V" } : Jvm.MethodName)) ∈ gw_tbl := gw_of2 124 rfl rfl
theorem gw_312 : (Jvm.Cond.code ({ cls := "TouchSelectModel", name := "<init>", desc := "()V" } : Jvm.MethodName) prog_8_method_1_code (1 : Nat) (Option.none : Option Jvm.ClassFile.FieldType)) ∈ gw_tbl := gw_of2 125 rfl rfl
theorem gw_313 : (Jvm.Cond.methodLink "TouchSelectModel" (1 : Nat) ({ cls := "java/lang/Object", name := "<init>", desc := "()V" } : Jvm.MethodName)) ∈ gw_tbl := gw_of2 126 rfl rfl
theorem gw_314 : (Jvm.Cond.fieldLink "TouchSelectModel" (87 : Nat) "TouchSelectModel" "thrown" "I") ∈ gw_tbl := gw_of2 127 rfl rfl
theorem gw_315 : (Jvm.Cond.fieldLink "TouchSelectModel" (91 : Nat) "TouchSelectModel" "files" "I") ∈ gw_tbl := gw_of2 128 rfl rfl
theorem gw_316 : (Jvm.Cond.fieldLink "TouchSelectModel" (94 : Nat) "TouchSelectModel" "functions" "I") ∈ gw_tbl := gw_of2 129 rfl rfl
theorem gw_317 : (Jvm.Cond.fieldLink "TouchSelectModel" (7 : Nat) "TouchSelectModel" "rest" "[J") ∈ gw_tbl := gw_of2 130 rfl rfl
theorem gw_318 : (Jvm.Cond.fieldLink "TouchSelectModel" (13 : Nat) "TouchSelectModel" "home" "[I") ∈ gw_tbl := gw_of2 131 rfl rfl
theorem gw_319 : (Jvm.Cond.fieldLink "TouchSelectModel" (17 : Nat) "TouchSelectModel" "body" "[J") ∈ gw_tbl := gw_of2 132 rfl rfl
theorem gw_320 : (Jvm.Cond.fieldLink "TouchSelectModel" (20 : Nat) "TouchSelectModel" "isTouched" "[Z") ∈ gw_tbl := gw_of2 133 rfl rfl
theorem gw_321 : (Jvm.Cond.fieldLink "TouchSelectModel" (97 : Nat) "TouchSelectModel" "tests" "I") ∈ gw_tbl := gw_of2 134 rfl rfl
theorem gw_322 : (Jvm.Cond.fieldLink "TouchSelectModel" (24 : Nat) "TouchSelectModel" "mode" "[I") ∈ gw_tbl := gw_of2 135 rfl rfl
theorem gw_323 : (Jvm.Cond.fieldLink "TouchSelectModel" (27 : Nat) "TouchSelectModel" "time" "[I") ∈ gw_tbl := gw_of2 136 rfl rfl
theorem gw_324 : (Jvm.Cond.fieldLink "TouchSelectModel" (30 : Nat) "TouchSelectModel" "set" "[J") ∈ gw_tbl := gw_of2 137 rfl rfl
theorem gw_325 : (Jvm.Cond.fieldLink "TouchSelectModel" (33 : Nat) "TouchSelectModel" "newMany" "[I") ∈ gw_tbl := gw_of2 138 rfl rfl
theorem gw_326 : (Jvm.Cond.fieldLink "TouchSelectModel" (36 : Nat) "TouchSelectModel" "newFile" "[I") ∈ gw_tbl := gw_of2 139 rfl rfl
theorem gw_327 : (Jvm.Cond.fieldLink "TouchSelectModel" (39 : Nat) "TouchSelectModel" "newFunction" "[I") ∈ gw_tbl := gw_of2 140 rfl rfl
theorem gw_328 : (Jvm.Cond.fieldLink "TouchSelectModel" (42 : Nat) "TouchSelectModel" "ran" "[Z") ∈ gw_tbl := gw_of2 141 rfl rfl
theorem gw_329 : (Jvm.Cond.fieldLink "TouchSelectModel" (45 : Nat) "TouchSelectModel" "oldMany" "[I") ∈ gw_tbl := gw_of2 142 rfl rfl
theorem gw_330 : (Jvm.Cond.fieldLink "TouchSelectModel" (48 : Nat) "TouchSelectModel" "oldFile" "[I") ∈ gw_tbl := gw_of2 143 rfl rfl
theorem gw_331 : (Jvm.Cond.fieldLink "TouchSelectModel" (51 : Nat) "TouchSelectModel" "oldFunction" "[I") ∈ gw_tbl := gw_of2 144 rfl rfl
theorem gw_332 : (Jvm.Cond.fieldLink "TouchSelectModel" (54 : Nat) "TouchSelectModel" "oldSet" "[J") ∈ gw_tbl := gw_of2 145 rfl rfl
theorem gw_333 : (Jvm.Cond.fieldLink "TouchSelectModel" (57 : Nat) "TouchSelectModel" "thenFunctions" "[I") ∈ gw_tbl := gw_of2 146 rfl rfl
theorem gw_334 : (Jvm.Cond.fieldLink "TouchSelectModel" (60 : Nat) "TouchSelectModel" "thenRest" "[J") ∈ gw_tbl := gw_of2 147 rfl rfl
theorem gw_335 : (Jvm.Cond.fieldLink "TouchSelectModel" (63 : Nat) "TouchSelectModel" "thenBody" "[J") ∈ gw_tbl := gw_of2 148 rfl rfl
theorem gw_336 : (Jvm.Cond.fieldLink "TouchSelectModel" (66 : Nat) "TouchSelectModel" "both" "[I") ∈ gw_tbl := gw_of2 149 rfl rfl
theorem gw_337 : (Jvm.Cond.fieldLink "TouchSelectModel" (114 : Nat) "TouchSelectModel" "selections" "I") ∈ gw_tbl := gw_of2 150 rfl rfl
theorem gw_338 : (Jvm.Cond.fieldLink "TouchSelectModel" (138 : Nat) "TouchSelectModel" "picked" "I") ∈ gw_tbl := gw_of2 151 rfl rfl
theorem gw_339 : (Jvm.Cond.fieldLink "TouchSelectModel" (69 : Nat) "TouchSelectModel" "pick" "[I") ∈ gw_tbl := gw_of2 152 rfl rfl
theorem gw_340 : (Jvm.Cond.fieldLink "TouchSelectModel" (72 : Nat) "TouchSelectModel" "isPicked" "[Z") ∈ gw_tbl := gw_of2 153 rfl rfl
theorem gw_341 : (Jvm.Cond.fieldLink "TouchSelectModel" (75 : Nat) "TouchSelectModel" "wasTouched" "[Z") ∈ gw_tbl := gw_of2 154 rfl rfl
theorem gw_342 : (Jvm.Cond.fieldLink "TouchSelectModel" (117 : Nat) "TouchSelectModel" "lost" "I") ∈ gw_tbl := gw_of2 155 rfl rfl
theorem gw_343 : (Jvm.Cond.fieldLink "TouchSelectModel" (78 : Nat) "TouchSelectModel" "lostTest" "[I") ∈ gw_tbl := gw_of2 156 rfl rfl
theorem gw_344 : (Jvm.Cond.fieldLink "TouchSelectModel" (81 : Nat) "TouchSelectModel" "lostAt" "[I") ∈ gw_tbl := gw_of2 157 rfl rfl
theorem gw_345 : (Jvm.Cond.fieldLink "TouchSelectModel" (84 : Nat) "TouchSelectModel" "looked" "[Z") ∈ gw_tbl := gw_of2 158 rfl rfl
theorem gw_346 : (Jvm.Cond.lays "TouchSelectModel" "TouchSelectModel" "thrown" "I") ∈ gw_tbl := gw_of2 159 rfl rfl
theorem gw_347 : (Jvm.Cond.lays "TouchSelectModel" "TouchSelectModel" "files" "I") ∈ gw_tbl := gw_of2 161 rfl rfl
theorem gw_348 : (Jvm.Cond.lays "TouchSelectModel" "TouchSelectModel" "functions" "I") ∈ gw_tbl := gw_of2 163 rfl rfl
theorem gw_349 : (Jvm.Cond.laysFinal "TouchSelectModel" "TouchSelectModel" "rest" "[J") ∈ gw_tbl := gw_of2 165 rfl rfl
theorem gw_350 : (Jvm.Cond.laysFinal "TouchSelectModel" "TouchSelectModel" "home" "[I") ∈ gw_tbl := gw_of2 167 rfl rfl
theorem gw_351 : (Jvm.Cond.laysFinal "TouchSelectModel" "TouchSelectModel" "body" "[J") ∈ gw_tbl := gw_of2 169 rfl rfl
theorem gw_352 : (Jvm.Cond.laysFinal "TouchSelectModel" "TouchSelectModel" "isTouched" "[Z") ∈ gw_tbl := gw_of2 171 rfl rfl
theorem gw_353 : (Jvm.Cond.lays "TouchSelectModel" "TouchSelectModel" "tests" "I") ∈ gw_tbl := gw_of2 173 rfl rfl
theorem gw_354 : (Jvm.Cond.laysFinal "TouchSelectModel" "TouchSelectModel" "mode" "[I") ∈ gw_tbl := gw_of2 175 rfl rfl
theorem gw_355 : (Jvm.Cond.laysFinal "TouchSelectModel" "TouchSelectModel" "time" "[I") ∈ gw_tbl := gw_of2 177 rfl rfl
theorem gw_356 : (Jvm.Cond.laysFinal "TouchSelectModel" "TouchSelectModel" "set" "[J") ∈ gw_tbl := gw_of2 179 rfl rfl
theorem gw_357 : (Jvm.Cond.laysFinal "TouchSelectModel" "TouchSelectModel" "newMany" "[I") ∈ gw_tbl := gw_of2 181 rfl rfl
theorem gw_358 : (Jvm.Cond.laysFinal "TouchSelectModel" "TouchSelectModel" "newFile" "[I") ∈ gw_tbl := gw_of2 183 rfl rfl
theorem gw_359 : (Jvm.Cond.laysFinal "TouchSelectModel" "TouchSelectModel" "newFunction" "[I") ∈ gw_tbl := gw_of2 185 rfl rfl
theorem gw_360 : (Jvm.Cond.laysFinal "TouchSelectModel" "TouchSelectModel" "ran" "[Z") ∈ gw_tbl := gw_of2 187 rfl rfl
theorem gw_361 : (Jvm.Cond.laysFinal "TouchSelectModel" "TouchSelectModel" "oldMany" "[I") ∈ gw_tbl := gw_of2 189 rfl rfl
theorem gw_362 : (Jvm.Cond.laysFinal "TouchSelectModel" "TouchSelectModel" "oldFile" "[I") ∈ gw_tbl := gw_of2 191 rfl rfl
theorem gw_363 : (Jvm.Cond.laysFinal "TouchSelectModel" "TouchSelectModel" "oldFunction" "[I") ∈ gw_tbl := gw_of2 193 rfl rfl
theorem gw_364 : (Jvm.Cond.laysFinal "TouchSelectModel" "TouchSelectModel" "oldSet" "[J") ∈ gw_tbl := gw_of2 195 rfl rfl
theorem gw_365 : (Jvm.Cond.laysFinal "TouchSelectModel" "TouchSelectModel" "thenFunctions" "[I") ∈ gw_tbl := gw_of2 197 rfl rfl
theorem gw_366 : (Jvm.Cond.laysFinal "TouchSelectModel" "TouchSelectModel" "thenRest" "[J") ∈ gw_tbl := gw_of2 199 rfl rfl
theorem gw_367 : (Jvm.Cond.laysFinal "TouchSelectModel" "TouchSelectModel" "thenBody" "[J") ∈ gw_tbl := gw_of2 201 rfl rfl
theorem gw_368 : (Jvm.Cond.laysFinal "TouchSelectModel" "TouchSelectModel" "both" "[I") ∈ gw_tbl := gw_of2 203 rfl rfl
theorem gw_369 : (Jvm.Cond.lays "TouchSelectModel" "TouchSelectModel" "selections" "I") ∈ gw_tbl := gw_of2 205 rfl rfl
theorem gw_370 : (Jvm.Cond.lays "TouchSelectModel" "TouchSelectModel" "picked" "I") ∈ gw_tbl := gw_of2 207 rfl rfl
theorem gw_371 : (Jvm.Cond.laysFinal "TouchSelectModel" "TouchSelectModel" "pick" "[I") ∈ gw_tbl := gw_of2 209 rfl rfl
theorem gw_372 : (Jvm.Cond.laysFinal "TouchSelectModel" "TouchSelectModel" "isPicked" "[Z") ∈ gw_tbl := gw_of2 211 rfl rfl
theorem gw_373 : (Jvm.Cond.laysFinal "TouchSelectModel" "TouchSelectModel" "wasTouched" "[Z") ∈ gw_tbl := gw_of2 213 rfl rfl
theorem gw_374 : (Jvm.Cond.lays "TouchSelectModel" "TouchSelectModel" "lost" "I") ∈ gw_tbl := gw_of2 215 rfl rfl
theorem gw_375 : (Jvm.Cond.laysFinal "TouchSelectModel" "TouchSelectModel" "lostTest" "[I") ∈ gw_tbl := gw_of2 217 rfl rfl
theorem gw_376 : (Jvm.Cond.laysFinal "TouchSelectModel" "TouchSelectModel" "lostAt" "[I") ∈ gw_tbl := gw_of2 219 rfl rfl
theorem gw_377 : (Jvm.Cond.laysFinal "TouchSelectModel" "TouchSelectModel" "looked" "[Z") ∈ gw_tbl := gw_of2 221 rfl rfl
theorem gw_378 : (Jvm.Cond.methodLink "TouchSelectLaw" (19 : Nat) ({ cls := "TouchSelectModel", name := "file", desc := "(J)I" } : Jvm.MethodName)) ∈ gw_tbl := gw_of2 224 rfl rfl
theorem gw_379 : (Jvm.Cond.instanceMethod ({ cls := "TouchSelectModel", name := "file", desc := "(J)I" } : Jvm.MethodName)) ∈ gw_tbl := gw_of2 225 rfl rfl
theorem gw_380 : (Jvm.Cond.selects "TouchSelectModel" ({ cls := "TouchSelectModel", name := "file", desc := "(J)I" } : Jvm.MethodName) ({ cls := "TouchSelectModel", name := "file", desc := "(J)I" } : Jvm.MethodName)) ∈ gw_tbl := gw_of2 226 rfl rfl
theorem gw_381 : (Jvm.Cond.code ({ cls := "TouchSelectModel", name := "file", desc := "(J)I" } : Jvm.MethodName) prog_8_method_3_code (3 : Nat) (Option.some Jvm.ClassFile.FieldType.int)) ∈ gw_tbl := gw_of2 227 rfl rfl
theorem gw_382 : (Jvm.Cond.methodLink "TouchSelectLaw" (24 : Nat) ({ cls := "TouchSelectModel", name := "function", desc := "(IJ)I" } : Jvm.MethodName)) ∈ gw_tbl := gw_of2 228 rfl rfl
theorem gw_383 : (Jvm.Cond.instanceMethod ({ cls := "TouchSelectModel", name := "function", desc := "(IJ)I" } : Jvm.MethodName)) ∈ gw_tbl := gw_of2 229 rfl rfl
theorem gw_384 : (Jvm.Cond.selects "TouchSelectModel" ({ cls := "TouchSelectModel", name := "function", desc := "(IJ)I" } : Jvm.MethodName) ({ cls := "TouchSelectModel", name := "function", desc := "(IJ)I" } : Jvm.MethodName)) ∈ gw_tbl := gw_of2 230 rfl rfl
theorem gw_385 : (Jvm.Cond.code ({ cls := "TouchSelectModel", name := "function", desc := "(IJ)I" } : Jvm.MethodName) prog_8_method_7_code (4 : Nat) (Option.some Jvm.ClassFile.FieldType.int)) ∈ gw_tbl := gw_of2 231 rfl rfl
theorem gw_386 : (Jvm.Cond.methodLink "TouchSelectModel" (100 : Nat) ({ cls := "TouchSelectModel", name := "isFile", desc := "(I)Z" } : Jvm.MethodName)) ∈ gw_tbl := gw_of2 232 rfl rfl
theorem gw_387 : (Jvm.Cond.instanceMethod ({ cls := "TouchSelectModel", name := "isFile", desc := "(I)Z" } : Jvm.MethodName)) ∈ gw_tbl := gw_of2 234 rfl rfl
theorem gw_388 : (Jvm.Cond.code ({ cls := "TouchSelectModel", name := "isFile", desc := "(I)Z" } : Jvm.MethodName) prog_8_method_4_code (2 : Nat) (Option.some Jvm.ClassFile.FieldType.boolean)) ∈ gw_tbl := gw_of2 235 rfl rfl
theorem gw_389 : (Jvm.Cond.methodLink "TouchSelectLaw" (29 : Nat) ({ cls := "TouchSelectModel", name := "change", desc := "(IJ)Z" } : Jvm.MethodName)) ∈ gw_tbl := gw_of2 236 rfl rfl
theorem gw_390 : (Jvm.Cond.instanceMethod ({ cls := "TouchSelectModel", name := "change", desc := "(IJ)Z" } : Jvm.MethodName)) ∈ gw_tbl := gw_of2 237 rfl rfl
theorem gw_391 : (Jvm.Cond.selects "TouchSelectModel" ({ cls := "TouchSelectModel", name := "change", desc := "(IJ)Z" } : Jvm.MethodName) ({ cls := "TouchSelectModel", name := "change", desc := "(IJ)Z" } : Jvm.MethodName)) ∈ gw_tbl := gw_of2 238 rfl rfl
theorem gw_392 : (Jvm.Cond.code ({ cls := "TouchSelectModel", name := "change", desc := "(IJ)Z" } : Jvm.MethodName) prog_8_method_8_code (4 : Nat) (Option.some Jvm.ClassFile.FieldType.boolean)) ∈ gw_tbl := gw_of2 239 rfl rfl
theorem gw_393 : (Jvm.Cond.methodLink "TouchSelectLaw" (33 : Nat) ({ cls := "TouchSelectModel", name := "changeFunction", desc := "(IJ)Z" } : Jvm.MethodName)) ∈ gw_tbl := gw_of3 0 rfl rfl
theorem gw_394 : (Jvm.Cond.instanceMethod ({ cls := "TouchSelectModel", name := "changeFunction", desc := "(IJ)Z" } : Jvm.MethodName)) ∈ gw_tbl := gw_of3 1 rfl rfl
theorem gw_395 : (Jvm.Cond.selects "TouchSelectModel" ({ cls := "TouchSelectModel", name := "changeFunction", desc := "(IJ)Z" } : Jvm.MethodName) ({ cls := "TouchSelectModel", name := "changeFunction", desc := "(IJ)Z" } : Jvm.MethodName)) ∈ gw_tbl := gw_of3 2 rfl rfl
theorem gw_396 : (Jvm.Cond.code ({ cls := "TouchSelectModel", name := "changeFunction", desc := "(IJ)Z" } : Jvm.MethodName) prog_8_method_9_code (4 : Nat) (Option.some Jvm.ClassFile.FieldType.boolean)) ∈ gw_tbl := gw_of3 3 rfl rfl
theorem gw_397 : (Jvm.Cond.methodLink "TouchSelectModel" (104 : Nat) ({ cls := "TouchSelectModel", name := "isFunction", desc := "(I)Z" } : Jvm.MethodName)) ∈ gw_tbl := gw_of3 4 rfl rfl
theorem gw_398 : (Jvm.Cond.instanceMethod ({ cls := "TouchSelectModel", name := "isFunction", desc := "(I)Z" } : Jvm.MethodName)) ∈ gw_tbl := gw_of3 6 rfl rfl
theorem gw_399 : (Jvm.Cond.code ({ cls := "TouchSelectModel", name := "isFunction", desc := "(I)Z" } : Jvm.MethodName) prog_8_method_5_code (2 : Nat) (Option.some Jvm.ClassFile.FieldType.boolean)) ∈ gw_tbl := gw_of3 7 rfl rfl
theorem gw_400 : (Jvm.Cond.methodLink "TouchSelectLaw" (38 : Nat) ({ cls := "TouchSelectModel", name := "test", desc := "(II)I" } : Jvm.MethodName)) ∈ gw_tbl := gw_of3 8 rfl rfl
theorem gw_401 : (Jvm.Cond.instanceMethod ({ cls := "TouchSelectModel", name := "test", desc := "(II)I" } : Jvm.MethodName)) ∈ gw_tbl := gw_of3 9 rfl rfl
theorem gw_402 : (Jvm.Cond.selects "TouchSelectModel" ({ cls := "TouchSelectModel", name := "test", desc := "(II)I" } : Jvm.MethodName) ({ cls := "TouchSelectModel", name := "test", desc := "(II)I" } : Jvm.MethodName)) ∈ gw_tbl := gw_of3 10 rfl rfl
theorem gw_403 : (Jvm.Cond.code ({ cls := "TouchSelectModel", name := "test", desc := "(II)I" } : Jvm.MethodName) prog_8_method_10_code (4 : Nat) (Option.some Jvm.ClassFile.FieldType.int)) ∈ gw_tbl := gw_of3 11 rfl rfl
theorem gw_404 : (Jvm.Cond.methodLink "TouchSelectLaw" (42 : Nat) ({ cls := "TouchSelectModel", name := "setting", desc := "(IJ)Z" } : Jvm.MethodName)) ∈ gw_tbl := gw_of3 12 rfl rfl
theorem gw_405 : (Jvm.Cond.instanceMethod ({ cls := "TouchSelectModel", name := "setting", desc := "(IJ)Z" } : Jvm.MethodName)) ∈ gw_tbl := gw_of3 13 rfl rfl
theorem gw_406 : (Jvm.Cond.selects "TouchSelectModel" ({ cls := "TouchSelectModel", name := "setting", desc := "(IJ)Z" } : Jvm.MethodName) ({ cls := "TouchSelectModel", name := "setting", desc := "(IJ)Z" } : Jvm.MethodName)) ∈ gw_tbl := gw_of3 14 rfl rfl
theorem gw_407 : (Jvm.Cond.code ({ cls := "TouchSelectModel", name := "setting", desc := "(IJ)Z" } : Jvm.MethodName) prog_8_method_11_code (4 : Nat) (Option.some Jvm.ClassFile.FieldType.boolean)) ∈ gw_tbl := gw_of3 15 rfl rfl
theorem gw_408 : (Jvm.Cond.methodLink "TouchSelectModel" (107 : Nat) ({ cls := "TouchSelectModel", name := "isTest", desc := "(I)Z" } : Jvm.MethodName)) ∈ gw_tbl := gw_of3 16 rfl rfl
theorem gw_409 : (Jvm.Cond.instanceMethod ({ cls := "TouchSelectModel", name := "isTest", desc := "(I)Z" } : Jvm.MethodName)) ∈ gw_tbl := gw_of3 18 rfl rfl
theorem gw_410 : (Jvm.Cond.code ({ cls := "TouchSelectModel", name := "isTest", desc := "(I)Z" } : Jvm.MethodName) prog_8_method_6_code (2 : Nat) (Option.some Jvm.ClassFile.FieldType.boolean)) ∈ gw_tbl := gw_of3 19 rfl rfl
theorem gw_411 : (Jvm.Cond.methodLink "TouchSelectLaw" (47 : Nat) ({ cls := "TouchSelectModel", name := "reads", desc := "(III)I" } : Jvm.MethodName)) ∈ gw_tbl := gw_of3 20 rfl rfl
theorem gw_412 : (Jvm.Cond.instanceMethod ({ cls := "TouchSelectModel", name := "reads", desc := "(III)I" } : Jvm.MethodName)) ∈ gw_tbl := gw_of3 21 rfl rfl
theorem gw_413 : (Jvm.Cond.selects "TouchSelectModel" ({ cls := "TouchSelectModel", name := "reads", desc := "(III)I" } : Jvm.MethodName) ({ cls := "TouchSelectModel", name := "reads", desc := "(III)I" } : Jvm.MethodName)) ∈ gw_tbl := gw_of3 22 rfl rfl
theorem gw_414 : (Jvm.Cond.code ({ cls := "TouchSelectModel", name := "reads", desc := "(III)I" } : Jvm.MethodName) prog_8_method_12_code (6 : Nat) (Option.some Jvm.ClassFile.FieldType.int)) ∈ gw_tbl := gw_of3 23 rfl rfl
theorem gw_415 : (Jvm.Cond.methodLink "TouchSelectLaw" (52 : Nat) ({ cls := "TouchSelectModel", name := "outcome", desc := "(IZ)I" } : Jvm.MethodName)) ∈ gw_tbl := gw_of3 24 rfl rfl
theorem gw_416 : (Jvm.Cond.instanceMethod ({ cls := "TouchSelectModel", name := "outcome", desc := "(IZ)I" } : Jvm.MethodName)) ∈ gw_tbl := gw_of3 25 rfl rfl
theorem gw_417 : (Jvm.Cond.selects "TouchSelectModel" ({ cls := "TouchSelectModel", name := "outcome", desc := "(IZ)I" } : Jvm.MethodName) ({ cls := "TouchSelectModel", name := "outcome", desc := "(IZ)I" } : Jvm.MethodName)) ∈ gw_tbl := gw_of3 26 rfl rfl
theorem gw_418 : (Jvm.Cond.code ({ cls := "TouchSelectModel", name := "outcome", desc := "(IZ)I" } : Jvm.MethodName) prog_8_method_14_code (4 : Nat) (Option.some Jvm.ClassFile.FieldType.int)) ∈ gw_tbl := gw_of3 27 rfl rfl
theorem gw_419 : (Jvm.Cond.methodLink "TouchSelectModel" (110 : Nat) ({ cls := "TouchSelectModel", name := "keepAll", desc := "(I)V" } : Jvm.MethodName)) ∈ gw_tbl := gw_of3 28 rfl rfl
theorem gw_420 : (Jvm.Cond.instanceMethod ({ cls := "TouchSelectModel", name := "keepAll", desc := "(I)V" } : Jvm.MethodName)) ∈ gw_tbl := gw_of3 30 rfl rfl
theorem gw_421 : (Jvm.Cond.code ({ cls := "TouchSelectModel", name := "keepAll", desc := "(I)V" } : Jvm.MethodName) prog_8_method_13_code (3 : Nat) (Option.none : Option Jvm.ClassFile.FieldType)) ∈ gw_tbl := gw_of3 31 rfl rfl
theorem gw_422 : (Jvm.Cond.methodLink "TouchSelectLaw" (65 : Nat) ({ cls := "TouchSelectModel", name := "why", desc := "(I)I" } : Jvm.MethodName)) ∈ gw_tbl := gw_of3 32 rfl rfl
theorem gw_423 : (Jvm.Cond.instanceMethod ({ cls := "TouchSelectModel", name := "why", desc := "(I)I" } : Jvm.MethodName)) ∈ gw_tbl := gw_of3 33 rfl rfl
theorem gw_424 : (Jvm.Cond.selects "TouchSelectModel" ({ cls := "TouchSelectModel", name := "why", desc := "(I)I" } : Jvm.MethodName) ({ cls := "TouchSelectModel", name := "why", desc := "(I)I" } : Jvm.MethodName)) ∈ gw_tbl := gw_of3 34 rfl rfl
theorem gw_425 : (Jvm.Cond.code ({ cls := "TouchSelectModel", name := "why", desc := "(I)I" } : Jvm.MethodName) prog_8_method_20_code (2 : Nat) (Option.some Jvm.ClassFile.FieldType.int)) ∈ gw_tbl := gw_of3 35 rfl rfl
theorem gw_426 : (Jvm.Cond.methodLink "TouchSelectModel" (134 : Nat) ({ cls := "TouchSelectModel", name := "reason", desc := "(I)I" } : Jvm.MethodName)) ∈ gw_tbl := gw_of3 36 rfl rfl
theorem gw_427 : (Jvm.Cond.instanceMethod ({ cls := "TouchSelectModel", name := "reason", desc := "(I)I" } : Jvm.MethodName)) ∈ gw_tbl := gw_of3 38 rfl rfl
theorem gw_428 : (Jvm.Cond.code ({ cls := "TouchSelectModel", name := "reason", desc := "(I)I" } : Jvm.MethodName) prog_8_method_19_code (5 : Nat) (Option.some Jvm.ClassFile.FieldType.int)) ∈ gw_tbl := gw_of3 39 rfl rfl
theorem gw_429 : (Jvm.Cond.methodLink "TouchSelectModel" (130 : Nat) ({ cls := "TouchSelectModel", name := "reasonOf", desc := "(II)I" } : Jvm.MethodName)) ∈ gw_tbl := gw_of3 40 rfl rfl
theorem gw_430 : (Jvm.Cond.instanceMethod ({ cls := "TouchSelectModel", name := "reasonOf", desc := "(II)I" } : Jvm.MethodName)) ∈ gw_tbl := gw_of3 42 rfl rfl
theorem gw_431 : (Jvm.Cond.code ({ cls := "TouchSelectModel", name := "reasonOf", desc := "(II)I" } : Jvm.MethodName) prog_8_method_18_code (5 : Nat) (Option.some Jvm.ClassFile.FieldType.int)) ∈ gw_tbl := gw_of3 43 rfl rfl
theorem gw_432 : (Jvm.Cond.methodLink "TouchSelectModel" (127 : Nat) ({ cls := "TouchSelectModel", name := "isAsItWas", desc := "(II)Z" } : Jvm.MethodName)) ∈ gw_tbl := gw_of3 44 rfl rfl
theorem gw_433 : (Jvm.Cond.instanceMethod ({ cls := "TouchSelectModel", name := "isAsItWas", desc := "(II)Z" } : Jvm.MethodName)) ∈ gw_tbl := gw_of3 46 rfl rfl
theorem gw_434 : (Jvm.Cond.code ({ cls := "TouchSelectModel", name := "isAsItWas", desc := "(II)Z" } : Jvm.MethodName) prog_8_method_17_code (5 : Nat) (Option.some Jvm.ClassFile.FieldType.boolean)) ∈ gw_tbl := gw_of3 47 rfl rfl
theorem gw_435 : (Jvm.Cond.methodLink "TouchSelectModel" (120 : Nat) ({ cls := "TouchSelectModel", name := "isRest", desc := "(II)Z" } : Jvm.MethodName)) ∈ gw_tbl := gw_of3 48 rfl rfl
theorem gw_436 : (Jvm.Cond.instanceMethod ({ cls := "TouchSelectModel", name := "isRest", desc := "(II)Z" } : Jvm.MethodName)) ∈ gw_tbl := gw_of3 50 rfl rfl
theorem gw_437 : (Jvm.Cond.code ({ cls := "TouchSelectModel", name := "isRest", desc := "(II)Z" } : Jvm.MethodName) prog_8_method_15_code (3 : Nat) (Option.some Jvm.ClassFile.FieldType.boolean)) ∈ gw_tbl := gw_of3 51 rfl rfl
theorem gw_438 : (Jvm.Cond.methodLink "TouchSelectModel" (124 : Nat) ({ cls := "TouchSelectModel", name := "isBody", desc := "(II)Z" } : Jvm.MethodName)) ∈ gw_tbl := gw_of3 52 rfl rfl
theorem gw_439 : (Jvm.Cond.instanceMethod ({ cls := "TouchSelectModel", name := "isBody", desc := "(II)Z" } : Jvm.MethodName)) ∈ gw_tbl := gw_of3 54 rfl rfl
theorem gw_440 : (Jvm.Cond.code ({ cls := "TouchSelectModel", name := "isBody", desc := "(II)Z" } : Jvm.MethodName) prog_8_method_16_code (3 : Nat) (Option.some Jvm.ClassFile.FieldType.boolean)) ∈ gw_tbl := gw_of3 55 rfl rfl
theorem gw_441 : (Jvm.Cond.methodLink "TouchSelectLaw" (69 : Nat) ({ cls := "TouchSelectModel", name := "kept", desc := "(II)I" } : Jvm.MethodName)) ∈ gw_tbl := gw_of3 56 rfl rfl
theorem gw_442 : (Jvm.Cond.instanceMethod ({ cls := "TouchSelectModel", name := "kept", desc := "(II)I" } : Jvm.MethodName)) ∈ gw_tbl := gw_of3 57 rfl rfl
theorem gw_443 : (Jvm.Cond.selects "TouchSelectModel" ({ cls := "TouchSelectModel", name := "kept", desc := "(II)I" } : Jvm.MethodName) ({ cls := "TouchSelectModel", name := "kept", desc := "(II)I" } : Jvm.MethodName)) ∈ gw_tbl := gw_of3 58 rfl rfl
theorem gw_444 : (Jvm.Cond.code ({ cls := "TouchSelectModel", name := "kept", desc := "(II)I" } : Jvm.MethodName) prog_8_method_21_code (5 : Nat) (Option.some Jvm.ClassFile.FieldType.int)) ∈ gw_tbl := gw_of3 59 rfl rfl
theorem gw_445 : (Jvm.Cond.methodLink "TouchSelectLaw" (57 : Nat) ({ cls := "TouchSelectModel", name := "select", desc := "(I)I" } : Jvm.MethodName)) ∈ gw_tbl := gw_of3 60 rfl rfl
theorem gw_446 : (Jvm.Cond.instanceMethod ({ cls := "TouchSelectModel", name := "select", desc := "(I)I" } : Jvm.MethodName)) ∈ gw_tbl := gw_of3 61 rfl rfl
theorem gw_447 : (Jvm.Cond.selects "TouchSelectModel" ({ cls := "TouchSelectModel", name := "select", desc := "(I)I" } : Jvm.MethodName) ({ cls := "TouchSelectModel", name := "select", desc := "(I)I" } : Jvm.MethodName)) ∈ gw_tbl := gw_of3 62 rfl rfl
theorem gw_448 : (Jvm.Cond.code ({ cls := "TouchSelectModel", name := "select", desc := "(I)I" } : Jvm.MethodName) prog_8_method_25_code (5 : Nat) (Option.some Jvm.ClassFile.FieldType.int)) ∈ gw_tbl := gw_of3 63 rfl rfl
theorem gw_449 : (Jvm.Cond.constant "TouchSelectModel" (144 : Nat) (100000 : Int32)) ∈ gw_tbl := gw_of3 64 rfl rfl
theorem gw_450 : (Jvm.Cond.methodLink "TouchSelectModel" (145 : Nat) ({ cls := "TouchSelectModel", name := "take", desc := "(I)V" } : Jvm.MethodName)) ∈ gw_tbl := gw_of3 65 rfl rfl
theorem gw_451 : (Jvm.Cond.instanceMethod ({ cls := "TouchSelectModel", name := "take", desc := "(I)V" } : Jvm.MethodName)) ∈ gw_tbl := gw_of3 67 rfl rfl
theorem gw_452 : (Jvm.Cond.code ({ cls := "TouchSelectModel", name := "take", desc := "(I)V" } : Jvm.MethodName) prog_8_method_23_code (2 : Nat) (Option.none : Option Jvm.ClassFile.FieldType)) ∈ gw_tbl := gw_of3 68 rfl rfl
theorem gw_453 : (Jvm.Cond.methodLink "TouchSelectModel" (148 : Nat) ({ cls := "TouchSelectModel", name := "bestOf", desc := "([Z)I" } : Jvm.MethodName)) ∈ gw_tbl := gw_of3 69 rfl rfl
theorem gw_454 : (Jvm.Cond.instanceMethod ({ cls := "TouchSelectModel", name := "bestOf", desc := "([Z)I" } : Jvm.MethodName)) ∈ gw_tbl := gw_of3 71 rfl rfl
theorem gw_455 : (Jvm.Cond.code ({ cls := "TouchSelectModel", name := "bestOf", desc := "([Z)I" } : Jvm.MethodName) prog_8_method_24_code (4 : Nat) (Option.some Jvm.ClassFile.FieldType.int)) ∈ gw_tbl := gw_of3 72 rfl rfl
theorem gw_456 : (Jvm.Cond.methodLink "TouchSelectModel" (141 : Nat) ({ cls := "TouchSelectModel", name := "shareOf", desc := "(I)I" } : Jvm.MethodName)) ∈ gw_tbl := gw_of3 73 rfl rfl
theorem gw_457 : (Jvm.Cond.instanceMethod ({ cls := "TouchSelectModel", name := "shareOf", desc := "(I)I" } : Jvm.MethodName)) ∈ gw_tbl := gw_of3 75 rfl rfl
theorem gw_458 : (Jvm.Cond.code ({ cls := "TouchSelectModel", name := "shareOf", desc := "(I)I" } : Jvm.MethodName) prog_8_method_22_code (4 : Nat) (Option.some Jvm.ClassFile.FieldType.int)) ∈ gw_tbl := gw_of3 76 rfl rfl
theorem gw_459 : (Jvm.Cond.methodLink "TouchSelectLaw" (61 : Nat) ({ cls := "TouchSelectModel", name := "at", desc := "(I)I" } : Jvm.MethodName)) ∈ gw_tbl := gw_of3 77 rfl rfl
theorem gw_460 : (Jvm.Cond.instanceMethod ({ cls := "TouchSelectModel", name := "at", desc := "(I)I" } : Jvm.MethodName)) ∈ gw_tbl := gw_of3 78 rfl rfl
theorem gw_461 : (Jvm.Cond.selects "TouchSelectModel" ({ cls := "TouchSelectModel", name := "at", desc := "(I)I" } : Jvm.MethodName) ({ cls := "TouchSelectModel", name := "at", desc := "(I)I" } : Jvm.MethodName)) ∈ gw_tbl := gw_of3 79 rfl rfl
theorem gw_462 : (Jvm.Cond.code ({ cls := "TouchSelectModel", name := "at", desc := "(I)I" } : Jvm.MethodName) prog_8_method_26_code (2 : Nat) (Option.some Jvm.ClassFile.FieldType.int)) ∈ gw_tbl := gw_of3 80 rfl rfl
theorem gw_463 : (Jvm.Cond.methodLink "TouchSelectLaw" (73 : Nat) ({ cls := "TouchSelectModel", name := "share", desc := "(I)I" } : Jvm.MethodName)) ∈ gw_tbl := gw_of3 81 rfl rfl
theorem gw_464 : (Jvm.Cond.instanceMethod ({ cls := "TouchSelectModel", name := "share", desc := "(I)I" } : Jvm.MethodName)) ∈ gw_tbl := gw_of3 82 rfl rfl
theorem gw_465 : (Jvm.Cond.selects "TouchSelectModel" ({ cls := "TouchSelectModel", name := "share", desc := "(I)I" } : Jvm.MethodName) ({ cls := "TouchSelectModel", name := "share", desc := "(I)I" } : Jvm.MethodName)) ∈ gw_tbl := gw_of3 83 rfl rfl
theorem gw_466 : (Jvm.Cond.code ({ cls := "TouchSelectModel", name := "share", desc := "(I)I" } : Jvm.MethodName) prog_8_method_27_code (2 : Nat) (Option.some Jvm.ClassFile.FieldType.int)) ∈ gw_tbl := gw_of3 84 rfl rfl
theorem gw_467 : (Jvm.Cond.methodLink "TouchSelectLaw" (77 : Nat) ({ cls := "TouchSelectModel", name := "together", desc := "(II)I" } : Jvm.MethodName)) ∈ gw_tbl := gw_of3 85 rfl rfl
theorem gw_468 : (Jvm.Cond.instanceMethod ({ cls := "TouchSelectModel", name := "together", desc := "(II)I" } : Jvm.MethodName)) ∈ gw_tbl := gw_of3 86 rfl rfl
theorem gw_469 : (Jvm.Cond.selects "TouchSelectModel" ({ cls := "TouchSelectModel", name := "together", desc := "(II)I" } : Jvm.MethodName) ({ cls := "TouchSelectModel", name := "together", desc := "(II)I" } : Jvm.MethodName)) ∈ gw_tbl := gw_of3 87 rfl rfl
theorem gw_470 : (Jvm.Cond.code ({ cls := "TouchSelectModel", name := "together", desc := "(II)I" } : Jvm.MethodName) prog_8_method_28_code (3 : Nat) (Option.some Jvm.ClassFile.FieldType.int)) ∈ gw_tbl := gw_of3 88 rfl rfl
theorem gw_471 : (Jvm.Cond.methodLink "TouchSelectLaw" (82 : Nat) ({ cls := "TouchSelectModel", name := "touched", desc := "(I)Z" } : Jvm.MethodName)) ∈ gw_tbl := gw_of3 89 rfl rfl
theorem gw_472 : (Jvm.Cond.instanceMethod ({ cls := "TouchSelectModel", name := "touched", desc := "(I)Z" } : Jvm.MethodName)) ∈ gw_tbl := gw_of3 90 rfl rfl
theorem gw_473 : (Jvm.Cond.selects "TouchSelectModel" ({ cls := "TouchSelectModel", name := "touched", desc := "(I)Z" } : Jvm.MethodName) ({ cls := "TouchSelectModel", name := "touched", desc := "(I)Z" } : Jvm.MethodName)) ∈ gw_tbl := gw_of3 91 rfl rfl
theorem gw_474 : (Jvm.Cond.code ({ cls := "TouchSelectModel", name := "touched", desc := "(I)Z" } : Jvm.MethodName) prog_8_method_29_code (2 : Nat) (Option.some Jvm.ClassFile.FieldType.boolean)) ∈ gw_tbl := gw_of3 92 rfl rfl
theorem gw_475 : (Jvm.Cond.methodLink "TouchSelectLaw" (86 : Nat) ({ cls := "TouchSelectModel", name := "missed", desc := "(II)I" } : Jvm.MethodName)) ∈ gw_tbl := gw_of3 93 rfl rfl
theorem gw_476 : (Jvm.Cond.instanceMethod ({ cls := "TouchSelectModel", name := "missed", desc := "(II)I" } : Jvm.MethodName)) ∈ gw_tbl := gw_of3 94 rfl rfl
theorem gw_477 : (Jvm.Cond.selects "TouchSelectModel" ({ cls := "TouchSelectModel", name := "missed", desc := "(II)I" } : Jvm.MethodName) ({ cls := "TouchSelectModel", name := "missed", desc := "(II)I" } : Jvm.MethodName)) ∈ gw_tbl := gw_of3 95 rfl rfl
theorem gw_478 : (Jvm.Cond.code ({ cls := "TouchSelectModel", name := "missed", desc := "(II)I" } : Jvm.MethodName) prog_8_method_30_code (3 : Nat) (Option.some Jvm.ClassFile.FieldType.int)) ∈ gw_tbl := gw_of3 96 rfl rfl
theorem gw_479 : (Jvm.Cond.constantLong "TouchSelectLaw" (13 : Nat) (4294967295 : Int64)) ∈ gw_tbl := gw_of3 97 rfl rfl
theorem gw_480 : Cond.selects "TouchSelect" ⟨"TouchSelect", "rowOf", "(I)LTouchSelect$TestRow;"⟩ ⟨"TouchSelect", "rowOf", "(I)LTouchSelect$TestRow;"⟩ ∈ gw_tbl := gw_of0 0 rfl rfl
theorem gw_481 : Cond.selects "TouchSelect" ⟨"TouchSelect", "placeInSelection", "(I)V"⟩ ⟨"TouchSelect", "placeInSelection", "(I)V"⟩ ∈ gw_tbl := gw_of0 1 rfl rfl
theorem gw_482 : Cond.selects "TouchSelect$TestRow" ⟨"TouchSelect$TestRow", "firstReasonOfReads", "(LTouchSelect$Sources;)I"⟩ ⟨"TouchSelect$TestRow", "firstReasonOfReads", "(LTouchSelect$Sources;)I"⟩ ∈ gw_tbl := gw_of0 2 rfl rfl
theorem gw_483 : Cond.selects "TouchSelect$TestRow" ⟨"TouchSelect$TestRow", "hasKept", "(I)Z"⟩ ⟨"TouchSelect$TestRow", "hasKept", "(I)Z"⟩ ∈ gw_tbl := gw_of0 3 rfl rfl
theorem gw_484 : Cond.selects "TouchSelect$TestRow" ⟨"TouchSelect$TestRow", "reasonOfRead", "(ILTouchSelect$Sources;)I"⟩ ⟨"TouchSelect$TestRow", "reasonOfRead", "(ILTouchSelect$Sources;)I"⟩ ∈ gw_tbl := gw_of0 4 rfl rfl
theorem gw_485 : Cond.selects "TouchSelect$TestRow" ⟨"TouchSelect$TestRow", "isAsItWas", "(ILTouchSelect$Sources;)Z"⟩ ⟨"TouchSelect$TestRow", "isAsItWas", "(ILTouchSelect$Sources;)Z"⟩ ∈ gw_tbl := gw_of0 5 rfl rfl
theorem gw_486 : Cond.selects "TouchSelect$Ranking" ⟨"TouchSelect$Ranking", "isGreater", "(III)Z"⟩ ⟨"TouchSelect$Ranking", "isGreater", "(III)Z"⟩ ∈ gw_tbl := gw_of0 6 rfl rfl
theorem gw_487 : Cond.selects "TouchSelect" ⟨"TouchSelect", "takeExtras", "(I)V"⟩ ⟨"TouchSelect", "takeExtras", "(I)V"⟩ ∈ gw_tbl := gw_of0 7 rfl rfl
theorem gw_488 : Cond.selects "TouchSelectModel" ⟨"TouchSelectModel", "isFile", "(I)Z"⟩ ⟨"TouchSelectModel", "isFile", "(I)Z"⟩ ∈ gw_tbl := gw_of0 8 rfl rfl
theorem gw_489 : Cond.selects "TouchSelectModel" ⟨"TouchSelectModel", "isFunction", "(I)Z"⟩ ⟨"TouchSelectModel", "isFunction", "(I)Z"⟩ ∈ gw_tbl := gw_of0 9 rfl rfl
theorem gw_490 : Cond.selects "TouchSelectModel" ⟨"TouchSelectModel", "isTest", "(I)Z"⟩ ⟨"TouchSelectModel", "isTest", "(I)Z"⟩ ∈ gw_tbl := gw_of0 10 rfl rfl
theorem gw_491 : Cond.selects "TouchSelectModel" ⟨"TouchSelectModel", "keepAll", "(I)V"⟩ ⟨"TouchSelectModel", "keepAll", "(I)V"⟩ ∈ gw_tbl := gw_of0 11 rfl rfl
theorem gw_492 : Cond.selects "TouchSelectModel" ⟨"TouchSelectModel", "reason", "(I)I"⟩ ⟨"TouchSelectModel", "reason", "(I)I"⟩ ∈ gw_tbl := gw_of0 12 rfl rfl
theorem gw_493 : Cond.selects "TouchSelectModel" ⟨"TouchSelectModel", "reasonOf", "(II)I"⟩ ⟨"TouchSelectModel", "reasonOf", "(II)I"⟩ ∈ gw_tbl := gw_of0 13 rfl rfl
theorem gw_494 : Cond.selects "TouchSelectModel" ⟨"TouchSelectModel", "isAsItWas", "(II)Z"⟩ ⟨"TouchSelectModel", "isAsItWas", "(II)Z"⟩ ∈ gw_tbl := gw_of0 14 rfl rfl
theorem gw_495 : Cond.selects "TouchSelectModel" ⟨"TouchSelectModel", "isRest", "(II)Z"⟩ ⟨"TouchSelectModel", "isRest", "(II)Z"⟩ ∈ gw_tbl := gw_of0 15 rfl rfl
theorem gw_496 : Cond.selects "TouchSelectModel" ⟨"TouchSelectModel", "isBody", "(II)Z"⟩ ⟨"TouchSelectModel", "isBody", "(II)Z"⟩ ∈ gw_tbl := gw_of0 16 rfl rfl
theorem gw_497 : Cond.selects "TouchSelectModel" ⟨"TouchSelectModel", "take", "(I)V"⟩ ⟨"TouchSelectModel", "take", "(I)V"⟩ ∈ gw_tbl := gw_of0 17 rfl rfl
theorem gw_498 : Cond.selects "TouchSelectModel" ⟨"TouchSelectModel", "bestOf", "([Z)I"⟩ ⟨"TouchSelectModel", "bestOf", "([Z)I"⟩ ∈ gw_tbl := gw_of0 18 rfl rfl
theorem gw_499 : Cond.selects "TouchSelectModel" ⟨"TouchSelectModel", "shareOf", "(I)I"⟩ ⟨"TouchSelectModel", "shareOf", "(I)I"⟩ ∈ gw_tbl := gw_of0 19 rfl rfl
