-- ===== PART A: goes FIRST, ahead of the names: the tables' words, and 'selects' of the private methods out of them =====
/-- a private method of a class that the tables say can be made, by its rows of tables_1 -/
def lw_okq (q : MethodName × Nat) : Prop := (q.1.cls ≠ "java/lang/invoke/MethodHandle" ∧ q.1.cls ≠ "java/lang/invoke/VarHandle") ∧ Cond.instantiable q.1.cls q.2 ∈ tables_1 ∧ Cond.privateMethod q.1 ∈ tables_1 ∧ Cond.instanceMethod q.1 ∈ tables_1
theorem lw_p0 : lw_okq (⟨"PileHeirs", "newPile", "(IIII)LPileHeirs$Plain;"⟩, 4) := ⟨⟨by decide +kernel, by decide +kernel⟩, List.mem_of_getElem? (i := 20) (by decide +kernel), List.mem_of_getElem? (i := 107) (by decide +kernel), List.mem_of_getElem? (i := 108) (by decide +kernel)⟩
theorem lw_p1 : lw_okq (⟨"PileHeirs", "pileOf", "(I)LPileHeirs$Plain;"⟩, 4) := ⟨⟨by decide +kernel, by decide +kernel⟩, List.mem_of_getElem? (i := 20) (by decide +kernel), List.mem_of_getElem? (i := 264) (by decide +kernel), List.mem_of_getElem? (i := 265) (by decide +kernel)⟩
theorem lw_p2 : lw_okq (⟨"PileHeirs$Sorted", "sinkTopmost", "(I)V"⟩, 7) := ⟨⟨by decide +kernel, by decide +kernel⟩, List.mem_of_getElem? (i := 166) (by decide +kernel), List.mem_of_getElem? (i := 464) (by decide +kernel), List.mem_of_getElem? (i := 465) (by decide +kernel)⟩
theorem lw_p3 : lw_okq (⟨"java/lang/NullPointerException", "getExtendedNPEMessage", "()Ljava/lang/String;"⟩, 8) := ⟨⟨by decide +kernel, by decide +kernel⟩, List.mem_of_getElem? (i := 603) (by decide +kernel), List.mem_of_getElem? (i := 601) (by decide +kernel), List.mem_of_getElem? (i := 602) (by decide +kernel)⟩
theorem lw_p4 : lw_okq (⟨"java/lang/Throwable", "fillInStackTrace", "(I)Ljava/lang/Throwable;"⟩, 6) := ⟨⟨by decide +kernel, by decide +kernel⟩, List.mem_of_getElem? (i := 612) (by decide +kernel), List.mem_of_getElem? (i := 610) (by decide +kernel), List.mem_of_getElem? (i := 611) (by decide +kernel)⟩
theorem lw_p5 : lw_okq (⟨"PileHeirsModel", "isPile", "(I)Z"⟩, 17) := ⟨⟨by decide +kernel, by decide +kernel⟩, List.mem_of_getElem? (i := 681) (by decide +kernel), List.mem_of_getElem? (i := 758) (by decide +kernel), List.mem_of_getElem? (i := 759) (by decide +kernel)⟩
theorem lw_p6 : lw_okq (⟨"PileHeirsModel", "isTimber", "(I)Z"⟩, 17) := ⟨⟨by decide +kernel, by decide +kernel⟩, List.mem_of_getElem? (i := 681) (by decide +kernel), List.mem_of_getElem? (i := 762) (by decide +kernel), List.mem_of_getElem? (i := 763) (by decide +kernel)⟩
theorem lw_p7 : lw_okq (⟨"PileHeirsModel", "putOf", "(II)Z"⟩, 17) := ⟨⟨by decide +kernel, by decide +kernel⟩, List.mem_of_getElem? (i := 681) (by decide +kernel), List.mem_of_getElem? (i := 766) (by decide +kernel), List.mem_of_getElem? (i := 767) (by decide +kernel)⟩
theorem lw_p8 : lw_okq (⟨"PileHeirsModel", "rule", "(II)V"⟩, 17) := ⟨⟨by decide +kernel, by decide +kernel⟩, List.mem_of_getElem? (i := 681) (by decide +kernel), List.mem_of_getElem? (i := 770) (by decide +kernel), List.mem_of_getElem? (i := 771) (by decide +kernel)⟩
theorem lw_p9 : lw_okq (⟨"PileHeirsModel", "loadOf", "(I)I"⟩, 17) := ⟨⟨by decide +kernel, by decide +kernel⟩, List.mem_of_getElem? (i := 681) (by decide +kernel), List.mem_of_getElem? (i := 774) (by decide +kernel), List.mem_of_getElem? (i := 775) (by decide +kernel)⟩
theorem lw_p10 : lw_okq (⟨"PileHeirsModel", "putPlain", "(II)Z"⟩, 17) := ⟨⟨by decide +kernel, by decide +kernel⟩, List.mem_of_getElem? (i := 681) (by decide +kernel), List.mem_of_getElem? (i := 778) (by decide +kernel), List.mem_of_getElem? (i := 779) (by decide +kernel)⟩
theorem lw_p11 : lw_okq (⟨"PileHeirsModel", "putSorted", "(II)Z"⟩, 17) := ⟨⟨by decide +kernel, by decide +kernel⟩, List.mem_of_getElem? (i := 681) (by decide +kernel), List.mem_of_getElem? (i := 782) (by decide +kernel), List.mem_of_getElem? (i := 783) (by decide +kernel)⟩
theorem lw_p12 : lw_okq (⟨"PileHeirsModel", "takeOf", "(I)I"⟩, 17) := ⟨⟨by decide +kernel, by decide +kernel⟩, List.mem_of_getElem? (i := 681) (by decide +kernel), List.mem_of_getElem? (i := 790) (by decide +kernel), List.mem_of_getElem? (i := 791) (by decide +kernel)⟩
theorem lw_p13 : lw_okq (⟨"PileHeirsModel", "takePlain", "(I)I"⟩, 17) := ⟨⟨by decide +kernel, by decide +kernel⟩, List.mem_of_getElem? (i := 681) (by decide +kernel), List.mem_of_getElem? (i := 794) (by decide +kernel), List.mem_of_getElem? (i := 795) (by decide +kernel)⟩
theorem lw_p14 : lw_okq (⟨"PileHeirsModel", "lowest", "(II)I"⟩, 17) := ⟨⟨by decide +kernel, by decide +kernel⟩, List.mem_of_getElem? (i := 681) (by decide +kernel), List.mem_of_getElem? (i := 806) (by decide +kernel), List.mem_of_getElem? (i := 807) (by decide +kernel)⟩
theorem lw_p15 : lw_okq (⟨"PileHeirsModel", "freeOf", "(I)I"⟩, 17) := ⟨⟨by decide +kernel, by decide +kernel⟩, List.mem_of_getElem? (i := 681) (by decide +kernel), List.mem_of_getElem? (i := 814) (by decide +kernel), List.mem_of_getElem? (i := 815) (by decide +kernel)⟩
def lw_privs_1 : List (MethodName × Nat) := [(⟨"PileHeirs", "newPile", "(IIII)LPileHeirs$Plain;"⟩, 4), (⟨"PileHeirs", "pileOf", "(I)LPileHeirs$Plain;"⟩, 4), (⟨"PileHeirs$Sorted", "sinkTopmost", "(I)V"⟩, 7), (⟨"java/lang/NullPointerException", "getExtendedNPEMessage", "()Ljava/lang/String;"⟩, 8), (⟨"java/lang/Throwable", "fillInStackTrace", "(I)Ljava/lang/Throwable;"⟩, 6), (⟨"PileHeirsModel", "isPile", "(I)Z"⟩, 17), (⟨"PileHeirsModel", "isTimber", "(I)Z"⟩, 17), (⟨"PileHeirsModel", "putOf", "(II)Z"⟩, 17), (⟨"PileHeirsModel", "rule", "(II)V"⟩, 17), (⟨"PileHeirsModel", "loadOf", "(I)I"⟩, 17), (⟨"PileHeirsModel", "putPlain", "(II)Z"⟩, 17), (⟨"PileHeirsModel", "putSorted", "(II)Z"⟩, 17), (⟨"PileHeirsModel", "takeOf", "(I)I"⟩, 17), (⟨"PileHeirsModel", "takePlain", "(I)I"⟩, 17), (⟨"PileHeirsModel", "lowest", "(II)I"⟩, 17), (⟨"PileHeirsModel", "freeOf", "(I)I"⟩, 17)]
theorem lw_r1 : ∀ q ∈ lw_privs_1, lw_okq q := List.forall_mem_cons.mpr ⟨lw_p0, List.forall_mem_cons.mpr ⟨lw_p1, List.forall_mem_cons.mpr ⟨lw_p2, List.forall_mem_cons.mpr ⟨lw_p3, List.forall_mem_cons.mpr ⟨lw_p4, List.forall_mem_cons.mpr ⟨lw_p5, List.forall_mem_cons.mpr ⟨lw_p6, List.forall_mem_cons.mpr ⟨lw_p7, List.forall_mem_cons.mpr ⟨lw_p8, List.forall_mem_cons.mpr ⟨lw_p9, List.forall_mem_cons.mpr ⟨lw_p10, List.forall_mem_cons.mpr ⟨lw_p11, List.forall_mem_cons.mpr ⟨lw_p12, List.forall_mem_cons.mpr ⟨lw_p13, List.forall_mem_cons.mpr ⟨lw_p14, List.forall_mem_cons.mpr ⟨lw_p15, fun _ h => absurd h List.not_mem_nil⟩⟩⟩⟩⟩⟩⟩⟩⟩⟩⟩⟩⟩⟩⟩⟩
theorem lw_p16 : lw_okq (⟨"PileHeirsModel", "freeStrict", "(I)I"⟩, 17) := ⟨⟨by decide +kernel, by decide +kernel⟩, List.mem_of_getElem? (i := 681) (by decide +kernel), List.mem_of_getElem? (i := 818) (by decide +kernel), List.mem_of_getElem? (i := 819) (by decide +kernel)⟩
def lw_privs_2 : List (MethodName × Nat) := [(⟨"PileHeirsModel", "freeStrict", "(I)I"⟩, 17)]
theorem lw_r2 : ∀ q ∈ lw_privs_2, lw_okq q := List.forall_mem_cons.mpr ⟨lw_p16, fun _ h => absurd h List.not_mem_nil⟩
def lw_privs : List (MethodName × Nat) := lw_privs_1 ++ (lw_privs_2)
def lw_tbl : List Cond := k2_sels lw_privs ++ tables_1
theorem lw_privs_ok : ∀ q ∈ lw_privs, lw_okq q := by
  show ∀ q ∈ lw_privs_1 ++ (lw_privs_2), lw_okq q
  exact List.forall_mem_append.mpr ⟨lw_r1, lw_r2⟩
/-- the good words of the tables: every contract's words are its own code and these -/
def lwx_y : MethodName := ⟨"PileHeirs$Sorted", "sinkTopmost", "(I)V"⟩
/-- two words more: a private method is selected on a subclass's object too (proved of every start in lwx_ok) -/
def lwx : List Cond := [.selects "PileHeirs$Drying" lwx_y lwx_y, .selects "PileHeirs$Open" lwx_y lwx_y]
def lw_tblx : List Cond := lwx ++ lw_tbl
theorem lwx_sel {args : Array Value} {s : State} {C : String} {y : MethodName} {n n' : Nat} (hy : y.cls ≠ "java/lang/invoke/MethodHandle" ∧ y.cls ≠ "java/lang/invoke/VarHandle") (hC : (Cond.instantiable C n).before args s = true) (hins : (Cond.instantiable y.cls n').before args s = true)
    (hpriv : (Cond.privateMethod y).before args s = true) (hinst : (Cond.instanceMethod y).before args s = true) : (Cond.selects C y y).before args s = true := by
  obtain ⟨cC, kC, hcC, hkC, -, -, -, -⟩ := Cond.instantiable_spec hC
  obtain ⟨c, k, hc, hk, -, hniab, -, -⟩ := Cond.instantiable_spec hins
  have hni : k.isInterface = false := (Bool.or_eq_false_iff.mp hniab).1
  obtain ⟨mk, methM, hnamed, hmethM, -, -⟩ := Cond.instanceMethod_spec hinst
  have hfound : s.methodFound? y.cls y.name y.desc = some mk := State.methodFound?_of_named hnamed hy
  have hcls : mk.cls = c := Option.some.inj ((findClass_of_methodNamed hnamed).symm.trans hc)
  have hsel : selectMethod {} s.vm cC mk = .method mk := selectMethod_private hmethM (Cond.privateMethod_at hpriv mk methM hnamed hmethM)
  simp only [Cond.before, Cond.holds, Cond.value, hcC, hfound, hnamed, hsel, hcls, hk]
  simp; exact hni
theorem lwx_ok {args : Array Value} {s : State} (hts : ∀ w ∈ lw_tbl, w.before args s = true) : ∀ w ∈ lw_tblx, w.before args s = true := by
  intro w hw
  rcases List.mem_append.mp hw with h | h
  · rcases List.mem_cons.mp h with e | h
    · rw [e]; exact lwx_sel (n := 7) (n' := 7) (by decide) (hts _ (List.mem_of_getElem? (i := 211) (by decide +kernel))) (hts _ (List.mem_of_getElem? (i := 183) (by decide +kernel))) (hts _ (List.mem_of_getElem? (i := 481) (by decide +kernel))) (hts _ (List.mem_of_getElem? (i := 482) (by decide +kernel)))
    · rcases List.mem_cons.mp h with e | h
      · rw [e]; exact lwx_sel (n := 7) (n' := 7) (by decide) (hts _ (List.mem_of_getElem? (i := 239) (by decide +kernel))) (hts _ (List.mem_of_getElem? (i := 183) (by decide +kernel))) (hts _ (List.mem_of_getElem? (i := 481) (by decide +kernel))) (hts _ (List.mem_of_getElem? (i := 482) (by decide +kernel)))
      · exact absurd h List.not_mem_nil
  · exact hts w h
def GW : List Cond := lw_tblx.filter goodWord
theorem gw_of {i : Nat} {w : Cond} (h : lw_tblx[i]? = some w) (hg : goodWord w = true) : w ∈ GW := List.mem_filter.mpr ⟨List.mem_of_getElem? h, hg⟩
theorem gw_in : ∀ w ∈ GW, w ∈ lw_tblx := fun w h => (List.mem_filter.mp h).1
theorem gw_good : ∀ w ∈ GW, goodWord w = true := fun w h => (List.mem_filter.mp h).2
theorem gx_0 : (.selects "PileHeirs$Drying" lwx_y lwx_y : Cond) ∈ GW := gw_of (i := 0) (by decide +kernel) rfl
theorem gx_1 : (.selects "PileHeirs$Open" lwx_y lwx_y : Cond) ∈ GW := gw_of (i := 1) (by decide +kernel) rfl
theorem gp_0 : (.selects "PileHeirs" ⟨"PileHeirs", "newPile", "(IIII)LPileHeirs$Plain;"⟩ ⟨"PileHeirs", "newPile", "(IIII)LPileHeirs$Plain;"⟩ : Cond) ∈ GW := gw_of (i := 2) (by decide +kernel) rfl
theorem gp_1 : (.selects "PileHeirs" ⟨"PileHeirs", "pileOf", "(I)LPileHeirs$Plain;"⟩ ⟨"PileHeirs", "pileOf", "(I)LPileHeirs$Plain;"⟩ : Cond) ∈ GW := gw_of (i := 3) (by decide +kernel) rfl
theorem gp_2 : (.selects "PileHeirs$Sorted" ⟨"PileHeirs$Sorted", "sinkTopmost", "(I)V"⟩ ⟨"PileHeirs$Sorted", "sinkTopmost", "(I)V"⟩ : Cond) ∈ GW := gw_of (i := 4) (by decide +kernel) rfl
theorem gp_3 : (.selects "java/lang/NullPointerException" ⟨"java/lang/NullPointerException", "getExtendedNPEMessage", "()Ljava/lang/String;"⟩ ⟨"java/lang/NullPointerException", "getExtendedNPEMessage", "()Ljava/lang/String;"⟩ : Cond) ∈ GW := gw_of (i := 5) (by decide +kernel) rfl
theorem gp_4 : (.selects "java/lang/Throwable" ⟨"java/lang/Throwable", "fillInStackTrace", "(I)Ljava/lang/Throwable;"⟩ ⟨"java/lang/Throwable", "fillInStackTrace", "(I)Ljava/lang/Throwable;"⟩ : Cond) ∈ GW := gw_of (i := 6) (by decide +kernel) rfl
theorem gp_5 : (.selects "PileHeirsModel" ⟨"PileHeirsModel", "isPile", "(I)Z"⟩ ⟨"PileHeirsModel", "isPile", "(I)Z"⟩ : Cond) ∈ GW := gw_of (i := 7) (by decide +kernel) rfl
theorem gp_6 : (.selects "PileHeirsModel" ⟨"PileHeirsModel", "isTimber", "(I)Z"⟩ ⟨"PileHeirsModel", "isTimber", "(I)Z"⟩ : Cond) ∈ GW := gw_of (i := 8) (by decide +kernel) rfl
theorem gp_7 : (.selects "PileHeirsModel" ⟨"PileHeirsModel", "putOf", "(II)Z"⟩ ⟨"PileHeirsModel", "putOf", "(II)Z"⟩ : Cond) ∈ GW := gw_of (i := 9) (by decide +kernel) rfl
theorem gp_8 : (.selects "PileHeirsModel" ⟨"PileHeirsModel", "rule", "(II)V"⟩ ⟨"PileHeirsModel", "rule", "(II)V"⟩ : Cond) ∈ GW := gw_of (i := 10) (by decide +kernel) rfl
theorem gp_9 : (.selects "PileHeirsModel" ⟨"PileHeirsModel", "loadOf", "(I)I"⟩ ⟨"PileHeirsModel", "loadOf", "(I)I"⟩ : Cond) ∈ GW := gw_of (i := 11) (by decide +kernel) rfl
theorem gp_10 : (.selects "PileHeirsModel" ⟨"PileHeirsModel", "putPlain", "(II)Z"⟩ ⟨"PileHeirsModel", "putPlain", "(II)Z"⟩ : Cond) ∈ GW := gw_of (i := 12) (by decide +kernel) rfl
theorem gp_11 : (.selects "PileHeirsModel" ⟨"PileHeirsModel", "putSorted", "(II)Z"⟩ ⟨"PileHeirsModel", "putSorted", "(II)Z"⟩ : Cond) ∈ GW := gw_of (i := 13) (by decide +kernel) rfl
theorem gp_12 : (.selects "PileHeirsModel" ⟨"PileHeirsModel", "takeOf", "(I)I"⟩ ⟨"PileHeirsModel", "takeOf", "(I)I"⟩ : Cond) ∈ GW := gw_of (i := 14) (by decide +kernel) rfl
theorem gp_13 : (.selects "PileHeirsModel" ⟨"PileHeirsModel", "takePlain", "(I)I"⟩ ⟨"PileHeirsModel", "takePlain", "(I)I"⟩ : Cond) ∈ GW := gw_of (i := 15) (by decide +kernel) rfl
theorem gp_14 : (.selects "PileHeirsModel" ⟨"PileHeirsModel", "lowest", "(II)I"⟩ ⟨"PileHeirsModel", "lowest", "(II)I"⟩ : Cond) ∈ GW := gw_of (i := 16) (by decide +kernel) rfl
theorem gp_15 : (.selects "PileHeirsModel" ⟨"PileHeirsModel", "freeOf", "(I)I"⟩ ⟨"PileHeirsModel", "freeOf", "(I)I"⟩ : Cond) ∈ GW := gw_of (i := 17) (by decide +kernel) rfl
theorem gp_16 : (.selects "PileHeirsModel" ⟨"PileHeirsModel", "freeStrict", "(I)I"⟩ ⟨"PileHeirsModel", "freeStrict", "(I)I"⟩ : Cond) ∈ GW := gw_of (i := 18) (by decide +kernel) rfl
theorem g_0 : (.initialized "PileHeirsLaw" : Cond) ∈ GW := gw_of (i := 19) (by decide +kernel) rfl
theorem g_1 : (.initialized "PileHeirs" : Cond) ∈ GW := gw_of (i := 20) (by decide +kernel) rfl
theorem g_2 : (.initialized "PileHeirs$Timbers" : Cond) ∈ GW := gw_of (i := 21) (by decide +kernel) rfl
theorem g_3 : (.initialized "PileHeirs$Trace" : Cond) ∈ GW := gw_of (i := 22) (by decide +kernel) rfl
theorem g_4 : (.initialized "PileHeirsModel" : Cond) ∈ GW := gw_of (i := 23) (by decide +kernel) rfl
theorem g_5 : (.initialized "PileHeirs$Plain" : Cond) ∈ GW := gw_of (i := 24) (by decide +kernel) rfl
theorem g_6 : (.initialized "PileHeirs$Marked" : Cond) ∈ GW := gw_of (i := 25) (by decide +kernel) rfl
theorem g_7 : (.initialized "PileHeirs$Sorted" : Cond) ∈ GW := gw_of (i := 26) (by decide +kernel) rfl
theorem g_8 : (.initialized "PileHeirs$Strict" : Cond) ∈ GW := gw_of (i := 27) (by decide +kernel) rfl
theorem g_9 : (.initialized "PileHeirs$Drying" : Cond) ∈ GW := gw_of (i := 28) (by decide +kernel) rfl
theorem g_10 : (.initialized "PileHeirs$Twofold" : Cond) ∈ GW := gw_of (i := 29) (by decide +kernel) rfl
theorem g_11 : (.initialized "PileHeirs$Open" : Cond) ∈ GW := gw_of (i := 30) (by decide +kernel) rfl
theorem g_12 : (.initialized "PileHeirs$Lean" : Cond) ∈ GW := gw_of (i := 31) (by decide +kernel) rfl
theorem g_13 : (.initialized "java/lang/Math" : Cond) ∈ GW := gw_of (i := 32) (by decide +kernel) rfl
theorem g_14 : (.initialized "java/lang/Throwable" : Cond) ∈ GW := gw_of (i := 33) (by decide +kernel) rfl
theorem g_15 : (.initialized "java/lang/Exception" : Cond) ∈ GW := gw_of (i := 34) (by decide +kernel) rfl
theorem g_16 : (.initialized "java/lang/RuntimeException" : Cond) ∈ GW := gw_of (i := 35) (by decide +kernel) rfl
theorem g_17 : (.initialized "java/lang/UnsupportedOperationException" : Cond) ∈ GW := gw_of (i := 36) (by decide +kernel) rfl
theorem g_18 : (.initialized "java/lang/NullPointerException" : Cond) ∈ GW := gw_of (i := 37) (by decide +kernel) rfl
theorem g_19 : (.classLink "PileHeirsLaw" 8 "PileHeirs" : Cond) ∈ GW := gw_of (i := 38) (by decide +kernel) rfl
theorem g_20 : (.instantiable "PileHeirs" 4 : Cond) ∈ GW := gw_of (i := 39) (by decide +kernel) rfl
theorem g_21 : (.methodLink "PileHeirsLaw" 21 ({ cls := "PileHeirs", name := "<init>", desc := "()V" } : Jvm.MethodName) : Cond) ∈ GW := gw_of (i := 40) (by decide +kernel) rfl
theorem g_22 : (.instanceMethod ({ cls := "PileHeirs", name := "<init>", desc := "()V" } : Jvm.MethodName) : Cond) ∈ GW := gw_of (i := 41) (by decide +kernel) rfl
theorem g_23 : (.code ({ cls := "PileHeirs", name := "<init>", desc := "()V" } : Jvm.MethodName) prog_1_method_1_code 1 (Option.none : Option Jvm.ClassFile.FieldType) : Cond) ∈ GW := gw_of (i := 42) (by decide +kernel) rfl
theorem g_24 : (.methodLink "PileHeirs" 1 ({ cls := "java/lang/Object", name := "<init>", desc := "()V" } : Jvm.MethodName) : Cond) ∈ GW := gw_of (i := 43) (by decide +kernel) rfl
theorem g_25 : (.instanceMethod ({ cls := "java/lang/Object", name := "<init>", desc := "()V" } : Jvm.MethodName) : Cond) ∈ GW := gw_of (i := 44) (by decide +kernel) rfl
theorem g_26 : (.code ({ cls := "java/lang/Object", name := "<init>", desc := "()V" } : Jvm.MethodName) object_method_1_code 1 (Option.none : Option Jvm.ClassFile.FieldType) : Cond) ∈ GW := gw_of (i := 45) (by decide +kernel) rfl
theorem g_27 : (.classLink "PileHeirs" 7 "PileHeirs$Timbers" : Cond) ∈ GW := gw_of (i := 46) (by decide +kernel) rfl
theorem g_28 : (.instantiable "PileHeirs$Timbers" 5 : Cond) ∈ GW := gw_of (i := 47) (by decide +kernel) rfl
theorem g_29 : (.methodLink "PileHeirs" 9 ({ cls := "PileHeirs$Timbers", name := "<init>", desc := "()V" } : Jvm.MethodName) : Cond) ∈ GW := gw_of (i := 48) (by decide +kernel) rfl
theorem g_30 : (.instanceMethod ({ cls := "PileHeirs$Timbers", name := "<init>", desc := "()V" } : Jvm.MethodName) : Cond) ∈ GW := gw_of (i := 49) (by decide +kernel) rfl
theorem g_31 : (.code ({ cls := "PileHeirs$Timbers", name := "<init>", desc := "()V" } : Jvm.MethodName) prog_9_method_1_code 1 (Option.none : Option Jvm.ClassFile.FieldType) : Cond) ∈ GW := gw_of (i := 50) (by decide +kernel) rfl
theorem g_32 : (.methodLink "PileHeirs$Timbers" 3 ({ cls := "java/lang/Object", name := "<init>", desc := "()V" } : Jvm.MethodName) : Cond) ∈ GW := gw_of (i := 51) (by decide +kernel) rfl
theorem g_33 : (.fieldLink "PileHeirs$Timbers" 9 "PileHeirs$Timbers" "lengths" "[I" : Cond) ∈ GW := gw_of (i := 52) (by decide +kernel) rfl
theorem g_34 : (.fieldLink "PileHeirs$Timbers" 15 "PileHeirs$Timbers" "weights" "[I" : Cond) ∈ GW := gw_of (i := 53) (by decide +kernel) rfl
theorem g_35 : (.fieldLink "PileHeirs$Timbers" 18 "PileHeirs$Timbers" "wets" "[Z" : Cond) ∈ GW := gw_of (i := 54) (by decide +kernel) rfl
theorem g_36 : (.fieldLink "PileHeirs$Timbers" 22 "PileHeirs$Timbers" "pileNumbers" "[I" : Cond) ∈ GW := gw_of (i := 55) (by decide +kernel) rfl
theorem g_37 : (.fieldLink "PileHeirs$Timbers" 25 "PileHeirs$Timbers" "size" "I" : Cond) ∈ GW := gw_of (i := 56) (by decide +kernel) rfl
theorem g_38 : (.laysFinal "PileHeirs$Timbers" "PileHeirs$Timbers" "lengths" "[I" : Cond) ∈ GW := gw_of (i := 57) (by decide +kernel) rfl
theorem g_40 : (.laysFinal "PileHeirs$Timbers" "PileHeirs$Timbers" "weights" "[I" : Cond) ∈ GW := gw_of (i := 59) (by decide +kernel) rfl
theorem g_42 : (.laysFinal "PileHeirs$Timbers" "PileHeirs$Timbers" "wets" "[Z" : Cond) ∈ GW := gw_of (i := 61) (by decide +kernel) rfl
theorem g_44 : (.laysFinal "PileHeirs$Timbers" "PileHeirs$Timbers" "pileNumbers" "[I" : Cond) ∈ GW := gw_of (i := 63) (by decide +kernel) rfl
theorem g_46 : (.lays "PileHeirs$Timbers" "PileHeirs$Timbers" "size" "I" : Cond) ∈ GW := gw_of (i := 65) (by decide +kernel) rfl
theorem g_48 : (.superclass "PileHeirs$Timbers" "java/lang/Object" : Cond) ∈ GW := gw_of (i := 67) (by decide +kernel) rfl
theorem g_49 : (.arrayClass Jvm.ClassFile.FieldType.int : Cond) ∈ GW := gw_of (i := 68) (by decide +kernel) rfl
theorem g_50 : (.arrayClass Jvm.ClassFile.FieldType.boolean : Cond) ∈ GW := gw_of (i := 69) (by decide +kernel) rfl
theorem g_51 : (.classLink "PileHeirs" 16 "PileHeirs$Trace" : Cond) ∈ GW := gw_of (i := 70) (by decide +kernel) rfl
theorem g_52 : (.instantiable "PileHeirs$Trace" 6 : Cond) ∈ GW := gw_of (i := 71) (by decide +kernel) rfl
theorem g_53 : (.methodLink "PileHeirs" 18 ({ cls := "PileHeirs$Trace", name := "<init>", desc := "()V" } : Jvm.MethodName) : Cond) ∈ GW := gw_of (i := 72) (by decide +kernel) rfl
theorem g_54 : (.instanceMethod ({ cls := "PileHeirs$Trace", name := "<init>", desc := "()V" } : Jvm.MethodName) : Cond) ∈ GW := gw_of (i := 73) (by decide +kernel) rfl
theorem g_55 : (.code ({ cls := "PileHeirs$Trace", name := "<init>", desc := "()V" } : Jvm.MethodName) prog_10_method_1_code 1 (Option.none : Option Jvm.ClassFile.FieldType) : Cond) ∈ GW := gw_of (i := 74) (by decide +kernel) rfl
theorem g_56 : (.methodLink "PileHeirs$Trace" 3 ({ cls := "java/lang/Object", name := "<init>", desc := "()V" } : Jvm.MethodName) : Cond) ∈ GW := gw_of (i := 75) (by decide +kernel) rfl
theorem g_57 : (.fieldLink "PileHeirs$Trace" 9 "PileHeirs$Trace" "ring" "[I" : Cond) ∈ GW := gw_of (i := 76) (by decide +kernel) rfl
theorem g_58 : (.fieldLink "PileHeirs$Trace" 15 "PileHeirs$Trace" "next" "I" : Cond) ∈ GW := gw_of (i := 77) (by decide +kernel) rfl
theorem g_59 : (.fieldLink "PileHeirs$Trace" 19 "PileHeirs$Trace" "kept" "I" : Cond) ∈ GW := gw_of (i := 78) (by decide +kernel) rfl
theorem g_60 : (.fieldLink "PileHeirs$Trace" 28 "PileHeirs$Trace" "rules" "I" : Cond) ∈ GW := gw_of (i := 79) (by decide +kernel) rfl
theorem g_61 : (.fieldLink "PileHeirs$Trace" 31 "PileHeirs$Trace" "heavies" "I" : Cond) ∈ GW := gw_of (i := 80) (by decide +kernel) rfl
theorem g_62 : (.fieldLink "PileHeirs$Trace" 34 "PileHeirs$Trace" "nothings" "I" : Cond) ∈ GW := gw_of (i := 81) (by decide +kernel) rfl
theorem g_63 : (.laysFinal "PileHeirs$Trace" "PileHeirs$Trace" "ring" "[I" : Cond) ∈ GW := gw_of (i := 82) (by decide +kernel) rfl
theorem g_65 : (.lays "PileHeirs$Trace" "PileHeirs$Trace" "next" "I" : Cond) ∈ GW := gw_of (i := 84) (by decide +kernel) rfl
theorem g_67 : (.lays "PileHeirs$Trace" "PileHeirs$Trace" "kept" "I" : Cond) ∈ GW := gw_of (i := 86) (by decide +kernel) rfl
theorem g_69 : (.lays "PileHeirs$Trace" "PileHeirs$Trace" "rules" "I" : Cond) ∈ GW := gw_of (i := 88) (by decide +kernel) rfl
theorem g_71 : (.lays "PileHeirs$Trace" "PileHeirs$Trace" "heavies" "I" : Cond) ∈ GW := gw_of (i := 90) (by decide +kernel) rfl
theorem g_73 : (.lays "PileHeirs$Trace" "PileHeirs$Trace" "nothings" "I" : Cond) ∈ GW := gw_of (i := 92) (by decide +kernel) rfl
theorem g_75 : (.superclass "PileHeirs$Trace" "java/lang/Object" : Cond) ∈ GW := gw_of (i := 94) (by decide +kernel) rfl
theorem g_76 : (.classLink "PileHeirs" 23 "PileHeirs$Plain" : Cond) ∈ GW := gw_of (i := 95) (by decide +kernel) rfl
theorem g_78 : (.fieldLink "PileHeirs" 10 "PileHeirs" "timbers" "LPileHeirs$Timbers;" : Cond) ∈ GW := gw_of (i := 97) (by decide +kernel) rfl
theorem g_79 : (.fieldLink "PileHeirs" 19 "PileHeirs" "done" "LPileHeirs$Trace;" : Cond) ∈ GW := gw_of (i := 98) (by decide +kernel) rfl
theorem g_80 : (.fieldLink "PileHeirs" 25 "PileHeirs" "piles" "[LPileHeirs$Plain;" : Cond) ∈ GW := gw_of (i := 99) (by decide +kernel) rfl
theorem g_81 : (.fieldLink "PileHeirs" 37 "PileHeirs" "pileCount" "I" : Cond) ∈ GW := gw_of (i := 100) (by decide +kernel) rfl
theorem g_82 : (.laysFinal "PileHeirs" "PileHeirs" "timbers" "LPileHeirs$Timbers;" : Cond) ∈ GW := gw_of (i := 101) (by decide +kernel) rfl
theorem g_84 : (.laysFinal "PileHeirs" "PileHeirs" "done" "LPileHeirs$Trace;" : Cond) ∈ GW := gw_of (i := 103) (by decide +kernel) rfl
theorem g_86 : (.laysFinal "PileHeirs" "PileHeirs" "piles" "[LPileHeirs$Plain;" : Cond) ∈ GW := gw_of (i := 105) (by decide +kernel) rfl
theorem g_88 : (.lays "PileHeirs" "PileHeirs" "pileCount" "I" : Cond) ∈ GW := gw_of (i := 107) (by decide +kernel) rfl
theorem g_90 : (.superclass "PileHeirs" "java/lang/Object" : Cond) ∈ GW := gw_of (i := 109) (by decide +kernel) rfl
theorem g_91 : (.methodLink "PileHeirsLaw" 25 ({ cls := "PileHeirs", name := "timber", desc := "(IIZ)I" } : Jvm.MethodName) : Cond) ∈ GW := gw_of (i := 110) (by decide +kernel) rfl
theorem g_92 : (.instanceMethod ({ cls := "PileHeirs", name := "timber", desc := "(IIZ)I" } : Jvm.MethodName) : Cond) ∈ GW := gw_of (i := 111) (by decide +kernel) rfl
theorem g_93 : (.selects "PileHeirs" ({ cls := "PileHeirs", name := "timber", desc := "(IIZ)I" } : Jvm.MethodName) ({ cls := "PileHeirs", name := "timber", desc := "(IIZ)I" } : Jvm.MethodName) : Cond) ∈ GW := gw_of (i := 112) (by decide +kernel) rfl
theorem g_94 : (.code ({ cls := "PileHeirs", name := "timber", desc := "(IIZ)I" } : Jvm.MethodName) prog_1_method_2_code 4 (Option.some Jvm.ClassFile.FieldType.int) : Cond) ∈ GW := gw_of (i := 113) (by decide +kernel) rfl
theorem g_95 : (.methodLink "PileHeirs" 29 ({ cls := "PileHeirs", name := "isOutside", desc := "(III)Z" } : Jvm.MethodName) : Cond) ∈ GW := gw_of (i := 114) (by decide +kernel) rfl
theorem g_96 : (.static ({ cls := "PileHeirs", name := "isOutside", desc := "(III)Z" } : Jvm.MethodName) : Cond) ∈ GW := gw_of (i := 115) (by decide +kernel) rfl
theorem g_97 : (.code ({ cls := "PileHeirs", name := "isOutside", desc := "(III)Z" } : Jvm.MethodName) prog_1_method_15_code 3 (Option.some Jvm.ClassFile.FieldType.boolean) : Cond) ∈ GW := gw_of (i := 116) (by decide +kernel) rfl
theorem g_98 : (.methodLink "PileHeirs" 33 ({ cls := "PileHeirs$Timbers", name := "add", desc := "(IIZ)I" } : Jvm.MethodName) : Cond) ∈ GW := gw_of (i := 117) (by decide +kernel) rfl
theorem g_99 : (.instanceMethod ({ cls := "PileHeirs$Timbers", name := "add", desc := "(IIZ)I" } : Jvm.MethodName) : Cond) ∈ GW := gw_of (i := 118) (by decide +kernel) rfl
theorem g_100 : (.selects "PileHeirs$Timbers" ({ cls := "PileHeirs$Timbers", name := "add", desc := "(IIZ)I" } : Jvm.MethodName) ({ cls := "PileHeirs$Timbers", name := "add", desc := "(IIZ)I" } : Jvm.MethodName) : Cond) ∈ GW := gw_of (i := 119) (by decide +kernel) rfl
theorem g_101 : (.code ({ cls := "PileHeirs$Timbers", name := "add", desc := "(IIZ)I" } : Jvm.MethodName) prog_9_method_2_code 5 (Option.some Jvm.ClassFile.FieldType.int) : Cond) ∈ GW := gw_of (i := 120) (by decide +kernel) rfl
theorem g_102 : (.methodLink "PileHeirsLaw" 30 ({ cls := "PileHeirs", name := "pile", desc := "(III)I" } : Jvm.MethodName) : Cond) ∈ GW := gw_of (i := 121) (by decide +kernel) rfl
theorem g_103 : (.instanceMethod ({ cls := "PileHeirs", name := "pile", desc := "(III)I" } : Jvm.MethodName) : Cond) ∈ GW := gw_of (i := 122) (by decide +kernel) rfl
theorem g_104 : (.selects "PileHeirs" ({ cls := "PileHeirs", name := "pile", desc := "(III)I" } : Jvm.MethodName) ({ cls := "PileHeirs", name := "pile", desc := "(III)I" } : Jvm.MethodName) : Cond) ∈ GW := gw_of (i := 123) (by decide +kernel) rfl
theorem g_105 : (.code ({ cls := "PileHeirs", name := "pile", desc := "(III)I" } : Jvm.MethodName) prog_1_method_3_code 5 (Option.some Jvm.ClassFile.FieldType.int) : Cond) ∈ GW := gw_of (i := 124) (by decide +kernel) rfl
theorem g_106 : (.methodLink "PileHeirs" 41 ({ cls := "PileHeirs", name := "newPile", desc := "(IIII)LPileHeirs$Plain;" } : Jvm.MethodName) : Cond) ∈ GW := gw_of (i := 125) (by decide +kernel) rfl
theorem g_108 : (.instanceMethod ({ cls := "PileHeirs", name := "newPile", desc := "(IIII)LPileHeirs$Plain;" } : Jvm.MethodName) : Cond) ∈ GW := gw_of (i := 127) (by decide +kernel) rfl
theorem g_109 : (.code ({ cls := "PileHeirs", name := "newPile", desc := "(IIII)LPileHeirs$Plain;" } : Jvm.MethodName) prog_1_method_17_code 5 (Option.some (Jvm.ClassFile.FieldType.object "PileHeirs$Plain")) : Cond) ∈ GW := gw_of (i := 128) (by decide +kernel) rfl
theorem g_110 : (.classLink "PileHeirs" 115 "PileHeirs$Marked" : Cond) ∈ GW := gw_of (i := 129) (by decide +kernel) rfl
theorem g_111 : (.instantiable "PileHeirs$Marked" 7 : Cond) ∈ GW := gw_of (i := 130) (by decide +kernel) rfl
theorem g_112 : (.methodLink "PileHeirs" 117 ({ cls := "PileHeirs$Marked", name := "<init>", desc := "(LPileHeirs$Timbers;LPileHeirs$Trace;III)V" } : Jvm.MethodName) : Cond) ∈ GW := gw_of (i := 131) (by decide +kernel) rfl
theorem g_113 : (.instanceMethod ({ cls := "PileHeirs$Marked", name := "<init>", desc := "(LPileHeirs$Timbers;LPileHeirs$Trace;III)V" } : Jvm.MethodName) : Cond) ∈ GW := gw_of (i := 132) (by decide +kernel) rfl
theorem g_114 : (.code ({ cls := "PileHeirs$Marked", name := "<init>", desc := "(LPileHeirs$Timbers;LPileHeirs$Trace;III)V" } : Jvm.MethodName) prog_4_method_1_code 6 (Option.none : Option Jvm.ClassFile.FieldType) : Cond) ∈ GW := gw_of (i := 133) (by decide +kernel) rfl
theorem g_115 : (.methodLink "PileHeirs$Marked" 1 ({ cls := "PileHeirs$Plain", name := "<init>", desc := "(LPileHeirs$Timbers;LPileHeirs$Trace;III)V" } : Jvm.MethodName) : Cond) ∈ GW := gw_of (i := 134) (by decide +kernel) rfl
theorem g_116 : (.instanceMethod ({ cls := "PileHeirs$Plain", name := "<init>", desc := "(LPileHeirs$Timbers;LPileHeirs$Trace;III)V" } : Jvm.MethodName) : Cond) ∈ GW := gw_of (i := 135) (by decide +kernel) rfl
theorem g_117 : (.code ({ cls := "PileHeirs$Plain", name := "<init>", desc := "(LPileHeirs$Timbers;LPileHeirs$Trace;III)V" } : Jvm.MethodName) prog_6_method_1_code 6 (Option.none : Option Jvm.ClassFile.FieldType) : Cond) ∈ GW := gw_of (i := 136) (by decide +kernel) rfl
theorem g_118 : (.methodLink "PileHeirs$Plain" 3 ({ cls := "java/lang/Object", name := "<init>", desc := "()V" } : Jvm.MethodName) : Cond) ∈ GW := gw_of (i := 137) (by decide +kernel) rfl
theorem g_119 : (.fieldLink "PileHeirs$Plain" 9 "PileHeirs$Plain" "timbers" "LPileHeirs$Timbers;" : Cond) ∈ GW := gw_of (i := 138) (by decide +kernel) rfl
theorem g_120 : (.fieldLink "PileHeirs$Open" 21 "PileHeirs$Open" "timbers" "LPileHeirs$Timbers;" : Cond) ∈ GW := gw_of (i := 139) (by decide +kernel) rfl
theorem g_121 : (.sameField "PileHeirs$Open" "PileHeirs$Plain" "timbers" "LPileHeirs$Timbers;" : Cond) ∈ GW := gw_of (i := 140) (by decide +kernel) rfl
theorem g_122 : (.fieldLink "PileHeirs$Strict" 25 "PileHeirs$Strict" "timbers" "LPileHeirs$Timbers;" : Cond) ∈ GW := gw_of (i := 141) (by decide +kernel) rfl
theorem g_123 : (.sameField "PileHeirs$Strict" "PileHeirs$Plain" "timbers" "LPileHeirs$Timbers;" : Cond) ∈ GW := gw_of (i := 142) (by decide +kernel) rfl
theorem g_124 : (.fieldLink "PileHeirs$Sorted" 25 "PileHeirs$Sorted" "timbers" "LPileHeirs$Timbers;" : Cond) ∈ GW := gw_of (i := 143) (by decide +kernel) rfl
theorem g_125 : (.sameField "PileHeirs$Sorted" "PileHeirs$Plain" "timbers" "LPileHeirs$Timbers;" : Cond) ∈ GW := gw_of (i := 144) (by decide +kernel) rfl
theorem g_126 : (.fieldLink "PileHeirs$Drying" 29 "PileHeirs$Drying" "timbers" "LPileHeirs$Timbers;" : Cond) ∈ GW := gw_of (i := 145) (by decide +kernel) rfl
theorem g_127 : (.sameField "PileHeirs$Drying" "PileHeirs$Plain" "timbers" "LPileHeirs$Timbers;" : Cond) ∈ GW := gw_of (i := 146) (by decide +kernel) rfl
theorem g_128 : (.fieldLink "PileHeirs$Lean" 29 "PileHeirs$Lean" "timbers" "LPileHeirs$Timbers;" : Cond) ∈ GW := gw_of (i := 147) (by decide +kernel) rfl
theorem g_129 : (.sameField "PileHeirs$Lean" "PileHeirs$Plain" "timbers" "LPileHeirs$Timbers;" : Cond) ∈ GW := gw_of (i := 148) (by decide +kernel) rfl
theorem g_130 : (.fieldLink "PileHeirs$Plain" 15 "PileHeirs$Plain" "done" "LPileHeirs$Trace;" : Cond) ∈ GW := gw_of (i := 149) (by decide +kernel) rfl
theorem g_131 : (.fieldLink "PileHeirs$Sorted" 9 "PileHeirs$Sorted" "done" "LPileHeirs$Trace;" : Cond) ∈ GW := gw_of (i := 150) (by decide +kernel) rfl
theorem g_132 : (.sameField "PileHeirs$Sorted" "PileHeirs$Plain" "done" "LPileHeirs$Trace;" : Cond) ∈ GW := gw_of (i := 151) (by decide +kernel) rfl
theorem g_133 : (.fieldLink "PileHeirs$Strict" 9 "PileHeirs$Strict" "done" "LPileHeirs$Trace;" : Cond) ∈ GW := gw_of (i := 152) (by decide +kernel) rfl
theorem g_134 : (.sameField "PileHeirs$Strict" "PileHeirs$Plain" "done" "LPileHeirs$Trace;" : Cond) ∈ GW := gw_of (i := 153) (by decide +kernel) rfl
theorem g_135 : (.fieldLink "PileHeirs$Twofold" 9 "PileHeirs$Twofold" "done" "LPileHeirs$Trace;" : Cond) ∈ GW := gw_of (i := 154) (by decide +kernel) rfl
theorem g_136 : (.sameField "PileHeirs$Twofold" "PileHeirs$Plain" "done" "LPileHeirs$Trace;" : Cond) ∈ GW := gw_of (i := 155) (by decide +kernel) rfl
theorem g_137 : (.fieldLink "PileHeirs$Open" 9 "PileHeirs$Open" "done" "LPileHeirs$Trace;" : Cond) ∈ GW := gw_of (i := 156) (by decide +kernel) rfl
theorem g_138 : (.sameField "PileHeirs$Open" "PileHeirs$Plain" "done" "LPileHeirs$Trace;" : Cond) ∈ GW := gw_of (i := 157) (by decide +kernel) rfl
theorem g_139 : (.fieldLink "PileHeirs$Drying" 9 "PileHeirs$Drying" "done" "LPileHeirs$Trace;" : Cond) ∈ GW := gw_of (i := 158) (by decide +kernel) rfl
theorem g_140 : (.sameField "PileHeirs$Drying" "PileHeirs$Plain" "done" "LPileHeirs$Trace;" : Cond) ∈ GW := gw_of (i := 159) (by decide +kernel) rfl
theorem g_141 : (.fieldLink "PileHeirs$Lean" 9 "PileHeirs$Lean" "done" "LPileHeirs$Trace;" : Cond) ∈ GW := gw_of (i := 160) (by decide +kernel) rfl
theorem g_142 : (.sameField "PileHeirs$Lean" "PileHeirs$Plain" "done" "LPileHeirs$Trace;" : Cond) ∈ GW := gw_of (i := 161) (by decide +kernel) rfl
theorem g_143 : (.fieldLink "PileHeirs$Plain" 19 "PileHeirs$Plain" "number" "I" : Cond) ∈ GW := gw_of (i := 162) (by decide +kernel) rfl
theorem g_144 : (.fieldLink "PileHeirs$Plain" 23 "PileHeirs$Plain" "cap" "I" : Cond) ∈ GW := gw_of (i := 163) (by decide +kernel) rfl
theorem g_145 : (.fieldLink "PileHeirs$Plain" 26 "PileHeirs$Plain" "limit" "I" : Cond) ∈ GW := gw_of (i := 164) (by decide +kernel) rfl
theorem g_146 : (.fieldLink "PileHeirs$Strict" 35 "PileHeirs$Strict" "limit" "I" : Cond) ∈ GW := gw_of (i := 165) (by decide +kernel) rfl
theorem g_147 : (.sameField "PileHeirs$Strict" "PileHeirs$Plain" "limit" "I" : Cond) ∈ GW := gw_of (i := 166) (by decide +kernel) rfl
theorem g_148 : (.fieldLink "PileHeirs$Plain" 29 "PileHeirs$Plain" "row" "[I" : Cond) ∈ GW := gw_of (i := 167) (by decide +kernel) rfl
theorem g_149 : (.fieldLink "PileHeirs$Plain" 39 "PileHeirs$Plain" "height" "I" : Cond) ∈ GW := gw_of (i := 168) (by decide +kernel) rfl
theorem g_150 : (.laysFinal "PileHeirs$Marked" "PileHeirs$Plain" "timbers" "LPileHeirs$Timbers;" : Cond) ∈ GW := gw_of (i := 169) (by decide +kernel) rfl
theorem g_152 : (.laysFinal "PileHeirs$Marked" "PileHeirs$Plain" "done" "LPileHeirs$Trace;" : Cond) ∈ GW := gw_of (i := 171) (by decide +kernel) rfl
theorem g_154 : (.laysFinal "PileHeirs$Marked" "PileHeirs$Plain" "number" "I" : Cond) ∈ GW := gw_of (i := 173) (by decide +kernel) rfl
theorem g_156 : (.laysFinal "PileHeirs$Marked" "PileHeirs$Plain" "cap" "I" : Cond) ∈ GW := gw_of (i := 175) (by decide +kernel) rfl
theorem g_158 : (.laysFinal "PileHeirs$Marked" "PileHeirs$Plain" "limit" "I" : Cond) ∈ GW := gw_of (i := 177) (by decide +kernel) rfl
theorem g_160 : (.laysFinal "PileHeirs$Marked" "PileHeirs$Plain" "row" "[I" : Cond) ∈ GW := gw_of (i := 179) (by decide +kernel) rfl
theorem g_162 : (.lays "PileHeirs$Marked" "PileHeirs$Plain" "height" "I" : Cond) ∈ GW := gw_of (i := 181) (by decide +kernel) rfl
theorem g_164 : (.superclass "PileHeirs$Marked" "PileHeirs$Plain" : Cond) ∈ GW := gw_of (i := 183) (by decide +kernel) rfl
theorem g_165 : (.classLink "PileHeirs" 120 "PileHeirs$Sorted" : Cond) ∈ GW := gw_of (i := 184) (by decide +kernel) rfl
theorem g_166 : (.instantiable "PileHeirs$Sorted" 7 : Cond) ∈ GW := gw_of (i := 185) (by decide +kernel) rfl
theorem g_167 : (.methodLink "PileHeirs" 122 ({ cls := "PileHeirs$Sorted", name := "<init>", desc := "(LPileHeirs$Timbers;LPileHeirs$Trace;III)V" } : Jvm.MethodName) : Cond) ∈ GW := gw_of (i := 186) (by decide +kernel) rfl
theorem g_168 : (.instanceMethod ({ cls := "PileHeirs$Sorted", name := "<init>", desc := "(LPileHeirs$Timbers;LPileHeirs$Trace;III)V" } : Jvm.MethodName) : Cond) ∈ GW := gw_of (i := 187) (by decide +kernel) rfl
theorem g_169 : (.code ({ cls := "PileHeirs$Sorted", name := "<init>", desc := "(LPileHeirs$Timbers;LPileHeirs$Trace;III)V" } : Jvm.MethodName) prog_7_method_1_code 6 (Option.none : Option Jvm.ClassFile.FieldType) : Cond) ∈ GW := gw_of (i := 188) (by decide +kernel) rfl
theorem g_170 : (.methodLink "PileHeirs$Sorted" 3 ({ cls := "PileHeirs$Marked", name := "<init>", desc := "(LPileHeirs$Timbers;LPileHeirs$Trace;III)V" } : Jvm.MethodName) : Cond) ∈ GW := gw_of (i := 189) (by decide +kernel) rfl
theorem g_171 : (.laysFinal "PileHeirs$Sorted" "PileHeirs$Plain" "timbers" "LPileHeirs$Timbers;" : Cond) ∈ GW := gw_of (i := 190) (by decide +kernel) rfl
theorem g_172 : (.laysFinal "PileHeirs$Sorted" "PileHeirs$Plain" "done" "LPileHeirs$Trace;" : Cond) ∈ GW := gw_of (i := 191) (by decide +kernel) rfl
theorem g_173 : (.laysFinal "PileHeirs$Sorted" "PileHeirs$Plain" "number" "I" : Cond) ∈ GW := gw_of (i := 192) (by decide +kernel) rfl
theorem g_174 : (.laysFinal "PileHeirs$Sorted" "PileHeirs$Plain" "cap" "I" : Cond) ∈ GW := gw_of (i := 193) (by decide +kernel) rfl
theorem g_175 : (.laysFinal "PileHeirs$Sorted" "PileHeirs$Plain" "limit" "I" : Cond) ∈ GW := gw_of (i := 194) (by decide +kernel) rfl
theorem g_176 : (.laysFinal "PileHeirs$Sorted" "PileHeirs$Plain" "row" "[I" : Cond) ∈ GW := gw_of (i := 195) (by decide +kernel) rfl
theorem g_177 : (.lays "PileHeirs$Sorted" "PileHeirs$Plain" "height" "I" : Cond) ∈ GW := gw_of (i := 196) (by decide +kernel) rfl
theorem g_178 : (.superclass "PileHeirs$Sorted" "PileHeirs$Marked" : Cond) ∈ GW := gw_of (i := 197) (by decide +kernel) rfl
theorem g_179 : (.classLink "PileHeirs" 123 "PileHeirs$Strict" : Cond) ∈ GW := gw_of (i := 198) (by decide +kernel) rfl
theorem g_180 : (.instantiable "PileHeirs$Strict" 7 : Cond) ∈ GW := gw_of (i := 199) (by decide +kernel) rfl
theorem g_181 : (.methodLink "PileHeirs" 125 ({ cls := "PileHeirs$Strict", name := "<init>", desc := "(LPileHeirs$Timbers;LPileHeirs$Trace;III)V" } : Jvm.MethodName) : Cond) ∈ GW := gw_of (i := 200) (by decide +kernel) rfl
theorem g_182 : (.instanceMethod ({ cls := "PileHeirs$Strict", name := "<init>", desc := "(LPileHeirs$Timbers;LPileHeirs$Trace;III)V" } : Jvm.MethodName) : Cond) ∈ GW := gw_of (i := 201) (by decide +kernel) rfl
theorem g_183 : (.code ({ cls := "PileHeirs$Strict", name := "<init>", desc := "(LPileHeirs$Timbers;LPileHeirs$Trace;III)V" } : Jvm.MethodName) prog_8_method_1_code 6 (Option.none : Option Jvm.ClassFile.FieldType) : Cond) ∈ GW := gw_of (i := 202) (by decide +kernel) rfl
theorem g_184 : (.methodLink "PileHeirs$Strict" 3 ({ cls := "PileHeirs$Marked", name := "<init>", desc := "(LPileHeirs$Timbers;LPileHeirs$Trace;III)V" } : Jvm.MethodName) : Cond) ∈ GW := gw_of (i := 203) (by decide +kernel) rfl
theorem g_185 : (.laysFinal "PileHeirs$Strict" "PileHeirs$Plain" "timbers" "LPileHeirs$Timbers;" : Cond) ∈ GW := gw_of (i := 204) (by decide +kernel) rfl
theorem g_186 : (.laysFinal "PileHeirs$Strict" "PileHeirs$Plain" "done" "LPileHeirs$Trace;" : Cond) ∈ GW := gw_of (i := 205) (by decide +kernel) rfl
theorem g_187 : (.laysFinal "PileHeirs$Strict" "PileHeirs$Plain" "number" "I" : Cond) ∈ GW := gw_of (i := 206) (by decide +kernel) rfl
theorem g_188 : (.laysFinal "PileHeirs$Strict" "PileHeirs$Plain" "cap" "I" : Cond) ∈ GW := gw_of (i := 207) (by decide +kernel) rfl
theorem g_189 : (.laysFinal "PileHeirs$Strict" "PileHeirs$Plain" "limit" "I" : Cond) ∈ GW := gw_of (i := 208) (by decide +kernel) rfl
theorem g_190 : (.laysFinal "PileHeirs$Strict" "PileHeirs$Plain" "row" "[I" : Cond) ∈ GW := gw_of (i := 209) (by decide +kernel) rfl
theorem g_191 : (.lays "PileHeirs$Strict" "PileHeirs$Plain" "height" "I" : Cond) ∈ GW := gw_of (i := 210) (by decide +kernel) rfl
theorem g_192 : (.superclass "PileHeirs$Strict" "PileHeirs$Marked" : Cond) ∈ GW := gw_of (i := 211) (by decide +kernel) rfl
theorem g_193 : (.classLink "PileHeirs" 126 "PileHeirs$Drying" : Cond) ∈ GW := gw_of (i := 212) (by decide +kernel) rfl
theorem g_194 : (.instantiable "PileHeirs$Drying" 7 : Cond) ∈ GW := gw_of (i := 213) (by decide +kernel) rfl
theorem g_195 : (.methodLink "PileHeirs" 128 ({ cls := "PileHeirs$Drying", name := "<init>", desc := "(LPileHeirs$Timbers;LPileHeirs$Trace;III)V" } : Jvm.MethodName) : Cond) ∈ GW := gw_of (i := 214) (by decide +kernel) rfl
theorem g_196 : (.instanceMethod ({ cls := "PileHeirs$Drying", name := "<init>", desc := "(LPileHeirs$Timbers;LPileHeirs$Trace;III)V" } : Jvm.MethodName) : Cond) ∈ GW := gw_of (i := 215) (by decide +kernel) rfl
theorem g_197 : (.code ({ cls := "PileHeirs$Drying", name := "<init>", desc := "(LPileHeirs$Timbers;LPileHeirs$Trace;III)V" } : Jvm.MethodName) prog_2_method_1_code 6 (Option.none : Option Jvm.ClassFile.FieldType) : Cond) ∈ GW := gw_of (i := 216) (by decide +kernel) rfl
theorem g_198 : (.methodLink "PileHeirs$Drying" 3 ({ cls := "PileHeirs$Sorted", name := "<init>", desc := "(LPileHeirs$Timbers;LPileHeirs$Trace;III)V" } : Jvm.MethodName) : Cond) ∈ GW := gw_of (i := 217) (by decide +kernel) rfl
theorem g_199 : (.laysFinal "PileHeirs$Drying" "PileHeirs$Plain" "timbers" "LPileHeirs$Timbers;" : Cond) ∈ GW := gw_of (i := 218) (by decide +kernel) rfl
theorem g_200 : (.laysFinal "PileHeirs$Drying" "PileHeirs$Plain" "done" "LPileHeirs$Trace;" : Cond) ∈ GW := gw_of (i := 219) (by decide +kernel) rfl
theorem g_201 : (.laysFinal "PileHeirs$Drying" "PileHeirs$Plain" "number" "I" : Cond) ∈ GW := gw_of (i := 220) (by decide +kernel) rfl
theorem g_202 : (.laysFinal "PileHeirs$Drying" "PileHeirs$Plain" "cap" "I" : Cond) ∈ GW := gw_of (i := 221) (by decide +kernel) rfl
theorem g_203 : (.laysFinal "PileHeirs$Drying" "PileHeirs$Plain" "limit" "I" : Cond) ∈ GW := gw_of (i := 222) (by decide +kernel) rfl
theorem g_204 : (.laysFinal "PileHeirs$Drying" "PileHeirs$Plain" "row" "[I" : Cond) ∈ GW := gw_of (i := 223) (by decide +kernel) rfl
theorem g_205 : (.lays "PileHeirs$Drying" "PileHeirs$Plain" "height" "I" : Cond) ∈ GW := gw_of (i := 224) (by decide +kernel) rfl
theorem g_206 : (.superclass "PileHeirs$Drying" "PileHeirs$Sorted" : Cond) ∈ GW := gw_of (i := 225) (by decide +kernel) rfl
theorem g_207 : (.classLink "PileHeirs" 129 "PileHeirs$Twofold" : Cond) ∈ GW := gw_of (i := 226) (by decide +kernel) rfl
theorem g_208 : (.instantiable "PileHeirs$Twofold" 7 : Cond) ∈ GW := gw_of (i := 227) (by decide +kernel) rfl
theorem g_209 : (.methodLink "PileHeirs" 131 ({ cls := "PileHeirs$Twofold", name := "<init>", desc := "(LPileHeirs$Timbers;LPileHeirs$Trace;III)V" } : Jvm.MethodName) : Cond) ∈ GW := gw_of (i := 228) (by decide +kernel) rfl
theorem g_210 : (.instanceMethod ({ cls := "PileHeirs$Twofold", name := "<init>", desc := "(LPileHeirs$Timbers;LPileHeirs$Trace;III)V" } : Jvm.MethodName) : Cond) ∈ GW := gw_of (i := 229) (by decide +kernel) rfl
theorem g_211 : (.code ({ cls := "PileHeirs$Twofold", name := "<init>", desc := "(LPileHeirs$Timbers;LPileHeirs$Trace;III)V" } : Jvm.MethodName) prog_11_method_1_code 6 (Option.none : Option Jvm.ClassFile.FieldType) : Cond) ∈ GW := gw_of (i := 230) (by decide +kernel) rfl
theorem g_212 : (.methodLink "PileHeirs$Twofold" 3 ({ cls := "PileHeirs$Strict", name := "<init>", desc := "(LPileHeirs$Timbers;LPileHeirs$Trace;III)V" } : Jvm.MethodName) : Cond) ∈ GW := gw_of (i := 231) (by decide +kernel) rfl
theorem g_213 : (.laysFinal "PileHeirs$Twofold" "PileHeirs$Plain" "timbers" "LPileHeirs$Timbers;" : Cond) ∈ GW := gw_of (i := 232) (by decide +kernel) rfl
theorem g_214 : (.laysFinal "PileHeirs$Twofold" "PileHeirs$Plain" "done" "LPileHeirs$Trace;" : Cond) ∈ GW := gw_of (i := 233) (by decide +kernel) rfl
theorem g_215 : (.laysFinal "PileHeirs$Twofold" "PileHeirs$Plain" "number" "I" : Cond) ∈ GW := gw_of (i := 234) (by decide +kernel) rfl
theorem g_216 : (.laysFinal "PileHeirs$Twofold" "PileHeirs$Plain" "cap" "I" : Cond) ∈ GW := gw_of (i := 235) (by decide +kernel) rfl
theorem g_217 : (.laysFinal "PileHeirs$Twofold" "PileHeirs$Plain" "limit" "I" : Cond) ∈ GW := gw_of (i := 236) (by decide +kernel) rfl
theorem g_218 : (.laysFinal "PileHeirs$Twofold" "PileHeirs$Plain" "row" "[I" : Cond) ∈ GW := gw_of (i := 237) (by decide +kernel) rfl
theorem g_219 : (.lays "PileHeirs$Twofold" "PileHeirs$Plain" "height" "I" : Cond) ∈ GW := gw_of (i := 238) (by decide +kernel) rfl
theorem g_220 : (.superclass "PileHeirs$Twofold" "PileHeirs$Strict" : Cond) ∈ GW := gw_of (i := 239) (by decide +kernel) rfl
theorem g_221 : (.classLink "PileHeirs" 132 "PileHeirs$Open" : Cond) ∈ GW := gw_of (i := 240) (by decide +kernel) rfl
theorem g_222 : (.instantiable "PileHeirs$Open" 7 : Cond) ∈ GW := gw_of (i := 241) (by decide +kernel) rfl
theorem g_223 : (.methodLink "PileHeirs" 134 ({ cls := "PileHeirs$Open", name := "<init>", desc := "(LPileHeirs$Timbers;LPileHeirs$Trace;III)V" } : Jvm.MethodName) : Cond) ∈ GW := gw_of (i := 242) (by decide +kernel) rfl
theorem g_224 : (.instanceMethod ({ cls := "PileHeirs$Open", name := "<init>", desc := "(LPileHeirs$Timbers;LPileHeirs$Trace;III)V" } : Jvm.MethodName) : Cond) ∈ GW := gw_of (i := 243) (by decide +kernel) rfl
theorem g_225 : (.code ({ cls := "PileHeirs$Open", name := "<init>", desc := "(LPileHeirs$Timbers;LPileHeirs$Trace;III)V" } : Jvm.MethodName) prog_5_method_1_code 6 (Option.none : Option Jvm.ClassFile.FieldType) : Cond) ∈ GW := gw_of (i := 244) (by decide +kernel) rfl
theorem g_226 : (.methodLink "PileHeirs$Open" 3 ({ cls := "PileHeirs$Drying", name := "<init>", desc := "(LPileHeirs$Timbers;LPileHeirs$Trace;III)V" } : Jvm.MethodName) : Cond) ∈ GW := gw_of (i := 245) (by decide +kernel) rfl
theorem g_227 : (.laysFinal "PileHeirs$Open" "PileHeirs$Plain" "timbers" "LPileHeirs$Timbers;" : Cond) ∈ GW := gw_of (i := 246) (by decide +kernel) rfl
theorem g_228 : (.laysFinal "PileHeirs$Open" "PileHeirs$Plain" "done" "LPileHeirs$Trace;" : Cond) ∈ GW := gw_of (i := 247) (by decide +kernel) rfl
theorem g_229 : (.laysFinal "PileHeirs$Open" "PileHeirs$Plain" "number" "I" : Cond) ∈ GW := gw_of (i := 248) (by decide +kernel) rfl
theorem g_230 : (.laysFinal "PileHeirs$Open" "PileHeirs$Plain" "cap" "I" : Cond) ∈ GW := gw_of (i := 249) (by decide +kernel) rfl
theorem g_231 : (.laysFinal "PileHeirs$Open" "PileHeirs$Plain" "limit" "I" : Cond) ∈ GW := gw_of (i := 250) (by decide +kernel) rfl
theorem g_232 : (.laysFinal "PileHeirs$Open" "PileHeirs$Plain" "row" "[I" : Cond) ∈ GW := gw_of (i := 251) (by decide +kernel) rfl
theorem g_233 : (.lays "PileHeirs$Open" "PileHeirs$Plain" "height" "I" : Cond) ∈ GW := gw_of (i := 252) (by decide +kernel) rfl
theorem g_234 : (.superclass "PileHeirs$Open" "PileHeirs$Drying" : Cond) ∈ GW := gw_of (i := 253) (by decide +kernel) rfl
theorem g_235 : (.classLink "PileHeirs" 135 "PileHeirs$Lean" : Cond) ∈ GW := gw_of (i := 254) (by decide +kernel) rfl
theorem g_236 : (.instantiable "PileHeirs$Lean" 7 : Cond) ∈ GW := gw_of (i := 255) (by decide +kernel) rfl
theorem g_237 : (.methodLink "PileHeirs" 137 ({ cls := "PileHeirs$Lean", name := "<init>", desc := "(LPileHeirs$Timbers;LPileHeirs$Trace;III)V" } : Jvm.MethodName) : Cond) ∈ GW := gw_of (i := 256) (by decide +kernel) rfl
theorem g_238 : (.instanceMethod ({ cls := "PileHeirs$Lean", name := "<init>", desc := "(LPileHeirs$Timbers;LPileHeirs$Trace;III)V" } : Jvm.MethodName) : Cond) ∈ GW := gw_of (i := 257) (by decide +kernel) rfl
theorem g_239 : (.code ({ cls := "PileHeirs$Lean", name := "<init>", desc := "(LPileHeirs$Timbers;LPileHeirs$Trace;III)V" } : Jvm.MethodName) prog_3_method_1_code 6 (Option.none : Option Jvm.ClassFile.FieldType) : Cond) ∈ GW := gw_of (i := 258) (by decide +kernel) rfl
theorem g_240 : (.methodLink "PileHeirs$Lean" 3 ({ cls := "PileHeirs$Twofold", name := "<init>", desc := "(LPileHeirs$Timbers;LPileHeirs$Trace;III)V" } : Jvm.MethodName) : Cond) ∈ GW := gw_of (i := 259) (by decide +kernel) rfl
theorem g_241 : (.laysFinal "PileHeirs$Lean" "PileHeirs$Plain" "timbers" "LPileHeirs$Timbers;" : Cond) ∈ GW := gw_of (i := 260) (by decide +kernel) rfl
theorem g_242 : (.laysFinal "PileHeirs$Lean" "PileHeirs$Plain" "done" "LPileHeirs$Trace;" : Cond) ∈ GW := gw_of (i := 261) (by decide +kernel) rfl
theorem g_243 : (.laysFinal "PileHeirs$Lean" "PileHeirs$Plain" "number" "I" : Cond) ∈ GW := gw_of (i := 262) (by decide +kernel) rfl
theorem g_244 : (.laysFinal "PileHeirs$Lean" "PileHeirs$Plain" "cap" "I" : Cond) ∈ GW := gw_of (i := 263) (by decide +kernel) rfl
theorem g_245 : (.laysFinal "PileHeirs$Lean" "PileHeirs$Plain" "limit" "I" : Cond) ∈ GW := gw_of (i := 264) (by decide +kernel) rfl
theorem g_246 : (.laysFinal "PileHeirs$Lean" "PileHeirs$Plain" "row" "[I" : Cond) ∈ GW := gw_of (i := 265) (by decide +kernel) rfl
theorem g_247 : (.lays "PileHeirs$Lean" "PileHeirs$Plain" "height" "I" : Cond) ∈ GW := gw_of (i := 266) (by decide +kernel) rfl
theorem g_248 : (.superclass "PileHeirs$Lean" "PileHeirs$Twofold" : Cond) ∈ GW := gw_of (i := 267) (by decide +kernel) rfl
theorem g_249 : (.instantiable "PileHeirs$Plain" 7 : Cond) ∈ GW := gw_of (i := 268) (by decide +kernel) rfl
theorem g_250 : (.methodLink "PileHeirs" 138 ({ cls := "PileHeirs$Plain", name := "<init>", desc := "(LPileHeirs$Timbers;LPileHeirs$Trace;III)V" } : Jvm.MethodName) : Cond) ∈ GW := gw_of (i := 269) (by decide +kernel) rfl
theorem g_251 : (.laysFinal "PileHeirs$Plain" "PileHeirs$Plain" "timbers" "LPileHeirs$Timbers;" : Cond) ∈ GW := gw_of (i := 270) (by decide +kernel) rfl
theorem g_252 : (.laysFinal "PileHeirs$Plain" "PileHeirs$Plain" "done" "LPileHeirs$Trace;" : Cond) ∈ GW := gw_of (i := 271) (by decide +kernel) rfl
theorem g_253 : (.laysFinal "PileHeirs$Plain" "PileHeirs$Plain" "number" "I" : Cond) ∈ GW := gw_of (i := 272) (by decide +kernel) rfl
theorem g_254 : (.laysFinal "PileHeirs$Plain" "PileHeirs$Plain" "cap" "I" : Cond) ∈ GW := gw_of (i := 273) (by decide +kernel) rfl
theorem g_255 : (.laysFinal "PileHeirs$Plain" "PileHeirs$Plain" "limit" "I" : Cond) ∈ GW := gw_of (i := 274) (by decide +kernel) rfl
theorem g_256 : (.laysFinal "PileHeirs$Plain" "PileHeirs$Plain" "row" "[I" : Cond) ∈ GW := gw_of (i := 275) (by decide +kernel) rfl
theorem g_257 : (.lays "PileHeirs$Plain" "PileHeirs$Plain" "height" "I" : Cond) ∈ GW := gw_of (i := 276) (by decide +kernel) rfl
theorem g_258 : (.superclass "PileHeirs$Plain" "java/lang/Object" : Cond) ∈ GW := gw_of (i := 277) (by decide +kernel) rfl
theorem g_259 : (.methodLink "PileHeirsLaw" 49 ({ cls := "PileHeirs", name := "load", desc := "(I)I" } : Jvm.MethodName) : Cond) ∈ GW := gw_of (i := 278) (by decide +kernel) rfl
theorem g_260 : (.instanceMethod ({ cls := "PileHeirs", name := "load", desc := "(I)I" } : Jvm.MethodName) : Cond) ∈ GW := gw_of (i := 279) (by decide +kernel) rfl
theorem g_261 : (.selects "PileHeirs" ({ cls := "PileHeirs", name := "load", desc := "(I)I" } : Jvm.MethodName) ({ cls := "PileHeirs", name := "load", desc := "(I)I" } : Jvm.MethodName) : Cond) ∈ GW := gw_of (i := 280) (by decide +kernel) rfl
theorem g_262 : (.code ({ cls := "PileHeirs", name := "load", desc := "(I)I" } : Jvm.MethodName) prog_1_method_6_code 3 (Option.some Jvm.ClassFile.FieldType.int) : Cond) ∈ GW := gw_of (i := 281) (by decide +kernel) rfl
theorem g_263 : (.methodLink "PileHeirs" 45 ({ cls := "PileHeirs", name := "pileOf", desc := "(I)LPileHeirs$Plain;" } : Jvm.MethodName) : Cond) ∈ GW := gw_of (i := 282) (by decide +kernel) rfl
theorem g_265 : (.instanceMethod ({ cls := "PileHeirs", name := "pileOf", desc := "(I)LPileHeirs$Plain;" } : Jvm.MethodName) : Cond) ∈ GW := gw_of (i := 284) (by decide +kernel) rfl
theorem g_266 : (.code ({ cls := "PileHeirs", name := "pileOf", desc := "(I)LPileHeirs$Plain;" } : Jvm.MethodName) prog_1_method_16_code 2 (Option.some (Jvm.ClassFile.FieldType.object "PileHeirs$Plain")) : Cond) ∈ GW := gw_of (i := 285) (by decide +kernel) rfl
theorem g_267 : (.methodLink "PileHeirs" 75 ({ cls := "PileHeirs$Plain", name := "loadAct", desc := "()I" } : Jvm.MethodName) : Cond) ∈ GW := gw_of (i := 286) (by decide +kernel) rfl
theorem g_268 : (.instanceMethod ({ cls := "PileHeirs$Plain", name := "loadAct", desc := "()I" } : Jvm.MethodName) : Cond) ∈ GW := gw_of (i := 287) (by decide +kernel) rfl
theorem g_269 : (.selects "PileHeirs$Plain" ({ cls := "PileHeirs$Plain", name := "loadAct", desc := "()I" } : Jvm.MethodName) ({ cls := "PileHeirs$Plain", name := "loadAct", desc := "()I" } : Jvm.MethodName) : Cond) ∈ GW := gw_of (i := 288) (by decide +kernel) rfl
theorem g_270 : (.sameMethod "PileHeirs$Plain" "PileHeirs$Plain" "loadAct" "()I" : Cond) ∈ GW := gw_of (i := 289) (by decide +kernel) rfl
theorem g_271 : (.selects "PileHeirs$Drying" ({ cls := "PileHeirs$Plain", name := "loadAct", desc := "()I" } : Jvm.MethodName) ({ cls := "PileHeirs$Plain", name := "loadAct", desc := "()I" } : Jvm.MethodName) : Cond) ∈ GW := gw_of (i := 290) (by decide +kernel) rfl
theorem g_272 : (.selects "PileHeirs$Lean" ({ cls := "PileHeirs$Plain", name := "loadAct", desc := "()I" } : Jvm.MethodName) ({ cls := "PileHeirs$Twofold", name := "loadAct", desc := "()I" } : Jvm.MethodName) : Cond) ∈ GW := gw_of (i := 291) (by decide +kernel) rfl
theorem g_273 : (.instanceMethod ({ cls := "PileHeirs$Twofold", name := "loadAct", desc := "()I" } : Jvm.MethodName) : Cond) ∈ GW := gw_of (i := 292) (by decide +kernel) rfl
theorem g_274 : (.code ({ cls := "PileHeirs$Twofold", name := "loadAct", desc := "()I" } : Jvm.MethodName) prog_11_method_2_code 1 (Option.some Jvm.ClassFile.FieldType.int) : Cond) ∈ GW := gw_of (i := 293) (by decide +kernel) rfl
theorem g_275 : (.methodLink "PileHeirs$Twofold" 15 ({ cls := "PileHeirs$Trace", name := "begin", desc := "(II)V" } : Jvm.MethodName) : Cond) ∈ GW := gw_of (i := 294) (by decide +kernel) rfl
theorem g_276 : (.instanceMethod ({ cls := "PileHeirs$Trace", name := "begin", desc := "(II)V" } : Jvm.MethodName) : Cond) ∈ GW := gw_of (i := 295) (by decide +kernel) rfl
theorem g_277 : (.selects "PileHeirs$Trace" ({ cls := "PileHeirs$Trace", name := "begin", desc := "(II)V" } : Jvm.MethodName) ({ cls := "PileHeirs$Trace", name := "begin", desc := "(II)V" } : Jvm.MethodName) : Cond) ∈ GW := gw_of (i := 296) (by decide +kernel) rfl
theorem g_278 : (.code ({ cls := "PileHeirs$Trace", name := "begin", desc := "(II)V" } : Jvm.MethodName) prog_10_method_2_code 3 (Option.none : Option Jvm.ClassFile.FieldType) : Cond) ∈ GW := gw_of (i := 297) (by decide +kernel) rfl
theorem g_279 : (.methodLink "PileHeirs$Trace" 22 ({ cls := "java/lang/Math", name := "min", desc := "(II)I" } : Jvm.MethodName) : Cond) ∈ GW := gw_of (i := 298) (by decide +kernel) rfl
theorem g_280 : (.static ({ cls := "java/lang/Math", name := "min", desc := "(II)I" } : Jvm.MethodName) : Cond) ∈ GW := gw_of (i := 299) (by decide +kernel) rfl
theorem g_281 : (.code ({ cls := "java/lang/Math", name := "min", desc := "(II)I" } : Jvm.MethodName) prog_15_method_69_code 2 (Option.some Jvm.ClassFile.FieldType.int) : Cond) ∈ GW := gw_of (i := 300) (by decide +kernel) rfl
theorem g_282 : (.methodLink "PileHeirs$Twofold" 21 ({ cls := "PileHeirs$Strict", name := "loadAct", desc := "()I" } : Jvm.MethodName) : Cond) ∈ GW := gw_of (i := 301) (by decide +kernel) rfl
theorem g_283 : (.sameMethod "PileHeirs$Strict" "PileHeirs$Plain" "loadAct" "()I" : Cond) ∈ GW := gw_of (i := 302) (by decide +kernel) rfl
theorem g_285 : (.selects "PileHeirs$Marked" ({ cls := "PileHeirs$Plain", name := "loadAct", desc := "()I" } : Jvm.MethodName) ({ cls := "PileHeirs$Plain", name := "loadAct", desc := "()I" } : Jvm.MethodName) : Cond) ∈ GW := gw_of (i := 304) (by decide +kernel) rfl
theorem g_286 : (.selects "PileHeirs$Open" ({ cls := "PileHeirs$Plain", name := "loadAct", desc := "()I" } : Jvm.MethodName) ({ cls := "PileHeirs$Open", name := "loadAct", desc := "()I" } : Jvm.MethodName) : Cond) ∈ GW := gw_of (i := 305) (by decide +kernel) rfl
theorem g_287 : (.instanceMethod ({ cls := "PileHeirs$Open", name := "loadAct", desc := "()I" } : Jvm.MethodName) : Cond) ∈ GW := gw_of (i := 306) (by decide +kernel) rfl
theorem g_288 : (.code ({ cls := "PileHeirs$Open", name := "loadAct", desc := "()I" } : Jvm.MethodName) prog_5_method_3_code 3 (Option.some Jvm.ClassFile.FieldType.int) : Cond) ∈ GW := gw_of (i := 307) (by decide +kernel) rfl
theorem g_289 : (.methodLink "PileHeirs$Open" 15 ({ cls := "PileHeirs$Trace", name := "begin", desc := "(II)V" } : Jvm.MethodName) : Cond) ∈ GW := gw_of (i := 308) (by decide +kernel) rfl
theorem g_290 : (.methodLink "PileHeirs$Open" 38 ({ cls := "PileHeirs$Drying", name := "loadAct", desc := "()I" } : Jvm.MethodName) : Cond) ∈ GW := gw_of (i := 309) (by decide +kernel) rfl
theorem g_291 : (.sameMethod "PileHeirs$Drying" "PileHeirs$Plain" "loadAct" "()I" : Cond) ∈ GW := gw_of (i := 310) (by decide +kernel) rfl
theorem g_292 : (.methodLink "PileHeirs$Open" 42 ({ cls := "PileHeirs$Open", name := "howMany", desc := "()I" } : Jvm.MethodName) : Cond) ∈ GW := gw_of (i := 311) (by decide +kernel) rfl
theorem g_293 : (.sameMethod "PileHeirs$Open" "PileHeirs$Plain" "howMany" "()I" : Cond) ∈ GW := gw_of (i := 312) (by decide +kernel) rfl
theorem g_295 : (.selects "PileHeirs$Open" ({ cls := "PileHeirs$Open", name := "howMany", desc := "()I" } : Jvm.MethodName) ({ cls := "PileHeirs$Plain", name := "howMany", desc := "()I" } : Jvm.MethodName) : Cond) ∈ GW := gw_of (i := 314) (by decide +kernel) rfl
theorem g_296 : (.instanceMethod ({ cls := "PileHeirs$Plain", name := "howMany", desc := "()I" } : Jvm.MethodName) : Cond) ∈ GW := gw_of (i := 315) (by decide +kernel) rfl
theorem g_297 : (.code ({ cls := "PileHeirs$Plain", name := "howMany", desc := "()I" } : Jvm.MethodName) prog_6_method_8_code 1 (Option.some Jvm.ClassFile.FieldType.int) : Cond) ∈ GW := gw_of (i := 316) (by decide +kernel) rfl
theorem g_298 : (.methodLink "PileHeirs$Open" 45 ({ cls := "PileHeirs$Open", name := "timberAt", desc := "(I)I" } : Jvm.MethodName) : Cond) ∈ GW := gw_of (i := 317) (by decide +kernel) rfl
theorem g_299 : (.sameMethod "PileHeirs$Open" "PileHeirs$Plain" "timberAt" "(I)I" : Cond) ∈ GW := gw_of (i := 318) (by decide +kernel) rfl
theorem g_301 : (.selects "PileHeirs$Open" ({ cls := "PileHeirs$Open", name := "timberAt", desc := "(I)I" } : Jvm.MethodName) ({ cls := "PileHeirs$Plain", name := "timberAt", desc := "(I)I" } : Jvm.MethodName) : Cond) ∈ GW := gw_of (i := 320) (by decide +kernel) rfl
theorem g_302 : (.instanceMethod ({ cls := "PileHeirs$Plain", name := "timberAt", desc := "(I)I" } : Jvm.MethodName) : Cond) ∈ GW := gw_of (i := 321) (by decide +kernel) rfl
theorem g_303 : (.code ({ cls := "PileHeirs$Plain", name := "timberAt", desc := "(I)I" } : Jvm.MethodName) prog_6_method_9_code 2 (Option.some Jvm.ClassFile.FieldType.int) : Cond) ∈ GW := gw_of (i := 322) (by decide +kernel) rfl
theorem g_304 : (.methodLink "PileHeirs$Open" 48 ({ cls := "PileHeirs$Timbers", name := "isWet", desc := "(I)Z" } : Jvm.MethodName) : Cond) ∈ GW := gw_of (i := 323) (by decide +kernel) rfl
theorem g_305 : (.instanceMethod ({ cls := "PileHeirs$Timbers", name := "isWet", desc := "(I)Z" } : Jvm.MethodName) : Cond) ∈ GW := gw_of (i := 324) (by decide +kernel) rfl
theorem g_306 : (.selects "PileHeirs$Timbers" ({ cls := "PileHeirs$Timbers", name := "isWet", desc := "(I)Z" } : Jvm.MethodName) ({ cls := "PileHeirs$Timbers", name := "isWet", desc := "(I)Z" } : Jvm.MethodName) : Cond) ∈ GW := gw_of (i := 325) (by decide +kernel) rfl
theorem g_307 : (.code ({ cls := "PileHeirs$Timbers", name := "isWet", desc := "(I)Z" } : Jvm.MethodName) prog_9_method_7_code 2 (Option.some Jvm.ClassFile.FieldType.boolean) : Cond) ∈ GW := gw_of (i := 326) (by decide +kernel) rfl
theorem g_308 : (.methodLink "PileHeirs$Timbers" 29 ({ cls := "PileHeirs$Timbers", name := "has", desc := "(I)Z" } : Jvm.MethodName) : Cond) ∈ GW := gw_of (i := 327) (by decide +kernel) rfl
theorem g_309 : (.instanceMethod ({ cls := "PileHeirs$Timbers", name := "has", desc := "(I)Z" } : Jvm.MethodName) : Cond) ∈ GW := gw_of (i := 328) (by decide +kernel) rfl
theorem g_310 : (.selects "PileHeirs$Timbers" ({ cls := "PileHeirs$Timbers", name := "has", desc := "(I)Z" } : Jvm.MethodName) ({ cls := "PileHeirs$Timbers", name := "has", desc := "(I)Z" } : Jvm.MethodName) : Cond) ∈ GW := gw_of (i := 329) (by decide +kernel) rfl
theorem g_311 : (.code ({ cls := "PileHeirs$Timbers", name := "has", desc := "(I)Z" } : Jvm.MethodName) prog_9_method_3_code 2 (Option.some Jvm.ClassFile.FieldType.boolean) : Cond) ∈ GW := gw_of (i := 330) (by decide +kernel) rfl
theorem g_312 : (.selects "PileHeirs$Sorted" ({ cls := "PileHeirs$Plain", name := "loadAct", desc := "()I" } : Jvm.MethodName) ({ cls := "PileHeirs$Plain", name := "loadAct", desc := "()I" } : Jvm.MethodName) : Cond) ∈ GW := gw_of (i := 331) (by decide +kernel) rfl
theorem g_313 : (.selects "PileHeirs$Strict" ({ cls := "PileHeirs$Plain", name := "loadAct", desc := "()I" } : Jvm.MethodName) ({ cls := "PileHeirs$Plain", name := "loadAct", desc := "()I" } : Jvm.MethodName) : Cond) ∈ GW := gw_of (i := 332) (by decide +kernel) rfl
theorem g_314 : (.selects "PileHeirs$Twofold" ({ cls := "PileHeirs$Plain", name := "loadAct", desc := "()I" } : Jvm.MethodName) ({ cls := "PileHeirs$Twofold", name := "loadAct", desc := "()I" } : Jvm.MethodName) : Cond) ∈ GW := gw_of (i := 333) (by decide +kernel) rfl
theorem g_315 : (.code ({ cls := "PileHeirs$Plain", name := "loadAct", desc := "()I" } : Jvm.MethodName) prog_6_method_4_code 3 (Option.some Jvm.ClassFile.FieldType.int) : Cond) ∈ GW := gw_of (i := 334) (by decide +kernel) rfl
theorem g_316 : (.methodLink "PileHeirs$Plain" 33 ({ cls := "PileHeirs$Trace", name := "begin", desc := "(II)V" } : Jvm.MethodName) : Cond) ∈ GW := gw_of (i := 335) (by decide +kernel) rfl
theorem g_317 : (.methodLink "PileHeirs$Plain" 47 ({ cls := "PileHeirs$Plain", name := "timberAt", desc := "(I)I" } : Jvm.MethodName) : Cond) ∈ GW := gw_of (i := 336) (by decide +kernel) rfl
theorem g_318 : (.methodLink "PileHeirs$Plain" 51 ({ cls := "PileHeirs$Timbers", name := "weightOf", desc := "(I)I" } : Jvm.MethodName) : Cond) ∈ GW := gw_of (i := 337) (by decide +kernel) rfl
theorem g_319 : (.instanceMethod ({ cls := "PileHeirs$Timbers", name := "weightOf", desc := "(I)I" } : Jvm.MethodName) : Cond) ∈ GW := gw_of (i := 338) (by decide +kernel) rfl
theorem g_320 : (.selects "PileHeirs$Timbers" ({ cls := "PileHeirs$Timbers", name := "weightOf", desc := "(I)I" } : Jvm.MethodName) ({ cls := "PileHeirs$Timbers", name := "weightOf", desc := "(I)I" } : Jvm.MethodName) : Cond) ∈ GW := gw_of (i := 339) (by decide +kernel) rfl
theorem g_321 : (.code ({ cls := "PileHeirs$Timbers", name := "weightOf", desc := "(I)I" } : Jvm.MethodName) prog_9_method_6_code 2 (Option.some Jvm.ClassFile.FieldType.int) : Cond) ∈ GW := gw_of (i := 340) (by decide +kernel) rfl
theorem g_322 : (.methodLink "PileHeirsLaw" 53 ({ cls := "PileHeirs", name := "search", desc := "(II)I" } : Jvm.MethodName) : Cond) ∈ GW := gw_of (i := 341) (by decide +kernel) rfl
theorem g_323 : (.instanceMethod ({ cls := "PileHeirs", name := "search", desc := "(II)I" } : Jvm.MethodName) : Cond) ∈ GW := gw_of (i := 342) (by decide +kernel) rfl
theorem g_324 : (.selects "PileHeirs" ({ cls := "PileHeirs", name := "search", desc := "(II)I" } : Jvm.MethodName) ({ cls := "PileHeirs", name := "search", desc := "(II)I" } : Jvm.MethodName) : Cond) ∈ GW := gw_of (i := 343) (by decide +kernel) rfl
theorem g_325 : (.code ({ cls := "PileHeirs", name := "search", desc := "(II)I" } : Jvm.MethodName) prog_1_method_7_code 4 (Option.some Jvm.ClassFile.FieldType.int) : Cond) ∈ GW := gw_of (i := 344) (by decide +kernel) rfl
theorem g_326 : (.methodLink "PileHeirs" 78 ({ cls := "PileHeirs$Plain", name := "searchAct", desc := "(I)I" } : Jvm.MethodName) : Cond) ∈ GW := gw_of (i := 345) (by decide +kernel) rfl
theorem g_327 : (.instanceMethod ({ cls := "PileHeirs$Plain", name := "searchAct", desc := "(I)I" } : Jvm.MethodName) : Cond) ∈ GW := gw_of (i := 346) (by decide +kernel) rfl
theorem g_328 : (.selects "PileHeirs$Plain" ({ cls := "PileHeirs$Plain", name := "searchAct", desc := "(I)I" } : Jvm.MethodName) ({ cls := "PileHeirs$Plain", name := "searchAct", desc := "(I)I" } : Jvm.MethodName) : Cond) ∈ GW := gw_of (i := 347) (by decide +kernel) rfl
theorem g_329 : (.sameMethod "PileHeirs$Plain" "PileHeirs$Plain" "searchAct" "(I)I" : Cond) ∈ GW := gw_of (i := 348) (by decide +kernel) rfl
theorem g_330 : (.selects "PileHeirs$Drying" ({ cls := "PileHeirs$Plain", name := "searchAct", desc := "(I)I" } : Jvm.MethodName) ({ cls := "PileHeirs$Drying", name := "searchAct", desc := "(I)I" } : Jvm.MethodName) : Cond) ∈ GW := gw_of (i := 349) (by decide +kernel) rfl
theorem g_331 : (.instanceMethod ({ cls := "PileHeirs$Drying", name := "searchAct", desc := "(I)I" } : Jvm.MethodName) : Cond) ∈ GW := gw_of (i := 350) (by decide +kernel) rfl
theorem g_332 : (.code ({ cls := "PileHeirs$Drying", name := "searchAct", desc := "(I)I" } : Jvm.MethodName) prog_2_method_3_code 3 (Option.some Jvm.ClassFile.FieldType.int) : Cond) ∈ GW := gw_of (i := 351) (by decide +kernel) rfl
theorem g_333 : (.methodLink "PileHeirs$Drying" 15 ({ cls := "PileHeirs$Trace", name := "begin", desc := "(II)V" } : Jvm.MethodName) : Cond) ∈ GW := gw_of (i := 352) (by decide +kernel) rfl
theorem g_334 : (.methodLink "PileHeirs$Drying" 47 ({ cls := "PileHeirs$Sorted", name := "searchAct", desc := "(I)I" } : Jvm.MethodName) : Cond) ∈ GW := gw_of (i := 353) (by decide +kernel) rfl
theorem g_335 : (.sameMethod "PileHeirs$Sorted" "PileHeirs$Plain" "searchAct" "(I)I" : Cond) ∈ GW := gw_of (i := 354) (by decide +kernel) rfl
theorem g_337 : (.methodLink "PileHeirs$Drying" 50 ({ cls := "PileHeirs$Drying", name := "timberAt", desc := "(I)I" } : Jvm.MethodName) : Cond) ∈ GW := gw_of (i := 356) (by decide +kernel) rfl
theorem g_338 : (.sameMethod "PileHeirs$Drying" "PileHeirs$Plain" "timberAt" "(I)I" : Cond) ∈ GW := gw_of (i := 357) (by decide +kernel) rfl
theorem g_339 : (.selects "PileHeirs$Drying" ({ cls := "PileHeirs$Drying", name := "timberAt", desc := "(I)I" } : Jvm.MethodName) ({ cls := "PileHeirs$Plain", name := "timberAt", desc := "(I)I" } : Jvm.MethodName) : Cond) ∈ GW := gw_of (i := 358) (by decide +kernel) rfl
theorem g_340 : (.selects "PileHeirs$Open" ({ cls := "PileHeirs$Drying", name := "timberAt", desc := "(I)I" } : Jvm.MethodName) ({ cls := "PileHeirs$Plain", name := "timberAt", desc := "(I)I" } : Jvm.MethodName) : Cond) ∈ GW := gw_of (i := 359) (by decide +kernel) rfl
theorem g_341 : (.methodLink "PileHeirs$Drying" 33 ({ cls := "PileHeirs$Timbers", name := "isWet", desc := "(I)Z" } : Jvm.MethodName) : Cond) ∈ GW := gw_of (i := 360) (by decide +kernel) rfl
theorem g_342 : (.selects "PileHeirs$Lean" ({ cls := "PileHeirs$Plain", name := "searchAct", desc := "(I)I" } : Jvm.MethodName) ({ cls := "PileHeirs$Twofold", name := "searchAct", desc := "(I)I" } : Jvm.MethodName) : Cond) ∈ GW := gw_of (i := 361) (by decide +kernel) rfl
theorem g_343 : (.instanceMethod ({ cls := "PileHeirs$Twofold", name := "searchAct", desc := "(I)I" } : Jvm.MethodName) : Cond) ∈ GW := gw_of (i := 362) (by decide +kernel) rfl
theorem g_344 : (.code ({ cls := "PileHeirs$Twofold", name := "searchAct", desc := "(I)I" } : Jvm.MethodName) prog_11_method_3_code 3 (Option.some Jvm.ClassFile.FieldType.int) : Cond) ∈ GW := gw_of (i := 363) (by decide +kernel) rfl
theorem g_345 : (.methodLink "PileHeirs$Twofold" 25 ({ cls := "PileHeirs$Strict", name := "searchAct", desc := "(I)I" } : Jvm.MethodName) : Cond) ∈ GW := gw_of (i := 364) (by decide +kernel) rfl
theorem g_346 : (.sameMethod "PileHeirs$Strict" "PileHeirs$Plain" "searchAct" "(I)I" : Cond) ∈ GW := gw_of (i := 365) (by decide +kernel) rfl
theorem g_347 : (.selects "PileHeirs$Marked" ({ cls := "PileHeirs$Plain", name := "searchAct", desc := "(I)I" } : Jvm.MethodName) ({ cls := "PileHeirs$Plain", name := "searchAct", desc := "(I)I" } : Jvm.MethodName) : Cond) ∈ GW := gw_of (i := 366) (by decide +kernel) rfl
theorem g_348 : (.selects "PileHeirs$Open" ({ cls := "PileHeirs$Plain", name := "searchAct", desc := "(I)I" } : Jvm.MethodName) ({ cls := "PileHeirs$Drying", name := "searchAct", desc := "(I)I" } : Jvm.MethodName) : Cond) ∈ GW := gw_of (i := 367) (by decide +kernel) rfl
theorem g_349 : (.selects "PileHeirs$Sorted" ({ cls := "PileHeirs$Plain", name := "searchAct", desc := "(I)I" } : Jvm.MethodName) ({ cls := "PileHeirs$Plain", name := "searchAct", desc := "(I)I" } : Jvm.MethodName) : Cond) ∈ GW := gw_of (i := 368) (by decide +kernel) rfl
theorem g_350 : (.selects "PileHeirs$Strict" ({ cls := "PileHeirs$Plain", name := "searchAct", desc := "(I)I" } : Jvm.MethodName) ({ cls := "PileHeirs$Plain", name := "searchAct", desc := "(I)I" } : Jvm.MethodName) : Cond) ∈ GW := gw_of (i := 369) (by decide +kernel) rfl
theorem g_351 : (.selects "PileHeirs$Twofold" ({ cls := "PileHeirs$Plain", name := "searchAct", desc := "(I)I" } : Jvm.MethodName) ({ cls := "PileHeirs$Twofold", name := "searchAct", desc := "(I)I" } : Jvm.MethodName) : Cond) ∈ GW := gw_of (i := 370) (by decide +kernel) rfl
theorem g_352 : (.code ({ cls := "PileHeirs$Plain", name := "searchAct", desc := "(I)I" } : Jvm.MethodName) prog_6_method_5_code 3 (Option.some Jvm.ClassFile.FieldType.int) : Cond) ∈ GW := gw_of (i := 371) (by decide +kernel) rfl
theorem g_353 : (.methodLink "PileHeirs$Plain" 54 ({ cls := "PileHeirs$Timbers", name := "lengthOf", desc := "(I)I" } : Jvm.MethodName) : Cond) ∈ GW := gw_of (i := 372) (by decide +kernel) rfl
theorem g_354 : (.instanceMethod ({ cls := "PileHeirs$Timbers", name := "lengthOf", desc := "(I)I" } : Jvm.MethodName) : Cond) ∈ GW := gw_of (i := 373) (by decide +kernel) rfl
theorem g_355 : (.selects "PileHeirs$Timbers" ({ cls := "PileHeirs$Timbers", name := "lengthOf", desc := "(I)I" } : Jvm.MethodName) ({ cls := "PileHeirs$Timbers", name := "lengthOf", desc := "(I)I" } : Jvm.MethodName) : Cond) ∈ GW := gw_of (i := 374) (by decide +kernel) rfl
theorem g_356 : (.code ({ cls := "PileHeirs$Timbers", name := "lengthOf", desc := "(I)I" } : Jvm.MethodName) prog_9_method_5_code 2 (Option.some Jvm.ClassFile.FieldType.int) : Cond) ∈ GW := gw_of (i := 375) (by decide +kernel) rfl
theorem g_357 : (.methodLink "PileHeirsLaw" 57 ({ cls := "PileHeirs", name := "free", desc := "(I)I" } : Jvm.MethodName) : Cond) ∈ GW := gw_of (i := 376) (by decide +kernel) rfl
theorem g_358 : (.instanceMethod ({ cls := "PileHeirs", name := "free", desc := "(I)I" } : Jvm.MethodName) : Cond) ∈ GW := gw_of (i := 377) (by decide +kernel) rfl
theorem g_359 : (.selects "PileHeirs" ({ cls := "PileHeirs", name := "free", desc := "(I)I" } : Jvm.MethodName) ({ cls := "PileHeirs", name := "free", desc := "(I)I" } : Jvm.MethodName) : Cond) ∈ GW := gw_of (i := 378) (by decide +kernel) rfl
theorem g_360 : (.code ({ cls := "PileHeirs", name := "free", desc := "(I)I" } : Jvm.MethodName) prog_1_method_8_code 3 (Option.some Jvm.ClassFile.FieldType.int) : Cond) ∈ GW := gw_of (i := 379) (by decide +kernel) rfl
theorem g_361 : (.methodLink "PileHeirs" 81 ({ cls := "PileHeirs$Plain", name := "freeAct", desc := "()I" } : Jvm.MethodName) : Cond) ∈ GW := gw_of (i := 380) (by decide +kernel) rfl
theorem g_362 : (.instanceMethod ({ cls := "PileHeirs$Plain", name := "freeAct", desc := "()I" } : Jvm.MethodName) : Cond) ∈ GW := gw_of (i := 381) (by decide +kernel) rfl
theorem g_363 : (.selects "PileHeirs$Plain" ({ cls := "PileHeirs$Plain", name := "freeAct", desc := "()I" } : Jvm.MethodName) ({ cls := "PileHeirs$Plain", name := "freeAct", desc := "()I" } : Jvm.MethodName) : Cond) ∈ GW := gw_of (i := 382) (by decide +kernel) rfl
theorem g_364 : (.sameMethod "PileHeirs$Plain" "PileHeirs$Plain" "freeAct" "()I" : Cond) ∈ GW := gw_of (i := 383) (by decide +kernel) rfl
theorem g_365 : (.selects "PileHeirs$Drying" ({ cls := "PileHeirs$Plain", name := "freeAct", desc := "()I" } : Jvm.MethodName) ({ cls := "PileHeirs$Plain", name := "freeAct", desc := "()I" } : Jvm.MethodName) : Cond) ∈ GW := gw_of (i := 384) (by decide +kernel) rfl
theorem g_366 : (.selects "PileHeirs$Lean" ({ cls := "PileHeirs$Plain", name := "freeAct", desc := "()I" } : Jvm.MethodName) ({ cls := "PileHeirs$Lean", name := "freeAct", desc := "()I" } : Jvm.MethodName) : Cond) ∈ GW := gw_of (i := 385) (by decide +kernel) rfl
theorem g_367 : (.instanceMethod ({ cls := "PileHeirs$Lean", name := "freeAct", desc := "()I" } : Jvm.MethodName) : Cond) ∈ GW := gw_of (i := 386) (by decide +kernel) rfl
theorem g_368 : (.code ({ cls := "PileHeirs$Lean", name := "freeAct", desc := "()I" } : Jvm.MethodName) prog_3_method_3_code 1 (Option.some Jvm.ClassFile.FieldType.int) : Cond) ∈ GW := gw_of (i := 387) (by decide +kernel) rfl
theorem g_369 : (.methodLink "PileHeirs$Lean" 15 ({ cls := "PileHeirs$Trace", name := "begin", desc := "(II)V" } : Jvm.MethodName) : Cond) ∈ GW := gw_of (i := 388) (by decide +kernel) rfl
theorem g_370 : (.methodLink "PileHeirs$Lean" 39 ({ cls := "PileHeirs$Twofold", name := "freeAct", desc := "()I" } : Jvm.MethodName) : Cond) ∈ GW := gw_of (i := 389) (by decide +kernel) rfl
theorem g_371 : (.sameMethod "PileHeirs$Twofold" "PileHeirs$Strict" "freeAct" "()I" : Cond) ∈ GW := gw_of (i := 390) (by decide +kernel) rfl
theorem g_373 : (.instanceMethod ({ cls := "PileHeirs$Strict", name := "freeAct", desc := "()I" } : Jvm.MethodName) : Cond) ∈ GW := gw_of (i := 392) (by decide +kernel) rfl
theorem g_374 : (.code ({ cls := "PileHeirs$Strict", name := "freeAct", desc := "()I" } : Jvm.MethodName) prog_8_method_3_code 1 (Option.some Jvm.ClassFile.FieldType.int) : Cond) ∈ GW := gw_of (i := 393) (by decide +kernel) rfl
theorem g_375 : (.methodLink "PileHeirs$Strict" 15 ({ cls := "PileHeirs$Trace", name := "begin", desc := "(II)V" } : Jvm.MethodName) : Cond) ∈ GW := gw_of (i := 394) (by decide +kernel) rfl
theorem g_376 : (.methodLink "PileHeirs$Strict" 21 ({ cls := "PileHeirs$Strict", name := "loadAct", desc := "()I" } : Jvm.MethodName) : Cond) ∈ GW := gw_of (i := 395) (by decide +kernel) rfl
theorem g_377 : (.selects "PileHeirs$Lean" ({ cls := "PileHeirs$Strict", name := "loadAct", desc := "()I" } : Jvm.MethodName) ({ cls := "PileHeirs$Twofold", name := "loadAct", desc := "()I" } : Jvm.MethodName) : Cond) ∈ GW := gw_of (i := 396) (by decide +kernel) rfl
theorem g_378 : (.selects "PileHeirs$Strict" ({ cls := "PileHeirs$Strict", name := "loadAct", desc := "()I" } : Jvm.MethodName) ({ cls := "PileHeirs$Plain", name := "loadAct", desc := "()I" } : Jvm.MethodName) : Cond) ∈ GW := gw_of (i := 397) (by decide +kernel) rfl
theorem g_379 : (.selects "PileHeirs$Twofold" ({ cls := "PileHeirs$Strict", name := "loadAct", desc := "()I" } : Jvm.MethodName) ({ cls := "PileHeirs$Twofold", name := "loadAct", desc := "()I" } : Jvm.MethodName) : Cond) ∈ GW := gw_of (i := 398) (by decide +kernel) rfl
theorem g_380 : (.methodLink "PileHeirs$Strict" 46 ({ cls := "PileHeirs$Marked", name := "freeAct", desc := "()I" } : Jvm.MethodName) : Cond) ∈ GW := gw_of (i := 399) (by decide +kernel) rfl
theorem g_381 : (.sameMethod "PileHeirs$Marked" "PileHeirs$Plain" "freeAct" "()I" : Cond) ∈ GW := gw_of (i := 400) (by decide +kernel) rfl
theorem g_383 : (.methodLink "PileHeirs$Lean" 42 ({ cls := "java/lang/Math", name := "max", desc := "(II)I" } : Jvm.MethodName) : Cond) ∈ GW := gw_of (i := 402) (by decide +kernel) rfl
theorem g_384 : (.static ({ cls := "java/lang/Math", name := "max", desc := "(II)I" } : Jvm.MethodName) : Cond) ∈ GW := gw_of (i := 403) (by decide +kernel) rfl
theorem g_385 : (.code ({ cls := "java/lang/Math", name := "max", desc := "(II)I" } : Jvm.MethodName) prog_15_method_65_code 2 (Option.some Jvm.ClassFile.FieldType.int) : Cond) ∈ GW := gw_of (i := 404) (by decide +kernel) rfl
theorem g_386 : (.selects "PileHeirs$Marked" ({ cls := "PileHeirs$Plain", name := "freeAct", desc := "()I" } : Jvm.MethodName) ({ cls := "PileHeirs$Plain", name := "freeAct", desc := "()I" } : Jvm.MethodName) : Cond) ∈ GW := gw_of (i := 405) (by decide +kernel) rfl
theorem g_387 : (.selects "PileHeirs$Open" ({ cls := "PileHeirs$Plain", name := "freeAct", desc := "()I" } : Jvm.MethodName) ({ cls := "PileHeirs$Plain", name := "freeAct", desc := "()I" } : Jvm.MethodName) : Cond) ∈ GW := gw_of (i := 406) (by decide +kernel) rfl
theorem g_388 : (.selects "PileHeirs$Sorted" ({ cls := "PileHeirs$Plain", name := "freeAct", desc := "()I" } : Jvm.MethodName) ({ cls := "PileHeirs$Plain", name := "freeAct", desc := "()I" } : Jvm.MethodName) : Cond) ∈ GW := gw_of (i := 407) (by decide +kernel) rfl
theorem g_389 : (.selects "PileHeirs$Strict" ({ cls := "PileHeirs$Plain", name := "freeAct", desc := "()I" } : Jvm.MethodName) ({ cls := "PileHeirs$Strict", name := "freeAct", desc := "()I" } : Jvm.MethodName) : Cond) ∈ GW := gw_of (i := 408) (by decide +kernel) rfl
theorem g_390 : (.selects "PileHeirs$Twofold" ({ cls := "PileHeirs$Plain", name := "freeAct", desc := "()I" } : Jvm.MethodName) ({ cls := "PileHeirs$Strict", name := "freeAct", desc := "()I" } : Jvm.MethodName) : Cond) ∈ GW := gw_of (i := 409) (by decide +kernel) rfl
theorem g_391 : (.code ({ cls := "PileHeirs$Plain", name := "freeAct", desc := "()I" } : Jvm.MethodName) prog_6_method_6_code 1 (Option.some Jvm.ClassFile.FieldType.int) : Cond) ∈ GW := gw_of (i := 410) (by decide +kernel) rfl
theorem g_392 : (.methodLink "PileHeirsLaw" 61 ({ cls := "PileHeirs", name := "full", desc := "(I)I" } : Jvm.MethodName) : Cond) ∈ GW := gw_of (i := 411) (by decide +kernel) rfl
theorem g_393 : (.instanceMethod ({ cls := "PileHeirs", name := "full", desc := "(I)I" } : Jvm.MethodName) : Cond) ∈ GW := gw_of (i := 412) (by decide +kernel) rfl
theorem g_394 : (.selects "PileHeirs" ({ cls := "PileHeirs", name := "full", desc := "(I)I" } : Jvm.MethodName) ({ cls := "PileHeirs", name := "full", desc := "(I)I" } : Jvm.MethodName) : Cond) ∈ GW := gw_of (i := 413) (by decide +kernel) rfl
theorem g_395 : (.code ({ cls := "PileHeirs", name := "full", desc := "(I)I" } : Jvm.MethodName) prog_1_method_9_code 3 (Option.some Jvm.ClassFile.FieldType.int) : Cond) ∈ GW := gw_of (i := 414) (by decide +kernel) rfl
theorem g_396 : (.methodLink "PileHeirs" 84 ({ cls := "PileHeirs$Plain", name := "isFull", desc := "()Z" } : Jvm.MethodName) : Cond) ∈ GW := gw_of (i := 415) (by decide +kernel) rfl
theorem g_397 : (.instanceMethod ({ cls := "PileHeirs$Plain", name := "isFull", desc := "()Z" } : Jvm.MethodName) : Cond) ∈ GW := gw_of (i := 416) (by decide +kernel) rfl
theorem g_398 : (.selects "PileHeirs$Plain" ({ cls := "PileHeirs$Plain", name := "isFull", desc := "()Z" } : Jvm.MethodName) ({ cls := "PileHeirs$Plain", name := "isFull", desc := "()Z" } : Jvm.MethodName) : Cond) ∈ GW := gw_of (i := 417) (by decide +kernel) rfl
theorem g_399 : (.sameMethod "PileHeirs$Plain" "PileHeirs$Plain" "isFull" "()Z" : Cond) ∈ GW := gw_of (i := 418) (by decide +kernel) rfl
theorem g_400 : (.selects "PileHeirs$Drying" ({ cls := "PileHeirs$Plain", name := "isFull", desc := "()Z" } : Jvm.MethodName) ({ cls := "PileHeirs$Marked", name := "isFull", desc := "()Z" } : Jvm.MethodName) : Cond) ∈ GW := gw_of (i := 419) (by decide +kernel) rfl
theorem g_401 : (.instanceMethod ({ cls := "PileHeirs$Marked", name := "isFull", desc := "()Z" } : Jvm.MethodName) : Cond) ∈ GW := gw_of (i := 420) (by decide +kernel) rfl
theorem g_402 : (.code ({ cls := "PileHeirs$Marked", name := "isFull", desc := "()Z" } : Jvm.MethodName) prog_4_method_2_code 1 (Option.some Jvm.ClassFile.FieldType.boolean) : Cond) ∈ GW := gw_of (i := 421) (by decide +kernel) rfl
theorem g_403 : (.methodLink "PileHeirs$Marked" 7 ({ cls := "PileHeirs$Marked", name := "freeAct", desc := "()I" } : Jvm.MethodName) : Cond) ∈ GW := gw_of (i := 422) (by decide +kernel) rfl
theorem g_404 : (.selects "PileHeirs$Drying" ({ cls := "PileHeirs$Marked", name := "freeAct", desc := "()I" } : Jvm.MethodName) ({ cls := "PileHeirs$Plain", name := "freeAct", desc := "()I" } : Jvm.MethodName) : Cond) ∈ GW := gw_of (i := 423) (by decide +kernel) rfl
theorem g_405 : (.selects "PileHeirs$Lean" ({ cls := "PileHeirs$Marked", name := "freeAct", desc := "()I" } : Jvm.MethodName) ({ cls := "PileHeirs$Lean", name := "freeAct", desc := "()I" } : Jvm.MethodName) : Cond) ∈ GW := gw_of (i := 424) (by decide +kernel) rfl
theorem g_406 : (.selects "PileHeirs$Marked" ({ cls := "PileHeirs$Marked", name := "freeAct", desc := "()I" } : Jvm.MethodName) ({ cls := "PileHeirs$Plain", name := "freeAct", desc := "()I" } : Jvm.MethodName) : Cond) ∈ GW := gw_of (i := 425) (by decide +kernel) rfl
theorem g_407 : (.selects "PileHeirs$Open" ({ cls := "PileHeirs$Marked", name := "freeAct", desc := "()I" } : Jvm.MethodName) ({ cls := "PileHeirs$Plain", name := "freeAct", desc := "()I" } : Jvm.MethodName) : Cond) ∈ GW := gw_of (i := 426) (by decide +kernel) rfl
theorem g_408 : (.selects "PileHeirs$Sorted" ({ cls := "PileHeirs$Marked", name := "freeAct", desc := "()I" } : Jvm.MethodName) ({ cls := "PileHeirs$Plain", name := "freeAct", desc := "()I" } : Jvm.MethodName) : Cond) ∈ GW := gw_of (i := 427) (by decide +kernel) rfl
theorem g_409 : (.selects "PileHeirs$Strict" ({ cls := "PileHeirs$Marked", name := "freeAct", desc := "()I" } : Jvm.MethodName) ({ cls := "PileHeirs$Strict", name := "freeAct", desc := "()I" } : Jvm.MethodName) : Cond) ∈ GW := gw_of (i := 428) (by decide +kernel) rfl
theorem g_410 : (.selects "PileHeirs$Twofold" ({ cls := "PileHeirs$Marked", name := "freeAct", desc := "()I" } : Jvm.MethodName) ({ cls := "PileHeirs$Strict", name := "freeAct", desc := "()I" } : Jvm.MethodName) : Cond) ∈ GW := gw_of (i := 429) (by decide +kernel) rfl
theorem g_411 : (.selects "PileHeirs$Lean" ({ cls := "PileHeirs$Plain", name := "isFull", desc := "()Z" } : Jvm.MethodName) ({ cls := "PileHeirs$Marked", name := "isFull", desc := "()Z" } : Jvm.MethodName) : Cond) ∈ GW := gw_of (i := 430) (by decide +kernel) rfl
theorem g_412 : (.selects "PileHeirs$Marked" ({ cls := "PileHeirs$Plain", name := "isFull", desc := "()Z" } : Jvm.MethodName) ({ cls := "PileHeirs$Marked", name := "isFull", desc := "()Z" } : Jvm.MethodName) : Cond) ∈ GW := gw_of (i := 431) (by decide +kernel) rfl
theorem g_413 : (.selects "PileHeirs$Open" ({ cls := "PileHeirs$Plain", name := "isFull", desc := "()Z" } : Jvm.MethodName) ({ cls := "PileHeirs$Marked", name := "isFull", desc := "()Z" } : Jvm.MethodName) : Cond) ∈ GW := gw_of (i := 432) (by decide +kernel) rfl
theorem g_414 : (.selects "PileHeirs$Sorted" ({ cls := "PileHeirs$Plain", name := "isFull", desc := "()Z" } : Jvm.MethodName) ({ cls := "PileHeirs$Marked", name := "isFull", desc := "()Z" } : Jvm.MethodName) : Cond) ∈ GW := gw_of (i := 433) (by decide +kernel) rfl
theorem g_415 : (.selects "PileHeirs$Strict" ({ cls := "PileHeirs$Plain", name := "isFull", desc := "()Z" } : Jvm.MethodName) ({ cls := "PileHeirs$Marked", name := "isFull", desc := "()Z" } : Jvm.MethodName) : Cond) ∈ GW := gw_of (i := 434) (by decide +kernel) rfl
theorem g_416 : (.selects "PileHeirs$Twofold" ({ cls := "PileHeirs$Plain", name := "isFull", desc := "()Z" } : Jvm.MethodName) ({ cls := "PileHeirs$Marked", name := "isFull", desc := "()Z" } : Jvm.MethodName) : Cond) ∈ GW := gw_of (i := 435) (by decide +kernel) rfl
theorem g_417 : (.code ({ cls := "PileHeirs$Plain", name := "isFull", desc := "()Z" } : Jvm.MethodName) prog_6_method_7_code 1 (Option.some Jvm.ClassFile.FieldType.boolean) : Cond) ∈ GW := gw_of (i := 436) (by decide +kernel) rfl
theorem g_418 : (.methodLink "PileHeirsLaw" 65 ({ cls := "PileHeirs", name := "move", desc := "(II)I" } : Jvm.MethodName) : Cond) ∈ GW := gw_of (i := 437) (by decide +kernel) rfl
theorem g_419 : (.instanceMethod ({ cls := "PileHeirs", name := "move", desc := "(II)I" } : Jvm.MethodName) : Cond) ∈ GW := gw_of (i := 438) (by decide +kernel) rfl
theorem g_420 : (.selects "PileHeirs" ({ cls := "PileHeirs", name := "move", desc := "(II)I" } : Jvm.MethodName) ({ cls := "PileHeirs", name := "move", desc := "(II)I" } : Jvm.MethodName) : Cond) ∈ GW := gw_of (i := 439) (by decide +kernel) rfl
theorem g_421 : (.code ({ cls := "PileHeirs", name := "move", desc := "(II)I" } : Jvm.MethodName) prog_1_method_10_code 6 (Option.some Jvm.ClassFile.FieldType.int) : Cond) ∈ GW := gw_of (i := 440) (by decide +kernel) rfl
theorem g_422 : (.methodLink "PileHeirs" 66 ({ cls := "PileHeirs$Plain", name := "takeAct", desc := "()I" } : Jvm.MethodName) : Cond) ∈ GW := gw_of (i := 441) (by decide +kernel) rfl
theorem g_423 : (.instanceMethod ({ cls := "PileHeirs$Plain", name := "takeAct", desc := "()I" } : Jvm.MethodName) : Cond) ∈ GW := gw_of (i := 442) (by decide +kernel) rfl
theorem g_424 : (.selects "PileHeirs$Plain" ({ cls := "PileHeirs$Plain", name := "takeAct", desc := "()I" } : Jvm.MethodName) ({ cls := "PileHeirs$Plain", name := "takeAct", desc := "()I" } : Jvm.MethodName) : Cond) ∈ GW := gw_of (i := 443) (by decide +kernel) rfl
theorem g_425 : (.sameMethod "PileHeirs$Plain" "PileHeirs$Plain" "takeAct" "()I" : Cond) ∈ GW := gw_of (i := 444) (by decide +kernel) rfl
theorem g_426 : (.selects "PileHeirs$Drying" ({ cls := "PileHeirs$Plain", name := "takeAct", desc := "()I" } : Jvm.MethodName) ({ cls := "PileHeirs$Drying", name := "takeAct", desc := "()I" } : Jvm.MethodName) : Cond) ∈ GW := gw_of (i := 445) (by decide +kernel) rfl
theorem g_427 : (.instanceMethod ({ cls := "PileHeirs$Drying", name := "takeAct", desc := "()I" } : Jvm.MethodName) : Cond) ∈ GW := gw_of (i := 446) (by decide +kernel) rfl
theorem g_428 : (.code ({ cls := "PileHeirs$Drying", name := "takeAct", desc := "()I" } : Jvm.MethodName) prog_2_method_2_code 2 (Option.some Jvm.ClassFile.FieldType.int) : Cond) ∈ GW := gw_of (i := 447) (by decide +kernel) rfl
theorem g_429 : (.methodLink "PileHeirs$Drying" 21 ({ cls := "PileHeirs$Sorted", name := "takeAct", desc := "()I" } : Jvm.MethodName) : Cond) ∈ GW := gw_of (i := 448) (by decide +kernel) rfl
theorem g_430 : (.sameMethod "PileHeirs$Sorted" "PileHeirs$Plain" "takeAct" "()I" : Cond) ∈ GW := gw_of (i := 449) (by decide +kernel) rfl
theorem g_432 : (.methodLink "PileHeirs$Drying" 25 ({ cls := "PileHeirs$Trace", name := "countNothing", desc := "()V" } : Jvm.MethodName) : Cond) ∈ GW := gw_of (i := 451) (by decide +kernel) rfl
theorem g_433 : (.instanceMethod ({ cls := "PileHeirs$Trace", name := "countNothing", desc := "()V" } : Jvm.MethodName) : Cond) ∈ GW := gw_of (i := 452) (by decide +kernel) rfl
theorem g_434 : (.selects "PileHeirs$Trace" ({ cls := "PileHeirs$Trace", name := "countNothing", desc := "()V" } : Jvm.MethodName) ({ cls := "PileHeirs$Trace", name := "countNothing", desc := "()V" } : Jvm.MethodName) : Cond) ∈ GW := gw_of (i := 453) (by decide +kernel) rfl
theorem g_435 : (.code ({ cls := "PileHeirs$Trace", name := "countNothing", desc := "()V" } : Jvm.MethodName) prog_10_method_5_code 1 (Option.none : Option Jvm.ClassFile.FieldType) : Cond) ∈ GW := gw_of (i := 454) (by decide +kernel) rfl
theorem g_436 : (.methodLink "PileHeirs$Drying" 39 ({ cls := "PileHeirs$Timbers", name := "setWet", desc := "(IZ)V" } : Jvm.MethodName) : Cond) ∈ GW := gw_of (i := 455) (by decide +kernel) rfl
theorem g_437 : (.instanceMethod ({ cls := "PileHeirs$Timbers", name := "setWet", desc := "(IZ)V" } : Jvm.MethodName) : Cond) ∈ GW := gw_of (i := 456) (by decide +kernel) rfl
theorem g_438 : (.selects "PileHeirs$Timbers" ({ cls := "PileHeirs$Timbers", name := "setWet", desc := "(IZ)V" } : Jvm.MethodName) ({ cls := "PileHeirs$Timbers", name := "setWet", desc := "(IZ)V" } : Jvm.MethodName) : Cond) ∈ GW := gw_of (i := 457) (by decide +kernel) rfl
theorem g_439 : (.code ({ cls := "PileHeirs$Timbers", name := "setWet", desc := "(IZ)V" } : Jvm.MethodName) prog_9_method_9_code 3 (Option.none : Option Jvm.ClassFile.FieldType) : Cond) ∈ GW := gw_of (i := 458) (by decide +kernel) rfl
theorem g_440 : (.methodLink "PileHeirs$Drying" 43 ({ cls := "PileHeirs$Drying", name := "putAct", desc := "(I)I" } : Jvm.MethodName) : Cond) ∈ GW := gw_of (i := 459) (by decide +kernel) rfl
theorem g_441 : (.sameMethod "PileHeirs$Drying" "PileHeirs$Sorted" "putAct" "(I)I" : Cond) ∈ GW := gw_of (i := 460) (by decide +kernel) rfl
theorem g_443 : (.selects "PileHeirs$Drying" ({ cls := "PileHeirs$Drying", name := "putAct", desc := "(I)I" } : Jvm.MethodName) ({ cls := "PileHeirs$Sorted", name := "putAct", desc := "(I)I" } : Jvm.MethodName) : Cond) ∈ GW := gw_of (i := 462) (by decide +kernel) rfl
theorem g_444 : (.selects "PileHeirs$Open" ({ cls := "PileHeirs$Drying", name := "putAct", desc := "(I)I" } : Jvm.MethodName) ({ cls := "PileHeirs$Open", name := "putAct", desc := "(I)I" } : Jvm.MethodName) : Cond) ∈ GW := gw_of (i := 463) (by decide +kernel) rfl
theorem g_445 : (.instanceMethod ({ cls := "PileHeirs$Open", name := "putAct", desc := "(I)I" } : Jvm.MethodName) : Cond) ∈ GW := gw_of (i := 464) (by decide +kernel) rfl
theorem g_446 : (.code ({ cls := "PileHeirs$Open", name := "putAct", desc := "(I)I" } : Jvm.MethodName) prog_5_method_2_code 2 (Option.some Jvm.ClassFile.FieldType.int) : Cond) ∈ GW := gw_of (i := 465) (by decide +kernel) rfl
theorem g_447 : (.methodLink "PileHeirs$Open" 25 ({ cls := "PileHeirs$Timbers", name := "weightOf", desc := "(I)I" } : Jvm.MethodName) : Cond) ∈ GW := gw_of (i := 466) (by decide +kernel) rfl
theorem g_448 : (.methodLink "PileHeirs$Open" 31 ({ cls := "PileHeirs$Timbers", name := "setWet", desc := "(IZ)V" } : Jvm.MethodName) : Cond) ∈ GW := gw_of (i := 467) (by decide +kernel) rfl
theorem g_449 : (.methodLink "PileHeirs$Open" 35 ({ cls := "PileHeirs$Drying", name := "putAct", desc := "(I)I" } : Jvm.MethodName) : Cond) ∈ GW := gw_of (i := 468) (by decide +kernel) rfl
theorem g_450 : (.instanceMethod ({ cls := "PileHeirs$Sorted", name := "putAct", desc := "(I)I" } : Jvm.MethodName) : Cond) ∈ GW := gw_of (i := 469) (by decide +kernel) rfl
theorem g_451 : (.code ({ cls := "PileHeirs$Sorted", name := "putAct", desc := "(I)I" } : Jvm.MethodName) prog_7_method_2_code 3 (Option.some Jvm.ClassFile.FieldType.int) : Cond) ∈ GW := gw_of (i := 470) (by decide +kernel) rfl
theorem g_452 : (.methodLink "PileHeirs$Sorted" 15 ({ cls := "PileHeirs$Trace", name := "begin", desc := "(II)V" } : Jvm.MethodName) : Cond) ∈ GW := gw_of (i := 471) (by decide +kernel) rfl
theorem g_453 : (.methodLink "PileHeirs$Sorted" 21 ({ cls := "PileHeirs$Marked", name := "putAct", desc := "(I)I" } : Jvm.MethodName) : Cond) ∈ GW := gw_of (i := 472) (by decide +kernel) rfl
theorem g_454 : (.sameMethod "PileHeirs$Marked" "PileHeirs$Plain" "putAct" "(I)I" : Cond) ∈ GW := gw_of (i := 473) (by decide +kernel) rfl
theorem g_456 : (.instanceMethod ({ cls := "PileHeirs$Plain", name := "putAct", desc := "(I)I" } : Jvm.MethodName) : Cond) ∈ GW := gw_of (i := 475) (by decide +kernel) rfl
theorem g_457 : (.code ({ cls := "PileHeirs$Plain", name := "putAct", desc := "(I)I" } : Jvm.MethodName) prog_6_method_2_code 2 (Option.some Jvm.ClassFile.FieldType.int) : Cond) ∈ GW := gw_of (i := 476) (by decide +kernel) rfl
theorem g_458 : (.methodLink "PileHeirs$Plain" 42 ({ cls := "PileHeirs$Timbers", name := "setPile", desc := "(II)V" } : Jvm.MethodName) : Cond) ∈ GW := gw_of (i := 477) (by decide +kernel) rfl
theorem g_459 : (.instanceMethod ({ cls := "PileHeirs$Timbers", name := "setPile", desc := "(II)V" } : Jvm.MethodName) : Cond) ∈ GW := gw_of (i := 478) (by decide +kernel) rfl
theorem g_460 : (.selects "PileHeirs$Timbers" ({ cls := "PileHeirs$Timbers", name := "setPile", desc := "(II)V" } : Jvm.MethodName) ({ cls := "PileHeirs$Timbers", name := "setPile", desc := "(II)V" } : Jvm.MethodName) : Cond) ∈ GW := gw_of (i := 479) (by decide +kernel) rfl
theorem g_461 : (.code ({ cls := "PileHeirs$Timbers", name := "setPile", desc := "(II)V" } : Jvm.MethodName) prog_9_method_11_code 3 (Option.none : Option Jvm.ClassFile.FieldType) : Cond) ∈ GW := gw_of (i := 480) (by decide +kernel) rfl
theorem g_462 : (.methodLink "PileHeirs$Sorted" 29 ({ cls := "PileHeirs$Timbers", name := "lengthOf", desc := "(I)I" } : Jvm.MethodName) : Cond) ∈ GW := gw_of (i := 481) (by decide +kernel) rfl
theorem g_463 : (.methodLink "PileHeirs$Sorted" 34 ({ cls := "PileHeirs$Sorted", name := "sinkTopmost", desc := "(I)V" } : Jvm.MethodName) : Cond) ∈ GW := gw_of (i := 482) (by decide +kernel) rfl
theorem g_465 : (.instanceMethod ({ cls := "PileHeirs$Sorted", name := "sinkTopmost", desc := "(I)V" } : Jvm.MethodName) : Cond) ∈ GW := gw_of (i := 484) (by decide +kernel) rfl
theorem g_466 : (.code ({ cls := "PileHeirs$Sorted", name := "sinkTopmost", desc := "(I)V" } : Jvm.MethodName) prog_7_method_3_code 3 (Option.none : Option Jvm.ClassFile.FieldType) : Cond) ∈ GW := gw_of (i := 485) (by decide +kernel) rfl
theorem g_467 : (.methodLink "PileHeirs$Sorted" 38 ({ cls := "PileHeirs$Sorted", name := "howMany", desc := "()I" } : Jvm.MethodName) : Cond) ∈ GW := gw_of (i := 486) (by decide +kernel) rfl
theorem g_468 : (.sameMethod "PileHeirs$Sorted" "PileHeirs$Plain" "howMany" "()I" : Cond) ∈ GW := gw_of (i := 487) (by decide +kernel) rfl
theorem g_469 : (.selects "PileHeirs$Drying" ({ cls := "PileHeirs$Sorted", name := "howMany", desc := "()I" } : Jvm.MethodName) ({ cls := "PileHeirs$Plain", name := "howMany", desc := "()I" } : Jvm.MethodName) : Cond) ∈ GW := gw_of (i := 488) (by decide +kernel) rfl
theorem g_470 : (.selects "PileHeirs$Open" ({ cls := "PileHeirs$Sorted", name := "howMany", desc := "()I" } : Jvm.MethodName) ({ cls := "PileHeirs$Plain", name := "howMany", desc := "()I" } : Jvm.MethodName) : Cond) ∈ GW := gw_of (i := 489) (by decide +kernel) rfl
theorem g_471 : (.selects "PileHeirs$Sorted" ({ cls := "PileHeirs$Sorted", name := "howMany", desc := "()I" } : Jvm.MethodName) ({ cls := "PileHeirs$Plain", name := "howMany", desc := "()I" } : Jvm.MethodName) : Cond) ∈ GW := gw_of (i := 490) (by decide +kernel) rfl
theorem g_472 : (.methodLink "PileHeirs$Sorted" 42 ({ cls := "PileHeirs$Sorted", name := "timberAt", desc := "(I)I" } : Jvm.MethodName) : Cond) ∈ GW := gw_of (i := 491) (by decide +kernel) rfl
theorem g_473 : (.sameMethod "PileHeirs$Sorted" "PileHeirs$Plain" "timberAt" "(I)I" : Cond) ∈ GW := gw_of (i := 492) (by decide +kernel) rfl
theorem g_474 : (.selects "PileHeirs$Drying" ({ cls := "PileHeirs$Sorted", name := "timberAt", desc := "(I)I" } : Jvm.MethodName) ({ cls := "PileHeirs$Plain", name := "timberAt", desc := "(I)I" } : Jvm.MethodName) : Cond) ∈ GW := gw_of (i := 493) (by decide +kernel) rfl
theorem g_475 : (.selects "PileHeirs$Open" ({ cls := "PileHeirs$Sorted", name := "timberAt", desc := "(I)I" } : Jvm.MethodName) ({ cls := "PileHeirs$Plain", name := "timberAt", desc := "(I)I" } : Jvm.MethodName) : Cond) ∈ GW := gw_of (i := 494) (by decide +kernel) rfl
theorem g_476 : (.selects "PileHeirs$Sorted" ({ cls := "PileHeirs$Sorted", name := "timberAt", desc := "(I)I" } : Jvm.MethodName) ({ cls := "PileHeirs$Plain", name := "timberAt", desc := "(I)I" } : Jvm.MethodName) : Cond) ∈ GW := gw_of (i := 495) (by decide +kernel) rfl
theorem g_477 : (.methodLink "PileHeirs$Sorted" 45 ({ cls := "PileHeirs$Sorted", name := "swapWithUnder", desc := "(I)V" } : Jvm.MethodName) : Cond) ∈ GW := gw_of (i := 496) (by decide +kernel) rfl
theorem g_478 : (.sameMethod "PileHeirs$Sorted" "PileHeirs$Plain" "swapWithUnder" "(I)V" : Cond) ∈ GW := gw_of (i := 497) (by decide +kernel) rfl
theorem g_480 : (.selects "PileHeirs$Drying" ({ cls := "PileHeirs$Sorted", name := "swapWithUnder", desc := "(I)V" } : Jvm.MethodName) ({ cls := "PileHeirs$Plain", name := "swapWithUnder", desc := "(I)V" } : Jvm.MethodName) : Cond) ∈ GW := gw_of (i := 499) (by decide +kernel) rfl
theorem g_481 : (.selects "PileHeirs$Open" ({ cls := "PileHeirs$Sorted", name := "swapWithUnder", desc := "(I)V" } : Jvm.MethodName) ({ cls := "PileHeirs$Plain", name := "swapWithUnder", desc := "(I)V" } : Jvm.MethodName) : Cond) ∈ GW := gw_of (i := 500) (by decide +kernel) rfl
theorem g_482 : (.selects "PileHeirs$Sorted" ({ cls := "PileHeirs$Sorted", name := "swapWithUnder", desc := "(I)V" } : Jvm.MethodName) ({ cls := "PileHeirs$Plain", name := "swapWithUnder", desc := "(I)V" } : Jvm.MethodName) : Cond) ∈ GW := gw_of (i := 501) (by decide +kernel) rfl
theorem g_483 : (.instanceMethod ({ cls := "PileHeirs$Plain", name := "swapWithUnder", desc := "(I)V" } : Jvm.MethodName) : Cond) ∈ GW := gw_of (i := 502) (by decide +kernel) rfl
theorem g_484 : (.code ({ cls := "PileHeirs$Plain", name := "swapWithUnder", desc := "(I)V" } : Jvm.MethodName) prog_6_method_10_code 3 (Option.none : Option Jvm.ClassFile.FieldType) : Cond) ∈ GW := gw_of (i := 503) (by decide +kernel) rfl
theorem g_485 : (.selects "PileHeirs$Lean" ({ cls := "PileHeirs$Plain", name := "takeAct", desc := "()I" } : Jvm.MethodName) ({ cls := "PileHeirs$Lean", name := "takeAct", desc := "()I" } : Jvm.MethodName) : Cond) ∈ GW := gw_of (i := 504) (by decide +kernel) rfl
theorem g_486 : (.instanceMethod ({ cls := "PileHeirs$Lean", name := "takeAct", desc := "()I" } : Jvm.MethodName) : Cond) ∈ GW := gw_of (i := 505) (by decide +kernel) rfl
theorem g_487 : (.code ({ cls := "PileHeirs$Lean", name := "takeAct", desc := "()I" } : Jvm.MethodName) prog_3_method_2_code 2 (Option.some Jvm.ClassFile.FieldType.int) : Cond) ∈ GW := gw_of (i := 506) (by decide +kernel) rfl
theorem g_488 : (.methodLink "PileHeirs$Lean" 21 ({ cls := "PileHeirs$Twofold", name := "takeAct", desc := "()I" } : Jvm.MethodName) : Cond) ∈ GW := gw_of (i := 507) (by decide +kernel) rfl
theorem g_489 : (.sameMethod "PileHeirs$Twofold" "PileHeirs$Plain" "takeAct" "()I" : Cond) ∈ GW := gw_of (i := 508) (by decide +kernel) rfl
theorem g_490 : (.methodLink "PileHeirs$Lean" 25 ({ cls := "PileHeirs$Trace", name := "countNothing", desc := "()V" } : Jvm.MethodName) : Cond) ∈ GW := gw_of (i := 509) (by decide +kernel) rfl
theorem g_491 : (.methodLink "PileHeirs$Lean" 33 ({ cls := "PileHeirs$Timbers", name := "lighten", desc := "(I)V" } : Jvm.MethodName) : Cond) ∈ GW := gw_of (i := 510) (by decide +kernel) rfl
theorem g_492 : (.instanceMethod ({ cls := "PileHeirs$Timbers", name := "lighten", desc := "(I)V" } : Jvm.MethodName) : Cond) ∈ GW := gw_of (i := 511) (by decide +kernel) rfl
theorem g_493 : (.selects "PileHeirs$Timbers" ({ cls := "PileHeirs$Timbers", name := "lighten", desc := "(I)V" } : Jvm.MethodName) ({ cls := "PileHeirs$Timbers", name := "lighten", desc := "(I)V" } : Jvm.MethodName) : Cond) ∈ GW := gw_of (i := 512) (by decide +kernel) rfl
theorem g_494 : (.code ({ cls := "PileHeirs$Timbers", name := "lighten", desc := "(I)V" } : Jvm.MethodName) prog_9_method_10_code 2 (Option.none : Option Jvm.ClassFile.FieldType) : Cond) ∈ GW := gw_of (i := 513) (by decide +kernel) rfl
theorem g_495 : (.methodLink "PileHeirs$Timbers" 33 ({ cls := "java/lang/Math", name := "max", desc := "(II)I" } : Jvm.MethodName) : Cond) ∈ GW := gw_of (i := 514) (by decide +kernel) rfl
theorem g_496 : (.selects "PileHeirs$Marked" ({ cls := "PileHeirs$Plain", name := "takeAct", desc := "()I" } : Jvm.MethodName) ({ cls := "PileHeirs$Plain", name := "takeAct", desc := "()I" } : Jvm.MethodName) : Cond) ∈ GW := gw_of (i := 515) (by decide +kernel) rfl
theorem g_497 : (.selects "PileHeirs$Open" ({ cls := "PileHeirs$Plain", name := "takeAct", desc := "()I" } : Jvm.MethodName) ({ cls := "PileHeirs$Drying", name := "takeAct", desc := "()I" } : Jvm.MethodName) : Cond) ∈ GW := gw_of (i := 516) (by decide +kernel) rfl
theorem g_498 : (.selects "PileHeirs$Sorted" ({ cls := "PileHeirs$Plain", name := "takeAct", desc := "()I" } : Jvm.MethodName) ({ cls := "PileHeirs$Plain", name := "takeAct", desc := "()I" } : Jvm.MethodName) : Cond) ∈ GW := gw_of (i := 517) (by decide +kernel) rfl
theorem g_499 : (.selects "PileHeirs$Strict" ({ cls := "PileHeirs$Plain", name := "takeAct", desc := "()I" } : Jvm.MethodName) ({ cls := "PileHeirs$Plain", name := "takeAct", desc := "()I" } : Jvm.MethodName) : Cond) ∈ GW := gw_of (i := 518) (by decide +kernel) rfl
theorem g_500 : (.selects "PileHeirs$Twofold" ({ cls := "PileHeirs$Plain", name := "takeAct", desc := "()I" } : Jvm.MethodName) ({ cls := "PileHeirs$Plain", name := "takeAct", desc := "()I" } : Jvm.MethodName) : Cond) ∈ GW := gw_of (i := 519) (by decide +kernel) rfl
theorem g_501 : (.code ({ cls := "PileHeirs$Plain", name := "takeAct", desc := "()I" } : Jvm.MethodName) prog_6_method_3_code 2 (Option.some Jvm.ClassFile.FieldType.int) : Cond) ∈ GW := gw_of (i := 520) (by decide +kernel) rfl
theorem g_502 : (.methodLink "PileHeirs" 56 ({ cls := "PileHeirs$Plain", name := "putAct", desc := "(I)I" } : Jvm.MethodName) : Cond) ∈ GW := gw_of (i := 521) (by decide +kernel) rfl
theorem g_503 : (.instanceMethod ({ cls := "PileHeirs$Strict", name := "putAct", desc := "(I)I" } : Jvm.MethodName) : Cond) ∈ GW := gw_of (i := 522) (by decide +kernel) rfl
theorem g_504 : (.code ({ cls := "PileHeirs$Strict", name := "putAct", desc := "(I)I" } : Jvm.MethodName) prog_8_method_2_code 2 (Option.some Jvm.ClassFile.FieldType.int) : Cond) ∈ GW := gw_of (i := 523) (by decide +kernel) rfl
theorem g_505 : (.methodLink "PileHeirs$Strict" 29 ({ cls := "PileHeirs$Timbers", name := "weightOf", desc := "(I)I" } : Jvm.MethodName) : Cond) ∈ GW := gw_of (i := 524) (by decide +kernel) rfl
theorem g_506 : (.methodLink "PileHeirs$Strict" 39 ({ cls := "PileHeirs$Trace", name := "countHeavy", desc := "()V" } : Jvm.MethodName) : Cond) ∈ GW := gw_of (i := 525) (by decide +kernel) rfl
theorem g_507 : (.instanceMethod ({ cls := "PileHeirs$Trace", name := "countHeavy", desc := "()V" } : Jvm.MethodName) : Cond) ∈ GW := gw_of (i := 526) (by decide +kernel) rfl
theorem g_508 : (.selects "PileHeirs$Trace" ({ cls := "PileHeirs$Trace", name := "countHeavy", desc := "()V" } : Jvm.MethodName) ({ cls := "PileHeirs$Trace", name := "countHeavy", desc := "()V" } : Jvm.MethodName) : Cond) ∈ GW := gw_of (i := 527) (by decide +kernel) rfl
theorem g_509 : (.code ({ cls := "PileHeirs$Trace", name := "countHeavy", desc := "()V" } : Jvm.MethodName) prog_10_method_4_code 1 (Option.none : Option Jvm.ClassFile.FieldType) : Cond) ∈ GW := gw_of (i := 528) (by decide +kernel) rfl
theorem g_510 : (.methodLink "PileHeirs$Strict" 43 ({ cls := "PileHeirs$Marked", name := "putAct", desc := "(I)I" } : Jvm.MethodName) : Cond) ∈ GW := gw_of (i := 529) (by decide +kernel) rfl
theorem g_511 : (.methodLink "PileHeirsLaw" 69 ({ cls := "PileHeirs", name := "at", desc := "(II)I" } : Jvm.MethodName) : Cond) ∈ GW := gw_of (i := 530) (by decide +kernel) rfl
theorem g_512 : (.instanceMethod ({ cls := "PileHeirs", name := "at", desc := "(II)I" } : Jvm.MethodName) : Cond) ∈ GW := gw_of (i := 531) (by decide +kernel) rfl
theorem g_513 : (.selects "PileHeirs" ({ cls := "PileHeirs", name := "at", desc := "(II)I" } : Jvm.MethodName) ({ cls := "PileHeirs", name := "at", desc := "(II)I" } : Jvm.MethodName) : Cond) ∈ GW := gw_of (i := 532) (by decide +kernel) rfl
theorem g_514 : (.code ({ cls := "PileHeirs", name := "at", desc := "(II)I" } : Jvm.MethodName) prog_1_method_11_code 5 (Option.some Jvm.ClassFile.FieldType.int) : Cond) ∈ GW := gw_of (i := 533) (by decide +kernel) rfl
theorem g_515 : (.methodLink "PileHeirs" 88 ({ cls := "PileHeirs$Plain", name := "timberAt", desc := "(I)I" } : Jvm.MethodName) : Cond) ∈ GW := gw_of (i := 534) (by decide +kernel) rfl
theorem g_516 : (.methodLink "PileHeirsLaw" 73 ({ cls := "PileHeirs", name := "of", desc := "(II)I" } : Jvm.MethodName) : Cond) ∈ GW := gw_of (i := 535) (by decide +kernel) rfl
theorem g_517 : (.instanceMethod ({ cls := "PileHeirs", name := "of", desc := "(II)I" } : Jvm.MethodName) : Cond) ∈ GW := gw_of (i := 536) (by decide +kernel) rfl
theorem g_518 : (.selects "PileHeirs" ({ cls := "PileHeirs", name := "of", desc := "(II)I" } : Jvm.MethodName) ({ cls := "PileHeirs", name := "of", desc := "(II)I" } : Jvm.MethodName) : Cond) ∈ GW := gw_of (i := 537) (by decide +kernel) rfl
theorem g_519 : (.code ({ cls := "PileHeirs", name := "of", desc := "(II)I" } : Jvm.MethodName) prog_1_method_12_code 3 (Option.some Jvm.ClassFile.FieldType.int) : Cond) ∈ GW := gw_of (i := 538) (by decide +kernel) rfl
theorem g_520 : (.methodLink "PileHeirs" 49 ({ cls := "PileHeirs$Timbers", name := "has", desc := "(I)Z" } : Jvm.MethodName) : Cond) ∈ GW := gw_of (i := 539) (by decide +kernel) rfl
theorem g_521 : (.methodLink "PileHeirs" 91 ({ cls := "PileHeirs$Timbers", name := "lengthOf", desc := "(I)I" } : Jvm.MethodName) : Cond) ∈ GW := gw_of (i := 540) (by decide +kernel) rfl
theorem g_522 : (.methodLink "PileHeirs" 94 ({ cls := "PileHeirs$Timbers", name := "weightOf", desc := "(I)I" } : Jvm.MethodName) : Cond) ∈ GW := gw_of (i := 541) (by decide +kernel) rfl
theorem g_523 : (.methodLink "PileHeirs" 97 ({ cls := "PileHeirs$Timbers", name := "isWet", desc := "(I)Z" } : Jvm.MethodName) : Cond) ∈ GW := gw_of (i := 542) (by decide +kernel) rfl
theorem g_524 : (.methodLink "PileHeirs" 53 ({ cls := "PileHeirs$Timbers", name := "pileOf", desc := "(I)I" } : Jvm.MethodName) : Cond) ∈ GW := gw_of (i := 543) (by decide +kernel) rfl
theorem g_525 : (.instanceMethod ({ cls := "PileHeirs$Timbers", name := "pileOf", desc := "(I)I" } : Jvm.MethodName) : Cond) ∈ GW := gw_of (i := 544) (by decide +kernel) rfl
theorem g_526 : (.selects "PileHeirs$Timbers" ({ cls := "PileHeirs$Timbers", name := "pileOf", desc := "(I)I" } : Jvm.MethodName) ({ cls := "PileHeirs$Timbers", name := "pileOf", desc := "(I)I" } : Jvm.MethodName) : Cond) ∈ GW := gw_of (i := 545) (by decide +kernel) rfl
theorem g_527 : (.code ({ cls := "PileHeirs$Timbers", name := "pileOf", desc := "(I)I" } : Jvm.MethodName) prog_9_method_8_code 2 (Option.some Jvm.ClassFile.FieldType.int) : Cond) ∈ GW := gw_of (i := 546) (by decide +kernel) rfl
theorem g_528 : (.methodLink "PileHeirsLaw" 77 ({ cls := "PileHeirs", name := "trace", desc := "(I)I" } : Jvm.MethodName) : Cond) ∈ GW := gw_of (i := 547) (by decide +kernel) rfl
theorem g_529 : (.instanceMethod ({ cls := "PileHeirs", name := "trace", desc := "(I)I" } : Jvm.MethodName) : Cond) ∈ GW := gw_of (i := 548) (by decide +kernel) rfl
theorem g_530 : (.selects "PileHeirs" ({ cls := "PileHeirs", name := "trace", desc := "(I)I" } : Jvm.MethodName) ({ cls := "PileHeirs", name := "trace", desc := "(I)I" } : Jvm.MethodName) : Cond) ∈ GW := gw_of (i := 549) (by decide +kernel) rfl
theorem g_531 : (.code ({ cls := "PileHeirs", name := "trace", desc := "(I)I" } : Jvm.MethodName) prog_1_method_13_code 2 (Option.some Jvm.ClassFile.FieldType.int) : Cond) ∈ GW := gw_of (i := 550) (by decide +kernel) rfl
theorem g_532 : (.methodLink "PileHeirs" 100 ({ cls := "PileHeirs$Trace", name := "latest", desc := "(I)I" } : Jvm.MethodName) : Cond) ∈ GW := gw_of (i := 551) (by decide +kernel) rfl
theorem g_533 : (.instanceMethod ({ cls := "PileHeirs$Trace", name := "latest", desc := "(I)I" } : Jvm.MethodName) : Cond) ∈ GW := gw_of (i := 552) (by decide +kernel) rfl
theorem g_534 : (.selects "PileHeirs$Trace" ({ cls := "PileHeirs$Trace", name := "latest", desc := "(I)I" } : Jvm.MethodName) ({ cls := "PileHeirs$Trace", name := "latest", desc := "(I)I" } : Jvm.MethodName) : Cond) ∈ GW := gw_of (i := 553) (by decide +kernel) rfl
theorem g_535 : (.code ({ cls := "PileHeirs$Trace", name := "latest", desc := "(I)I" } : Jvm.MethodName) prog_10_method_3_code 3 (Option.some Jvm.ClassFile.FieldType.int) : Cond) ∈ GW := gw_of (i := 554) (by decide +kernel) rfl
theorem g_536 : (.methodLink "PileHeirsLaw" 81 ({ cls := "PileHeirs", name := "count", desc := "(I)I" } : Jvm.MethodName) : Cond) ∈ GW := gw_of (i := 555) (by decide +kernel) rfl
theorem g_537 : (.instanceMethod ({ cls := "PileHeirs", name := "count", desc := "(I)I" } : Jvm.MethodName) : Cond) ∈ GW := gw_of (i := 556) (by decide +kernel) rfl
theorem g_538 : (.selects "PileHeirs" ({ cls := "PileHeirs", name := "count", desc := "(I)I" } : Jvm.MethodName) ({ cls := "PileHeirs", name := "count", desc := "(I)I" } : Jvm.MethodName) : Cond) ∈ GW := gw_of (i := 557) (by decide +kernel) rfl
theorem g_539 : (.code ({ cls := "PileHeirs", name := "count", desc := "(I)I" } : Jvm.MethodName) prog_1_method_14_code 2 (Option.some Jvm.ClassFile.FieldType.int) : Cond) ∈ GW := gw_of (i := 558) (by decide +kernel) rfl
theorem g_540 : (.methodLink "PileHeirs" 103 ({ cls := "PileHeirs$Timbers", name := "howMany", desc := "()I" } : Jvm.MethodName) : Cond) ∈ GW := gw_of (i := 559) (by decide +kernel) rfl
theorem g_541 : (.instanceMethod ({ cls := "PileHeirs$Timbers", name := "howMany", desc := "()I" } : Jvm.MethodName) : Cond) ∈ GW := gw_of (i := 560) (by decide +kernel) rfl
theorem g_542 : (.selects "PileHeirs$Timbers" ({ cls := "PileHeirs$Timbers", name := "howMany", desc := "()I" } : Jvm.MethodName) ({ cls := "PileHeirs$Timbers", name := "howMany", desc := "()I" } : Jvm.MethodName) : Cond) ∈ GW := gw_of (i := 561) (by decide +kernel) rfl
theorem g_543 : (.code ({ cls := "PileHeirs$Timbers", name := "howMany", desc := "()I" } : Jvm.MethodName) prog_9_method_4_code 1 (Option.some Jvm.ClassFile.FieldType.int) : Cond) ∈ GW := gw_of (i := 562) (by decide +kernel) rfl
theorem g_544 : (.methodLink "PileHeirs" 106 ({ cls := "PileHeirs$Trace", name := "rulesEver", desc := "()I" } : Jvm.MethodName) : Cond) ∈ GW := gw_of (i := 563) (by decide +kernel) rfl
theorem g_545 : (.instanceMethod ({ cls := "PileHeirs$Trace", name := "rulesEver", desc := "()I" } : Jvm.MethodName) : Cond) ∈ GW := gw_of (i := 564) (by decide +kernel) rfl
theorem g_546 : (.selects "PileHeirs$Trace" ({ cls := "PileHeirs$Trace", name := "rulesEver", desc := "()I" } : Jvm.MethodName) ({ cls := "PileHeirs$Trace", name := "rulesEver", desc := "()I" } : Jvm.MethodName) : Cond) ∈ GW := gw_of (i := 565) (by decide +kernel) rfl
theorem g_547 : (.code ({ cls := "PileHeirs$Trace", name := "rulesEver", desc := "()I" } : Jvm.MethodName) prog_10_method_6_code 1 (Option.some Jvm.ClassFile.FieldType.int) : Cond) ∈ GW := gw_of (i := 566) (by decide +kernel) rfl
theorem g_548 : (.methodLink "PileHeirs" 109 ({ cls := "PileHeirs$Trace", name := "heavyEver", desc := "()I" } : Jvm.MethodName) : Cond) ∈ GW := gw_of (i := 567) (by decide +kernel) rfl
theorem g_549 : (.instanceMethod ({ cls := "PileHeirs$Trace", name := "heavyEver", desc := "()I" } : Jvm.MethodName) : Cond) ∈ GW := gw_of (i := 568) (by decide +kernel) rfl
theorem g_550 : (.selects "PileHeirs$Trace" ({ cls := "PileHeirs$Trace", name := "heavyEver", desc := "()I" } : Jvm.MethodName) ({ cls := "PileHeirs$Trace", name := "heavyEver", desc := "()I" } : Jvm.MethodName) : Cond) ∈ GW := gw_of (i := 569) (by decide +kernel) rfl
theorem g_551 : (.code ({ cls := "PileHeirs$Trace", name := "heavyEver", desc := "()I" } : Jvm.MethodName) prog_10_method_7_code 1 (Option.some Jvm.ClassFile.FieldType.int) : Cond) ∈ GW := gw_of (i := 570) (by decide +kernel) rfl
theorem g_552 : (.methodLink "PileHeirs" 112 ({ cls := "PileHeirs$Trace", name := "nothingEver", desc := "()I" } : Jvm.MethodName) : Cond) ∈ GW := gw_of (i := 571) (by decide +kernel) rfl
theorem g_553 : (.instanceMethod ({ cls := "PileHeirs$Trace", name := "nothingEver", desc := "()I" } : Jvm.MethodName) : Cond) ∈ GW := gw_of (i := 572) (by decide +kernel) rfl
theorem g_554 : (.selects "PileHeirs$Trace" ({ cls := "PileHeirs$Trace", name := "nothingEver", desc := "()I" } : Jvm.MethodName) ({ cls := "PileHeirs$Trace", name := "nothingEver", desc := "()I" } : Jvm.MethodName) : Cond) ∈ GW := gw_of (i := 573) (by decide +kernel) rfl
theorem g_555 : (.code ({ cls := "PileHeirs$Trace", name := "nothingEver", desc := "()I" } : Jvm.MethodName) prog_10_method_8_code 1 (Option.some Jvm.ClassFile.FieldType.int) : Cond) ∈ GW := gw_of (i := 574) (by decide +kernel) rfl
theorem g_556 : (.methodLink "PileHeirsLaw" 35 ({ cls := "PileHeirsLaw", name := "put", desc := "(LPileHeirs;II[J)I" } : Jvm.MethodName) : Cond) ∈ GW := gw_of (i := 575) (by decide +kernel) rfl
theorem g_557 : (.static ({ cls := "PileHeirsLaw", name := "put", desc := "(LPileHeirs;II[J)I" } : Jvm.MethodName) : Cond) ∈ GW := gw_of (i := 576) (by decide +kernel) rfl
theorem g_559 : (.classLink "PileHeirsLaw" 13 "java/lang/UnsupportedOperationException" : Cond) ∈ GW := gw_of (i := 578) (by decide +kernel) rfl
theorem g_560 : (.methodLink "PileHeirsLaw" 7 ({ cls := "PileHeirs", name := "put", desc := "(II)I" } : Jvm.MethodName) : Cond) ∈ GW := gw_of (i := 579) (by decide +kernel) rfl
theorem g_561 : (.instanceMethod ({ cls := "PileHeirs", name := "put", desc := "(II)I" } : Jvm.MethodName) : Cond) ∈ GW := gw_of (i := 580) (by decide +kernel) rfl
theorem g_562 : (.selects "PileHeirs" ({ cls := "PileHeirs", name := "put", desc := "(II)I" } : Jvm.MethodName) ({ cls := "PileHeirs", name := "put", desc := "(II)I" } : Jvm.MethodName) : Cond) ∈ GW := gw_of (i := 581) (by decide +kernel) rfl
theorem g_563 : (.code ({ cls := "PileHeirs", name := "put", desc := "(II)I" } : Jvm.MethodName) prog_1_method_4_code 5 (Option.some Jvm.ClassFile.FieldType.int) : Cond) ∈ GW := gw_of (i := 582) (by decide +kernel) rfl
theorem g_564 : (.classLink "PileHeirs" 59 "java/lang/UnsupportedOperationException" : Cond) ∈ GW := gw_of (i := 583) (by decide +kernel) rfl
theorem g_565 : (.instantiable "java/lang/UnsupportedOperationException" 6 : Cond) ∈ GW := gw_of (i := 584) (by decide +kernel) rfl
theorem g_573 : (.selects "java/lang/UnsupportedOperationException" ({ cls := "java/lang/Throwable", name := "fillInStackTrace", desc := "(I)Ljava/lang/Throwable;" } : Jvm.MethodName) ({ cls := "java/lang/Throwable", name := "fillInStackTrace", desc := "(I)Ljava/lang/Throwable;" } : Jvm.MethodName) : Cond) ∈ GW := gw_of (i := 592) (by decide +kernel) rfl
theorem g_574 : (.selects "java/lang/UnsupportedOperationException" ({ cls := "java/lang/Throwable", name := "fillInStackTrace", desc := "()Ljava/lang/Throwable;" } : Jvm.MethodName) ({ cls := "java/lang/Throwable", name := "fillInStackTrace", desc := "()Ljava/lang/Throwable;" } : Jvm.MethodName) : Cond) ∈ GW := gw_of (i := 593) (by decide +kernel) rfl
theorem g_575 : (.lays "java/lang/UnsupportedOperationException" "java/lang/Throwable" "cause" "Ljava/lang/Throwable;" : Cond) ∈ GW := gw_of (i := 594) (by decide +kernel) rfl
theorem g_576 : (.lays "java/lang/Throwable" "java/lang/Throwable" "cause" "Ljava/lang/Throwable;" : Cond) ∈ GW := gw_of (i := 595) (by decide +kernel) rfl
theorem g_577 : (.lays "java/lang/UnsupportedOperationException" "java/lang/Throwable" "stackTrace" "[Ljava/lang/StackTraceElement;" : Cond) ∈ GW := gw_of (i := 596) (by decide +kernel) rfl
theorem g_578 : (.lays "java/lang/Throwable" "java/lang/Throwable" "stackTrace" "[Ljava/lang/StackTraceElement;" : Cond) ∈ GW := gw_of (i := 597) (by decide +kernel) rfl
theorem g_579 : (.lays "java/lang/UnsupportedOperationException" "java/lang/Throwable" "suppressedExceptions" "Ljava/util/List;" : Cond) ∈ GW := gw_of (i := 598) (by decide +kernel) rfl
theorem g_580 : (.lays "java/lang/Throwable" "java/lang/Throwable" "suppressedExceptions" "Ljava/util/List;" : Cond) ∈ GW := gw_of (i := 599) (by decide +kernel) rfl
theorem g_581 : (.lays "java/lang/UnsupportedOperationException" "java/lang/Throwable" "detailMessage" "Ljava/lang/String;" : Cond) ∈ GW := gw_of (i := 600) (by decide +kernel) rfl
theorem g_582 : (.lays "java/lang/Throwable" "java/lang/Throwable" "detailMessage" "Ljava/lang/String;" : Cond) ∈ GW := gw_of (i := 601) (by decide +kernel) rfl
theorem g_583 : (.lays "java/lang/UnsupportedOperationException" "java/lang/Throwable" "backtrace" "Ljava/lang/Object;" : Cond) ∈ GW := gw_of (i := 602) (by decide +kernel) rfl
theorem g_584 : (.lays "java/lang/Throwable" "java/lang/Throwable" "backtrace" "Ljava/lang/Object;" : Cond) ∈ GW := gw_of (i := 603) (by decide +kernel) rfl
theorem g_585 : (.fieldLink "java/lang/Throwable" 198 "java/lang/Throwable" "backtrace" "Ljava/lang/Object;" : Cond) ∈ GW := gw_of (i := 604) (by decide +kernel) rfl
theorem g_586 : (.superclass "java/lang/Throwable" "java/lang/Object" : Cond) ∈ GW := gw_of (i := 605) (by decide +kernel) rfl
theorem g_587 : (.instanceMethod ({ cls := "java/lang/Throwable", name := "<init>", desc := "()V" } : Jvm.MethodName) : Cond) ∈ GW := gw_of (i := 606) (by decide +kernel) rfl
theorem g_588 : (.code ({ cls := "java/lang/Throwable", name := "<init>", desc := "()V" } : Jvm.MethodName) prog_19_method_1_code 1 (Option.none : Option Jvm.ClassFile.FieldType) : Cond) ∈ GW := gw_of (i := 607) (by decide +kernel) rfl
theorem g_589 : (.methodLink "java/lang/Throwable" 1 ({ cls := "java/lang/Object", name := "<init>", desc := "()V" } : Jvm.MethodName) : Cond) ∈ GW := gw_of (i := 608) (by decide +kernel) rfl
theorem g_590 : (.fieldLink "java/lang/Throwable" 13 "java/lang/Throwable" "UNASSIGNED_STACK" "[Ljava/lang/StackTraceElement;" : Cond) ∈ GW := gw_of (i := 609) (by decide +kernel) rfl
theorem g_592 : (.fieldLink "java/lang/Throwable" 20 "java/lang/Throwable" "SUPPRESSED_SENTINEL" "Ljava/util/List;" : Cond) ∈ GW := gw_of (i := 611) (by decide +kernel) rfl
theorem g_594 : (.methodLink "java/lang/Throwable" 27 ({ cls := "java/lang/Throwable", name := "fillInStackTrace", desc := "()Ljava/lang/Throwable;" } : Jvm.MethodName) : Cond) ∈ GW := gw_of (i := 613) (by decide +kernel) rfl
theorem g_595 : (.instanceMethod ({ cls := "java/lang/Throwable", name := "fillInStackTrace", desc := "()Ljava/lang/Throwable;" } : Jvm.MethodName) : Cond) ∈ GW := gw_of (i := 614) (by decide +kernel) rfl
theorem g_596 : (.sameMethod "java/lang/Throwable" "java/lang/Throwable" "fillInStackTrace" "()Ljava/lang/Throwable;" : Cond) ∈ GW := gw_of (i := 615) (by decide +kernel) rfl
theorem g_597 : (.selects "java/lang/NullPointerException" ({ cls := "java/lang/Throwable", name := "fillInStackTrace", desc := "()Ljava/lang/Throwable;" } : Jvm.MethodName) ({ cls := "java/lang/NullPointerException", name := "fillInStackTrace", desc := "()Ljava/lang/Throwable;" } : Jvm.MethodName) : Cond) ∈ GW := gw_of (i := 616) (by decide +kernel) rfl
theorem g_598 : (.instanceMethod ({ cls := "java/lang/NullPointerException", name := "fillInStackTrace", desc := "()Ljava/lang/Throwable;" } : Jvm.MethodName) : Cond) ∈ GW := gw_of (i := 617) (by decide +kernel) rfl
theorem g_600 : (.methodLink "java/lang/NullPointerException" 16 ({ cls := "java/lang/NullPointerException", name := "getExtendedNPEMessage", desc := "()Ljava/lang/String;" } : Jvm.MethodName) : Cond) ∈ GW := gw_of (i := 619) (by decide +kernel) rfl
theorem g_602 : (.instanceMethod ({ cls := "java/lang/NullPointerException", name := "getExtendedNPEMessage", desc := "()Ljava/lang/String;" } : Jvm.MethodName) : Cond) ∈ GW := gw_of (i := 621) (by decide +kernel) rfl
theorem g_603 : (.instantiable "java/lang/NullPointerException" 8 : Cond) ∈ GW := gw_of (i := 622) (by decide +kernel) rfl
theorem g_605 : (.methodLink "java/lang/NullPointerException" 24 ({ cls := "java/lang/RuntimeException", name := "fillInStackTrace", desc := "()Ljava/lang/Throwable;" } : Jvm.MethodName) : Cond) ∈ GW := gw_of (i := 624) (by decide +kernel) rfl
theorem g_606 : (.sameMethod "java/lang/RuntimeException" "java/lang/Throwable" "fillInStackTrace" "()Ljava/lang/Throwable;" : Cond) ∈ GW := gw_of (i := 625) (by decide +kernel) rfl
theorem g_609 : (.methodLink "java/lang/Throwable" 202 ({ cls := "java/lang/Throwable", name := "fillInStackTrace", desc := "(I)Ljava/lang/Throwable;" } : Jvm.MethodName) : Cond) ∈ GW := gw_of (i := 628) (by decide +kernel) rfl
theorem g_611 : (.instanceMethod ({ cls := "java/lang/Throwable", name := "fillInStackTrace", desc := "(I)Ljava/lang/Throwable;" } : Jvm.MethodName) : Cond) ∈ GW := gw_of (i := 630) (by decide +kernel) rfl
theorem g_612 : (.instantiable "java/lang/Throwable" 6 : Cond) ∈ GW := gw_of (i := 631) (by decide +kernel) rfl
theorem g_615 : (.methodLink "PileHeirs" 63 ({ cls := "java/lang/UnsupportedOperationException", name := "<init>", desc := "(Ljava/lang/String;)V" } : Jvm.MethodName) : Cond) ∈ GW := gw_of (i := 634) (by decide +kernel) rfl
theorem g_616 : (.instanceMethod ({ cls := "java/lang/UnsupportedOperationException", name := "<init>", desc := "(Ljava/lang/String;)V" } : Jvm.MethodName) : Cond) ∈ GW := gw_of (i := 635) (by decide +kernel) rfl
theorem g_617 : (.code ({ cls := "java/lang/UnsupportedOperationException", name := "<init>", desc := "(Ljava/lang/String;)V" } : Jvm.MethodName) prog_20_method_2_code 2 (Option.none : Option Jvm.ClassFile.FieldType) : Cond) ∈ GW := gw_of (i := 636) (by decide +kernel) rfl
theorem g_618 : (.methodLink "java/lang/UnsupportedOperationException" 7 ({ cls := "java/lang/RuntimeException", name := "<init>", desc := "(Ljava/lang/String;)V" } : Jvm.MethodName) : Cond) ∈ GW := gw_of (i := 637) (by decide +kernel) rfl
theorem g_619 : (.instanceMethod ({ cls := "java/lang/RuntimeException", name := "<init>", desc := "(Ljava/lang/String;)V" } : Jvm.MethodName) : Cond) ∈ GW := gw_of (i := 638) (by decide +kernel) rfl
theorem g_620 : (.code ({ cls := "java/lang/RuntimeException", name := "<init>", desc := "(Ljava/lang/String;)V" } : Jvm.MethodName) prog_17_method_2_code 2 (Option.none : Option Jvm.ClassFile.FieldType) : Cond) ∈ GW := gw_of (i := 639) (by decide +kernel) rfl
theorem g_621 : (.methodLink "java/lang/RuntimeException" 7 ({ cls := "java/lang/Exception", name := "<init>", desc := "(Ljava/lang/String;)V" } : Jvm.MethodName) : Cond) ∈ GW := gw_of (i := 640) (by decide +kernel) rfl
theorem g_622 : (.instanceMethod ({ cls := "java/lang/Exception", name := "<init>", desc := "(Ljava/lang/String;)V" } : Jvm.MethodName) : Cond) ∈ GW := gw_of (i := 641) (by decide +kernel) rfl
theorem g_623 : (.code ({ cls := "java/lang/Exception", name := "<init>", desc := "(Ljava/lang/String;)V" } : Jvm.MethodName) prog_14_method_2_code 2 (Option.none : Option Jvm.ClassFile.FieldType) : Cond) ∈ GW := gw_of (i := 642) (by decide +kernel) rfl
theorem g_624 : (.methodLink "java/lang/Exception" 7 ({ cls := "java/lang/Throwable", name := "<init>", desc := "(Ljava/lang/String;)V" } : Jvm.MethodName) : Cond) ∈ GW := gw_of (i := 643) (by decide +kernel) rfl
theorem g_625 : (.instanceMethod ({ cls := "java/lang/Throwable", name := "<init>", desc := "(Ljava/lang/String;)V" } : Jvm.MethodName) : Cond) ∈ GW := gw_of (i := 644) (by decide +kernel) rfl
theorem g_626 : (.code ({ cls := "java/lang/Throwable", name := "<init>", desc := "(Ljava/lang/String;)V" } : Jvm.MethodName) prog_19_method_2_code 2 (Option.none : Option Jvm.ClassFile.FieldType) : Cond) ∈ GW := gw_of (i := 645) (by decide +kernel) rfl
theorem g_627 : (.fieldLink "java/lang/Throwable" 198 "java/lang/Throwable" "backtrace" "Ljava/lang/Object;" : Cond) ∈ GW := gw_of (i := 646) (by decide +kernel) rfl
theorem g_628 : (.fieldLink "java/lang/Throwable" 31 "java/lang/Throwable" "detailMessage" "Ljava/lang/String;" : Cond) ∈ GW := gw_of (i := 647) (by decide +kernel) rfl
theorem g_629 : (.fieldLink "java/lang/Throwable" 7 "java/lang/Throwable" "cause" "Ljava/lang/Throwable;" : Cond) ∈ GW := gw_of (i := 648) (by decide +kernel) rfl
theorem g_630 : (.fieldLink "java/lang/Throwable" 17 "java/lang/Throwable" "stackTrace" "[Ljava/lang/StackTraceElement;" : Cond) ∈ GW := gw_of (i := 649) (by decide +kernel) rfl
theorem g_631 : (.fieldLink "java/lang/Throwable" 24 "java/lang/Throwable" "suppressedExceptions" "Ljava/util/List;" : Cond) ∈ GW := gw_of (i := 650) (by decide +kernel) rfl
theorem g_636 : (.lays "java/lang/UnsupportedOperationException" "java/lang/Throwable" "depth" "I" : Cond) ∈ GW := gw_of (i := 655) (by decide +kernel) rfl
theorem g_639 : (.superclass "java/lang/UnsupportedOperationException" "java/lang/RuntimeException" : Cond) ∈ GW := gw_of (i := 658) (by decide +kernel) rfl
theorem g_640 : (.arrayClass Jvm.ClassFile.FieldType.byte : Cond) ∈ GW := gw_of (i := 659) (by decide +kernel) rfl
theorem g_641 : (.methodLink "PileHeirsLaw" 45 ({ cls := "PileHeirsLaw", name := "take", desc := "(LPileHeirs;I[J)I" } : Jvm.MethodName) : Cond) ∈ GW := gw_of (i := 660) (by decide +kernel) rfl
theorem g_642 : (.static ({ cls := "PileHeirsLaw", name := "take", desc := "(LPileHeirs;I[J)I" } : Jvm.MethodName) : Cond) ∈ GW := gw_of (i := 661) (by decide +kernel) rfl
theorem g_644 : (.classLink "PileHeirsLaw" 19 "java/lang/NullPointerException" : Cond) ∈ GW := gw_of (i := 663) (by decide +kernel) rfl
theorem g_645 : (.instanceMethod ({ cls := "java/lang/NullPointerException", name := "<init>", desc := "()V" } : Jvm.MethodName) : Cond) ∈ GW := gw_of (i := 664) (by decide +kernel) rfl
theorem g_646 : (.code ({ cls := "java/lang/NullPointerException", name := "<init>", desc := "()V" } : Jvm.MethodName) prog_16_method_1_code 1 (Option.none : Option Jvm.ClassFile.FieldType) : Cond) ∈ GW := gw_of (i := 665) (by decide +kernel) rfl
theorem g_647 : (.methodLink "java/lang/NullPointerException" 1 ({ cls := "java/lang/RuntimeException", name := "<init>", desc := "()V" } : Jvm.MethodName) : Cond) ∈ GW := gw_of (i := 666) (by decide +kernel) rfl
theorem g_648 : (.instanceMethod ({ cls := "java/lang/RuntimeException", name := "<init>", desc := "()V" } : Jvm.MethodName) : Cond) ∈ GW := gw_of (i := 667) (by decide +kernel) rfl
theorem g_649 : (.code ({ cls := "java/lang/RuntimeException", name := "<init>", desc := "()V" } : Jvm.MethodName) prog_17_method_1_code 1 (Option.none : Option Jvm.ClassFile.FieldType) : Cond) ∈ GW := gw_of (i := 668) (by decide +kernel) rfl
theorem g_650 : (.methodLink "java/lang/RuntimeException" 1 ({ cls := "java/lang/Exception", name := "<init>", desc := "()V" } : Jvm.MethodName) : Cond) ∈ GW := gw_of (i := 669) (by decide +kernel) rfl
theorem g_651 : (.instanceMethod ({ cls := "java/lang/Exception", name := "<init>", desc := "()V" } : Jvm.MethodName) : Cond) ∈ GW := gw_of (i := 670) (by decide +kernel) rfl
theorem g_652 : (.code ({ cls := "java/lang/Exception", name := "<init>", desc := "()V" } : Jvm.MethodName) prog_14_method_1_code 1 (Option.none : Option Jvm.ClassFile.FieldType) : Cond) ∈ GW := gw_of (i := 671) (by decide +kernel) rfl
theorem g_653 : (.methodLink "java/lang/Exception" 1 ({ cls := "java/lang/Throwable", name := "<init>", desc := "()V" } : Jvm.MethodName) : Cond) ∈ GW := gw_of (i := 672) (by decide +kernel) rfl
theorem g_654 : (.fieldLink "java/lang/NullPointerException" 10 "java/lang/NullPointerException" "extendedMessageState" "I" : Cond) ∈ GW := gw_of (i := 673) (by decide +kernel) rfl
theorem g_655 : (.fieldLink "java/lang/NullPointerException" 20 "java/lang/NullPointerException" "extendedMessage" "Ljava/lang/String;" : Cond) ∈ GW := gw_of (i := 674) (by decide +kernel) rfl
theorem g_656 : (.lays "java/lang/NullPointerException" "java/lang/NullPointerException" "extendedMessageState" "I" : Cond) ∈ GW := gw_of (i := 675) (by decide +kernel) rfl
theorem g_658 : (.lays "java/lang/NullPointerException" "java/lang/NullPointerException" "extendedMessage" "Ljava/lang/String;" : Cond) ∈ GW := gw_of (i := 677) (by decide +kernel) rfl
theorem g_660 : (.lays "java/lang/NullPointerException" "java/lang/Throwable" "backtrace" "Ljava/lang/Object;" : Cond) ∈ GW := gw_of (i := 679) (by decide +kernel) rfl
theorem g_661 : (.lays "java/lang/NullPointerException" "java/lang/Throwable" "detailMessage" "Ljava/lang/String;" : Cond) ∈ GW := gw_of (i := 680) (by decide +kernel) rfl
theorem g_662 : (.lays "java/lang/NullPointerException" "java/lang/Throwable" "cause" "Ljava/lang/Throwable;" : Cond) ∈ GW := gw_of (i := 681) (by decide +kernel) rfl
theorem g_663 : (.lays "java/lang/NullPointerException" "java/lang/Throwable" "stackTrace" "[Ljava/lang/StackTraceElement;" : Cond) ∈ GW := gw_of (i := 682) (by decide +kernel) rfl
theorem g_664 : (.lays "java/lang/NullPointerException" "java/lang/Throwable" "depth" "I" : Cond) ∈ GW := gw_of (i := 683) (by decide +kernel) rfl
theorem g_665 : (.lays "java/lang/NullPointerException" "java/lang/Throwable" "suppressedExceptions" "Ljava/util/List;" : Cond) ∈ GW := gw_of (i := 684) (by decide +kernel) rfl
theorem g_666 : (.superclass "java/lang/NullPointerException" "java/lang/RuntimeException" : Cond) ∈ GW := gw_of (i := 685) (by decide +kernel) rfl
theorem g_668 : (.selects "java/lang/NullPointerException" ({ cls := "java/lang/Throwable", name := "fillInStackTrace", desc := "(I)Ljava/lang/Throwable;" } : Jvm.MethodName) ({ cls := "java/lang/Throwable", name := "fillInStackTrace", desc := "(I)Ljava/lang/Throwable;" } : Jvm.MethodName) : Cond) ∈ GW := gw_of (i := 687) (by decide +kernel) rfl
theorem g_670 : (.methodLink "PileHeirsLaw" 15 ({ cls := "PileHeirs", name := "take", desc := "(I)I" } : Jvm.MethodName) : Cond) ∈ GW := gw_of (i := 689) (by decide +kernel) rfl
theorem g_671 : (.instanceMethod ({ cls := "PileHeirs", name := "take", desc := "(I)I" } : Jvm.MethodName) : Cond) ∈ GW := gw_of (i := 690) (by decide +kernel) rfl
theorem g_672 : (.selects "PileHeirs" ({ cls := "PileHeirs", name := "take", desc := "(I)I" } : Jvm.MethodName) ({ cls := "PileHeirs", name := "take", desc := "(I)I" } : Jvm.MethodName) : Cond) ∈ GW := gw_of (i := 691) (by decide +kernel) rfl
theorem g_673 : (.code ({ cls := "PileHeirs", name := "take", desc := "(I)I" } : Jvm.MethodName) prog_1_method_5_code 4 (Option.some Jvm.ClassFile.FieldType.int) : Cond) ∈ GW := gw_of (i := 692) (by decide +kernel) rfl
theorem g_674 : (.classLink "PileHeirs" 70 "java/lang/NullPointerException" : Cond) ∈ GW := gw_of (i := 693) (by decide +kernel) rfl
theorem g_676 : (.methodLink "PileHeirs" 74 ({ cls := "java/lang/NullPointerException", name := "<init>", desc := "(Ljava/lang/String;)V" } : Jvm.MethodName) : Cond) ∈ GW := gw_of (i := 695) (by decide +kernel) rfl
theorem g_677 : (.instanceMethod ({ cls := "java/lang/NullPointerException", name := "<init>", desc := "(Ljava/lang/String;)V" } : Jvm.MethodName) : Cond) ∈ GW := gw_of (i := 696) (by decide +kernel) rfl
theorem g_678 : (.code ({ cls := "java/lang/NullPointerException", name := "<init>", desc := "(Ljava/lang/String;)V" } : Jvm.MethodName) prog_16_method_2_code 2 (Option.none : Option Jvm.ClassFile.FieldType) : Cond) ∈ GW := gw_of (i := 697) (by decide +kernel) rfl
theorem g_679 : (.methodLink "java/lang/NullPointerException" 7 ({ cls := "java/lang/RuntimeException", name := "<init>", desc := "(Ljava/lang/String;)V" } : Jvm.MethodName) : Cond) ∈ GW := gw_of (i := 698) (by decide +kernel) rfl
theorem g_680 : (.classLink "PileHeirsLaw" 22 "PileHeirsModel" : Cond) ∈ GW := gw_of (i := 699) (by decide +kernel) rfl
theorem g_681 : (.instantiable "PileHeirsModel" 17 : Cond) ∈ GW := gw_of (i := 700) (by decide +kernel) rfl
theorem g_682 : (.methodLink "PileHeirsLaw" 24 ({ cls := "PileHeirsModel", name := "<init>", desc := "()V" } : Jvm.MethodName) : Cond) ∈ GW := gw_of (i := 701) (by decide +kernel) rfl
theorem g_683 : (.instanceMethod ({ cls := "PileHeirsModel", name := "<init>", desc := "()V" } : Jvm.MethodName) : Cond) ∈ GW := gw_of (i := 702) (by decide +kernel) rfl
theorem g_684 : (.code ({ cls := "PileHeirsModel", name := "<init>", desc := "()V" } : Jvm.MethodName) prog_13_method_1_code 1 (Option.none : Option Jvm.ClassFile.FieldType) : Cond) ∈ GW := gw_of (i := 703) (by decide +kernel) rfl
theorem g_685 : (.methodLink "PileHeirsModel" 1 ({ cls := "java/lang/Object", name := "<init>", desc := "()V" } : Jvm.MethodName) : Cond) ∈ GW := gw_of (i := 704) (by decide +kernel) rfl
theorem g_686 : (.fieldLink "PileHeirsModel" 41 "PileHeirsModel" "code" "I" : Cond) ∈ GW := gw_of (i := 705) (by decide +kernel) rfl
theorem g_687 : (.fieldLink "PileHeirsModel" 45 "PileHeirsModel" "timbers" "I" : Cond) ∈ GW := gw_of (i := 706) (by decide +kernel) rfl
theorem g_688 : (.fieldLink "PileHeirsModel" 7 "PileHeirsModel" "lengths" "[I" : Cond) ∈ GW := gw_of (i := 707) (by decide +kernel) rfl
theorem g_689 : (.fieldLink "PileHeirsModel" 13 "PileHeirsModel" "weights" "[I" : Cond) ∈ GW := gw_of (i := 708) (by decide +kernel) rfl
theorem g_690 : (.fieldLink "PileHeirsModel" 16 "PileHeirsModel" "wet" "[Z" : Cond) ∈ GW := gw_of (i := 709) (by decide +kernel) rfl
theorem g_691 : (.fieldLink "PileHeirsModel" 20 "PileHeirsModel" "lies" "[I" : Cond) ∈ GW := gw_of (i := 710) (by decide +kernel) rfl
theorem g_692 : (.fieldLink "PileHeirsModel" 52 "PileHeirsModel" "piles" "I" : Cond) ∈ GW := gw_of (i := 711) (by decide +kernel) rfl
theorem g_693 : (.fieldLink "PileHeirsModel" 23 "PileHeirsModel" "kinds" "[I" : Cond) ∈ GW := gw_of (i := 712) (by decide +kernel) rfl
theorem g_694 : (.fieldLink "PileHeirsModel" 26 "PileHeirsModel" "caps" "[I" : Cond) ∈ GW := gw_of (i := 713) (by decide +kernel) rfl
theorem g_695 : (.fieldLink "PileHeirsModel" 29 "PileHeirsModel" "limits" "[I" : Cond) ∈ GW := gw_of (i := 714) (by decide +kernel) rfl
theorem g_696 : (.fieldLink "PileHeirsModel" 32 "PileHeirsModel" "many" "[I" : Cond) ∈ GW := gw_of (i := 715) (by decide +kernel) rfl
theorem g_697 : (.fieldLink "PileHeirsModel" 35 "PileHeirsModel" "rows" "[I" : Cond) ∈ GW := gw_of (i := 716) (by decide +kernel) rfl
theorem g_698 : (.fieldLink "PileHeirsModel" 38 "PileHeirsModel" "trace" "[I" : Cond) ∈ GW := gw_of (i := 717) (by decide +kernel) rfl
theorem g_699 : (.fieldLink "PileHeirsModel" 55 "PileHeirsModel" "done" "I" : Cond) ∈ GW := gw_of (i := 718) (by decide +kernel) rfl
theorem g_700 : (.fieldLink "PileHeirsModel" 74 "PileHeirsModel" "heavies" "I" : Cond) ∈ GW := gw_of (i := 719) (by decide +kernel) rfl
theorem g_701 : (.fieldLink "PileHeirsModel" 93 "PileHeirsModel" "nothings" "I" : Cond) ∈ GW := gw_of (i := 720) (by decide +kernel) rfl
theorem g_702 : (.fieldLink "PileHeirsModel" 66 "PileHeirsModel" "ended" "Z" : Cond) ∈ GW := gw_of (i := 721) (by decide +kernel) rfl
theorem g_703 : (.lays "PileHeirsModel" "PileHeirsModel" "code" "I" : Cond) ∈ GW := gw_of (i := 722) (by decide +kernel) rfl
theorem g_705 : (.lays "PileHeirsModel" "PileHeirsModel" "timbers" "I" : Cond) ∈ GW := gw_of (i := 724) (by decide +kernel) rfl
theorem g_707 : (.laysFinal "PileHeirsModel" "PileHeirsModel" "lengths" "[I" : Cond) ∈ GW := gw_of (i := 726) (by decide +kernel) rfl
theorem g_709 : (.laysFinal "PileHeirsModel" "PileHeirsModel" "weights" "[I" : Cond) ∈ GW := gw_of (i := 728) (by decide +kernel) rfl
theorem g_711 : (.laysFinal "PileHeirsModel" "PileHeirsModel" "wet" "[Z" : Cond) ∈ GW := gw_of (i := 730) (by decide +kernel) rfl
theorem g_713 : (.laysFinal "PileHeirsModel" "PileHeirsModel" "lies" "[I" : Cond) ∈ GW := gw_of (i := 732) (by decide +kernel) rfl
theorem g_715 : (.lays "PileHeirsModel" "PileHeirsModel" "piles" "I" : Cond) ∈ GW := gw_of (i := 734) (by decide +kernel) rfl
theorem g_717 : (.laysFinal "PileHeirsModel" "PileHeirsModel" "kinds" "[I" : Cond) ∈ GW := gw_of (i := 736) (by decide +kernel) rfl
theorem g_719 : (.laysFinal "PileHeirsModel" "PileHeirsModel" "caps" "[I" : Cond) ∈ GW := gw_of (i := 738) (by decide +kernel) rfl
theorem g_721 : (.laysFinal "PileHeirsModel" "PileHeirsModel" "limits" "[I" : Cond) ∈ GW := gw_of (i := 740) (by decide +kernel) rfl
theorem g_723 : (.laysFinal "PileHeirsModel" "PileHeirsModel" "many" "[I" : Cond) ∈ GW := gw_of (i := 742) (by decide +kernel) rfl
theorem g_725 : (.laysFinal "PileHeirsModel" "PileHeirsModel" "rows" "[I" : Cond) ∈ GW := gw_of (i := 744) (by decide +kernel) rfl
theorem g_727 : (.laysFinal "PileHeirsModel" "PileHeirsModel" "trace" "[I" : Cond) ∈ GW := gw_of (i := 746) (by decide +kernel) rfl
theorem g_729 : (.lays "PileHeirsModel" "PileHeirsModel" "done" "I" : Cond) ∈ GW := gw_of (i := 748) (by decide +kernel) rfl
theorem g_731 : (.lays "PileHeirsModel" "PileHeirsModel" "heavies" "I" : Cond) ∈ GW := gw_of (i := 750) (by decide +kernel) rfl
theorem g_733 : (.lays "PileHeirsModel" "PileHeirsModel" "nothings" "I" : Cond) ∈ GW := gw_of (i := 752) (by decide +kernel) rfl
theorem g_735 : (.lays "PileHeirsModel" "PileHeirsModel" "ended" "Z" : Cond) ∈ GW := gw_of (i := 754) (by decide +kernel) rfl
theorem g_737 : (.superclass "PileHeirsModel" "java/lang/Object" : Cond) ∈ GW := gw_of (i := 756) (by decide +kernel) rfl
theorem g_738 : (.methodLink "PileHeirsLaw" 41 ({ cls := "PileHeirsModel", name := "thrown", desc := "()I" } : Jvm.MethodName) : Cond) ∈ GW := gw_of (i := 757) (by decide +kernel) rfl
theorem g_739 : (.instanceMethod ({ cls := "PileHeirsModel", name := "thrown", desc := "()I" } : Jvm.MethodName) : Cond) ∈ GW := gw_of (i := 758) (by decide +kernel) rfl
theorem g_740 : (.selects "PileHeirsModel" ({ cls := "PileHeirsModel", name := "thrown", desc := "()I" } : Jvm.MethodName) ({ cls := "PileHeirsModel", name := "thrown", desc := "()I" } : Jvm.MethodName) : Cond) ∈ GW := gw_of (i := 759) (by decide +kernel) rfl
theorem g_741 : (.code ({ cls := "PileHeirsModel", name := "thrown", desc := "()I" } : Jvm.MethodName) prog_13_method_2_code 1 (Option.some Jvm.ClassFile.FieldType.int) : Cond) ∈ GW := gw_of (i := 760) (by decide +kernel) rfl
theorem g_742 : (.methodLink "PileHeirsLaw" 29 ({ cls := "PileHeirsModel", name := "timber", desc := "(IIZ)I" } : Jvm.MethodName) : Cond) ∈ GW := gw_of (i := 761) (by decide +kernel) rfl
theorem g_743 : (.instanceMethod ({ cls := "PileHeirsModel", name := "timber", desc := "(IIZ)I" } : Jvm.MethodName) : Cond) ∈ GW := gw_of (i := 762) (by decide +kernel) rfl
theorem g_744 : (.selects "PileHeirsModel" ({ cls := "PileHeirsModel", name := "timber", desc := "(IIZ)I" } : Jvm.MethodName) ({ cls := "PileHeirsModel", name := "timber", desc := "(IIZ)I" } : Jvm.MethodName) : Cond) ∈ GW := gw_of (i := 763) (by decide +kernel) rfl
theorem g_745 : (.code ({ cls := "PileHeirsModel", name := "timber", desc := "(IIZ)I" } : Jvm.MethodName) prog_13_method_7_code 4 (Option.some Jvm.ClassFile.FieldType.int) : Cond) ∈ GW := gw_of (i := 764) (by decide +kernel) rfl
theorem g_746 : (.methodLink "PileHeirsModel" 48 ({ cls := "PileHeirsModel", name := "isIn", desc := "(III)Z" } : Jvm.MethodName) : Cond) ∈ GW := gw_of (i := 765) (by decide +kernel) rfl
theorem g_747 : (.static ({ cls := "PileHeirsModel", name := "isIn", desc := "(III)Z" } : Jvm.MethodName) : Cond) ∈ GW := gw_of (i := 766) (by decide +kernel) rfl
theorem g_748 : (.code ({ cls := "PileHeirsModel", name := "isIn", desc := "(III)Z" } : Jvm.MethodName) prog_13_method_3_code 3 (Option.some Jvm.ClassFile.FieldType.boolean) : Cond) ∈ GW := gw_of (i := 767) (by decide +kernel) rfl
theorem g_749 : (.methodLink "PileHeirsLaw" 34 ({ cls := "PileHeirsModel", name := "pile", desc := "(III)I" } : Jvm.MethodName) : Cond) ∈ GW := gw_of (i := 768) (by decide +kernel) rfl
theorem g_750 : (.instanceMethod ({ cls := "PileHeirsModel", name := "pile", desc := "(III)I" } : Jvm.MethodName) : Cond) ∈ GW := gw_of (i := 769) (by decide +kernel) rfl
theorem g_751 : (.selects "PileHeirsModel" ({ cls := "PileHeirsModel", name := "pile", desc := "(III)I" } : Jvm.MethodName) ({ cls := "PileHeirsModel", name := "pile", desc := "(III)I" } : Jvm.MethodName) : Cond) ∈ GW := gw_of (i := 770) (by decide +kernel) rfl
theorem g_752 : (.code ({ cls := "PileHeirsModel", name := "pile", desc := "(III)I" } : Jvm.MethodName) prog_13_method_8_code 4 (Option.some Jvm.ClassFile.FieldType.int) : Cond) ∈ GW := gw_of (i := 771) (by decide +kernel) rfl
theorem g_753 : (.methodLink "PileHeirsLaw" 40 ({ cls := "PileHeirsModel", name := "put", desc := "(II)I" } : Jvm.MethodName) : Cond) ∈ GW := gw_of (i := 772) (by decide +kernel) rfl
theorem g_754 : (.instanceMethod ({ cls := "PileHeirsModel", name := "put", desc := "(II)I" } : Jvm.MethodName) : Cond) ∈ GW := gw_of (i := 773) (by decide +kernel) rfl
theorem g_755 : (.selects "PileHeirsModel" ({ cls := "PileHeirsModel", name := "put", desc := "(II)I" } : Jvm.MethodName) ({ cls := "PileHeirsModel", name := "put", desc := "(II)I" } : Jvm.MethodName) : Cond) ∈ GW := gw_of (i := 774) (by decide +kernel) rfl
theorem g_756 : (.code ({ cls := "PileHeirsModel", name := "put", desc := "(II)I" } : Jvm.MethodName) prog_13_method_13_code 4 (Option.some Jvm.ClassFile.FieldType.int) : Cond) ∈ GW := gw_of (i := 775) (by decide +kernel) rfl
theorem g_757 : (.methodLink "PileHeirsModel" 80 ({ cls := "PileHeirsModel", name := "isPile", desc := "(I)Z" } : Jvm.MethodName) : Cond) ∈ GW := gw_of (i := 776) (by decide +kernel) rfl
theorem g_759 : (.instanceMethod ({ cls := "PileHeirsModel", name := "isPile", desc := "(I)Z" } : Jvm.MethodName) : Cond) ∈ GW := gw_of (i := 778) (by decide +kernel) rfl
theorem g_760 : (.code ({ cls := "PileHeirsModel", name := "isPile", desc := "(I)Z" } : Jvm.MethodName) prog_13_method_5_code 2 (Option.some Jvm.ClassFile.FieldType.boolean) : Cond) ∈ GW := gw_of (i := 779) (by decide +kernel) rfl
theorem g_761 : (.methodLink "PileHeirsModel" 84 ({ cls := "PileHeirsModel", name := "isTimber", desc := "(I)Z" } : Jvm.MethodName) : Cond) ∈ GW := gw_of (i := 780) (by decide +kernel) rfl
theorem g_763 : (.instanceMethod ({ cls := "PileHeirsModel", name := "isTimber", desc := "(I)Z" } : Jvm.MethodName) : Cond) ∈ GW := gw_of (i := 782) (by decide +kernel) rfl
theorem g_764 : (.code ({ cls := "PileHeirsModel", name := "isTimber", desc := "(I)Z" } : Jvm.MethodName) prog_13_method_4_code 2 (Option.some Jvm.ClassFile.FieldType.boolean) : Cond) ∈ GW := gw_of (i := 783) (by decide +kernel) rfl
theorem g_765 : (.methodLink "PileHeirsModel" 87 ({ cls := "PileHeirsModel", name := "putOf", desc := "(II)Z" } : Jvm.MethodName) : Cond) ∈ GW := gw_of (i := 784) (by decide +kernel) rfl
theorem g_767 : (.instanceMethod ({ cls := "PileHeirsModel", name := "putOf", desc := "(II)Z" } : Jvm.MethodName) : Cond) ∈ GW := gw_of (i := 786) (by decide +kernel) rfl
theorem g_768 : (.code ({ cls := "PileHeirsModel", name := "putOf", desc := "(II)Z" } : Jvm.MethodName) prog_13_method_12_code 4 (Option.some Jvm.ClassFile.FieldType.boolean) : Cond) ∈ GW := gw_of (i := 787) (by decide +kernel) rfl
theorem g_769 : (.methodLink "PileHeirsModel" 58 ({ cls := "PileHeirsModel", name := "rule", desc := "(II)V" } : Jvm.MethodName) : Cond) ∈ GW := gw_of (i := 788) (by decide +kernel) rfl
theorem g_771 : (.instanceMethod ({ cls := "PileHeirsModel", name := "rule", desc := "(II)V" } : Jvm.MethodName) : Cond) ∈ GW := gw_of (i := 790) (by decide +kernel) rfl
theorem g_772 : (.code ({ cls := "PileHeirsModel", name := "rule", desc := "(II)V" } : Jvm.MethodName) prog_13_method_6_code 3 (Option.none : Option Jvm.ClassFile.FieldType) : Cond) ∈ GW := gw_of (i := 791) (by decide +kernel) rfl
theorem g_773 : (.methodLink "PileHeirsModel" 70 ({ cls := "PileHeirsModel", name := "loadOf", desc := "(I)I" } : Jvm.MethodName) : Cond) ∈ GW := gw_of (i := 792) (by decide +kernel) rfl
theorem g_775 : (.instanceMethod ({ cls := "PileHeirsModel", name := "loadOf", desc := "(I)I" } : Jvm.MethodName) : Cond) ∈ GW := gw_of (i := 794) (by decide +kernel) rfl
theorem g_776 : (.code ({ cls := "PileHeirsModel", name := "loadOf", desc := "(I)I" } : Jvm.MethodName) prog_13_method_9_code 7 (Option.some Jvm.ClassFile.FieldType.int) : Cond) ∈ GW := gw_of (i := 795) (by decide +kernel) rfl
theorem g_777 : (.methodLink "PileHeirsModel" 62 ({ cls := "PileHeirsModel", name := "putPlain", desc := "(II)Z" } : Jvm.MethodName) : Cond) ∈ GW := gw_of (i := 796) (by decide +kernel) rfl
theorem g_779 : (.instanceMethod ({ cls := "PileHeirsModel", name := "putPlain", desc := "(II)Z" } : Jvm.MethodName) : Cond) ∈ GW := gw_of (i := 798) (by decide +kernel) rfl
theorem g_780 : (.code ({ cls := "PileHeirsModel", name := "putPlain", desc := "(II)Z" } : Jvm.MethodName) prog_13_method_10_code 3 (Option.some Jvm.ClassFile.FieldType.boolean) : Cond) ∈ GW := gw_of (i := 799) (by decide +kernel) rfl
theorem g_781 : (.methodLink "PileHeirsModel" 77 ({ cls := "PileHeirsModel", name := "putSorted", desc := "(II)Z" } : Jvm.MethodName) : Cond) ∈ GW := gw_of (i := 800) (by decide +kernel) rfl
theorem g_783 : (.instanceMethod ({ cls := "PileHeirsModel", name := "putSorted", desc := "(II)Z" } : Jvm.MethodName) : Cond) ∈ GW := gw_of (i := 802) (by decide +kernel) rfl
theorem g_784 : (.code ({ cls := "PileHeirsModel", name := "putSorted", desc := "(II)Z" } : Jvm.MethodName) prog_13_method_11_code 5 (Option.some Jvm.ClassFile.FieldType.boolean) : Cond) ∈ GW := gw_of (i := 803) (by decide +kernel) rfl
theorem g_785 : (.methodLink "PileHeirsLaw" 48 ({ cls := "PileHeirsModel", name := "take", desc := "(I)I" } : Jvm.MethodName) : Cond) ∈ GW := gw_of (i := 804) (by decide +kernel) rfl
theorem g_786 : (.instanceMethod ({ cls := "PileHeirsModel", name := "take", desc := "(I)I" } : Jvm.MethodName) : Cond) ∈ GW := gw_of (i := 805) (by decide +kernel) rfl
theorem g_787 : (.selects "PileHeirsModel" ({ cls := "PileHeirsModel", name := "take", desc := "(I)I" } : Jvm.MethodName) ({ cls := "PileHeirsModel", name := "take", desc := "(I)I" } : Jvm.MethodName) : Cond) ∈ GW := gw_of (i := 806) (by decide +kernel) rfl
theorem g_788 : (.code ({ cls := "PileHeirsModel", name := "take", desc := "(I)I" } : Jvm.MethodName) prog_13_method_16_code 3 (Option.some Jvm.ClassFile.FieldType.int) : Cond) ∈ GW := gw_of (i := 807) (by decide +kernel) rfl
theorem g_789 : (.methodLink "PileHeirsModel" 96 ({ cls := "PileHeirsModel", name := "takeOf", desc := "(I)I" } : Jvm.MethodName) : Cond) ∈ GW := gw_of (i := 808) (by decide +kernel) rfl
theorem g_791 : (.instanceMethod ({ cls := "PileHeirsModel", name := "takeOf", desc := "(I)I" } : Jvm.MethodName) : Cond) ∈ GW := gw_of (i := 810) (by decide +kernel) rfl
theorem g_792 : (.code ({ cls := "PileHeirsModel", name := "takeOf", desc := "(I)I" } : Jvm.MethodName) prog_13_method_15_code 6 (Option.some Jvm.ClassFile.FieldType.int) : Cond) ∈ GW := gw_of (i := 811) (by decide +kernel) rfl
theorem g_793 : (.methodLink "PileHeirsModel" 90 ({ cls := "PileHeirsModel", name := "takePlain", desc := "(I)I" } : Jvm.MethodName) : Cond) ∈ GW := gw_of (i := 812) (by decide +kernel) rfl
theorem g_795 : (.instanceMethod ({ cls := "PileHeirsModel", name := "takePlain", desc := "(I)I" } : Jvm.MethodName) : Cond) ∈ GW := gw_of (i := 814) (by decide +kernel) rfl
theorem g_796 : (.code ({ cls := "PileHeirsModel", name := "takePlain", desc := "(I)I" } : Jvm.MethodName) prog_13_method_14_code 3 (Option.some Jvm.ClassFile.FieldType.int) : Cond) ∈ GW := gw_of (i := 815) (by decide +kernel) rfl
theorem g_797 : (.methodLink "PileHeirsLaw" 52 ({ cls := "PileHeirsModel", name := "load", desc := "(I)I" } : Jvm.MethodName) : Cond) ∈ GW := gw_of (i := 816) (by decide +kernel) rfl
theorem g_798 : (.instanceMethod ({ cls := "PileHeirsModel", name := "load", desc := "(I)I" } : Jvm.MethodName) : Cond) ∈ GW := gw_of (i := 817) (by decide +kernel) rfl
theorem g_799 : (.selects "PileHeirsModel" ({ cls := "PileHeirsModel", name := "load", desc := "(I)I" } : Jvm.MethodName) ({ cls := "PileHeirsModel", name := "load", desc := "(I)I" } : Jvm.MethodName) : Cond) ∈ GW := gw_of (i := 818) (by decide +kernel) rfl
theorem g_800 : (.code ({ cls := "PileHeirsModel", name := "load", desc := "(I)I" } : Jvm.MethodName) prog_13_method_17_code 2 (Option.some Jvm.ClassFile.FieldType.int) : Cond) ∈ GW := gw_of (i := 819) (by decide +kernel) rfl
theorem g_801 : (.methodLink "PileHeirsLaw" 56 ({ cls := "PileHeirsModel", name := "search", desc := "(II)I" } : Jvm.MethodName) : Cond) ∈ GW := gw_of (i := 820) (by decide +kernel) rfl
theorem g_802 : (.instanceMethod ({ cls := "PileHeirsModel", name := "search", desc := "(II)I" } : Jvm.MethodName) : Cond) ∈ GW := gw_of (i := 821) (by decide +kernel) rfl
theorem g_803 : (.selects "PileHeirsModel" ({ cls := "PileHeirsModel", name := "search", desc := "(II)I" } : Jvm.MethodName) ({ cls := "PileHeirsModel", name := "search", desc := "(II)I" } : Jvm.MethodName) : Cond) ∈ GW := gw_of (i := 822) (by decide +kernel) rfl
theorem g_804 : (.code ({ cls := "PileHeirsModel", name := "search", desc := "(II)I" } : Jvm.MethodName) prog_13_method_19_code 5 (Option.some Jvm.ClassFile.FieldType.int) : Cond) ∈ GW := gw_of (i := 823) (by decide +kernel) rfl
theorem g_805 : (.methodLink "PileHeirsModel" 99 ({ cls := "PileHeirsModel", name := "lowest", desc := "(II)I" } : Jvm.MethodName) : Cond) ∈ GW := gw_of (i := 824) (by decide +kernel) rfl
theorem g_807 : (.instanceMethod ({ cls := "PileHeirsModel", name := "lowest", desc := "(II)I" } : Jvm.MethodName) : Cond) ∈ GW := gw_of (i := 826) (by decide +kernel) rfl
theorem g_808 : (.code ({ cls := "PileHeirsModel", name := "lowest", desc := "(II)I" } : Jvm.MethodName) prog_13_method_18_code 4 (Option.some Jvm.ClassFile.FieldType.int) : Cond) ∈ GW := gw_of (i := 827) (by decide +kernel) rfl
theorem g_809 : (.methodLink "PileHeirsLaw" 60 ({ cls := "PileHeirsModel", name := "free", desc := "(I)I" } : Jvm.MethodName) : Cond) ∈ GW := gw_of (i := 828) (by decide +kernel) rfl
theorem g_810 : (.instanceMethod ({ cls := "PileHeirsModel", name := "free", desc := "(I)I" } : Jvm.MethodName) : Cond) ∈ GW := gw_of (i := 829) (by decide +kernel) rfl
theorem g_811 : (.selects "PileHeirsModel" ({ cls := "PileHeirsModel", name := "free", desc := "(I)I" } : Jvm.MethodName) ({ cls := "PileHeirsModel", name := "free", desc := "(I)I" } : Jvm.MethodName) : Cond) ∈ GW := gw_of (i := 830) (by decide +kernel) rfl
theorem g_812 : (.code ({ cls := "PileHeirsModel", name := "free", desc := "(I)I" } : Jvm.MethodName) prog_13_method_22_code 2 (Option.some Jvm.ClassFile.FieldType.int) : Cond) ∈ GW := gw_of (i := 831) (by decide +kernel) rfl
theorem g_813 : (.methodLink "PileHeirsModel" 106 ({ cls := "PileHeirsModel", name := "freeOf", desc := "(I)I" } : Jvm.MethodName) : Cond) ∈ GW := gw_of (i := 832) (by decide +kernel) rfl
theorem g_815 : (.instanceMethod ({ cls := "PileHeirsModel", name := "freeOf", desc := "(I)I" } : Jvm.MethodName) : Cond) ∈ GW := gw_of (i := 834) (by decide +kernel) rfl
theorem g_816 : (.code ({ cls := "PileHeirsModel", name := "freeOf", desc := "(I)I" } : Jvm.MethodName) prog_13_method_21_code 4 (Option.some Jvm.ClassFile.FieldType.int) : Cond) ∈ GW := gw_of (i := 835) (by decide +kernel) rfl
theorem g_817 : (.methodLink "PileHeirsModel" 103 ({ cls := "PileHeirsModel", name := "freeStrict", desc := "(I)I" } : Jvm.MethodName) : Cond) ∈ GW := gw_of (i := 836) (by decide +kernel) rfl
theorem g_819 : (.instanceMethod ({ cls := "PileHeirsModel", name := "freeStrict", desc := "(I)I" } : Jvm.MethodName) : Cond) ∈ GW := gw_of (i := 838) (by decide +kernel) rfl
theorem g_820 : (.code ({ cls := "PileHeirsModel", name := "freeStrict", desc := "(I)I" } : Jvm.MethodName) prog_13_method_20_code 2 (Option.some Jvm.ClassFile.FieldType.int) : Cond) ∈ GW := gw_of (i := 839) (by decide +kernel) rfl
theorem g_821 : (.methodLink "PileHeirsLaw" 64 ({ cls := "PileHeirsModel", name := "full", desc := "(I)I" } : Jvm.MethodName) : Cond) ∈ GW := gw_of (i := 840) (by decide +kernel) rfl
theorem g_822 : (.instanceMethod ({ cls := "PileHeirsModel", name := "full", desc := "(I)I" } : Jvm.MethodName) : Cond) ∈ GW := gw_of (i := 841) (by decide +kernel) rfl
theorem g_823 : (.selects "PileHeirsModel" ({ cls := "PileHeirsModel", name := "full", desc := "(I)I" } : Jvm.MethodName) ({ cls := "PileHeirsModel", name := "full", desc := "(I)I" } : Jvm.MethodName) : Cond) ∈ GW := gw_of (i := 842) (by decide +kernel) rfl
theorem g_824 : (.code ({ cls := "PileHeirsModel", name := "full", desc := "(I)I" } : Jvm.MethodName) prog_13_method_23_code 3 (Option.some Jvm.ClassFile.FieldType.int) : Cond) ∈ GW := gw_of (i := 843) (by decide +kernel) rfl
theorem g_825 : (.methodLink "PileHeirsLaw" 68 ({ cls := "PileHeirsModel", name := "move", desc := "(II)I" } : Jvm.MethodName) : Cond) ∈ GW := gw_of (i := 844) (by decide +kernel) rfl
theorem g_826 : (.instanceMethod ({ cls := "PileHeirsModel", name := "move", desc := "(II)I" } : Jvm.MethodName) : Cond) ∈ GW := gw_of (i := 845) (by decide +kernel) rfl
theorem g_827 : (.selects "PileHeirsModel" ({ cls := "PileHeirsModel", name := "move", desc := "(II)I" } : Jvm.MethodName) ({ cls := "PileHeirsModel", name := "move", desc := "(II)I" } : Jvm.MethodName) : Cond) ∈ GW := gw_of (i := 846) (by decide +kernel) rfl
theorem g_828 : (.code ({ cls := "PileHeirsModel", name := "move", desc := "(II)I" } : Jvm.MethodName) prog_13_method_24_code 4 (Option.some Jvm.ClassFile.FieldType.int) : Cond) ∈ GW := gw_of (i := 847) (by decide +kernel) rfl
theorem g_829 : (.methodLink "PileHeirsLaw" 72 ({ cls := "PileHeirsModel", name := "at", desc := "(II)I" } : Jvm.MethodName) : Cond) ∈ GW := gw_of (i := 848) (by decide +kernel) rfl
theorem g_830 : (.instanceMethod ({ cls := "PileHeirsModel", name := "at", desc := "(II)I" } : Jvm.MethodName) : Cond) ∈ GW := gw_of (i := 849) (by decide +kernel) rfl
theorem g_831 : (.selects "PileHeirsModel" ({ cls := "PileHeirsModel", name := "at", desc := "(II)I" } : Jvm.MethodName) ({ cls := "PileHeirsModel", name := "at", desc := "(II)I" } : Jvm.MethodName) : Cond) ∈ GW := gw_of (i := 850) (by decide +kernel) rfl
theorem g_832 : (.code ({ cls := "PileHeirsModel", name := "at", desc := "(II)I" } : Jvm.MethodName) prog_13_method_25_code 3 (Option.some Jvm.ClassFile.FieldType.int) : Cond) ∈ GW := gw_of (i := 851) (by decide +kernel) rfl
theorem g_833 : (.methodLink "PileHeirsLaw" 76 ({ cls := "PileHeirsModel", name := "of", desc := "(II)I" } : Jvm.MethodName) : Cond) ∈ GW := gw_of (i := 852) (by decide +kernel) rfl
theorem g_834 : (.instanceMethod ({ cls := "PileHeirsModel", name := "of", desc := "(II)I" } : Jvm.MethodName) : Cond) ∈ GW := gw_of (i := 853) (by decide +kernel) rfl
theorem g_835 : (.selects "PileHeirsModel" ({ cls := "PileHeirsModel", name := "of", desc := "(II)I" } : Jvm.MethodName) ({ cls := "PileHeirsModel", name := "of", desc := "(II)I" } : Jvm.MethodName) : Cond) ∈ GW := gw_of (i := 854) (by decide +kernel) rfl
theorem g_836 : (.code ({ cls := "PileHeirsModel", name := "of", desc := "(II)I" } : Jvm.MethodName) prog_13_method_26_code 3 (Option.some Jvm.ClassFile.FieldType.int) : Cond) ∈ GW := gw_of (i := 855) (by decide +kernel) rfl
theorem g_837 : (.methodLink "PileHeirsLaw" 80 ({ cls := "PileHeirsModel", name := "trace", desc := "(I)I" } : Jvm.MethodName) : Cond) ∈ GW := gw_of (i := 856) (by decide +kernel) rfl
theorem g_838 : (.instanceMethod ({ cls := "PileHeirsModel", name := "trace", desc := "(I)I" } : Jvm.MethodName) : Cond) ∈ GW := gw_of (i := 857) (by decide +kernel) rfl
theorem g_839 : (.selects "PileHeirsModel" ({ cls := "PileHeirsModel", name := "trace", desc := "(I)I" } : Jvm.MethodName) ({ cls := "PileHeirsModel", name := "trace", desc := "(I)I" } : Jvm.MethodName) : Cond) ∈ GW := gw_of (i := 858) (by decide +kernel) rfl
theorem g_840 : (.code ({ cls := "PileHeirsModel", name := "trace", desc := "(I)I" } : Jvm.MethodName) prog_13_method_27_code 3 (Option.some Jvm.ClassFile.FieldType.int) : Cond) ∈ GW := gw_of (i := 859) (by decide +kernel) rfl
theorem g_841 : (.methodLink "PileHeirsLaw" 84 ({ cls := "PileHeirsModel", name := "count", desc := "(I)I" } : Jvm.MethodName) : Cond) ∈ GW := gw_of (i := 860) (by decide +kernel) rfl
theorem g_842 : (.instanceMethod ({ cls := "PileHeirsModel", name := "count", desc := "(I)I" } : Jvm.MethodName) : Cond) ∈ GW := gw_of (i := 861) (by decide +kernel) rfl
theorem g_843 : (.selects "PileHeirsModel" ({ cls := "PileHeirsModel", name := "count", desc := "(I)I" } : Jvm.MethodName) ({ cls := "PileHeirsModel", name := "count", desc := "(I)I" } : Jvm.MethodName) : Cond) ∈ GW := gw_of (i := 862) (by decide +kernel) rfl
theorem g_844 : (.code ({ cls := "PileHeirsModel", name := "count", desc := "(I)I" } : Jvm.MethodName) prog_13_method_28_code 2 (Option.some Jvm.ClassFile.FieldType.int) : Cond) ∈ GW := gw_of (i := 863) (by decide +kernel) rfl
theorem g_845 : (.arrayClass Jvm.ClassFile.FieldType.long : Cond) ∈ GW := gw_of (i := 864) (by decide +kernel) rfl
theorem g_846 : (.sameMethod "PileHeirs$Plain" "PileHeirs$Plain" "timberAt" "(I)I" : Cond) ∈ GW := gw_of (i := 865) (by decide +kernel) rfl
theorem g_847 : (.selects "PileHeirs$Drying" ({ cls := "PileHeirs$Plain", name := "timberAt", desc := "(I)I" } : Jvm.MethodName) ({ cls := "PileHeirs$Plain", name := "timberAt", desc := "(I)I" } : Jvm.MethodName) : Cond) ∈ GW := gw_of (i := 866) (by decide +kernel) rfl
theorem g_848 : (.selects "PileHeirs$Lean" ({ cls := "PileHeirs$Plain", name := "timberAt", desc := "(I)I" } : Jvm.MethodName) ({ cls := "PileHeirs$Plain", name := "timberAt", desc := "(I)I" } : Jvm.MethodName) : Cond) ∈ GW := gw_of (i := 867) (by decide +kernel) rfl
theorem g_849 : (.selects "PileHeirs$Marked" ({ cls := "PileHeirs$Plain", name := "timberAt", desc := "(I)I" } : Jvm.MethodName) ({ cls := "PileHeirs$Plain", name := "timberAt", desc := "(I)I" } : Jvm.MethodName) : Cond) ∈ GW := gw_of (i := 868) (by decide +kernel) rfl
theorem g_850 : (.selects "PileHeirs$Open" ({ cls := "PileHeirs$Plain", name := "timberAt", desc := "(I)I" } : Jvm.MethodName) ({ cls := "PileHeirs$Plain", name := "timberAt", desc := "(I)I" } : Jvm.MethodName) : Cond) ∈ GW := gw_of (i := 869) (by decide +kernel) rfl
theorem g_851 : (.selects "PileHeirs$Plain" ({ cls := "PileHeirs$Plain", name := "timberAt", desc := "(I)I" } : Jvm.MethodName) ({ cls := "PileHeirs$Plain", name := "timberAt", desc := "(I)I" } : Jvm.MethodName) : Cond) ∈ GW := gw_of (i := 870) (by decide +kernel) rfl
theorem g_852 : (.selects "PileHeirs$Sorted" ({ cls := "PileHeirs$Plain", name := "timberAt", desc := "(I)I" } : Jvm.MethodName) ({ cls := "PileHeirs$Plain", name := "timberAt", desc := "(I)I" } : Jvm.MethodName) : Cond) ∈ GW := gw_of (i := 871) (by decide +kernel) rfl
theorem g_853 : (.selects "PileHeirs$Strict" ({ cls := "PileHeirs$Plain", name := "timberAt", desc := "(I)I" } : Jvm.MethodName) ({ cls := "PileHeirs$Plain", name := "timberAt", desc := "(I)I" } : Jvm.MethodName) : Cond) ∈ GW := gw_of (i := 872) (by decide +kernel) rfl
theorem g_854 : (.selects "PileHeirs$Twofold" ({ cls := "PileHeirs$Plain", name := "timberAt", desc := "(I)I" } : Jvm.MethodName) ({ cls := "PileHeirs$Plain", name := "timberAt", desc := "(I)I" } : Jvm.MethodName) : Cond) ∈ GW := gw_of (i := 873) (by decide +kernel) rfl
theorem g_855 : (.sameMethod "PileHeirs$Sorted" "PileHeirs$Sorted" "sinkTopmost" "(I)V" : Cond) ∈ GW := gw_of (i := 874) (by decide +kernel) rfl
theorem g_856 : (.sameMethod "PileHeirs$Plain" "PileHeirs$Plain" "putAct" "(I)I" : Cond) ∈ GW := gw_of (i := 875) (by decide +kernel) rfl
theorem g_857 : (.selects "PileHeirs$Drying" ({ cls := "PileHeirs$Plain", name := "putAct", desc := "(I)I" } : Jvm.MethodName) ({ cls := "PileHeirs$Sorted", name := "putAct", desc := "(I)I" } : Jvm.MethodName) : Cond) ∈ GW := gw_of (i := 876) (by decide +kernel) rfl
theorem g_858 : (.selects "PileHeirs$Lean" ({ cls := "PileHeirs$Plain", name := "putAct", desc := "(I)I" } : Jvm.MethodName) ({ cls := "PileHeirs$Strict", name := "putAct", desc := "(I)I" } : Jvm.MethodName) : Cond) ∈ GW := gw_of (i := 877) (by decide +kernel) rfl
theorem g_859 : (.selects "PileHeirs$Marked" ({ cls := "PileHeirs$Plain", name := "putAct", desc := "(I)I" } : Jvm.MethodName) ({ cls := "PileHeirs$Plain", name := "putAct", desc := "(I)I" } : Jvm.MethodName) : Cond) ∈ GW := gw_of (i := 878) (by decide +kernel) rfl
theorem g_860 : (.selects "PileHeirs$Open" ({ cls := "PileHeirs$Plain", name := "putAct", desc := "(I)I" } : Jvm.MethodName) ({ cls := "PileHeirs$Open", name := "putAct", desc := "(I)I" } : Jvm.MethodName) : Cond) ∈ GW := gw_of (i := 879) (by decide +kernel) rfl
theorem g_861 : (.selects "PileHeirs$Plain" ({ cls := "PileHeirs$Plain", name := "putAct", desc := "(I)I" } : Jvm.MethodName) ({ cls := "PileHeirs$Plain", name := "putAct", desc := "(I)I" } : Jvm.MethodName) : Cond) ∈ GW := gw_of (i := 880) (by decide +kernel) rfl
theorem g_862 : (.selects "PileHeirs$Sorted" ({ cls := "PileHeirs$Plain", name := "putAct", desc := "(I)I" } : Jvm.MethodName) ({ cls := "PileHeirs$Sorted", name := "putAct", desc := "(I)I" } : Jvm.MethodName) : Cond) ∈ GW := gw_of (i := 881) (by decide +kernel) rfl
theorem g_863 : (.selects "PileHeirs$Strict" ({ cls := "PileHeirs$Plain", name := "putAct", desc := "(I)I" } : Jvm.MethodName) ({ cls := "PileHeirs$Strict", name := "putAct", desc := "(I)I" } : Jvm.MethodName) : Cond) ∈ GW := gw_of (i := 882) (by decide +kernel) rfl
theorem g_864 : (.selects "PileHeirs$Twofold" ({ cls := "PileHeirs$Plain", name := "putAct", desc := "(I)I" } : Jvm.MethodName) ({ cls := "PileHeirs$Strict", name := "putAct", desc := "(I)I" } : Jvm.MethodName) : Cond) ∈ GW := gw_of (i := 883) (by decide +kernel) rfl
theorem g_865 : (.sameMethod "java/lang/Throwable" "java/lang/Throwable" "fillInStackTrace" "(I)Ljava/lang/Throwable;" : Cond) ∈ GW := gw_of (i := 884) (by decide +kernel) rfl
