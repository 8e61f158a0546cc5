section
-- ===== PART A: goes FIRST, ahead of the names: the tables' words, and 'selects' of the private methods out of them =====
/-- a private method of a class that the tables say can be made, by its rows of tables_1 -/
def lw_okq (q : MethodName × Nat) : Prop := (q.1.cls ≠ "java/lang/invoke/MethodHandle" ∧ q.1.cls ≠ "java/lang/invoke/VarHandle") ∧ Cond.instantiable q.1.cls q.2 ∈ tables_1 ∧ Cond.privateMethod q.1 ∈ tables_1 ∧ Cond.instanceMethod q.1 ∈ tables_1
theorem lw_p0 : lw_okq (⟨"PileHeirs", "newPile", "(IIII)LPileHeirs$Plain;"⟩, 4) := ⟨⟨by decide +kernel, by decide +kernel⟩, List.mem_of_getElem? (i := 20) (by decide +kernel), List.mem_of_getElem? (i := 107) (by decide +kernel), List.mem_of_getElem? (i := 108) (by decide +kernel)⟩
theorem lw_p1 : lw_okq (⟨"PileHeirs", "pileOf", "(I)LPileHeirs$Plain;"⟩, 4) := ⟨⟨by decide +kernel, by decide +kernel⟩, List.mem_of_getElem? (i := 20) (by decide +kernel), List.mem_of_getElem? (i := 264) (by decide +kernel), List.mem_of_getElem? (i := 265) (by decide +kernel)⟩
theorem lw_p2 : lw_okq (⟨"PileHeirs$Sorted", "sinkTopmost", "(I)V"⟩, 7) := ⟨⟨by decide +kernel, by decide +kernel⟩, List.mem_of_getElem? (i := 166) (by decide +kernel), List.mem_of_getElem? (i := 464) (by decide +kernel), List.mem_of_getElem? (i := 465) (by decide +kernel)⟩
theorem lw_p3 : lw_okq (⟨"java/lang/NullPointerException", "getExtendedNPEMessage", "()Ljava/lang/String;"⟩, 8) := ⟨⟨by decide +kernel, by decide +kernel⟩, List.mem_of_getElem? (i := 603) (by decide +kernel), List.mem_of_getElem? (i := 601) (by decide +kernel), List.mem_of_getElem? (i := 602) (by decide +kernel)⟩
theorem lw_p4 : lw_okq (⟨"java/lang/Throwable", "fillInStackTrace", "(I)Ljava/lang/Throwable;"⟩, 6) := ⟨⟨by decide +kernel, by decide +kernel⟩, List.mem_of_getElem? (i := 612) (by decide +kernel), List.mem_of_getElem? (i := 610) (by decide +kernel), List.mem_of_getElem? (i := 611) (by decide +kernel)⟩
theorem lw_p5 : lw_okq (⟨"PileHeirsModel", "isPile", "(I)Z"⟩, 17) := ⟨⟨by decide +kernel, by decide +kernel⟩, List.mem_of_getElem? (i := 681) (by decide +kernel), List.mem_of_getElem? (i := 758) (by decide +kernel), List.mem_of_getElem? (i := 759) (by decide +kernel)⟩
theorem lw_p6 : lw_okq (⟨"PileHeirsModel", "isTimber", "(I)Z"⟩, 17) := ⟨⟨by decide +kernel, by decide +kernel⟩, List.mem_of_getElem? (i := 681) (by decide +kernel), List.mem_of_getElem? (i := 762) (by decide +kernel), List.mem_of_getElem? (i := 763) (by decide +kernel)⟩
theorem lw_p7 : lw_okq (⟨"PileHeirsModel", "putOf", "(II)Z"⟩, 17) := ⟨⟨by decide +kernel, by decide +kernel⟩, List.mem_of_getElem? (i := 681) (by decide +kernel), List.mem_of_getElem? (i := 766) (by decide +kernel), List.mem_of_getElem? (i := 767) (by decide +kernel)⟩
theorem lw_p8 : lw_okq (⟨"PileHeirsModel", "rule", "(II)V"⟩, 17) := ⟨⟨by decide +kernel, by decide +kernel⟩, List.mem_of_getElem? (i := 681) (by decide +kernel), List.mem_of_getElem? (i := 770) (by decide +kernel), List.mem_of_getElem? (i := 771) (by decide +kernel)⟩
theorem lw_p9 : lw_okq (⟨"PileHeirsModel", "loadOf", "(I)I"⟩, 17) := ⟨⟨by decide +kernel, by decide +kernel⟩, List.mem_of_getElem? (i := 681) (by decide +kernel), List.mem_of_getElem? (i := 774) (by decide +kernel), List.mem_of_getElem? (i := 775) (by decide +kernel)⟩
theorem lw_p10 : lw_okq (⟨"PileHeirsModel", "putPlain", "(II)Z"⟩, 17) := ⟨⟨by decide +kernel, by decide +kernel⟩, List.mem_of_getElem? (i := 681) (by decide +kernel), List.mem_of_getElem? (i := 778) (by decide +kernel), List.mem_of_getElem? (i := 779) (by decide +kernel)⟩
theorem lw_p11 : lw_okq (⟨"PileHeirsModel", "putSorted", "(II)Z"⟩, 17) := ⟨⟨by decide +kernel, by decide +kernel⟩, List.mem_of_getElem? (i := 681) (by decide +kernel), List.mem_of_getElem? (i := 782) (by decide +kernel), List.mem_of_getElem? (i := 783) (by decide +kernel)⟩
theorem lw_p12 : lw_okq (⟨"PileHeirsModel", "takeOf", "(I)I"⟩, 17) := ⟨⟨by decide +kernel, by decide +kernel⟩, List.mem_of_getElem? (i := 681) (by decide +kernel), List.mem_of_getElem? (i := 790) (by decide +kernel), List.mem_of_getElem? (i := 791) (by decide +kernel)⟩
theorem lw_p13 : lw_okq (⟨"PileHeirsModel", "takePlain", "(I)I"⟩, 17) := ⟨⟨by decide +kernel, by decide +kernel⟩, List.mem_of_getElem? (i := 681) (by decide +kernel), List.mem_of_getElem? (i := 794) (by decide +kernel), List.mem_of_getElem? (i := 795) (by decide +kernel)⟩
theorem lw_p14 : lw_okq (⟨"PileHeirsModel", "lowest", "(II)I"⟩, 17) := ⟨⟨by decide +kernel, by decide +kernel⟩, List.mem_of_getElem? (i := 681) (by decide +kernel), List.mem_of_getElem? (i := 806) (by decide +kernel), List.mem_of_getElem? (i := 807) (by decide +kernel)⟩
theorem lw_p15 : lw_okq (⟨"PileHeirsModel", "freeOf", "(I)I"⟩, 17) := ⟨⟨by decide +kernel, by decide +kernel⟩, List.mem_of_getElem? (i := 681) (by decide +kernel), List.mem_of_getElem? (i := 814) (by decide +kernel), List.mem_of_getElem? (i := 815) (by decide +kernel)⟩
def lw_privs_1 : List (MethodName × Nat) := [(⟨"PileHeirs", "newPile", "(IIII)LPileHeirs$Plain;"⟩, 4), (⟨"PileHeirs", "pileOf", "(I)LPileHeirs$Plain;"⟩, 4), (⟨"PileHeirs$Sorted", "sinkTopmost", "(I)V"⟩, 7), (⟨"java/lang/NullPointerException", "getExtendedNPEMessage", "()Ljava/lang/String;"⟩, 8), (⟨"java/lang/Throwable", "fillInStackTrace", "(I)Ljava/lang/Throwable;"⟩, 6), (⟨"PileHeirsModel", "isPile", "(I)Z"⟩, 17), (⟨"PileHeirsModel", "isTimber", "(I)Z"⟩, 17), (⟨"PileHeirsModel", "putOf", "(II)Z"⟩, 17), (⟨"PileHeirsModel", "rule", "(II)V"⟩, 17), (⟨"PileHeirsModel", "loadOf", "(I)I"⟩, 17), (⟨"PileHeirsModel", "putPlain", "(II)Z"⟩, 17), (⟨"PileHeirsModel", "putSorted", "(II)Z"⟩, 17), (⟨"PileHeirsModel", "takeOf", "(I)I"⟩, 17), (⟨"PileHeirsModel", "takePlain", "(I)I"⟩, 17), (⟨"PileHeirsModel", "lowest", "(II)I"⟩, 17), (⟨"PileHeirsModel", "freeOf", "(I)I"⟩, 17)]
theorem lw_r1 : ∀ q ∈ lw_privs_1, lw_okq q := List.forall_mem_cons.mpr ⟨lw_p0, List.forall_mem_cons.mpr ⟨lw_p1, List.forall_mem_cons.mpr ⟨lw_p2, List.forall_mem_cons.mpr ⟨lw_p3, List.forall_mem_cons.mpr ⟨lw_p4, List.forall_mem_cons.mpr ⟨lw_p5, List.forall_mem_cons.mpr ⟨lw_p6, List.forall_mem_cons.mpr ⟨lw_p7, List.forall_mem_cons.mpr ⟨lw_p8, List.forall_mem_cons.mpr ⟨lw_p9, List.forall_mem_cons.mpr ⟨lw_p10, List.forall_mem_cons.mpr ⟨lw_p11, List.forall_mem_cons.mpr ⟨lw_p12, List.forall_mem_cons.mpr ⟨lw_p13, List.forall_mem_cons.mpr ⟨lw_p14, List.forall_mem_cons.mpr ⟨lw_p15, fun _ h => absurd h List.not_mem_nil⟩⟩⟩⟩⟩⟩⟩⟩⟩⟩⟩⟩⟩⟩⟩⟩
theorem lw_p16 : lw_okq (⟨"PileHeirsModel", "freeStrict", "(I)I"⟩, 17) := ⟨⟨by decide +kernel, by decide +kernel⟩, List.mem_of_getElem? (i := 681) (by decide +kernel), List.mem_of_getElem? (i := 818) (by decide +kernel), List.mem_of_getElem? (i := 819) (by decide +kernel)⟩
def lw_privs_2 : List (MethodName × Nat) := [(⟨"PileHeirsModel", "freeStrict", "(I)I"⟩, 17)]
theorem lw_r2 : ∀ q ∈ lw_privs_2, lw_okq q := List.forall_mem_cons.mpr ⟨lw_p16, fun _ h => absurd h List.not_mem_nil⟩
def lw_privs : List (MethodName × Nat) := lw_privs_1 ++ (lw_privs_2)
def lw_tbl : List Cond := k2_sels lw_privs ++ tables_1
theorem lw_privs_ok : ∀ q ∈ lw_privs, lw_okq q := by
  show ∀ q ∈ lw_privs_1 ++ (lw_privs_2), lw_okq q
  exact List.forall_mem_append.mpr ⟨lw_r1, lw_r2⟩
/-- the good words of the tables: every contract's words are its own code and these -/
def lwx_y : MethodName := ⟨"PileHeirs$Sorted", "sinkTopmost", "(I)V"⟩
/-- two words more: a private method is selected on a subclass's object too (proved of every start in lwx_ok) -/
def lwx : List Cond := [.selects "PileHeirs$Drying" lwx_y lwx_y, .selects "PileHeirs$Open" lwx_y lwx_y]
def lw_tblx : List Cond := lwx ++ lw_tbl
theorem lwx_sel {args : Array Value} {s : State} {C : String} {y : MethodName} {n n' : Nat} (hy : y.cls ≠ "java/lang/invoke/MethodHandle" ∧ y.cls ≠ "java/lang/invoke/VarHandle") (hC : (Cond.instantiable C n).before args s = true) (hins : (Cond.instantiable y.cls n').before args s = true)
    (hpriv : (Cond.privateMethod y).before args s = true) (hinst : (Cond.instanceMethod y).before args s = true) : (Cond.selects C y y).before args s = true := by
  obtain ⟨cC, kC, hcC, hkC, -, -, -, -⟩ := Cond.instantiable_spec hC
  obtain ⟨c, k, hc, hk, -, hniab, -, -⟩ := Cond.instantiable_spec hins
  have hni : k.isInterface = false := (Bool.or_eq_false_iff.mp hniab).1
  obtain ⟨mk, methM, hnamed, hmethM, -, -⟩ := Cond.instanceMethod_spec hinst
  have hfound : s.methodFound? y.cls y.name y.desc = some mk := State.methodFound?_of_named hnamed hy
  have hcls : mk.cls = c := Option.some.inj ((findClass_of_methodNamed hnamed).symm.trans hc)
  have hsel : selectMethod {} s.vm cC mk = .method mk := selectMethod_private hmethM (Cond.privateMethod_at hpriv mk methM hnamed hmethM)
  simp only [Cond.before, Cond.holds, Cond.value, hcC, hfound, hnamed, hsel, hcls, hk]
  simp; exact hni
theorem lwx_ok {args : Array Value} {s : State} (hts : ∀ w ∈ lw_tbl, w.before args s = true) : ∀ w ∈ lw_tblx, w.before args s = true := by
  intro w hw
  rcases List.mem_append.mp hw with h | h
  · rcases List.mem_cons.mp h with e | h
    · rw [e]; exact lwx_sel (n := 7) (n' := 7) (by decide) (hts _ (List.mem_of_getElem? (i := 211) (by decide +kernel))) (hts _ (List.mem_of_getElem? (i := 183) (by decide +kernel))) (hts _ (List.mem_of_getElem? (i := 481) (by decide +kernel))) (hts _ (List.mem_of_getElem? (i := 482) (by decide +kernel)))
    · rcases List.mem_cons.mp h with e | h
      · rw [e]; exact lwx_sel (n := 7) (n' := 7) (by decide) (hts _ (List.mem_of_getElem? (i := 239) (by decide +kernel))) (hts _ (List.mem_of_getElem? (i := 183) (by decide +kernel))) (hts _ (List.mem_of_getElem? (i := 481) (by decide +kernel))) (hts _ (List.mem_of_getElem? (i := 482) (by decide +kernel)))
      · exact absurd h List.not_mem_nil
  · exact hts w h
def GW : List Cond := lw_tblx.filter goodWord
theorem gw_of {i : Nat} {w : Cond} (h : lw_tblx[i]? = some w) (hg : goodWord w = true) : w ∈ GW := List.mem_filter.mpr ⟨List.mem_of_getElem? h, hg⟩
theorem gw_in : ∀ w ∈ GW, w ∈ lw_tblx := fun w h => (List.mem_filter.mp h).1
theorem gw_good : ∀ w ∈ GW, goodWord w = true := fun w h => (List.mem_filter.mp h).2
theorem gx_0 : (.selects "PileHeirs$Drying" lwx_y lwx_y : Cond) ∈ GW := gw_of (i := 0) (by decide +kernel) rfl
theorem gx_1 : (.selects "PileHeirs$Open" lwx_y lwx_y : Cond) ∈ GW := gw_of (i := 1) (by decide +kernel) rfl
theorem gp_0 : (.selects "PileHeirs" ⟨"PileHeirs", "newPile", "(IIII)LPileHeirs$Plain;"⟩ ⟨"PileHeirs", "newPile", "(IIII)LPileHeirs$Plain;"⟩ : Cond) ∈ GW := gw_of (i := 2) (by decide +kernel) rfl
theorem gp_1 : (.selects "PileHeirs" ⟨"PileHeirs", "pileOf", "(I)LPileHeirs$Plain;"⟩ ⟨"PileHeirs", "pileOf", "(I)LPileHeirs$Plain;"⟩ : Cond) ∈ GW := gw_of (i := 3) (by decide +kernel) rfl
theorem gp_2 : (.selects "PileHeirs$Sorted" ⟨"PileHeirs$Sorted", "sinkTopmost", "(I)V"⟩ ⟨"PileHeirs$Sorted", "sinkTopmost", "(I)V"⟩ : Cond) ∈ GW := gw_of (i := 4) (by decide +kernel) rfl
theorem gp_3 : (.selects "java/lang/NullPointerException" ⟨"java/lang/NullPointerException", "getExtendedNPEMessage", "()Ljava/lang/String;"⟩ ⟨"java/lang/NullPointerException", "getExtendedNPEMessage", "()Ljava/lang/String;"⟩ : Cond) ∈ GW := gw_of (i := 5) (by decide +kernel) rfl
theorem gp_4 : (.selects "java/lang/Throwable" ⟨"java/lang/Throwable", "fillInStackTrace", "(I)Ljava/lang/Throwable;"⟩ ⟨"java/lang/Throwable", "fillInStackTrace", "(I)Ljava/lang/Throwable;"⟩ : Cond) ∈ GW := gw_of (i := 6) (by decide +kernel) rfl
theorem gp_5 : (.selects "PileHeirsModel" ⟨"PileHeirsModel", "isPile", "(I)Z"⟩ ⟨"PileHeirsModel", "isPile", "(I)Z"⟩ : Cond) ∈ GW := gw_of (i := 7) (by decide +kernel) rfl
theorem gp_6 : (.selects "PileHeirsModel" ⟨"PileHeirsModel", "isTimber", "(I)Z"⟩ ⟨"PileHeirsModel", "isTimber", "(I)Z"⟩ : Cond) ∈ GW := gw_of (i := 8) (by decide +kernel) rfl
theorem gp_7 : (.selects "PileHeirsModel" ⟨"PileHeirsModel", "putOf", "(II)Z"⟩ ⟨"PileHeirsModel", "putOf", "(II)Z"⟩ : Cond) ∈ GW := gw_of (i := 9) (by decide +kernel) rfl
theorem gp_8 : (.selects "PileHeirsModel" ⟨"PileHeirsModel", "rule", "(II)V"⟩ ⟨"PileHeirsModel", "rule", "(II)V"⟩ : Cond) ∈ GW := gw_of (i := 10) (by decide +kernel) rfl
theorem gp_9 : (.selects "PileHeirsModel" ⟨"PileHeirsModel", "loadOf", "(I)I"⟩ ⟨"PileHeirsModel", "loadOf", "(I)I"⟩ : Cond) ∈ GW := gw_of (i := 11) (by decide +kernel) rfl
theorem gp_10 : (.selects "PileHeirsModel" ⟨"PileHeirsModel", "putPlain", "(II)Z"⟩ ⟨"PileHeirsModel", "putPlain", "(II)Z"⟩ : Cond) ∈ GW := gw_of (i := 12) (by decide +kernel) rfl
theorem gp_11 : (.selects "PileHeirsModel" ⟨"PileHeirsModel", "putSorted", "(II)Z"⟩ ⟨"PileHeirsModel", "putSorted", "(II)Z"⟩ : Cond) ∈ GW := gw_of (i := 13) (by decide +kernel) rfl
theorem gp_12 : (.selects "PileHeirsModel" ⟨"PileHeirsModel", "takeOf", "(I)I"⟩ ⟨"PileHeirsModel", "takeOf", "(I)I"⟩ : Cond) ∈ GW := gw_of (i := 14) (by decide +kernel) rfl
theorem gp_13 : (.selects "PileHeirsModel" ⟨"PileHeirsModel", "takePlain", "(I)I"⟩ ⟨"PileHeirsModel", "takePlain", "(I)I"⟩ : Cond) ∈ GW := gw_of (i := 15) (by decide +kernel) rfl
theorem gp_14 : (.selects "PileHeirsModel" ⟨"PileHeirsModel", "lowest", "(II)I"⟩ ⟨"PileHeirsModel", "lowest", "(II)I"⟩ : Cond) ∈ GW := gw_of (i := 16) (by decide +kernel) rfl
theorem gp_15 : (.selects "PileHeirsModel" ⟨"PileHeirsModel", "freeOf", "(I)I"⟩ ⟨"PileHeirsModel", "freeOf", "(I)I"⟩ : Cond) ∈ GW := gw_of (i := 17) (by decide +kernel) rfl
theorem gp_16 : (.selects "PileHeirsModel" ⟨"PileHeirsModel", "freeStrict", "(I)I"⟩ ⟨"PileHeirsModel", "freeStrict", "(I)I"⟩ : Cond) ∈ GW := gw_of (i := 18) (by decide +kernel) rfl
theorem g_0 : (.initialized "PileHeirsLaw" : Cond) ∈ GW := gw_of (i := 19) (by decide +kernel) rfl
theorem g_1 : (.initialized "PileHeirs" : Cond) ∈ GW := gw_of (i := 20) (by decide +kernel) rfl
theorem g_2 : (.initialized "PileHeirs$Timbers" : Cond) ∈ GW := gw_of (i := 21) (by decide +kernel) rfl
theorem g_3 : (.initialized "PileHeirs$Trace" : Cond) ∈ GW := gw_of (i := 22) (by decide +kernel) rfl
theorem g_4 : (.initialized "PileHeirsModel" : Cond) ∈ GW := gw_of (i := 23) (by decide +kernel) rfl
theorem g_5 : (.initialized "PileHeirs$Plain" : Cond) ∈ GW := gw_of (i := 24) (by decide +kernel) rfl
theorem g_6 : (.initialized "PileHeirs$Marked" : Cond) ∈ GW := gw_of (i := 25) (by decide +kernel) rfl
theorem g_7 : (.initialized "PileHeirs$Sorted" : Cond) ∈ GW := gw_of (i := 26) (by decide +kernel) rfl
theorem g_8 : (.initialized "PileHeirs$Strict" : Cond) ∈ GW := gw_of (i := 27) (by decide +kernel) rfl
theorem g_9 : (.initialized "PileHeirs$Drying" : Cond) ∈ GW := gw_of (i := 28) (by decide +kernel) rfl
theorem g_10 : (.initialized "PileHeirs$Twofold" : Cond) ∈ GW := gw_of (i := 29) (by decide +kernel) rfl
theorem g_11 : (.initialized "PileHeirs$Open" : Cond) ∈ GW := gw_of (i := 30) (by decide +kernel) rfl
theorem g_12 : (.initialized "PileHeirs$Lean" : Cond) ∈ GW := gw_of (i := 31) (by decide +kernel) rfl
theorem g_13 : (.initialized "java/lang/Math" : Cond) ∈ GW := gw_of (i := 32) (by decide +kernel) rfl
theorem g_14 : (.initialized "java/lang/Throwable" : Cond) ∈ GW := gw_of (i := 33) (by decide +kernel) rfl
theorem g_15 : (.initialized "java/lang/Exception" : Cond) ∈ GW := gw_of (i := 34) (by decide +kernel) rfl
theorem g_16 : (.initialized "java/lang/RuntimeException" : Cond) ∈ GW := gw_of (i := 35) (by decide +kernel) rfl
theorem g_17 : (.initialized "java/lang/UnsupportedOperationException" : Cond) ∈ GW := gw_of (i := 36) (by decide +kernel) rfl
theorem g_18 : (.initialized "java/lang/NullPointerException" : Cond) ∈ GW := gw_of (i := 37) (by decide +kernel) rfl
theorem g_19 : (.classLink "PileHeirsLaw" 8 "PileHeirs" : Cond) ∈ GW := gw_of (i := 38) (by decide +kernel) rfl
theorem g_20 : (.instantiable "PileHeirs" 4 : Cond) ∈ GW := gw_of (i := 39) (by decide +kernel) rfl
theorem g_21 : (.methodLink "PileHeirsLaw" 21 ({ cls := "PileHeirs", name := "<init>", desc := "()V" } : Jvm.MethodName) : Cond) ∈ GW := gw_of (i := 40) (by decide +kernel) rfl
theorem g_22 : (.instanceMethod ({ cls := "PileHeirs", name := "<init>", desc := "()V" } : Jvm.MethodName) : Cond) ∈ GW := gw_of (i := 41) (by decide +kernel) rfl
theorem g_23 : (.code ({ cls := "PileHeirs", name := "<init>", desc := "()V" } : Jvm.MethodName) prog_1_method_1_code 1 (Option.none : Option Jvm.ClassFile.FieldType) : Cond) ∈ GW := gw_of (i := 42) (by decide +kernel) rfl
theorem g_24 : (.methodLink "PileHeirs" 1 ({ cls := "java/lang/Object", name := "<init>", desc := "()V" } : Jvm.MethodName) : Cond) ∈ GW := gw_of (i := 43) (by decide +kernel) rfl
theorem g_25 : (.instanceMethod ({ cls := "java/lang/Object", name := "<init>", desc := "()V" } : Jvm.MethodName) : Cond) ∈ GW := gw_of (i := 44) (by decide +kernel) rfl
theorem g_26 : (.code ({ cls := "java/lang/Object", name := "<init>", desc := "()V" } : Jvm.MethodName) object_method_1_code 1 (Option.none : Option Jvm.ClassFile.FieldType) : Cond) ∈ GW := gw_of (i := 45) (by decide +kernel) rfl
theorem g_27 : (.classLink "PileHeirs" 7 "PileHeirs$Timbers" : Cond) ∈ GW := gw_of (i := 46) (by decide +kernel) rfl
theorem g_28 : (.instantiable "PileHeirs$Timbers" 5 : Cond) ∈ GW := gw_of (i := 47) (by decide +kernel) rfl
theorem g_29 : (.methodLink "PileHeirs" 9 ({ cls := "PileHeirs$Timbers", name := "<init>", desc := "()V" } : Jvm.MethodName) : Cond) ∈ GW := gw_of (i := 48) (by decide +kernel) rfl
theorem g_30 : (.instanceMethod ({ cls := "PileHeirs$Timbers", name := "<init>", desc := "()V" } : Jvm.MethodName) : Cond) ∈ GW := gw_of (i := 49) (by decide +kernel) rfl
theorem g_31 : (.code ({ cls := "PileHeirs$Timbers", name := "<init>", desc := "()V" } : Jvm.MethodName) prog_9_method_1_code 1 (Option.none : Option Jvm.ClassFile.FieldType) : Cond) ∈ GW := gw_of (i := 50) (by decide +kernel) rfl
theorem g_32 : (.methodLink "PileHeirs$Timbers" 3 ({ cls := "java/lang/Object", name := "<init>", desc := "()V" } : Jvm.MethodName) : Cond) ∈ GW := gw_of (i := 51) (by decide +kernel) rfl
theorem g_33 : (.fieldLink "PileHeirs$Timbers" 9 "PileHeirs$Timbers" "lengths" "[I" : Cond) ∈ GW := gw_of (i := 52) (by decide +kernel) rfl
theorem g_34 : (.fieldLink "PileHeirs$Timbers" 15 "PileHeirs$Timbers" "weights" "[I" : Cond) ∈ GW := gw_of (i := 53) (by decide +kernel) rfl
theorem g_35 : (.fieldLink "PileHeirs$Timbers" 18 "PileHeirs$Timbers" "wets" "[Z" : Cond) ∈ GW := gw_of (i := 54) (by decide +kernel) rfl
theorem g_36 : (.fieldLink "PileHeirs$Timbers" 22 "PileHeirs$Timbers" "pileNumbers" "[I" : Cond) ∈ GW := gw_of (i := 55) (by decide +kernel) rfl
theorem g_37 : (.fieldLink "PileHeirs$Timbers" 25 "PileHeirs$Timbers" "size" "I" : Cond) ∈ GW := gw_of (i := 56) (by decide +kernel) rfl
theorem g_38 : (.laysFinal "PileHeirs$Timbers" "PileHeirs$Timbers" "lengths" "[I" : Cond) ∈ GW := gw_of (i := 57) (by decide +kernel) rfl
theorem g_40 : (.laysFinal "PileHeirs$Timbers" "PileHeirs$Timbers" "weights" "[I" : Cond) ∈ GW := gw_of (i := 59) (by decide +kernel) rfl
theorem g_42 : (.laysFinal "PileHeirs$Timbers" "PileHeirs$Timbers" "wets" "[Z" : Cond) ∈ GW := gw_of (i := 61) (by decide +kernel) rfl
theorem g_44 : (.laysFinal "PileHeirs$Timbers" "PileHeirs$Timbers" "pileNumbers" "[I" : Cond) ∈ GW := gw_of (i := 63) (by decide +kernel) rfl
theorem g_46 : (.lays "PileHeirs$Timbers" "PileHeirs$Timbers" "size" "I" : Cond) ∈ GW := gw_of (i := 65) (by decide +kernel) rfl
theorem g_48 : (.superclass "PileHeirs$Timbers" "java/lang/Object" : Cond) ∈ GW := gw_of (i := 67) (by decide +kernel) rfl
theorem g_49 : (.arrayClass Jvm.ClassFile.FieldType.int : Cond) ∈ GW := gw_of (i := 68) (by decide +kernel) rfl
theorem g_50 : (.arrayClass Jvm.ClassFile.FieldType.boolean : Cond) ∈ GW := gw_of (i := 69) (by decide +kernel) rfl
theorem g_51 : (.classLink "PileHeirs" 16 "PileHeirs$Trace" : Cond) ∈ GW := gw_of (i := 70) (by decide +kernel) rfl
theorem g_52 : (.instantiable "PileHeirs$Trace" 6 : Cond) ∈ GW := gw_of (i := 71) (by decide +kernel) rfl
theorem g_53 : (.methodLink "PileHeirs" 18 ({ cls := "PileHeirs$Trace", name := "<init>", desc := "()V" } : Jvm.MethodName) : Cond) ∈ GW := gw_of (i := 72) (by decide +kernel) rfl
theorem g_54 : (.instanceMethod ({ cls := "PileHeirs$Trace", name := "<init>", desc := "()V" } : Jvm.MethodName) : Cond) ∈ GW := gw_of (i := 73) (by decide +kernel) rfl
theorem g_55 : (.code ({ cls := "PileHeirs$Trace", name := "<init>", desc := "()V" } : Jvm.MethodName) prog_10_method_1_code 1 (Option.none : Option Jvm.ClassFile.FieldType) : Cond) ∈ GW := gw_of (i := 74) (by decide +kernel) rfl
theorem g_56 : (.methodLink "PileHeirs$Trace" 3 ({ cls := "java/lang/Object", name := "<init>", desc := "()V" } : Jvm.MethodName) : Cond) ∈ GW := gw_of (i := 75) (by decide +kernel) rfl
theorem g_57 : (.fieldLink "PileHeirs$Trace" 9 "PileHeirs$Trace" "ring" "[I" : Cond) ∈ GW := gw_of (i := 76) (by decide +kernel) rfl
theorem g_58 : (.fieldLink "PileHeirs$Trace" 15 "PileHeirs$Trace" "next" "I" : Cond) ∈ GW := gw_of (i := 77) (by decide +kernel) rfl
theorem g_59 : (.fieldLink "PileHeirs$Trace" 19 "PileHeirs$Trace" "kept" "I" : Cond) ∈ GW := gw_of (i := 78) (by decide +kernel) rfl
theorem g_60 : (.fieldLink "PileHeirs$Trace" 28 "PileHeirs$Trace" "rules" "I" : Cond) ∈ GW := gw_of (i := 79) (by decide +kernel) rfl
theorem g_61 : (.fieldLink "PileHeirs$Trace" 31 "PileHeirs$Trace" "heavies" "I" : Cond) ∈ GW := gw_of (i := 80) (by decide +kernel) rfl
theorem g_62 : (.fieldLink "PileHeirs$Trace" 34 "PileHeirs$Trace" "nothings" "I" : Cond) ∈ GW := gw_of (i := 81) (by decide +kernel) rfl
theorem g_63 : (.laysFinal "PileHeirs$Trace" "PileHeirs$Trace" "ring" "[I" : Cond) ∈ GW := gw_of (i := 82) (by decide +kernel) rfl
theorem g_65 : (.lays "PileHeirs$Trace" "PileHeirs$Trace" "next" "I" : Cond) ∈ GW := gw_of (i := 84) (by decide +kernel) rfl
theorem g_67 : (.lays "PileHeirs$Trace" "PileHeirs$Trace" "kept" "I" : Cond) ∈ GW := gw_of (i := 86) (by decide +kernel) rfl
theorem g_69 : (.lays "PileHeirs$Trace" "PileHeirs$Trace" "rules" "I" : Cond) ∈ GW := gw_of (i := 88) (by decide +kernel) rfl
theorem g_71 : (.lays "PileHeirs$Trace" "PileHeirs$Trace" "heavies" "I" : Cond) ∈ GW := gw_of (i := 90) (by decide +kernel) rfl
theorem g_73 : (.lays "PileHeirs$Trace" "PileHeirs$Trace" "nothings" "I" : Cond) ∈ GW := gw_of (i := 92) (by decide +kernel) rfl
theorem g_75 : (.superclass "PileHeirs$Trace" "java/lang/Object" : Cond) ∈ GW := gw_of (i := 94) (by decide +kernel) rfl
theorem g_76 : (.classLink "PileHeirs" 23 "PileHeirs$Plain" : Cond) ∈ GW := gw_of (i := 95) (by decide +kernel) rfl
theorem g_78 : (.fieldLink "PileHeirs" 10 "PileHeirs" "timbers" "LPileHeirs$Timbers;" : Cond) ∈ GW := gw_of (i := 97) (by decide +kernel) rfl
theorem g_79 : (.fieldLink "PileHeirs" 19 "PileHeirs" "done" "LPileHeirs$Trace;" : Cond) ∈ GW := gw_of (i := 98) (by decide +kernel) rfl
theorem g_80 : (.fieldLink "PileHeirs" 25 "PileHeirs" "piles" "[LPileHeirs$Plain;" : Cond) ∈ GW := gw_of (i := 99) (by decide +kernel) rfl
theorem g_81 : (.fieldLink "PileHeirs" 37 "PileHeirs" "pileCount" "I" : Cond) ∈ GW := gw_of (i := 100) (by decide +kernel) rfl
theorem g_82 : (.laysFinal "PileHeirs" "PileHeirs" "timbers" "LPileHeirs$Timbers;" : Cond) ∈ GW := gw_of (i := 101) (by decide +kernel) rfl
theorem g_84 : (.laysFinal "PileHeirs" "PileHeirs" "done" "LPileHeirs$Trace;" : Cond) ∈ GW := gw_of (i := 103) (by decide +kernel) rfl
theorem g_86 : (.laysFinal "PileHeirs" "PileHeirs" "piles" "[LPileHeirs$Plain;" : Cond) ∈ GW := gw_of (i := 105) (by decide +kernel) rfl
theorem g_88 : (.lays "PileHeirs" "PileHeirs" "pileCount" "I" : Cond) ∈ GW := gw_of (i := 107) (by decide +kernel) rfl
theorem g_90 : (.superclass "PileHeirs" "java/lang/Object" : Cond) ∈ GW := gw_of (i := 109) (by decide +kernel) rfl
theorem g_91 : (.methodLink "PileHeirsLaw" 25 ({ cls := "PileHeirs", name := "timber", desc := "(IIZ)I" } : Jvm.MethodName) : Cond) ∈ GW := gw_of (i := 110) (by decide +kernel) rfl
theorem g_92 : (.instanceMethod ({ cls := "PileHeirs", name := "timber", desc := "(IIZ)I" } : Jvm.MethodName) : Cond) ∈ GW := gw_of (i := 111) (by decide +kernel) rfl
theorem g_93 : (.selects "PileHeirs" ({ cls := "PileHeirs", name := "timber", desc := "(IIZ)I" } : Jvm.MethodName) ({ cls := "PileHeirs", name := "timber", desc := "(IIZ)I" } : Jvm.MethodName) : Cond) ∈ GW := gw_of (i := 112) (by decide +kernel) rfl
theorem g_94 : (.code ({ cls := "PileHeirs", name := "timber", desc := "(IIZ)I" } : Jvm.MethodName) prog_1_method_2_code 4 (Option.some Jvm.ClassFile.FieldType.int) : Cond) ∈ GW := gw_of (i := 113) (by decide +kernel) rfl
theorem g_95 : (.methodLink "PileHeirs" 29 ({ cls := "PileHeirs", name := "isOutside", desc := "(III)Z" } : Jvm.MethodName) : Cond) ∈ GW := gw_of (i := 114) (by decide +kernel) rfl
theorem g_96 : (.static ({ cls := "PileHeirs", name := "isOutside", desc := "(III)Z" } : Jvm.MethodName) : Cond) ∈ GW := gw_of (i := 115) (by decide +kernel) rfl
theorem g_97 : (.code ({ cls := "PileHeirs", name := "isOutside", desc := "(III)Z" } : Jvm.MethodName) prog_1_method_15_code 3 (Option.some Jvm.ClassFile.FieldType.boolean) : Cond) ∈ GW := gw_of (i := 116) (by decide +kernel) rfl
theorem g_98 : (.methodLink "PileHeirs" 33 ({ cls := "PileHeirs$Timbers", name := "add", desc := "(IIZ)I" } : Jvm.MethodName) : Cond) ∈ GW := gw_of (i := 117) (by decide +kernel) rfl
theorem g_99 : (.instanceMethod ({ cls := "PileHeirs$Timbers", name := "add", desc := "(IIZ)I" } : Jvm.MethodName) : Cond) ∈ GW := gw_of (i := 118) (by decide +kernel) rfl
theorem g_100 : (.selects "PileHeirs$Timbers" ({ cls := "PileHeirs$Timbers", name := "add", desc := "(IIZ)I" } : Jvm.MethodName) ({ cls := "PileHeirs$Timbers", name := "add", desc := "(IIZ)I" } : Jvm.MethodName) : Cond) ∈ GW := gw_of (i := 119) (by decide +kernel) rfl
theorem g_101 : (.code ({ cls := "PileHeirs$Timbers", name := "add", desc := "(IIZ)I" } : Jvm.MethodName) prog_9_method_2_code 5 (Option.some Jvm.ClassFile.FieldType.int) : Cond) ∈ GW := gw_of (i := 120) (by decide +kernel) rfl
theorem g_102 : (.methodLink "PileHeirsLaw" 30 ({ cls := "PileHeirs", name := "pile", desc := "(III)I" } : Jvm.MethodName) : Cond) ∈ GW := gw_of (i := 121) (by decide +kernel) rfl
theorem g_103 : (.instanceMethod ({ cls := "PileHeirs", name := "pile", desc := "(III)I" } : Jvm.MethodName) : Cond) ∈ GW := gw_of (i := 122) (by decide +kernel) rfl
theorem g_104 : (.selects "PileHeirs" ({ cls := "PileHeirs", name := "pile", desc := "(III)I" } : Jvm.MethodName) ({ cls := "PileHeirs", name := "pile", desc := "(III)I" } : Jvm.MethodName) : Cond) ∈ GW := gw_of (i := 123) (by decide +kernel) rfl
theorem g_105 : (.code ({ cls := "PileHeirs", name := "pile", desc := "(III)I" } : Jvm.MethodName) prog_1_method_3_code 5 (Option.some Jvm.ClassFile.FieldType.int) : Cond) ∈ GW := gw_of (i := 124) (by decide +kernel) rfl
theorem g_106 : (.methodLink "PileHeirs" 41 ({ cls := "PileHeirs", name := "newPile", desc := "(IIII)LPileHeirs$Plain;" } : Jvm.MethodName) : Cond) ∈ GW := gw_of (i := 125) (by decide +kernel) rfl
theorem g_108 : (.instanceMethod ({ cls := "PileHeirs", name := "newPile", desc := "(IIII)LPileHeirs$Plain;" } : Jvm.MethodName) : Cond) ∈ GW := gw_of (i := 127) (by decide +kernel) rfl
theorem g_109 : (.code ({ cls := "PileHeirs", name := "newPile", desc := "(IIII)LPileHeirs$Plain;" } : Jvm.MethodName) prog_1_method_17_code 5 (Option.some (Jvm.ClassFile.FieldType.object "PileHeirs$Plain")) : Cond) ∈ GW := gw_of (i := 128) (by decide +kernel) rfl
theorem g_110 : (.classLink "PileHeirs" 115 "PileHeirs$Marked" : Cond) ∈ GW := gw_of (i := 129) (by decide +kernel) rfl
theorem g_111 : (.instantiable "PileHeirs$Marked" 7 : Cond) ∈ GW := gw_of (i := 130) (by decide +kernel) rfl
theorem g_112 : (.methodLink "PileHeirs" 117 ({ cls := "PileHeirs$Marked", name := "<init>", desc := "(LPileHeirs$Timbers;LPileHeirs$Trace;III)V" } : Jvm.MethodName) : Cond) ∈ GW := gw_of (i := 131) (by decide +kernel) rfl
theorem g_113 : (.instanceMethod ({ cls := "PileHeirs$Marked", name := "<init>", desc := "(LPileHeirs$Timbers;LPileHeirs$Trace;III)V" } : Jvm.MethodName) : Cond) ∈ GW := gw_of (i := 132) (by decide +kernel) rfl
theorem g_114 : (.code ({ cls := "PileHeirs$Marked", name := "<init>", desc := "(LPileHeirs$Timbers;LPileHeirs$Trace;III)V" } : Jvm.MethodName) prog_4_method_1_code 6 (Option.none : Option Jvm.ClassFile.FieldType) : Cond) ∈ GW := gw_of (i := 133) (by decide +kernel) rfl
theorem g_115 : (.methodLink "PileHeirs$Marked" 1 ({ cls := "PileHeirs$Plain", name := "<init>", desc := "(LPileHeirs$Timbers;LPileHeirs$Trace;III)V" } : Jvm.MethodName) : Cond) ∈ GW := gw_of (i := 134) (by decide +kernel) rfl
theorem g_116 : (.instanceMethod ({ cls := "PileHeirs$Plain", name := "<init>", desc := "(LPileHeirs$Timbers;LPileHeirs$Trace;III)V" } : Jvm.MethodName) : Cond) ∈ GW := gw_of (i := 135) (by decide +kernel) rfl
theorem g_117 : (.code ({ cls := "PileHeirs$Plain", name := "<init>", desc := "(LPileHeirs$Timbers;LPileHeirs$Trace;III)V" } : Jvm.MethodName) prog_6_method_1_code 6 (Option.none : Option Jvm.ClassFile.FieldType) : Cond) ∈ GW := gw_of (i := 136) (by decide +kernel) rfl
theorem g_118 : (.methodLink "PileHeirs$Plain" 3 ({ cls := "java/lang/Object", name := "<init>", desc := "()V" } : Jvm.MethodName) : Cond) ∈ GW := gw_of (i := 137) (by decide +kernel) rfl
theorem g_119 : (.fieldLink "PileHeirs$Plain" 9 "PileHeirs$Plain" "timbers" "LPileHeirs$Timbers;" : Cond) ∈ GW := gw_of (i := 138) (by decide +kernel) rfl
theorem g_120 : (.fieldLink "PileHeirs$Open" 21 "PileHeirs$Open" "timbers" "LPileHeirs$Timbers;" : Cond) ∈ GW := gw_of (i := 139) (by decide +kernel) rfl
theorem g_121 : (.sameField "PileHeirs$Open" "PileHeirs$Plain" "timbers" "LPileHeirs$Timbers;" : Cond) ∈ GW := gw_of (i := 140) (by decide +kernel) rfl
theorem g_122 : (.fieldLink "PileHeirs$Strict" 25 "PileHeirs$Strict" "timbers" "LPileHeirs$Timbers;" : Cond) ∈ GW := gw_of (i := 141) (by decide +kernel) rfl
theorem g_123 : (.sameField "PileHeirs$Strict" "PileHeirs$Plain" "timbers" "LPileHeirs$Timbers;" : Cond) ∈ GW := gw_of (i := 142) (by decide +kernel) rfl
theorem g_124 : (.fieldLink "PileHeirs$Sorted" 25 "PileHeirs$Sorted" "timbers" "LPileHeirs$Timbers;" : Cond) ∈ GW := gw_of (i := 143) (by decide +kernel) rfl
theorem g_125 : (.sameField "PileHeirs$Sorted" "PileHeirs$Plain" "timbers" "LPileHeirs$Timbers;" : Cond) ∈ GW := gw_of (i := 144) (by decide +kernel) rfl
theorem g_126 : (.fieldLink "PileHeirs$Drying" 29 "PileHeirs$Drying" "timbers" "LPileHeirs$Timbers;" : Cond) ∈ GW := gw_of (i := 145) (by decide +kernel) rfl
theorem g_127 : (.sameField "PileHeirs$Drying" "PileHeirs$Plain" "timbers" "LPileHeirs$Timbers;" : Cond) ∈ GW := gw_of (i := 146) (by decide +kernel) rfl
theorem g_128 : (.fieldLink "PileHeirs$Lean" 29 "PileHeirs$Lean" "timbers" "LPileHeirs$Timbers;" : Cond) ∈ GW := gw_of (i := 147) (by decide +kernel) rfl
theorem g_129 : (.sameField "PileHeirs$Lean" "PileHeirs$Plain" "timbers" "LPileHeirs$Timbers;" : Cond) ∈ GW := gw_of (i := 148) (by decide +kernel) rfl
theorem g_130 : (.fieldLink "PileHeirs$Plain" 15 "PileHeirs$Plain" "done" "LPileHeirs$Trace;" : Cond) ∈ GW := gw_of (i := 149) (by decide +kernel) rfl
theorem g_131 : (.fieldLink "PileHeirs$Sorted" 9 "PileHeirs$Sorted" "done" "LPileHeirs$Trace;" : Cond) ∈ GW := gw_of (i := 150) (by decide +kernel) rfl
theorem g_132 : (.sameField "PileHeirs$Sorted" "PileHeirs$Plain" "done" "LPileHeirs$Trace;" : Cond) ∈ GW := gw_of (i := 151) (by decide +kernel) rfl
theorem g_133 : (.fieldLink "PileHeirs$Strict" 9 "PileHeirs$Strict" "done" "LPileHeirs$Trace;" : Cond) ∈ GW := gw_of (i := 152) (by decide +kernel) rfl
theorem g_134 : (.sameField "PileHeirs$Strict" "PileHeirs$Plain" "done" "LPileHeirs$Trace;" : Cond) ∈ GW := gw_of (i := 153) (by decide +kernel) rfl
theorem g_135 : (.fieldLink "PileHeirs$Twofold" 9 "PileHeirs$Twofold" "done" "LPileHeirs$Trace;" : Cond) ∈ GW := gw_of (i := 154) (by decide +kernel) rfl
theorem g_136 : (.sameField "PileHeirs$Twofold" "PileHeirs$Plain" "done" "LPileHeirs$Trace;" : Cond) ∈ GW := gw_of (i := 155) (by decide +kernel) rfl
theorem g_137 : (.fieldLink "PileHeirs$Open" 9 "PileHeirs$Open" "done" "LPileHeirs$Trace;" : Cond) ∈ GW := gw_of (i := 156) (by decide +kernel) rfl
theorem g_138 : (.sameField "PileHeirs$Open" "PileHeirs$Plain" "done" "LPileHeirs$Trace;" : Cond) ∈ GW := gw_of (i := 157) (by decide +kernel) rfl
theorem g_139 : (.fieldLink "PileHeirs$Drying" 9 "PileHeirs$Drying" "done" "LPileHeirs$Trace;" : Cond) ∈ GW := gw_of (i := 158) (by decide +kernel) rfl
theorem g_140 : (.sameField "PileHeirs$Drying" "PileHeirs$Plain" "done" "LPileHeirs$Trace;" : Cond) ∈ GW := gw_of (i := 159) (by decide +kernel) rfl
theorem g_141 : (.fieldLink "PileHeirs$Lean" 9 "PileHeirs$Lean" "done" "LPileHeirs$Trace;" : Cond) ∈ GW := gw_of (i := 160) (by decide +kernel) rfl
theorem g_142 : (.sameField "PileHeirs$Lean" "PileHeirs$Plain" "done" "LPileHeirs$Trace;" : Cond) ∈ GW := gw_of (i := 161) (by decide +kernel) rfl
theorem g_143 : (.fieldLink "PileHeirs$Plain" 19 "PileHeirs$Plain" "number" "I" : Cond) ∈ GW := gw_of (i := 162) (by decide +kernel) rfl
theorem g_144 : (.fieldLink "PileHeirs$Plain" 23 "PileHeirs$Plain" "cap" "I" : Cond) ∈ GW := gw_of (i := 163) (by decide +kernel) rfl
theorem g_145 : (.fieldLink "PileHeirs$Plain" 26 "PileHeirs$Plain" "limit" "I" : Cond) ∈ GW := gw_of (i := 164) (by decide +kernel) rfl
theorem g_146 : (.fieldLink "PileHeirs$Strict" 35 "PileHeirs$Strict" "limit" "I" : Cond) ∈ GW := gw_of (i := 165) (by decide +kernel) rfl
theorem g_147 : (.sameField "PileHeirs$Strict" "PileHeirs$Plain" "limit" "I" : Cond) ∈ GW := gw_of (i := 166) (by decide +kernel) rfl
theorem g_148 : (.fieldLink "PileHeirs$Plain" 29 "PileHeirs$Plain" "row" "[I" : Cond) ∈ GW := gw_of (i := 167) (by decide +kernel) rfl
theorem g_149 : (.fieldLink "PileHeirs$Plain" 39 "PileHeirs$Plain" "height" "I" : Cond) ∈ GW := gw_of (i := 168) (by decide +kernel) rfl
theorem g_150 : (.laysFinal "PileHeirs$Marked" "PileHeirs$Plain" "timbers" "LPileHeirs$Timbers;" : Cond) ∈ GW := gw_of (i := 169) (by decide +kernel) rfl
theorem g_152 : (.laysFinal "PileHeirs$Marked" "PileHeirs$Plain" "done" "LPileHeirs$Trace;" : Cond) ∈ GW := gw_of (i := 171) (by decide +kernel) rfl
theorem g_154 : (.laysFinal "PileHeirs$Marked" "PileHeirs$Plain" "number" "I" : Cond) ∈ GW := gw_of (i := 173) (by decide +kernel) rfl
theorem g_156 : (.laysFinal "PileHeirs$Marked" "PileHeirs$Plain" "cap" "I" : Cond) ∈ GW := gw_of (i := 175) (by decide +kernel) rfl
theorem g_158 : (.laysFinal "PileHeirs$Marked" "PileHeirs$Plain" "limit" "I" : Cond) ∈ GW := gw_of (i := 177) (by decide +kernel) rfl
theorem g_160 : (.laysFinal "PileHeirs$Marked" "PileHeirs$Plain" "row" "[I" : Cond) ∈ GW := gw_of (i := 179) (by decide +kernel) rfl
theorem g_162 : (.lays "PileHeirs$Marked" "PileHeirs$Plain" "height" "I" : Cond) ∈ GW := gw_of (i := 181) (by decide +kernel) rfl
theorem g_164 : (.superclass "PileHeirs$Marked" "PileHeirs$Plain" : Cond) ∈ GW := gw_of (i := 183) (by decide +kernel) rfl
theorem g_165 : (.classLink "PileHeirs" 120 "PileHeirs$Sorted" : Cond) ∈ GW := gw_of (i := 184) (by decide +kernel) rfl
theorem g_166 : (.instantiable "PileHeirs$Sorted" 7 : Cond) ∈ GW := gw_of (i := 185) (by decide +kernel) rfl
theorem g_167 : (.methodLink "PileHeirs" 122 ({ cls := "PileHeirs$Sorted", name := "<init>", desc := "(LPileHeirs$Timbers;LPileHeirs$Trace;III)V" } : Jvm.MethodName) : Cond) ∈ GW := gw_of (i := 186) (by decide +kernel) rfl
theorem g_168 : (.instanceMethod ({ cls := "PileHeirs$Sorted", name := "<init>", desc := "(LPileHeirs$Timbers;LPileHeirs$Trace;III)V" } : Jvm.MethodName) : Cond) ∈ GW := gw_of (i := 187) (by decide +kernel) rfl
theorem g_169 : (.code ({ cls := "PileHeirs$Sorted", name := "<init>", desc := "(LPileHeirs$Timbers;LPileHeirs$Trace;III)V" } : Jvm.MethodName) prog_7_method_1_code 6 (Option.none : Option Jvm.ClassFile.FieldType) : Cond) ∈ GW := gw_of (i := 188) (by decide +kernel) rfl
theorem g_170 : (.methodLink "PileHeirs$Sorted" 3 ({ cls := "PileHeirs$Marked", name := "<init>", desc := "(LPileHeirs$Timbers;LPileHeirs$Trace;III)V" } : Jvm.MethodName) : Cond) ∈ GW := gw_of (i := 189) (by decide +kernel) rfl
theorem g_171 : (.laysFinal "PileHeirs$Sorted" "PileHeirs$Plain" "timbers" "LPileHeirs$Timbers;" : Cond) ∈ GW := gw_of (i := 190) (by decide +kernel) rfl
theorem g_172 : (.laysFinal "PileHeirs$Sorted" "PileHeirs$Plain" "done" "LPileHeirs$Trace;" : Cond) ∈ GW := gw_of (i := 191) (by decide +kernel) rfl
theorem g_173 : (.laysFinal "PileHeirs$Sorted" "PileHeirs$Plain" "number" "I" : Cond) ∈ GW := gw_of (i := 192) (by decide +kernel) rfl
theorem g_174 : (.laysFinal "PileHeirs$Sorted" "PileHeirs$Plain" "cap" "I" : Cond) ∈ GW := gw_of (i := 193) (by decide +kernel) rfl
theorem g_175 : (.laysFinal "PileHeirs$Sorted" "PileHeirs$Plain" "limit" "I" : Cond) ∈ GW := gw_of (i := 194) (by decide +kernel) rfl
theorem g_176 : (.laysFinal "PileHeirs$Sorted" "PileHeirs$Plain" "row" "[I" : Cond) ∈ GW := gw_of (i := 195) (by decide +kernel) rfl
theorem g_177 : (.lays "PileHeirs$Sorted" "PileHeirs$Plain" "height" "I" : Cond) ∈ GW := gw_of (i := 196) (by decide +kernel) rfl
theorem g_178 : (.superclass "PileHeirs$Sorted" "PileHeirs$Marked" : Cond) ∈ GW := gw_of (i := 197) (by decide +kernel) rfl
theorem g_179 : (.classLink "PileHeirs" 123 "PileHeirs$Strict" : Cond) ∈ GW := gw_of (i := 198) (by decide +kernel) rfl
theorem g_180 : (.instantiable "PileHeirs$Strict" 7 : Cond) ∈ GW := gw_of (i := 199) (by decide +kernel) rfl
theorem g_181 : (.methodLink "PileHeirs" 125 ({ cls := "PileHeirs$Strict", name := "<init>", desc := "(LPileHeirs$Timbers;LPileHeirs$Trace;III)V" } : Jvm.MethodName) : Cond) ∈ GW := gw_of (i := 200) (by decide +kernel) rfl
theorem g_182 : (.instanceMethod ({ cls := "PileHeirs$Strict", name := "<init>", desc := "(LPileHeirs$Timbers;LPileHeirs$Trace;III)V" } : Jvm.MethodName) : Cond) ∈ GW := gw_of (i := 201) (by decide +kernel) rfl
theorem g_183 : (.code ({ cls := "PileHeirs$Strict", name := "<init>", desc := "(LPileHeirs$Timbers;LPileHeirs$Trace;III)V" } : Jvm.MethodName) prog_8_method_1_code 6 (Option.none : Option Jvm.ClassFile.FieldType) : Cond) ∈ GW := gw_of (i := 202) (by decide +kernel) rfl
theorem g_184 : (.methodLink "PileHeirs$Strict" 3 ({ cls := "PileHeirs$Marked", name := "<init>", desc := "(LPileHeirs$Timbers;LPileHeirs$Trace;III)V" } : Jvm.MethodName) : Cond) ∈ GW := gw_of (i := 203) (by decide +kernel) rfl
theorem g_185 : (.laysFinal "PileHeirs$Strict" "PileHeirs$Plain" "timbers" "LPileHeirs$Timbers;" : Cond) ∈ GW := gw_of (i := 204) (by decide +kernel) rfl
theorem g_186 : (.laysFinal "PileHeirs$Strict" "PileHeirs$Plain" "done" "LPileHeirs$Trace;" : Cond) ∈ GW := gw_of (i := 205) (by decide +kernel) rfl
theorem g_187 : (.laysFinal "PileHeirs$Strict" "PileHeirs$Plain" "number" "I" : Cond) ∈ GW := gw_of (i := 206) (by decide +kernel) rfl
theorem g_188 : (.laysFinal "PileHeirs$Strict" "PileHeirs$Plain" "cap" "I" : Cond) ∈ GW := gw_of (i := 207) (by decide +kernel) rfl
theorem g_189 : (.laysFinal "PileHeirs$Strict" "PileHeirs$Plain" "limit" "I" : Cond) ∈ GW := gw_of (i := 208) (by decide +kernel) rfl
theorem g_190 : (.laysFinal "PileHeirs$Strict" "PileHeirs$Plain" "row" "[I" : Cond) ∈ GW := gw_of (i := 209) (by decide +kernel) rfl
theorem g_191 : (.lays "PileHeirs$Strict" "PileHeirs$Plain" "height" "I" : Cond) ∈ GW := gw_of (i := 210) (by decide +kernel) rfl
theorem g_192 : (.superclass "PileHeirs$Strict" "PileHeirs$Marked" : Cond) ∈ GW := gw_of (i := 211) (by decide +kernel) rfl
theorem g_193 : (.classLink "PileHeirs" 126 "PileHeirs$Drying" : Cond) ∈ GW := gw_of (i := 212) (by decide +kernel) rfl
theorem g_194 : (.instantiable "PileHeirs$Drying" 7 : Cond) ∈ GW := gw_of (i := 213) (by decide +kernel) rfl
theorem g_195 : (.methodLink "PileHeirs" 128 ({ cls := "PileHeirs$Drying", name := "<init>", desc := "(LPileHeirs$Timbers;LPileHeirs$Trace;III)V" } : Jvm.MethodName) : Cond) ∈ GW := gw_of (i := 214) (by decide +kernel) rfl
theorem g_196 : (.instanceMethod ({ cls := "PileHeirs$Drying", name := "<init>", desc := "(LPileHeirs$Timbers;LPileHeirs$Trace;III)V" } : Jvm.MethodName) : Cond) ∈ GW := gw_of (i := 215) (by decide +kernel) rfl
theorem g_197 : (.code ({ cls := "PileHeirs$Drying", name := "<init>", desc := "(LPileHeirs$Timbers;LPileHeirs$Trace;III)V" } : Jvm.MethodName) prog_2_method_1_code 6 (Option.none : Option Jvm.ClassFile.FieldType) : Cond) ∈ GW := gw_of (i := 216) (by decide +kernel) rfl
theorem g_198 : (.methodLink "PileHeirs$Drying" 3 ({ cls := "PileHeirs$Sorted", name := "<init>", desc := "(LPileHeirs$Timbers;LPileHeirs$Trace;III)V" } : Jvm.MethodName) : Cond) ∈ GW := gw_of (i := 217) (by decide +kernel) rfl
theorem g_199 : (.laysFinal "PileHeirs$Drying" "PileHeirs$Plain" "timbers" "LPileHeirs$Timbers;" : Cond) ∈ GW := gw_of (i := 218) (by decide +kernel) rfl
theorem g_200 : (.laysFinal "PileHeirs$Drying" "PileHeirs$Plain" "done" "LPileHeirs$Trace;" : Cond) ∈ GW := gw_of (i := 219) (by decide +kernel) rfl
theorem g_201 : (.laysFinal "PileHeirs$Drying" "PileHeirs$Plain" "number" "I" : Cond) ∈ GW := gw_of (i := 220) (by decide +kernel) rfl
theorem g_202 : (.laysFinal "PileHeirs$Drying" "PileHeirs$Plain" "cap" "I" : Cond) ∈ GW := gw_of (i := 221) (by decide +kernel) rfl
theorem g_203 : (.laysFinal "PileHeirs$Drying" "PileHeirs$Plain" "limit" "I" : Cond) ∈ GW := gw_of (i := 222) (by decide +kernel) rfl
theorem g_204 : (.laysFinal "PileHeirs$Drying" "PileHeirs$Plain" "row" "[I" : Cond) ∈ GW := gw_of (i := 223) (by decide +kernel) rfl
theorem g_205 : (.lays "PileHeirs$Drying" "PileHeirs$Plain" "height" "I" : Cond) ∈ GW := gw_of (i := 224) (by decide +kernel) rfl
theorem g_206 : (.superclass "PileHeirs$Drying" "PileHeirs$Sorted" : Cond) ∈ GW := gw_of (i := 225) (by decide +kernel) rfl
theorem g_207 : (.classLink "PileHeirs" 129 "PileHeirs$Twofold" : Cond) ∈ GW := gw_of (i := 226) (by decide +kernel) rfl
theorem g_208 : (.instantiable "PileHeirs$Twofold" 7 : Cond) ∈ GW := gw_of (i := 227) (by decide +kernel) rfl
theorem g_209 : (.methodLink "PileHeirs" 131 ({ cls := "PileHeirs$Twofold", name := "<init>", desc := "(LPileHeirs$Timbers;LPileHeirs$Trace;III)V" } : Jvm.MethodName) : Cond) ∈ GW := gw_of (i := 228) (by decide +kernel) rfl
theorem g_210 : (.instanceMethod ({ cls := "PileHeirs$Twofold", name := "<init>", desc := "(LPileHeirs$Timbers;LPileHeirs$Trace;III)V" } : Jvm.MethodName) : Cond) ∈ GW := gw_of (i := 229) (by decide +kernel) rfl
theorem g_211 : (.code ({ cls := "PileHeirs$Twofold", name := "<init>", desc := "(LPileHeirs$Timbers;LPileHeirs$Trace;III)V" } : Jvm.MethodName) prog_11_method_1_code 6 (Option.none : Option Jvm.ClassFile.FieldType) : Cond) ∈ GW := gw_of (i := 230) (by decide +kernel) rfl
theorem g_212 : (.methodLink "PileHeirs$Twofold" 3 ({ cls := "PileHeirs$Strict", name := "<init>", desc := "(LPileHeirs$Timbers;LPileHeirs$Trace;III)V" } : Jvm.MethodName) : Cond) ∈ GW := gw_of (i := 231) (by decide +kernel) rfl
theorem g_213 : (.laysFinal "PileHeirs$Twofold" "PileHeirs$Plain" "timbers" "LPileHeirs$Timbers;" : Cond) ∈ GW := gw_of (i := 232) (by decide +kernel) rfl
theorem g_214 : (.laysFinal "PileHeirs$Twofold" "PileHeirs$Plain" "done" "LPileHeirs$Trace;" : Cond) ∈ GW := gw_of (i := 233) (by decide +kernel) rfl
theorem g_215 : (.laysFinal "PileHeirs$Twofold" "PileHeirs$Plain" "number" "I" : Cond) ∈ GW := gw_of (i := 234) (by decide +kernel) rfl
theorem g_216 : (.laysFinal "PileHeirs$Twofold" "PileHeirs$Plain" "cap" "I" : Cond) ∈ GW := gw_of (i := 235) (by decide +kernel) rfl
theorem g_217 : (.laysFinal "PileHeirs$Twofold" "PileHeirs$Plain" "limit" "I" : Cond) ∈ GW := gw_of (i := 236) (by decide +kernel) rfl
theorem g_218 : (.laysFinal "PileHeirs$Twofold" "PileHeirs$Plain" "row" "[I" : Cond) ∈ GW := gw_of (i := 237) (by decide +kernel) rfl
theorem g_219 : (.lays "PileHeirs$Twofold" "PileHeirs$Plain" "height" "I" : Cond) ∈ GW := gw_of (i := 238) (by decide +kernel) rfl
theorem g_220 : (.superclass "PileHeirs$Twofold" "PileHeirs$Strict" : Cond) ∈ GW := gw_of (i := 239) (by decide +kernel) rfl
theorem g_221 : (.classLink "PileHeirs" 132 "PileHeirs$Open" : Cond) ∈ GW := gw_of (i := 240) (by decide +kernel) rfl
theorem g_222 : (.instantiable "PileHeirs$Open" 7 : Cond) ∈ GW := gw_of (i := 241) (by decide +kernel) rfl
theorem g_223 : (.methodLink "PileHeirs" 134 ({ cls := "PileHeirs$Open", name := "<init>", desc := "(LPileHeirs$Timbers;LPileHeirs$Trace;III)V" } : Jvm.MethodName) : Cond) ∈ GW := gw_of (i := 242) (by decide +kernel) rfl
theorem g_224 : (.instanceMethod ({ cls := "PileHeirs$Open", name := "<init>", desc := "(LPileHeirs$Timbers;LPileHeirs$Trace;III)V" } : Jvm.MethodName) : Cond) ∈ GW := gw_of (i := 243) (by decide +kernel) rfl
theorem g_225 : (.code ({ cls := "PileHeirs$Open", name := "<init>", desc := "(LPileHeirs$Timbers;LPileHeirs$Trace;III)V" } : Jvm.MethodName) prog_5_method_1_code 6 (Option.none : Option Jvm.ClassFile.FieldType) : Cond) ∈ GW := gw_of (i := 244) (by decide +kernel) rfl
theorem g_226 : (.methodLink "PileHeirs$Open" 3 ({ cls := "PileHeirs$Drying", name := "<init>", desc := "(LPileHeirs$Timbers;LPileHeirs$Trace;III)V" } : Jvm.MethodName) : Cond) ∈ GW := gw_of (i := 245) (by decide +kernel) rfl
theorem g_227 : (.laysFinal "PileHeirs$Open" "PileHeirs$Plain" "timbers" "LPileHeirs$Timbers;" : Cond) ∈ GW := gw_of (i := 246) (by decide +kernel) rfl
theorem g_228 : (.laysFinal "PileHeirs$Open" "PileHeirs$Plain" "done" "LPileHeirs$Trace;" : Cond) ∈ GW := gw_of (i := 247) (by decide +kernel) rfl
theorem g_229 : (.laysFinal "PileHeirs$Open" "PileHeirs$Plain" "number" "I" : Cond) ∈ GW := gw_of (i := 248) (by decide +kernel) rfl
theorem g_230 : (.laysFinal "PileHeirs$Open" "PileHeirs$Plain" "cap" "I" : Cond) ∈ GW := gw_of (i := 249) (by decide +kernel) rfl
theorem g_231 : (.laysFinal "PileHeirs$Open" "PileHeirs$Plain" "limit" "I" : Cond) ∈ GW := gw_of (i := 250) (by decide +kernel) rfl
theorem g_232 : (.laysFinal "PileHeirs$Open" "PileHeirs$Plain" "row" "[I" : Cond) ∈ GW := gw_of (i := 251) (by decide +kernel) rfl
theorem g_233 : (.lays "PileHeirs$Open" "PileHeirs$Plain" "height" "I" : Cond) ∈ GW := gw_of (i := 252) (by decide +kernel) rfl
theorem g_234 : (.superclass "PileHeirs$Open" "PileHeirs$Drying" : Cond) ∈ GW := gw_of (i := 253) (by decide +kernel) rfl
theorem g_235 : (.classLink "PileHeirs" 135 "PileHeirs$Lean" : Cond) ∈ GW := gw_of (i := 254) (by decide +kernel) rfl
theorem g_236 : (.instantiable "PileHeirs$Lean" 7 : Cond) ∈ GW := gw_of (i := 255) (by decide +kernel) rfl
theorem g_237 : (.methodLink "PileHeirs" 137 ({ cls := "PileHeirs$Lean", name := "<init>", desc := "(LPileHeirs$Timbers;LPileHeirs$Trace;III)V" } : Jvm.MethodName) : Cond) ∈ GW := gw_of (i := 256) (by decide +kernel) rfl
theorem g_238 : (.instanceMethod ({ cls := "PileHeirs$Lean", name := "<init>", desc := "(LPileHeirs$Timbers;LPileHeirs$Trace;III)V" } : Jvm.MethodName) : Cond) ∈ GW := gw_of (i := 257) (by decide +kernel) rfl
theorem g_239 : (.code ({ cls := "PileHeirs$Lean", name := "<init>", desc := "(LPileHeirs$Timbers;LPileHeirs$Trace;III)V" } : Jvm.MethodName) prog_3_method_1_code 6 (Option.none : Option Jvm.ClassFile.FieldType) : Cond) ∈ GW := gw_of (i := 258) (by decide +kernel) rfl
theorem g_240 : (.methodLink "PileHeirs$Lean" 3 ({ cls := "PileHeirs$Twofold", name := "<init>", desc := "(LPileHeirs$Timbers;LPileHeirs$Trace;III)V" } : Jvm.MethodName) : Cond) ∈ GW := gw_of (i := 259) (by decide +kernel) rfl
theorem g_241 : (.laysFinal "PileHeirs$Lean" "PileHeirs$Plain" "timbers" "LPileHeirs$Timbers;" : Cond) ∈ GW := gw_of (i := 260) (by decide +kernel) rfl
theorem g_242 : (.laysFinal "PileHeirs$Lean" "PileHeirs$Plain" "done" "LPileHeirs$Trace;" : Cond) ∈ GW := gw_of (i := 261) (by decide +kernel) rfl
theorem g_243 : (.laysFinal "PileHeirs$Lean" "PileHeirs$Plain" "number" "I" : Cond) ∈ GW := gw_of (i := 262) (by decide +kernel) rfl
theorem g_244 : (.laysFinal "PileHeirs$Lean" "PileHeirs$Plain" "cap" "I" : Cond) ∈ GW := gw_of (i := 263) (by decide +kernel) rfl
theorem g_245 : (.laysFinal "PileHeirs$Lean" "PileHeirs$Plain" "limit" "I" : Cond) ∈ GW := gw_of (i := 264) (by decide +kernel) rfl
theorem g_246 : (.laysFinal "PileHeirs$Lean" "PileHeirs$Plain" "row" "[I" : Cond) ∈ GW := gw_of (i := 265) (by decide +kernel) rfl
theorem g_247 : (.lays "PileHeirs$Lean" "PileHeirs$Plain" "height" "I" : Cond) ∈ GW := gw_of (i := 266) (by decide +kernel) rfl
theorem g_248 : (.superclass "PileHeirs$Lean" "PileHeirs$Twofold" : Cond) ∈ GW := gw_of (i := 267) (by decide +kernel) rfl
theorem g_249 : (.instantiable "PileHeirs$Plain" 7 : Cond) ∈ GW := gw_of (i := 268) (by decide +kernel) rfl
theorem g_250 : (.methodLink "PileHeirs" 138 ({ cls := "PileHeirs$Plain", name := "<init>", desc := "(LPileHeirs$Timbers;LPileHeirs$Trace;III)V" } : Jvm.MethodName) : Cond) ∈ GW := gw_of (i := 269) (by decide +kernel) rfl
theorem g_251 : (.laysFinal "PileHeirs$Plain" "PileHeirs$Plain" "timbers" "LPileHeirs$Timbers;" : Cond) ∈ GW := gw_of (i := 270) (by decide +kernel) rfl
theorem g_252 : (.laysFinal "PileHeirs$Plain" "PileHeirs$Plain" "done" "LPileHeirs$Trace;" : Cond) ∈ GW := gw_of (i := 271) (by decide +kernel) rfl
theorem g_253 : (.laysFinal "PileHeirs$Plain" "PileHeirs$Plain" "number" "I" : Cond) ∈ GW := gw_of (i := 272) (by decide +kernel) rfl
theorem g_254 : (.laysFinal "PileHeirs$Plain" "PileHeirs$Plain" "cap" "I" : Cond) ∈ GW := gw_of (i := 273) (by decide +kernel) rfl
theorem g_255 : (.laysFinal "PileHeirs$Plain" "PileHeirs$Plain" "limit" "I" : Cond) ∈ GW := gw_of (i := 274) (by decide +kernel) rfl
theorem g_256 : (.laysFinal "PileHeirs$Plain" "PileHeirs$Plain" "row" "[I" : Cond) ∈ GW := gw_of (i := 275) (by decide +kernel) rfl
theorem g_257 : (.lays "PileHeirs$Plain" "PileHeirs$Plain" "height" "I" : Cond) ∈ GW := gw_of (i := 276) (by decide +kernel) rfl
theorem g_258 : (.superclass "PileHeirs$Plain" "java/lang/Object" : Cond) ∈ GW := gw_of (i := 277) (by decide +kernel) rfl
theorem g_259 : (.methodLink "PileHeirsLaw" 49 ({ cls := "PileHeirs", name := "load", desc := "(I)I" } : Jvm.MethodName) : Cond) ∈ GW := gw_of (i := 278) (by decide +kernel) rfl
theorem g_260 : (.instanceMethod ({ cls := "PileHeirs", name := "load", desc := "(I)I" } : Jvm.MethodName) : Cond) ∈ GW := gw_of (i := 279) (by decide +kernel) rfl
theorem g_261 : (.selects "PileHeirs" ({ cls := "PileHeirs", name := "load", desc := "(I)I" } : Jvm.MethodName) ({ cls := "PileHeirs", name := "load", desc := "(I)I" } : Jvm.MethodName) : Cond) ∈ GW := gw_of (i := 280) (by decide +kernel) rfl
theorem g_262 : (.code ({ cls := "PileHeirs", name := "load", desc := "(I)I" } : Jvm.MethodName) prog_1_method_6_code 3 (Option.some Jvm.ClassFile.FieldType.int) : Cond) ∈ GW := gw_of (i := 281) (by decide +kernel) rfl
theorem g_263 : (.methodLink "PileHeirs" 45 ({ cls := "PileHeirs", name := "pileOf", desc := "(I)LPileHeirs$Plain;" } : Jvm.MethodName) : Cond) ∈ GW := gw_of (i := 282) (by decide +kernel) rfl
theorem g_265 : (.instanceMethod ({ cls := "PileHeirs", name := "pileOf", desc := "(I)LPileHeirs$Plain;" } : Jvm.MethodName) : Cond) ∈ GW := gw_of (i := 284) (by decide +kernel) rfl
theorem g_266 : (.code ({ cls := "PileHeirs", name := "pileOf", desc := "(I)LPileHeirs$Plain;" } : Jvm.MethodName) prog_1_method_16_code 2 (Option.some (Jvm.ClassFile.FieldType.object "PileHeirs$Plain")) : Cond) ∈ GW := gw_of (i := 285) (by decide +kernel) rfl
theorem g_267 : (.methodLink "PileHeirs" 75 ({ cls := "PileHeirs$Plain", name := "loadAct", desc := "()I" } : Jvm.MethodName) : Cond) ∈ GW := gw_of (i := 286) (by decide +kernel) rfl
theorem g_268 : (.instanceMethod ({ cls := "PileHeirs$Plain", name := "loadAct", desc := "()I" } : Jvm.MethodName) : Cond) ∈ GW := gw_of (i := 287) (by decide +kernel) rfl
theorem g_269 : (.selects "PileHeirs$Plain" ({ cls := "PileHeirs$Plain", name := "loadAct", desc := "()I" } : Jvm.MethodName) ({ cls := "PileHeirs$Plain", name := "loadAct", desc := "()I" } : Jvm.MethodName) : Cond) ∈ GW := gw_of (i := 288) (by decide +kernel) rfl
theorem g_270 : (.sameMethod "PileHeirs$Plain" "PileHeirs$Plain" "loadAct" "()I" : Cond) ∈ GW := gw_of (i := 289) (by decide +kernel) rfl
theorem g_271 : (.selects "PileHeirs$Drying" ({ cls := "PileHeirs$Plain", name := "loadAct", desc := "()I" } : Jvm.MethodName) ({ cls := "PileHeirs$Plain", name := "loadAct", desc := "()I" } : Jvm.MethodName) : Cond) ∈ GW := gw_of (i := 290) (by decide +kernel) rfl
theorem g_272 : (.selects "PileHeirs$Lean" ({ cls := "PileHeirs$Plain", name := "loadAct", desc := "()I" } : Jvm.MethodName) ({ cls := "PileHeirs$Twofold", name := "loadAct", desc := "()I" } : Jvm.MethodName) : Cond) ∈ GW := gw_of (i := 291) (by decide +kernel) rfl
theorem g_273 : (.instanceMethod ({ cls := "PileHeirs$Twofold", name := "loadAct", desc := "()I" } : Jvm.MethodName) : Cond) ∈ GW := gw_of (i := 292) (by decide +kernel) rfl
theorem g_274 : (.code ({ cls := "PileHeirs$Twofold", name := "loadAct", desc := "()I" } : Jvm.MethodName) prog_11_method_2_code 1 (Option.some Jvm.ClassFile.FieldType.int) : Cond) ∈ GW := gw_of (i := 293) (by decide +kernel) rfl
theorem g_275 : (.methodLink "PileHeirs$Twofold" 15 ({ cls := "PileHeirs$Trace", name := "begin", desc := "(II)V" } : Jvm.MethodName) : Cond) ∈ GW := gw_of (i := 294) (by decide +kernel) rfl
theorem g_276 : (.instanceMethod ({ cls := "PileHeirs$Trace", name := "begin", desc := "(II)V" } : Jvm.MethodName) : Cond) ∈ GW := gw_of (i := 295) (by decide +kernel) rfl
theorem g_277 : (.selects "PileHeirs$Trace" ({ cls := "PileHeirs$Trace", name := "begin", desc := "(II)V" } : Jvm.MethodName) ({ cls := "PileHeirs$Trace", name := "begin", desc := "(II)V" } : Jvm.MethodName) : Cond) ∈ GW := gw_of (i := 296) (by decide +kernel) rfl
theorem g_278 : (.code ({ cls := "PileHeirs$Trace", name := "begin", desc := "(II)V" } : Jvm.MethodName) prog_10_method_2_code 3 (Option.none : Option Jvm.ClassFile.FieldType) : Cond) ∈ GW := gw_of (i := 297) (by decide +kernel) rfl
theorem g_279 : (.methodLink "PileHeirs$Trace" 22 ({ cls := "java/lang/Math", name := "min", desc := "(II)I" } : Jvm.MethodName) : Cond) ∈ GW := gw_of (i := 298) (by decide +kernel) rfl
theorem g_280 : (.static ({ cls := "java/lang/Math", name := "min", desc := "(II)I" } : Jvm.MethodName) : Cond) ∈ GW := gw_of (i := 299) (by decide +kernel) rfl
theorem g_281 : (.code ({ cls := "java/lang/Math", name := "min", desc := "(II)I" } : Jvm.MethodName) prog_15_method_69_code 2 (Option.some Jvm.ClassFile.FieldType.int) : Cond) ∈ GW := gw_of (i := 300) (by decide +kernel) rfl
theorem g_282 : (.methodLink "PileHeirs$Twofold" 21 ({ cls := "PileHeirs$Strict", name := "loadAct", desc := "()I" } : Jvm.MethodName) : Cond) ∈ GW := gw_of (i := 301) (by decide +kernel) rfl
theorem g_283 : (.sameMethod "PileHeirs$Strict" "PileHeirs$Plain" "loadAct" "()I" : Cond) ∈ GW := gw_of (i := 302) (by decide +kernel) rfl
theorem g_285 : (.selects "PileHeirs$Marked" ({ cls := "PileHeirs$Plain", name := "loadAct", desc := "()I" } : Jvm.MethodName) ({ cls := "PileHeirs$Plain", name := "loadAct", desc := "()I" } : Jvm.MethodName) : Cond) ∈ GW := gw_of (i := 304) (by decide +kernel) rfl
theorem g_286 : (.selects "PileHeirs$Open" ({ cls := "PileHeirs$Plain", name := "loadAct", desc := "()I" } : Jvm.MethodName) ({ cls := "PileHeirs$Open", name := "loadAct", desc := "()I" } : Jvm.MethodName) : Cond) ∈ GW := gw_of (i := 305) (by decide +kernel) rfl
theorem g_287 : (.instanceMethod ({ cls := "PileHeirs$Open", name := "loadAct", desc := "()I" } : Jvm.MethodName) : Cond) ∈ GW := gw_of (i := 306) (by decide +kernel) rfl
theorem g_288 : (.code ({ cls := "PileHeirs$Open", name := "loadAct", desc := "()I" } : Jvm.MethodName) prog_5_method_3_code 3 (Option.some Jvm.ClassFile.FieldType.int) : Cond) ∈ GW := gw_of (i := 307) (by decide +kernel) rfl
theorem g_289 : (.methodLink "PileHeirs$Open" 15 ({ cls := "PileHeirs$Trace", name := "begin", desc := "(II)V" } : Jvm.MethodName) : Cond) ∈ GW := gw_of (i := 308) (by decide +kernel) rfl
theorem g_290 : (.methodLink "PileHeirs$Open" 38 ({ cls := "PileHeirs$Drying", name := "loadAct", desc := "()I" } : Jvm.MethodName) : Cond) ∈ GW := gw_of (i := 309) (by decide +kernel) rfl
theorem g_291 : (.sameMethod "PileHeirs$Drying" "PileHeirs$Plain" "loadAct" "()I" : Cond) ∈ GW := gw_of (i := 310) (by decide +kernel) rfl
theorem g_292 : (.methodLink "PileHeirs$Open" 42 ({ cls := "PileHeirs$Open", name := "howMany", desc := "()I" } : Jvm.MethodName) : Cond) ∈ GW := gw_of (i := 311) (by decide +kernel) rfl
theorem g_293 : (.sameMethod "PileHeirs$Open" "PileHeirs$Plain" "howMany" "()I" : Cond) ∈ GW := gw_of (i := 312) (by decide +kernel) rfl
theorem g_295 : (.selects "PileHeirs$Open" ({ cls := "PileHeirs$Open", name := "howMany", desc := "()I" } : Jvm.MethodName) ({ cls := "PileHeirs$Plain", name := "howMany", desc := "()I" } : Jvm.MethodName) : Cond) ∈ GW := gw_of (i := 314) (by decide +kernel) rfl
theorem g_296 : (.instanceMethod ({ cls := "PileHeirs$Plain", name := "howMany", desc := "()I" } : Jvm.MethodName) : Cond) ∈ GW := gw_of (i := 315) (by decide +kernel) rfl
theorem g_297 : (.code ({ cls := "PileHeirs$Plain", name := "howMany", desc := "()I" } : Jvm.MethodName) prog_6_method_8_code 1 (Option.some Jvm.ClassFile.FieldType.int) : Cond) ∈ GW := gw_of (i := 316) (by decide +kernel) rfl
theorem g_298 : (.methodLink "PileHeirs$Open" 45 ({ cls := "PileHeirs$Open", name := "timberAt", desc := "(I)I" } : Jvm.MethodName) : Cond) ∈ GW := gw_of (i := 317) (by decide +kernel) rfl
theorem g_299 : (.sameMethod "PileHeirs$Open" "PileHeirs$Plain" "timberAt" "(I)I" : Cond) ∈ GW := gw_of (i := 318) (by decide +kernel) rfl
theorem g_301 : (.selects "PileHeirs$Open" ({ cls := "PileHeirs$Open", name := "timberAt", desc := "(I)I" } : Jvm.MethodName) ({ cls := "PileHeirs$Plain", name := "timberAt", desc := "(I)I" } : Jvm.MethodName) : Cond) ∈ GW := gw_of (i := 320) (by decide +kernel) rfl
theorem g_302 : (.instanceMethod ({ cls := "PileHeirs$Plain", name := "timberAt", desc := "(I)I" } : Jvm.MethodName) : Cond) ∈ GW := gw_of (i := 321) (by decide +kernel) rfl
theorem g_303 : (.code ({ cls := "PileHeirs$Plain", name := "timberAt", desc := "(I)I" } : Jvm.MethodName) prog_6_method_9_code 2 (Option.some Jvm.ClassFile.FieldType.int) : Cond) ∈ GW := gw_of (i := 322) (by decide +kernel) rfl
theorem g_304 : (.methodLink "PileHeirs$Open" 48 ({ cls := "PileHeirs$Timbers", name := "isWet", desc := "(I)Z" } : Jvm.MethodName) : Cond) ∈ GW := gw_of (i := 323) (by decide +kernel) rfl
theorem g_305 : (.instanceMethod ({ cls := "PileHeirs$Timbers", name := "isWet", desc := "(I)Z" } : Jvm.MethodName) : Cond) ∈ GW := gw_of (i := 324) (by decide +kernel) rfl
theorem g_306 : (.selects "PileHeirs$Timbers" ({ cls := "PileHeirs$Timbers", name := "isWet", desc := "(I)Z" } : Jvm.MethodName) ({ cls := "PileHeirs$Timbers", name := "isWet", desc := "(I)Z" } : Jvm.MethodName) : Cond) ∈ GW := gw_of (i := 325) (by decide +kernel) rfl
theorem g_307 : (.code ({ cls := "PileHeirs$Timbers", name := "isWet", desc := "(I)Z" } : Jvm.MethodName) prog_9_method_7_code 2 (Option.some Jvm.ClassFile.FieldType.boolean) : Cond) ∈ GW := gw_of (i := 326) (by decide +kernel) rfl
theorem g_308 : (.methodLink "PileHeirs$Timbers" 29 ({ cls := "PileHeirs$Timbers", name := "has", desc := "(I)Z" } : Jvm.MethodName) : Cond) ∈ GW := gw_of (i := 327) (by decide +kernel) rfl
theorem g_309 : (.instanceMethod ({ cls := "PileHeirs$Timbers", name := "has", desc := "(I)Z" } : Jvm.MethodName) : Cond) ∈ GW := gw_of (i := 328) (by decide +kernel) rfl
theorem g_310 : (.selects "PileHeirs$Timbers" ({ cls := "PileHeirs$Timbers", name := "has", desc := "(I)Z" } : Jvm.MethodName) ({ cls := "PileHeirs$Timbers", name := "has", desc := "(I)Z" } : Jvm.MethodName) : Cond) ∈ GW := gw_of (i := 329) (by decide +kernel) rfl
theorem g_311 : (.code ({ cls := "PileHeirs$Timbers", name := "has", desc := "(I)Z" } : Jvm.MethodName) prog_9_method_3_code 2 (Option.some Jvm.ClassFile.FieldType.boolean) : Cond) ∈ GW := gw_of (i := 330) (by decide +kernel) rfl
theorem g_312 : (.selects "PileHeirs$Sorted" ({ cls := "PileHeirs$Plain", name := "loadAct", desc := "()I" } : Jvm.MethodName) ({ cls := "PileHeirs$Plain", name := "loadAct", desc := "()I" } : Jvm.MethodName) : Cond) ∈ GW := gw_of (i := 331) (by decide +kernel) rfl
theorem g_313 : (.selects "PileHeirs$Strict" ({ cls := "PileHeirs$Plain", name := "loadAct", desc := "()I" } : Jvm.MethodName) ({ cls := "PileHeirs$Plain", name := "loadAct", desc := "()I" } : Jvm.MethodName) : Cond) ∈ GW := gw_of (i := 332) (by decide +kernel) rfl
theorem g_314 : (.selects "PileHeirs$Twofold" ({ cls := "PileHeirs$Plain", name := "loadAct", desc := "()I" } : Jvm.MethodName) ({ cls := "PileHeirs$Twofold", name := "loadAct", desc := "()I" } : Jvm.MethodName) : Cond) ∈ GW := gw_of (i := 333) (by decide +kernel) rfl
theorem g_315 : (.code ({ cls := "PileHeirs$Plain", name := "loadAct", desc := "()I" } : Jvm.MethodName) prog_6_method_4_code 3 (Option.some Jvm.ClassFile.FieldType.int) : Cond) ∈ GW := gw_of (i := 334) (by decide +kernel) rfl
theorem g_316 : (.methodLink "PileHeirs$Plain" 33 ({ cls := "PileHeirs$Trace", name := "begin", desc := "(II)V" } : Jvm.MethodName) : Cond) ∈ GW := gw_of (i := 335) (by decide +kernel) rfl
theorem g_317 : (.methodLink "PileHeirs$Plain" 47 ({ cls := "PileHeirs$Plain", name := "timberAt", desc := "(I)I" } : Jvm.MethodName) : Cond) ∈ GW := gw_of (i := 336) (by decide +kernel) rfl
theorem g_318 : (.methodLink "PileHeirs$Plain" 51 ({ cls := "PileHeirs$Timbers", name := "weightOf", desc := "(I)I" } : Jvm.MethodName) : Cond) ∈ GW := gw_of (i := 337) (by decide +kernel) rfl
theorem g_319 : (.instanceMethod ({ cls := "PileHeirs$Timbers", name := "weightOf", desc := "(I)I" } : Jvm.MethodName) : Cond) ∈ GW := gw_of (i := 338) (by decide +kernel) rfl
theorem g_320 : (.selects "PileHeirs$Timbers" ({ cls := "PileHeirs$Timbers", name := "weightOf", desc := "(I)I" } : Jvm.MethodName) ({ cls := "PileHeirs$Timbers", name := "weightOf", desc := "(I)I" } : Jvm.MethodName) : Cond) ∈ GW := gw_of (i := 339) (by decide +kernel) rfl
theorem g_321 : (.code ({ cls := "PileHeirs$Timbers", name := "weightOf", desc := "(I)I" } : Jvm.MethodName) prog_9_method_6_code 2 (Option.some Jvm.ClassFile.FieldType.int) : Cond) ∈ GW := gw_of (i := 340) (by decide +kernel) rfl
theorem g_322 : (.methodLink "PileHeirsLaw" 53 ({ cls := "PileHeirs", name := "search", desc := "(II)I" } : Jvm.MethodName) : Cond) ∈ GW := gw_of (i := 341) (by decide +kernel) rfl
theorem g_323 : (.instanceMethod ({ cls := "PileHeirs", name := "search", desc := "(II)I" } : Jvm.MethodName) : Cond) ∈ GW := gw_of (i := 342) (by decide +kernel) rfl
theorem g_324 : (.selects "PileHeirs" ({ cls := "PileHeirs", name := "search", desc := "(II)I" } : Jvm.MethodName) ({ cls := "PileHeirs", name := "search", desc := "(II)I" } : Jvm.MethodName) : Cond) ∈ GW := gw_of (i := 343) (by decide +kernel) rfl
theorem g_325 : (.code ({ cls := "PileHeirs", name := "search", desc := "(II)I" } : Jvm.MethodName) prog_1_method_7_code 4 (Option.some Jvm.ClassFile.FieldType.int) : Cond) ∈ GW := gw_of (i := 344) (by decide +kernel) rfl
theorem g_326 : (.methodLink "PileHeirs" 78 ({ cls := "PileHeirs$Plain", name := "searchAct", desc := "(I)I" } : Jvm.MethodName) : Cond) ∈ GW := gw_of (i := 345) (by decide +kernel) rfl
theorem g_327 : (.instanceMethod ({ cls := "PileHeirs$Plain", name := "searchAct", desc := "(I)I" } : Jvm.MethodName) : Cond) ∈ GW := gw_of (i := 346) (by decide +kernel) rfl
theorem g_328 : (.selects "PileHeirs$Plain" ({ cls := "PileHeirs$Plain", name := "searchAct", desc := "(I)I" } : Jvm.MethodName) ({ cls := "PileHeirs$Plain", name := "searchAct", desc := "(I)I" } : Jvm.MethodName) : Cond) ∈ GW := gw_of (i := 347) (by decide +kernel) rfl
theorem g_329 : (.sameMethod "PileHeirs$Plain" "PileHeirs$Plain" "searchAct" "(I)I" : Cond) ∈ GW := gw_of (i := 348) (by decide +kernel) rfl
theorem g_330 : (.selects "PileHeirs$Drying" ({ cls := "PileHeirs$Plain", name := "searchAct", desc := "(I)I" } : Jvm.MethodName) ({ cls := "PileHeirs$Drying", name := "searchAct", desc := "(I)I" } : Jvm.MethodName) : Cond) ∈ GW := gw_of (i := 349) (by decide +kernel) rfl
theorem g_331 : (.instanceMethod ({ cls := "PileHeirs$Drying", name := "searchAct", desc := "(I)I" } : Jvm.MethodName) : Cond) ∈ GW := gw_of (i := 350) (by decide +kernel) rfl
theorem g_332 : (.code ({ cls := "PileHeirs$Drying", name := "searchAct", desc := "(I)I" } : Jvm.MethodName) prog_2_method_3_code 3 (Option.some Jvm.ClassFile.FieldType.int) : Cond) ∈ GW := gw_of (i := 351) (by decide +kernel) rfl
theorem g_333 : (.methodLink "PileHeirs$Drying" 15 ({ cls := "PileHeirs$Trace", name := "begin", desc := "(II)V" } : Jvm.MethodName) : Cond) ∈ GW := gw_of (i := 352) (by decide +kernel) rfl
theorem g_334 : (.methodLink "PileHeirs$Drying" 47 ({ cls := "PileHeirs$Sorted", name := "searchAct", desc := "(I)I" } : Jvm.MethodName) : Cond) ∈ GW := gw_of (i := 353) (by decide +kernel) rfl
theorem g_335 : (.sameMethod "PileHeirs$Sorted" "PileHeirs$Plain" "searchAct" "(I)I" : Cond) ∈ GW := gw_of (i := 354) (by decide +kernel) rfl
theorem g_337 : (.methodLink "PileHeirs$Drying" 50 ({ cls := "PileHeirs$Drying", name := "timberAt", desc := "(I)I" } : Jvm.MethodName) : Cond) ∈ GW := gw_of (i := 356) (by decide +kernel) rfl
theorem g_338 : (.sameMethod "PileHeirs$Drying" "PileHeirs$Plain" "timberAt" "(I)I" : Cond) ∈ GW := gw_of (i := 357) (by decide +kernel) rfl
theorem g_339 : (.selects "PileHeirs$Drying" ({ cls := "PileHeirs$Drying", name := "timberAt", desc := "(I)I" } : Jvm.MethodName) ({ cls := "PileHeirs$Plain", name := "timberAt", desc := "(I)I" } : Jvm.MethodName) : Cond) ∈ GW := gw_of (i := 358) (by decide +kernel) rfl
theorem g_340 : (.selects "PileHeirs$Open" ({ cls := "PileHeirs$Drying", name := "timberAt", desc := "(I)I" } : Jvm.MethodName) ({ cls := "PileHeirs$Plain", name := "timberAt", desc := "(I)I" } : Jvm.MethodName) : Cond) ∈ GW := gw_of (i := 359) (by decide +kernel) rfl
theorem g_341 : (.methodLink "PileHeirs$Drying" 33 ({ cls := "PileHeirs$Timbers", name := "isWet", desc := "(I)Z" } : Jvm.MethodName) : Cond) ∈ GW := gw_of (i := 360) (by decide +kernel) rfl
theorem g_342 : (.selects "PileHeirs$Lean" ({ cls := "PileHeirs$Plain", name := "searchAct", desc := "(I)I" } : Jvm.MethodName) ({ cls := "PileHeirs$Twofold", name := "searchAct", desc := "(I)I" } : Jvm.MethodName) : Cond) ∈ GW := gw_of (i := 361) (by decide +kernel) rfl
theorem g_343 : (.instanceMethod ({ cls := "PileHeirs$Twofold", name := "searchAct", desc := "(I)I" } : Jvm.MethodName) : Cond) ∈ GW := gw_of (i := 362) (by decide +kernel) rfl
theorem g_344 : (.code ({ cls := "PileHeirs$Twofold", name := "searchAct", desc := "(I)I" } : Jvm.MethodName) prog_11_method_3_code 3 (Option.some Jvm.ClassFile.FieldType.int) : Cond) ∈ GW := gw_of (i := 363) (by decide +kernel) rfl
theorem g_345 : (.methodLink "PileHeirs$Twofold" 25 ({ cls := "PileHeirs$Strict", name := "searchAct", desc := "(I)I" } : Jvm.MethodName) : Cond) ∈ GW := gw_of (i := 364) (by decide +kernel) rfl
theorem g_346 : (.sameMethod "PileHeirs$Strict" "PileHeirs$Plain" "searchAct" "(I)I" : Cond) ∈ GW := gw_of (i := 365) (by decide +kernel) rfl
theorem g_347 : (.selects "PileHeirs$Marked" ({ cls := "PileHeirs$Plain", name := "searchAct", desc := "(I)I" } : Jvm.MethodName) ({ cls := "PileHeirs$Plain", name := "searchAct", desc := "(I)I" } : Jvm.MethodName) : Cond) ∈ GW := gw_of (i := 366) (by decide +kernel) rfl
theorem g_348 : (.selects "PileHeirs$Open" ({ cls := "PileHeirs$Plain", name := "searchAct", desc := "(I)I" } : Jvm.MethodName) ({ cls := "PileHeirs$Drying", name := "searchAct", desc := "(I)I" } : Jvm.MethodName) : Cond) ∈ GW := gw_of (i := 367) (by decide +kernel) rfl
theorem g_349 : (.selects "PileHeirs$Sorted" ({ cls := "PileHeirs$Plain", name := "searchAct", desc := "(I)I" } : Jvm.MethodName) ({ cls := "PileHeirs$Plain", name := "searchAct", desc := "(I)I" } : Jvm.MethodName) : Cond) ∈ GW := gw_of (i := 368) (by decide +kernel) rfl
theorem g_350 : (.selects "PileHeirs$Strict" ({ cls := "PileHeirs$Plain", name := "searchAct", desc := "(I)I" } : Jvm.MethodName) ({ cls := "PileHeirs$Plain", name := "searchAct", desc := "(I)I" } : Jvm.MethodName) : Cond) ∈ GW := gw_of (i := 369) (by decide +kernel) rfl
theorem g_351 : (.selects "PileHeirs$Twofold" ({ cls := "PileHeirs$Plain", name := "searchAct", desc := "(I)I" } : Jvm.MethodName) ({ cls := "PileHeirs$Twofold", name := "searchAct", desc := "(I)I" } : Jvm.MethodName) : Cond) ∈ GW := gw_of (i := 370) (by decide +kernel) rfl
theorem g_352 : (.code ({ cls := "PileHeirs$Plain", name := "searchAct", desc := "(I)I" } : Jvm.MethodName) prog_6_method_5_code 3 (Option.some Jvm.ClassFile.FieldType.int) : Cond) ∈ GW := gw_of (i := 371) (by decide +kernel) rfl
theorem g_353 : (.methodLink "PileHeirs$Plain" 54 ({ cls := "PileHeirs$Timbers", name := "lengthOf", desc := "(I)I" } : Jvm.MethodName) : Cond) ∈ GW := gw_of (i := 372) (by decide +kernel) rfl
theorem g_354 : (.instanceMethod ({ cls := "PileHeirs$Timbers", name := "lengthOf", desc := "(I)I" } : Jvm.MethodName) : Cond) ∈ GW := gw_of (i := 373) (by decide +kernel) rfl
theorem g_355 : (.selects "PileHeirs$Timbers" ({ cls := "PileHeirs$Timbers", name := "lengthOf", desc := "(I)I" } : Jvm.MethodName) ({ cls := "PileHeirs$Timbers", name := "lengthOf", desc := "(I)I" } : Jvm.MethodName) : Cond) ∈ GW := gw_of (i := 374) (by decide +kernel) rfl
theorem g_356 : (.code ({ cls := "PileHeirs$Timbers", name := "lengthOf", desc := "(I)I" } : Jvm.MethodName) prog_9_method_5_code 2 (Option.some Jvm.ClassFile.FieldType.int) : Cond) ∈ GW := gw_of (i := 375) (by decide +kernel) rfl
theorem g_357 : (.methodLink "PileHeirsLaw" 57 ({ cls := "PileHeirs", name := "free", desc := "(I)I" } : Jvm.MethodName) : Cond) ∈ GW := gw_of (i := 376) (by decide +kernel) rfl
theorem g_358 : (.instanceMethod ({ cls := "PileHeirs", name := "free", desc := "(I)I" } : Jvm.MethodName) : Cond) ∈ GW := gw_of (i := 377) (by decide +kernel) rfl
theorem g_359 : (.selects "PileHeirs" ({ cls := "PileHeirs", name := "free", desc := "(I)I" } : Jvm.MethodName) ({ cls := "PileHeirs", name := "free", desc := "(I)I" } : Jvm.MethodName) : Cond) ∈ GW := gw_of (i := 378) (by decide +kernel) rfl
theorem g_360 : (.code ({ cls := "PileHeirs", name := "free", desc := "(I)I" } : Jvm.MethodName) prog_1_method_8_code 3 (Option.some Jvm.ClassFile.FieldType.int) : Cond) ∈ GW := gw_of (i := 379) (by decide +kernel) rfl
theorem g_361 : (.methodLink "PileHeirs" 81 ({ cls := "PileHeirs$Plain", name := "freeAct", desc := "()I" } : Jvm.MethodName) : Cond) ∈ GW := gw_of (i := 380) (by decide +kernel) rfl
theorem g_362 : (.instanceMethod ({ cls := "PileHeirs$Plain", name := "freeAct", desc := "()I" } : Jvm.MethodName) : Cond) ∈ GW := gw_of (i := 381) (by decide +kernel) rfl
theorem g_363 : (.selects "PileHeirs$Plain" ({ cls := "PileHeirs$Plain", name := "freeAct", desc := "()I" } : Jvm.MethodName) ({ cls := "PileHeirs$Plain", name := "freeAct", desc := "()I" } : Jvm.MethodName) : Cond) ∈ GW := gw_of (i := 382) (by decide +kernel) rfl
theorem g_364 : (.sameMethod "PileHeirs$Plain" "PileHeirs$Plain" "freeAct" "()I" : Cond) ∈ GW := gw_of (i := 383) (by decide +kernel) rfl
theorem g_365 : (.selects "PileHeirs$Drying" ({ cls := "PileHeirs$Plain", name := "freeAct", desc := "()I" } : Jvm.MethodName) ({ cls := "PileHeirs$Plain", name := "freeAct", desc := "()I" } : Jvm.MethodName) : Cond) ∈ GW := gw_of (i := 384) (by decide +kernel) rfl
theorem g_366 : (.selects "PileHeirs$Lean" ({ cls := "PileHeirs$Plain", name := "freeAct", desc := "()I" } : Jvm.MethodName) ({ cls := "PileHeirs$Lean", name := "freeAct", desc := "()I" } : Jvm.MethodName) : Cond) ∈ GW := gw_of (i := 385) (by decide +kernel) rfl
theorem g_367 : (.instanceMethod ({ cls := "PileHeirs$Lean", name := "freeAct", desc := "()I" } : Jvm.MethodName) : Cond) ∈ GW := gw_of (i := 386) (by decide +kernel) rfl
theorem g_368 : (.code ({ cls := "PileHeirs$Lean", name := "freeAct", desc := "()I" } : Jvm.MethodName) prog_3_method_3_code 1 (Option.some Jvm.ClassFile.FieldType.int) : Cond) ∈ GW := gw_of (i := 387) (by decide +kernel) rfl
theorem g_369 : (.methodLink "PileHeirs$Lean" 15 ({ cls := "PileHeirs$Trace", name := "begin", desc := "(II)V" } : Jvm.MethodName) : Cond) ∈ GW := gw_of (i := 388) (by decide +kernel) rfl
theorem g_370 : (.methodLink "PileHeirs$Lean" 39 ({ cls := "PileHeirs$Twofold", name := "freeAct", desc := "()I" } : Jvm.MethodName) : Cond) ∈ GW := gw_of (i := 389) (by decide +kernel) rfl
theorem g_371 : (.sameMethod "PileHeirs$Twofold" "PileHeirs$Strict" "freeAct" "()I" : Cond) ∈ GW := gw_of (i := 390) (by decide +kernel) rfl
theorem g_373 : (.instanceMethod ({ cls := "PileHeirs$Strict", name := "freeAct", desc := "()I" } : Jvm.MethodName) : Cond) ∈ GW := gw_of (i := 392) (by decide +kernel) rfl
theorem g_374 : (.code ({ cls := "PileHeirs$Strict", name := "freeAct", desc := "()I" } : Jvm.MethodName) prog_8_method_3_code 1 (Option.some Jvm.ClassFile.FieldType.int) : Cond) ∈ GW := gw_of (i := 393) (by decide +kernel) rfl
theorem g_375 : (.methodLink "PileHeirs$Strict" 15 ({ cls := "PileHeirs$Trace", name := "begin", desc := "(II)V" } : Jvm.MethodName) : Cond) ∈ GW := gw_of (i := 394) (by decide +kernel) rfl
theorem g_376 : (.methodLink "PileHeirs$Strict" 21 ({ cls := "PileHeirs$Strict", name := "loadAct", desc := "()I" } : Jvm.MethodName) : Cond) ∈ GW := gw_of (i := 395) (by decide +kernel) rfl
theorem g_377 : (.selects "PileHeirs$Lean" ({ cls := "PileHeirs$Strict", name := "loadAct", desc := "()I" } : Jvm.MethodName) ({ cls := "PileHeirs$Twofold", name := "loadAct", desc := "()I" } : Jvm.MethodName) : Cond) ∈ GW := gw_of (i := 396) (by decide +kernel) rfl
theorem g_378 : (.selects "PileHeirs$Strict" ({ cls := "PileHeirs$Strict", name := "loadAct", desc := "()I" } : Jvm.MethodName) ({ cls := "PileHeirs$Plain", name := "loadAct", desc := "()I" } : Jvm.MethodName) : Cond) ∈ GW := gw_of (i := 397) (by decide +kernel) rfl
theorem g_379 : (.selects "PileHeirs$Twofold" ({ cls := "PileHeirs$Strict", name := "loadAct", desc := "()I" } : Jvm.MethodName) ({ cls := "PileHeirs$Twofold", name := "loadAct", desc := "()I" } : Jvm.MethodName) : Cond) ∈ GW := gw_of (i := 398) (by decide +kernel) rfl
theorem g_380 : (.methodLink "PileHeirs$Strict" 46 ({ cls := "PileHeirs$Marked", name := "freeAct", desc := "()I" } : Jvm.MethodName) : Cond) ∈ GW := gw_of (i := 399) (by decide +kernel) rfl
theorem g_381 : (.sameMethod "PileHeirs$Marked" "PileHeirs$Plain" "freeAct" "()I" : Cond) ∈ GW := gw_of (i := 400) (by decide +kernel) rfl
theorem g_383 : (.methodLink "PileHeirs$Lean" 42 ({ cls := "java/lang/Math", name := "max", desc := "(II)I" } : Jvm.MethodName) : Cond) ∈ GW := gw_of (i := 402) (by decide +kernel) rfl
theorem g_384 : (.static ({ cls := "java/lang/Math", name := "max", desc := "(II)I" } : Jvm.MethodName) : Cond) ∈ GW := gw_of (i := 403) (by decide +kernel) rfl
theorem g_385 : (.code ({ cls := "java/lang/Math", name := "max", desc := "(II)I" } : Jvm.MethodName) prog_15_method_65_code 2 (Option.some Jvm.ClassFile.FieldType.int) : Cond) ∈ GW := gw_of (i := 404) (by decide +kernel) rfl
theorem g_386 : (.selects "PileHeirs$Marked" ({ cls := "PileHeirs$Plain", name := "freeAct", desc := "()I" } : Jvm.MethodName) ({ cls := "PileHeirs$Plain", name := "freeAct", desc := "()I" } : Jvm.MethodName) : Cond) ∈ GW := gw_of (i := 405) (by decide +kernel) rfl
theorem g_387 : (.selects "PileHeirs$Open" ({ cls := "PileHeirs$Plain", name := "freeAct", desc := "()I" } : Jvm.MethodName) ({ cls := "PileHeirs$Plain", name := "freeAct", desc := "()I" } : Jvm.MethodName) : Cond) ∈ GW := gw_of (i := 406) (by decide +kernel) rfl
theorem g_388 : (.selects "PileHeirs$Sorted" ({ cls := "PileHeirs$Plain", name := "freeAct", desc := "()I" } : Jvm.MethodName) ({ cls := "PileHeirs$Plain", name := "freeAct", desc := "()I" } : Jvm.MethodName) : Cond) ∈ GW := gw_of (i := 407) (by decide +kernel) rfl
theorem g_389 : (.selects "PileHeirs$Strict" ({ cls := "PileHeirs$Plain", name := "freeAct", desc := "()I" } : Jvm.MethodName) ({ cls := "PileHeirs$Strict", name := "freeAct", desc := "()I" } : Jvm.MethodName) : Cond) ∈ GW := gw_of (i := 408) (by decide +kernel) rfl
theorem g_390 : (.selects "PileHeirs$Twofold" ({ cls := "PileHeirs$Plain", name := "freeAct", desc := "()I" } : Jvm.MethodName) ({ cls := "PileHeirs$Strict", name := "freeAct", desc := "()I" } : Jvm.MethodName) : Cond) ∈ GW := gw_of (i := 409) (by decide +kernel) rfl
theorem g_391 : (.code ({ cls := "PileHeirs$Plain", name := "freeAct", desc := "()I" } : Jvm.MethodName) prog_6_method_6_code 1 (Option.some Jvm.ClassFile.FieldType.int) : Cond) ∈ GW := gw_of (i := 410) (by decide +kernel) rfl
theorem g_392 : (.methodLink "PileHeirsLaw" 61 ({ cls := "PileHeirs", name := "full", desc := "(I)I" } : Jvm.MethodName) : Cond) ∈ GW := gw_of (i := 411) (by decide +kernel) rfl
theorem g_393 : (.instanceMethod ({ cls := "PileHeirs", name := "full", desc := "(I)I" } : Jvm.MethodName) : Cond) ∈ GW := gw_of (i := 412) (by decide +kernel) rfl
theorem g_394 : (.selects "PileHeirs" ({ cls := "PileHeirs", name := "full", desc := "(I)I" } : Jvm.MethodName) ({ cls := "PileHeirs", name := "full", desc := "(I)I" } : Jvm.MethodName) : Cond) ∈ GW := gw_of (i := 413) (by decide +kernel) rfl
theorem g_395 : (.code ({ cls := "PileHeirs", name := "full", desc := "(I)I" } : Jvm.MethodName) prog_1_method_9_code 3 (Option.some Jvm.ClassFile.FieldType.int) : Cond) ∈ GW := gw_of (i := 414) (by decide +kernel) rfl
theorem g_396 : (.methodLink "PileHeirs" 84 ({ cls := "PileHeirs$Plain", name := "isFull", desc := "()Z" } : Jvm.MethodName) : Cond) ∈ GW := gw_of (i := 415) (by decide +kernel) rfl
theorem g_397 : (.instanceMethod ({ cls := "PileHeirs$Plain", name := "isFull", desc := "()Z" } : Jvm.MethodName) : Cond) ∈ GW := gw_of (i := 416) (by decide +kernel) rfl
theorem g_398 : (.selects "PileHeirs$Plain" ({ cls := "PileHeirs$Plain", name := "isFull", desc := "()Z" } : Jvm.MethodName) ({ cls := "PileHeirs$Plain", name := "isFull", desc := "()Z" } : Jvm.MethodName) : Cond) ∈ GW := gw_of (i := 417) (by decide +kernel) rfl
theorem g_399 : (.sameMethod "PileHeirs$Plain" "PileHeirs$Plain" "isFull" "()Z" : Cond) ∈ GW := gw_of (i := 418) (by decide +kernel) rfl
theorem g_400 : (.selects "PileHeirs$Drying" ({ cls := "PileHeirs$Plain", name := "isFull", desc := "()Z" } : Jvm.MethodName) ({ cls := "PileHeirs$Marked", name := "isFull", desc := "()Z" } : Jvm.MethodName) : Cond) ∈ GW := gw_of (i := 419) (by decide +kernel) rfl
theorem g_401 : (.instanceMethod ({ cls := "PileHeirs$Marked", name := "isFull", desc := "()Z" } : Jvm.MethodName) : Cond) ∈ GW := gw_of (i := 420) (by decide +kernel) rfl
theorem g_402 : (.code ({ cls := "PileHeirs$Marked", name := "isFull", desc := "()Z" } : Jvm.MethodName) prog_4_method_2_code 1 (Option.some Jvm.ClassFile.FieldType.boolean) : Cond) ∈ GW := gw_of (i := 421) (by decide +kernel) rfl
theorem g_403 : (.methodLink "PileHeirs$Marked" 7 ({ cls := "PileHeirs$Marked", name := "freeAct", desc := "()I" } : Jvm.MethodName) : Cond) ∈ GW := gw_of (i := 422) (by decide +kernel) rfl
theorem g_404 : (.selects "PileHeirs$Drying" ({ cls := "PileHeirs$Marked", name := "freeAct", desc := "()I" } : Jvm.MethodName) ({ cls := "PileHeirs$Plain", name := "freeAct", desc := "()I" } : Jvm.MethodName) : Cond) ∈ GW := gw_of (i := 423) (by decide +kernel) rfl
theorem g_405 : (.selects "PileHeirs$Lean" ({ cls := "PileHeirs$Marked", name := "freeAct", desc := "()I" } : Jvm.MethodName) ({ cls := "PileHeirs$Lean", name := "freeAct", desc := "()I" } : Jvm.MethodName) : Cond) ∈ GW := gw_of (i := 424) (by decide +kernel) rfl
theorem g_406 : (.selects "PileHeirs$Marked" ({ cls := "PileHeirs$Marked", name := "freeAct", desc := "()I" } : Jvm.MethodName) ({ cls := "PileHeirs$Plain", name := "freeAct", desc := "()I" } : Jvm.MethodName) : Cond) ∈ GW := gw_of (i := 425) (by decide +kernel) rfl
theorem g_407 : (.selects "PileHeirs$Open" ({ cls := "PileHeirs$Marked", name := "freeAct", desc := "()I" } : Jvm.MethodName) ({ cls := "PileHeirs$Plain", name := "freeAct", desc := "()I" } : Jvm.MethodName) : Cond) ∈ GW := gw_of (i := 426) (by decide +kernel) rfl
theorem g_408 : (.selects "PileHeirs$Sorted" ({ cls := "PileHeirs$Marked", name := "freeAct", desc := "()I" } : Jvm.MethodName) ({ cls := "PileHeirs$Plain", name := "freeAct", desc := "()I" } : Jvm.MethodName) : Cond) ∈ GW := gw_of (i := 427) (by decide +kernel) rfl
theorem g_409 : (.selects "PileHeirs$Strict" ({ cls := "PileHeirs$Marked", name := "freeAct", desc := "()I" } : Jvm.MethodName) ({ cls := "PileHeirs$Strict", name := "freeAct", desc := "()I" } : Jvm.MethodName) : Cond) ∈ GW := gw_of (i := 428) (by decide +kernel) rfl
theorem g_410 : (.selects "PileHeirs$Twofold" ({ cls := "PileHeirs$Marked", name := "freeAct", desc := "()I" } : Jvm.MethodName) ({ cls := "PileHeirs$Strict", name := "freeAct", desc := "()I" } : Jvm.MethodName) : Cond) ∈ GW := gw_of (i := 429) (by decide +kernel) rfl
theorem g_411 : (.selects "PileHeirs$Lean" ({ cls := "PileHeirs$Plain", name := "isFull", desc := "()Z" } : Jvm.MethodName) ({ cls := "PileHeirs$Marked", name := "isFull", desc := "()Z" } : Jvm.MethodName) : Cond) ∈ GW := gw_of (i := 430) (by decide +kernel) rfl
theorem g_412 : (.selects "PileHeirs$Marked" ({ cls := "PileHeirs$Plain", name := "isFull", desc := "()Z" } : Jvm.MethodName) ({ cls := "PileHeirs$Marked", name := "isFull", desc := "()Z" } : Jvm.MethodName) : Cond) ∈ GW := gw_of (i := 431) (by decide +kernel) rfl
theorem g_413 : (.selects "PileHeirs$Open" ({ cls := "PileHeirs$Plain", name := "isFull", desc := "()Z" } : Jvm.MethodName) ({ cls := "PileHeirs$Marked", name := "isFull", desc := "()Z" } : Jvm.MethodName) : Cond) ∈ GW := gw_of (i := 432) (by decide +kernel) rfl
theorem g_414 : (.selects "PileHeirs$Sorted" ({ cls := "PileHeirs$Plain", name := "isFull", desc := "()Z" } : Jvm.MethodName) ({ cls := "PileHeirs$Marked", name := "isFull", desc := "()Z" } : Jvm.MethodName) : Cond) ∈ GW := gw_of (i := 433) (by decide +kernel) rfl
theorem g_415 : (.selects "PileHeirs$Strict" ({ cls := "PileHeirs$Plain", name := "isFull", desc := "()Z" } : Jvm.MethodName) ({ cls := "PileHeirs$Marked", name := "isFull", desc := "()Z" } : Jvm.MethodName) : Cond) ∈ GW := gw_of (i := 434) (by decide +kernel) rfl
theorem g_416 : (.selects "PileHeirs$Twofold" ({ cls := "PileHeirs$Plain", name := "isFull", desc := "()Z" } : Jvm.MethodName) ({ cls := "PileHeirs$Marked", name := "isFull", desc := "()Z" } : Jvm.MethodName) : Cond) ∈ GW := gw_of (i := 435) (by decide +kernel) rfl
theorem g_417 : (.code ({ cls := "PileHeirs$Plain", name := "isFull", desc := "()Z" } : Jvm.MethodName) prog_6_method_7_code 1 (Option.some Jvm.ClassFile.FieldType.boolean) : Cond) ∈ GW := gw_of (i := 436) (by decide +kernel) rfl
theorem g_418 : (.methodLink "PileHeirsLaw" 65 ({ cls := "PileHeirs", name := "move", desc := "(II)I" } : Jvm.MethodName) : Cond) ∈ GW := gw_of (i := 437) (by decide +kernel) rfl
theorem g_419 : (.instanceMethod ({ cls := "PileHeirs", name := "move", desc := "(II)I" } : Jvm.MethodName) : Cond) ∈ GW := gw_of (i := 438) (by decide +kernel) rfl
theorem g_420 : (.selects "PileHeirs" ({ cls := "PileHeirs", name := "move", desc := "(II)I" } : Jvm.MethodName) ({ cls := "PileHeirs", name := "move", desc := "(II)I" } : Jvm.MethodName) : Cond) ∈ GW := gw_of (i := 439) (by decide +kernel) rfl
theorem g_421 : (.code ({ cls := "PileHeirs", name := "move", desc := "(II)I" } : Jvm.MethodName) prog_1_method_10_code 6 (Option.some Jvm.ClassFile.FieldType.int) : Cond) ∈ GW := gw_of (i := 440) (by decide +kernel) rfl
theorem g_422 : (.methodLink "PileHeirs" 66 ({ cls := "PileHeirs$Plain", name := "takeAct", desc := "()I" } : Jvm.MethodName) : Cond) ∈ GW := gw_of (i := 441) (by decide +kernel) rfl
theorem g_423 : (.instanceMethod ({ cls := "PileHeirs$Plain", name := "takeAct", desc := "()I" } : Jvm.MethodName) : Cond) ∈ GW := gw_of (i := 442) (by decide +kernel) rfl
theorem g_424 : (.selects "PileHeirs$Plain" ({ cls := "PileHeirs$Plain", name := "takeAct", desc := "()I" } : Jvm.MethodName) ({ cls := "PileHeirs$Plain", name := "takeAct", desc := "()I" } : Jvm.MethodName) : Cond) ∈ GW := gw_of (i := 443) (by decide +kernel) rfl
theorem g_425 : (.sameMethod "PileHeirs$Plain" "PileHeirs$Plain" "takeAct" "()I" : Cond) ∈ GW := gw_of (i := 444) (by decide +kernel) rfl
theorem g_426 : (.selects "PileHeirs$Drying" ({ cls := "PileHeirs$Plain", name := "takeAct", desc := "()I" } : Jvm.MethodName) ({ cls := "PileHeirs$Drying", name := "takeAct", desc := "()I" } : Jvm.MethodName) : Cond) ∈ GW := gw_of (i := 445) (by decide +kernel) rfl
theorem g_427 : (.instanceMethod ({ cls := "PileHeirs$Drying", name := "takeAct", desc := "()I" } : Jvm.MethodName) : Cond) ∈ GW := gw_of (i := 446) (by decide +kernel) rfl
theorem g_428 : (.code ({ cls := "PileHeirs$Drying", name := "takeAct", desc := "()I" } : Jvm.MethodName) prog_2_method_2_code 2 (Option.some Jvm.ClassFile.FieldType.int) : Cond) ∈ GW := gw_of (i := 447) (by decide +kernel) rfl
theorem g_429 : (.methodLink "PileHeirs$Drying" 21 ({ cls := "PileHeirs$Sorted", name := "takeAct", desc := "()I" } : Jvm.MethodName) : Cond) ∈ GW := gw_of (i := 448) (by decide +kernel) rfl
theorem g_430 : (.sameMethod "PileHeirs$Sorted" "PileHeirs$Plain" "takeAct" "()I" : Cond) ∈ GW := gw_of (i := 449) (by decide +kernel) rfl
theorem g_432 : (.methodLink "PileHeirs$Drying" 25 ({ cls := "PileHeirs$Trace", name := "countNothing", desc := "()V" } : Jvm.MethodName) : Cond) ∈ GW := gw_of (i := 451) (by decide +kernel) rfl
theorem g_433 : (.instanceMethod ({ cls := "PileHeirs$Trace", name := "countNothing", desc := "()V" } : Jvm.MethodName) : Cond) ∈ GW := gw_of (i := 452) (by decide +kernel) rfl
theorem g_434 : (.selects "PileHeirs$Trace" ({ cls := "PileHeirs$Trace", name := "countNothing", desc := "()V" } : Jvm.MethodName) ({ cls := "PileHeirs$Trace", name := "countNothing", desc := "()V" } : Jvm.MethodName) : Cond) ∈ GW := gw_of (i := 453) (by decide +kernel) rfl
theorem g_435 : (.code ({ cls := "PileHeirs$Trace", name := "countNothing", desc := "()V" } : Jvm.MethodName) prog_10_method_5_code 1 (Option.none : Option Jvm.ClassFile.FieldType) : Cond) ∈ GW := gw_of (i := 454) (by decide +kernel) rfl
theorem g_436 : (.methodLink "PileHeirs$Drying" 39 ({ cls := "PileHeirs$Timbers", name := "setWet", desc := "(IZ)V" } : Jvm.MethodName) : Cond) ∈ GW := gw_of (i := 455) (by decide +kernel) rfl
theorem g_437 : (.instanceMethod ({ cls := "PileHeirs$Timbers", name := "setWet", desc := "(IZ)V" } : Jvm.MethodName) : Cond) ∈ GW := gw_of (i := 456) (by decide +kernel) rfl
theorem g_438 : (.selects "PileHeirs$Timbers" ({ cls := "PileHeirs$Timbers", name := "setWet", desc := "(IZ)V" } : Jvm.MethodName) ({ cls := "PileHeirs$Timbers", name := "setWet", desc := "(IZ)V" } : Jvm.MethodName) : Cond) ∈ GW := gw_of (i := 457) (by decide +kernel) rfl
theorem g_439 : (.code ({ cls := "PileHeirs$Timbers", name := "setWet", desc := "(IZ)V" } : Jvm.MethodName) prog_9_method_9_code 3 (Option.none : Option Jvm.ClassFile.FieldType) : Cond) ∈ GW := gw_of (i := 458) (by decide +kernel) rfl
theorem g_440 : (.methodLink "PileHeirs$Drying" 43 ({ cls := "PileHeirs$Drying", name := "putAct", desc := "(I)I" } : Jvm.MethodName) : Cond) ∈ GW := gw_of (i := 459) (by decide +kernel) rfl
theorem g_441 : (.sameMethod "PileHeirs$Drying" "PileHeirs$Sorted" "putAct" "(I)I" : Cond) ∈ GW := gw_of (i := 460) (by decide +kernel) rfl
theorem g_443 : (.selects "PileHeirs$Drying" ({ cls := "PileHeirs$Drying", name := "putAct", desc := "(I)I" } : Jvm.MethodName) ({ cls := "PileHeirs$Sorted", name := "putAct", desc := "(I)I" } : Jvm.MethodName) : Cond) ∈ GW := gw_of (i := 462) (by decide +kernel) rfl
theorem g_444 : (.selects "PileHeirs$Open" ({ cls := "PileHeirs$Drying", name := "putAct", desc := "(I)I" } : Jvm.MethodName) ({ cls := "PileHeirs$Open", name := "putAct", desc := "(I)I" } : Jvm.MethodName) : Cond) ∈ GW := gw_of (i := 463) (by decide +kernel) rfl
theorem g_445 : (.instanceMethod ({ cls := "PileHeirs$Open", name := "putAct", desc := "(I)I" } : Jvm.MethodName) : Cond) ∈ GW := gw_of (i := 464) (by decide +kernel) rfl
theorem g_446 : (.code ({ cls := "PileHeirs$Open", name := "putAct", desc := "(I)I" } : Jvm.MethodName) prog_5_method_2_code 2 (Option.some Jvm.ClassFile.FieldType.int) : Cond) ∈ GW := gw_of (i := 465) (by decide +kernel) rfl
theorem g_447 : (.methodLink "PileHeirs$Open" 25 ({ cls := "PileHeirs$Timbers", name := "weightOf", desc := "(I)I" } : Jvm.MethodName) : Cond) ∈ GW := gw_of (i := 466) (by decide +kernel) rfl
theorem g_448 : (.methodLink "PileHeirs$Open" 31 ({ cls := "PileHeirs$Timbers", name := "setWet", desc := "(IZ)V" } : Jvm.MethodName) : Cond) ∈ GW := gw_of (i := 467) (by decide +kernel) rfl
theorem g_449 : (.methodLink "PileHeirs$Open" 35 ({ cls := "PileHeirs$Drying", name := "putAct", desc := "(I)I" } : Jvm.MethodName) : Cond) ∈ GW := gw_of (i := 468) (by decide +kernel) rfl
theorem g_450 : (.instanceMethod ({ cls := "PileHeirs$Sorted", name := "putAct", desc := "(I)I" } : Jvm.MethodName) : Cond) ∈ GW := gw_of (i := 469) (by decide +kernel) rfl
theorem g_451 : (.code ({ cls := "PileHeirs$Sorted", name := "putAct", desc := "(I)I" } : Jvm.MethodName) prog_7_method_2_code 3 (Option.some Jvm.ClassFile.FieldType.int) : Cond) ∈ GW := gw_of (i := 470) (by decide +kernel) rfl
theorem g_452 : (.methodLink "PileHeirs$Sorted" 15 ({ cls := "PileHeirs$Trace", name := "begin", desc := "(II)V" } : Jvm.MethodName) : Cond) ∈ GW := gw_of (i := 471) (by decide +kernel) rfl
theorem g_453 : (.methodLink "PileHeirs$Sorted" 21 ({ cls := "PileHeirs$Marked", name := "putAct", desc := "(I)I" } : Jvm.MethodName) : Cond) ∈ GW := gw_of (i := 472) (by decide +kernel) rfl
theorem g_454 : (.sameMethod "PileHeirs$Marked" "PileHeirs$Plain" "putAct" "(I)I" : Cond) ∈ GW := gw_of (i := 473) (by decide +kernel) rfl
theorem g_456 : (.instanceMethod ({ cls := "PileHeirs$Plain", name := "putAct", desc := "(I)I" } : Jvm.MethodName) : Cond) ∈ GW := gw_of (i := 475) (by decide +kernel) rfl
theorem g_457 : (.code ({ cls := "PileHeirs$Plain", name := "putAct", desc := "(I)I" } : Jvm.MethodName) prog_6_method_2_code 2 (Option.some Jvm.ClassFile.FieldType.int) : Cond) ∈ GW := gw_of (i := 476) (by decide +kernel) rfl
theorem g_458 : (.methodLink "PileHeirs$Plain" 42 ({ cls := "PileHeirs$Timbers", name := "setPile", desc := "(II)V" } : Jvm.MethodName) : Cond) ∈ GW := gw_of (i := 477) (by decide +kernel) rfl
theorem g_459 : (.instanceMethod ({ cls := "PileHeirs$Timbers", name := "setPile", desc := "(II)V" } : Jvm.MethodName) : Cond) ∈ GW := gw_of (i := 478) (by decide +kernel) rfl
theorem g_460 : (.selects "PileHeirs$Timbers" ({ cls := "PileHeirs$Timbers", name := "setPile", desc := "(II)V" } : Jvm.MethodName) ({ cls := "PileHeirs$Timbers", name := "setPile", desc := "(II)V" } : Jvm.MethodName) : Cond) ∈ GW := gw_of (i := 479) (by decide +kernel) rfl
theorem g_461 : (.code ({ cls := "PileHeirs$Timbers", name := "setPile", desc := "(II)V" } : Jvm.MethodName) prog_9_method_11_code 3 (Option.none : Option Jvm.ClassFile.FieldType) : Cond) ∈ GW := gw_of (i := 480) (by decide +kernel) rfl
theorem g_462 : (.methodLink "PileHeirs$Sorted" 29 ({ cls := "PileHeirs$Timbers", name := "lengthOf", desc := "(I)I" } : Jvm.MethodName) : Cond) ∈ GW := gw_of (i := 481) (by decide +kernel) rfl
theorem g_463 : (.methodLink "PileHeirs$Sorted" 34 ({ cls := "PileHeirs$Sorted", name := "sinkTopmost", desc := "(I)V" } : Jvm.MethodName) : Cond) ∈ GW := gw_of (i := 482) (by decide +kernel) rfl
theorem g_465 : (.instanceMethod ({ cls := "PileHeirs$Sorted", name := "sinkTopmost", desc := "(I)V" } : Jvm.MethodName) : Cond) ∈ GW := gw_of (i := 484) (by decide +kernel) rfl
theorem g_466 : (.code ({ cls := "PileHeirs$Sorted", name := "sinkTopmost", desc := "(I)V" } : Jvm.MethodName) prog_7_method_3_code 3 (Option.none : Option Jvm.ClassFile.FieldType) : Cond) ∈ GW := gw_of (i := 485) (by decide +kernel) rfl
theorem g_467 : (.methodLink "PileHeirs$Sorted" 38 ({ cls := "PileHeirs$Sorted", name := "howMany", desc := "()I" } : Jvm.MethodName) : Cond) ∈ GW := gw_of (i := 486) (by decide +kernel) rfl
theorem g_468 : (.sameMethod "PileHeirs$Sorted" "PileHeirs$Plain" "howMany" "()I" : Cond) ∈ GW := gw_of (i := 487) (by decide +kernel) rfl
theorem g_469 : (.selects "PileHeirs$Drying" ({ cls := "PileHeirs$Sorted", name := "howMany", desc := "()I" } : Jvm.MethodName) ({ cls := "PileHeirs$Plain", name := "howMany", desc := "()I" } : Jvm.MethodName) : Cond) ∈ GW := gw_of (i := 488) (by decide +kernel) rfl
theorem g_470 : (.selects "PileHeirs$Open" ({ cls := "PileHeirs$Sorted", name := "howMany", desc := "()I" } : Jvm.MethodName) ({ cls := "PileHeirs$Plain", name := "howMany", desc := "()I" } : Jvm.MethodName) : Cond) ∈ GW := gw_of (i := 489) (by decide +kernel) rfl
theorem g_471 : (.selects "PileHeirs$Sorted" ({ cls := "PileHeirs$Sorted", name := "howMany", desc := "()I" } : Jvm.MethodName) ({ cls := "PileHeirs$Plain", name := "howMany", desc := "()I" } : Jvm.MethodName) : Cond) ∈ GW := gw_of (i := 490) (by decide +kernel) rfl
theorem g_472 : (.methodLink "PileHeirs$Sorted" 42 ({ cls := "PileHeirs$Sorted", name := "timberAt", desc := "(I)I" } : Jvm.MethodName) : Cond) ∈ GW := gw_of (i := 491) (by decide +kernel) rfl
theorem g_473 : (.sameMethod "PileHeirs$Sorted" "PileHeirs$Plain" "timberAt" "(I)I" : Cond) ∈ GW := gw_of (i := 492) (by decide +kernel) rfl
theorem g_474 : (.selects "PileHeirs$Drying" ({ cls := "PileHeirs$Sorted", name := "timberAt", desc := "(I)I" } : Jvm.MethodName) ({ cls := "PileHeirs$Plain", name := "timberAt", desc := "(I)I" } : Jvm.MethodName) : Cond) ∈ GW := gw_of (i := 493) (by decide +kernel) rfl
theorem g_475 : (.selects "PileHeirs$Open" ({ cls := "PileHeirs$Sorted", name := "timberAt", desc := "(I)I" } : Jvm.MethodName) ({ cls := "PileHeirs$Plain", name := "timberAt", desc := "(I)I" } : Jvm.MethodName) : Cond) ∈ GW := gw_of (i := 494) (by decide +kernel) rfl
theorem g_476 : (.selects "PileHeirs$Sorted" ({ cls := "PileHeirs$Sorted", name := "timberAt", desc := "(I)I" } : Jvm.MethodName) ({ cls := "PileHeirs$Plain", name := "timberAt", desc := "(I)I" } : Jvm.MethodName) : Cond) ∈ GW := gw_of (i := 495) (by decide +kernel) rfl
theorem g_477 : (.methodLink "PileHeirs$Sorted" 45 ({ cls := "PileHeirs$Sorted", name := "swapWithUnder", desc := "(I)V" } : Jvm.MethodName) : Cond) ∈ GW := gw_of (i := 496) (by decide +kernel) rfl
theorem g_478 : (.sameMethod "PileHeirs$Sorted" "PileHeirs$Plain" "swapWithUnder" "(I)V" : Cond) ∈ GW := gw_of (i := 497) (by decide +kernel) rfl
theorem g_480 : (.selects "PileHeirs$Drying" ({ cls := "PileHeirs$Sorted", name := "swapWithUnder", desc := "(I)V" } : Jvm.MethodName) ({ cls := "PileHeirs$Plain", name := "swapWithUnder", desc := "(I)V" } : Jvm.MethodName) : Cond) ∈ GW := gw_of (i := 499) (by decide +kernel) rfl
theorem g_481 : (.selects "PileHeirs$Open" ({ cls := "PileHeirs$Sorted", name := "swapWithUnder", desc := "(I)V" } : Jvm.MethodName) ({ cls := "PileHeirs$Plain", name := "swapWithUnder", desc := "(I)V" } : Jvm.MethodName) : Cond) ∈ GW := gw_of (i := 500) (by decide +kernel) rfl
theorem g_482 : (.selects "PileHeirs$Sorted" ({ cls := "PileHeirs$Sorted", name := "swapWithUnder", desc := "(I)V" } : Jvm.MethodName) ({ cls := "PileHeirs$Plain", name := "swapWithUnder", desc := "(I)V" } : Jvm.MethodName) : Cond) ∈ GW := gw_of (i := 501) (by decide +kernel) rfl
theorem g_483 : (.instanceMethod ({ cls := "PileHeirs$Plain", name := "swapWithUnder", desc := "(I)V" } : Jvm.MethodName) : Cond) ∈ GW := gw_of (i := 502) (by decide +kernel) rfl
theorem g_484 : (.code ({ cls := "PileHeirs$Plain", name := "swapWithUnder", desc := "(I)V" } : Jvm.MethodName) prog_6_method_10_code 3 (Option.none : Option Jvm.ClassFile.FieldType) : Cond) ∈ GW := gw_of (i := 503) (by decide +kernel) rfl
theorem g_485 : (.selects "PileHeirs$Lean" ({ cls := "PileHeirs$Plain", name := "takeAct", desc := "()I" } : Jvm.MethodName) ({ cls := "PileHeirs$Lean", name := "takeAct", desc := "()I" } : Jvm.MethodName) : Cond) ∈ GW := gw_of (i := 504) (by decide +kernel) rfl
theorem g_486 : (.instanceMethod ({ cls := "PileHeirs$Lean", name := "takeAct", desc := "()I" } : Jvm.MethodName) : Cond) ∈ GW := gw_of (i := 505) (by decide +kernel) rfl
theorem g_487 : (.code ({ cls := "PileHeirs$Lean", name := "takeAct", desc := "()I" } : Jvm.MethodName) prog_3_method_2_code 2 (Option.some Jvm.ClassFile.FieldType.int) : Cond) ∈ GW := gw_of (i := 506) (by decide +kernel) rfl
theorem g_488 : (.methodLink "PileHeirs$Lean" 21 ({ cls := "PileHeirs$Twofold", name := "takeAct", desc := "()I" } : Jvm.MethodName) : Cond) ∈ GW := gw_of (i := 507) (by decide +kernel) rfl
theorem g_489 : (.sameMethod "PileHeirs$Twofold" "PileHeirs$Plain" "takeAct" "()I" : Cond) ∈ GW := gw_of (i := 508) (by decide +kernel) rfl
theorem g_490 : (.methodLink "PileHeirs$Lean" 25 ({ cls := "PileHeirs$Trace", name := "countNothing", desc := "()V" } : Jvm.MethodName) : Cond) ∈ GW := gw_of (i := 509) (by decide +kernel) rfl
theorem g_491 : (.methodLink "PileHeirs$Lean" 33 ({ cls := "PileHeirs$Timbers", name := "lighten", desc := "(I)V" } : Jvm.MethodName) : Cond) ∈ GW := gw_of (i := 510) (by decide +kernel) rfl
theorem g_492 : (.instanceMethod ({ cls := "PileHeirs$Timbers", name := "lighten", desc := "(I)V" } : Jvm.MethodName) : Cond) ∈ GW := gw_of (i := 511) (by decide +kernel) rfl
theorem g_493 : (.selects "PileHeirs$Timbers" ({ cls := "PileHeirs$Timbers", name := "lighten", desc := "(I)V" } : Jvm.MethodName) ({ cls := "PileHeirs$Timbers", name := "lighten", desc := "(I)V" } : Jvm.MethodName) : Cond) ∈ GW := gw_of (i := 512) (by decide +kernel) rfl
theorem g_494 : (.code ({ cls := "PileHeirs$Timbers", name := "lighten", desc := "(I)V" } : Jvm.MethodName) prog_9_method_10_code 2 (Option.none : Option Jvm.ClassFile.FieldType) : Cond) ∈ GW := gw_of (i := 513) (by decide +kernel) rfl
theorem g_495 : (.methodLink "PileHeirs$Timbers" 33 ({ cls := "java/lang/Math", name := "max", desc := "(II)I" } : Jvm.MethodName) : Cond) ∈ GW := gw_of (i := 514) (by decide +kernel) rfl
theorem g_496 : (.selects "PileHeirs$Marked" ({ cls := "PileHeirs$Plain", name := "takeAct", desc := "()I" } : Jvm.MethodName) ({ cls := "PileHeirs$Plain", name := "takeAct", desc := "()I" } : Jvm.MethodName) : Cond) ∈ GW := gw_of (i := 515) (by decide +kernel) rfl
theorem g_497 : (.selects "PileHeirs$Open" ({ cls := "PileHeirs$Plain", name := "takeAct", desc := "()I" } : Jvm.MethodName) ({ cls := "PileHeirs$Drying", name := "takeAct", desc := "()I" } : Jvm.MethodName) : Cond) ∈ GW := gw_of (i := 516) (by decide +kernel) rfl
theorem g_498 : (.selects "PileHeirs$Sorted" ({ cls := "PileHeirs$Plain", name := "takeAct", desc := "()I" } : Jvm.MethodName) ({ cls := "PileHeirs$Plain", name := "takeAct", desc := "()I" } : Jvm.MethodName) : Cond) ∈ GW := gw_of (i := 517) (by decide +kernel) rfl
theorem g_499 : (.selects "PileHeirs$Strict" ({ cls := "PileHeirs$Plain", name := "takeAct", desc := "()I" } : Jvm.MethodName) ({ cls := "PileHeirs$Plain", name := "takeAct", desc := "()I" } : Jvm.MethodName) : Cond) ∈ GW := gw_of (i := 518) (by decide +kernel) rfl
theorem g_500 : (.selects "PileHeirs$Twofold" ({ cls := "PileHeirs$Plain", name := "takeAct", desc := "()I" } : Jvm.MethodName) ({ cls := "PileHeirs$Plain", name := "takeAct", desc := "()I" } : Jvm.MethodName) : Cond) ∈ GW := gw_of (i := 519) (by decide +kernel) rfl
theorem g_501 : (.code ({ cls := "PileHeirs$Plain", name := "takeAct", desc := "()I" } : Jvm.MethodName) prog_6_method_3_code 2 (Option.some Jvm.ClassFile.FieldType.int) : Cond) ∈ GW := gw_of (i := 520) (by decide +kernel) rfl
theorem g_502 : (.methodLink "PileHeirs" 56 ({ cls := "PileHeirs$Plain", name := "putAct", desc := "(I)I" } : Jvm.MethodName) : Cond) ∈ GW := gw_of (i := 521) (by decide +kernel) rfl
theorem g_503 : (.instanceMethod ({ cls := "PileHeirs$Strict", name := "putAct", desc := "(I)I" } : Jvm.MethodName) : Cond) ∈ GW := gw_of (i := 522) (by decide +kernel) rfl
theorem g_504 : (.code ({ cls := "PileHeirs$Strict", name := "putAct", desc := "(I)I" } : Jvm.MethodName) prog_8_method_2_code 2 (Option.some Jvm.ClassFile.FieldType.int) : Cond) ∈ GW := gw_of (i := 523) (by decide +kernel) rfl
theorem g_505 : (.methodLink "PileHeirs$Strict" 29 ({ cls := "PileHeirs$Timbers", name := "weightOf", desc := "(I)I" } : Jvm.MethodName) : Cond) ∈ GW := gw_of (i := 524) (by decide +kernel) rfl
theorem g_506 : (.methodLink "PileHeirs$Strict" 39 ({ cls := "PileHeirs$Trace", name := "countHeavy", desc := "()V" } : Jvm.MethodName) : Cond) ∈ GW := gw_of (i := 525) (by decide +kernel) rfl
theorem g_507 : (.instanceMethod ({ cls := "PileHeirs$Trace", name := "countHeavy", desc := "()V" } : Jvm.MethodName) : Cond) ∈ GW := gw_of (i := 526) (by decide +kernel) rfl
theorem g_508 : (.selects "PileHeirs$Trace" ({ cls := "PileHeirs$Trace", name := "countHeavy", desc := "()V" } : Jvm.MethodName) ({ cls := "PileHeirs$Trace", name := "countHeavy", desc := "()V" } : Jvm.MethodName) : Cond) ∈ GW := gw_of (i := 527) (by decide +kernel) rfl
theorem g_509 : (.code ({ cls := "PileHeirs$Trace", name := "countHeavy", desc := "()V" } : Jvm.MethodName) prog_10_method_4_code 1 (Option.none : Option Jvm.ClassFile.FieldType) : Cond) ∈ GW := gw_of (i := 528) (by decide +kernel) rfl
theorem g_510 : (.methodLink "PileHeirs$Strict" 43 ({ cls := "PileHeirs$Marked", name := "putAct", desc := "(I)I" } : Jvm.MethodName) : Cond) ∈ GW := gw_of (i := 529) (by decide +kernel) rfl
theorem g_511 : (.methodLink "PileHeirsLaw" 69 ({ cls := "PileHeirs", name := "at", desc := "(II)I" } : Jvm.MethodName) : Cond) ∈ GW := gw_of (i := 530) (by decide +kernel) rfl
theorem g_512 : (.instanceMethod ({ cls := "PileHeirs", name := "at", desc := "(II)I" } : Jvm.MethodName) : Cond) ∈ GW := gw_of (i := 531) (by decide +kernel) rfl
theorem g_513 : (.selects "PileHeirs" ({ cls := "PileHeirs", name := "at", desc := "(II)I" } : Jvm.MethodName) ({ cls := "PileHeirs", name := "at", desc := "(II)I" } : Jvm.MethodName) : Cond) ∈ GW := gw_of (i := 532) (by decide +kernel) rfl
theorem g_514 : (.code ({ cls := "PileHeirs", name := "at", desc := "(II)I" } : Jvm.MethodName) prog_1_method_11_code 5 (Option.some Jvm.ClassFile.FieldType.int) : Cond) ∈ GW := gw_of (i := 533) (by decide +kernel) rfl
theorem g_515 : (.methodLink "PileHeirs" 88 ({ cls := "PileHeirs$Plain", name := "timberAt", desc := "(I)I" } : Jvm.MethodName) : Cond) ∈ GW := gw_of (i := 534) (by decide +kernel) rfl
theorem g_516 : (.methodLink "PileHeirsLaw" 73 ({ cls := "PileHeirs", name := "of", desc := "(II)I" } : Jvm.MethodName) : Cond) ∈ GW := gw_of (i := 535) (by decide +kernel) rfl
theorem g_517 : (.instanceMethod ({ cls := "PileHeirs", name := "of", desc := "(II)I" } : Jvm.MethodName) : Cond) ∈ GW := gw_of (i := 536) (by decide +kernel) rfl
theorem g_518 : (.selects "PileHeirs" ({ cls := "PileHeirs", name := "of", desc := "(II)I" } : Jvm.MethodName) ({ cls := "PileHeirs", name := "of", desc := "(II)I" } : Jvm.MethodName) : Cond) ∈ GW := gw_of (i := 537) (by decide +kernel) rfl
theorem g_519 : (.code ({ cls := "PileHeirs", name := "of", desc := "(II)I" } : Jvm.MethodName) prog_1_method_12_code 3 (Option.some Jvm.ClassFile.FieldType.int) : Cond) ∈ GW := gw_of (i := 538) (by decide +kernel) rfl
theorem g_520 : (.methodLink "PileHeirs" 49 ({ cls := "PileHeirs$Timbers", name := "has", desc := "(I)Z" } : Jvm.MethodName) : Cond) ∈ GW := gw_of (i := 539) (by decide +kernel) rfl
theorem g_521 : (.methodLink "PileHeirs" 91 ({ cls := "PileHeirs$Timbers", name := "lengthOf", desc := "(I)I" } : Jvm.MethodName) : Cond) ∈ GW := gw_of (i := 540) (by decide +kernel) rfl
theorem g_522 : (.methodLink "PileHeirs" 94 ({ cls := "PileHeirs$Timbers", name := "weightOf", desc := "(I)I" } : Jvm.MethodName) : Cond) ∈ GW := gw_of (i := 541) (by decide +kernel) rfl
theorem g_523 : (.methodLink "PileHeirs" 97 ({ cls := "PileHeirs$Timbers", name := "isWet", desc := "(I)Z" } : Jvm.MethodName) : Cond) ∈ GW := gw_of (i := 542) (by decide +kernel) rfl
theorem g_524 : (.methodLink "PileHeirs" 53 ({ cls := "PileHeirs$Timbers", name := "pileOf", desc := "(I)I" } : Jvm.MethodName) : Cond) ∈ GW := gw_of (i := 543) (by decide +kernel) rfl
theorem g_525 : (.instanceMethod ({ cls := "PileHeirs$Timbers", name := "pileOf", desc := "(I)I" } : Jvm.MethodName) : Cond) ∈ GW := gw_of (i := 544) (by decide +kernel) rfl
theorem g_526 : (.selects "PileHeirs$Timbers" ({ cls := "PileHeirs$Timbers", name := "pileOf", desc := "(I)I" } : Jvm.MethodName) ({ cls := "PileHeirs$Timbers", name := "pileOf", desc := "(I)I" } : Jvm.MethodName) : Cond) ∈ GW := gw_of (i := 545) (by decide +kernel) rfl
theorem g_527 : (.code ({ cls := "PileHeirs$Timbers", name := "pileOf", desc := "(I)I" } : Jvm.MethodName) prog_9_method_8_code 2 (Option.some Jvm.ClassFile.FieldType.int) : Cond) ∈ GW := gw_of (i := 546) (by decide +kernel) rfl
theorem g_528 : (.methodLink "PileHeirsLaw" 77 ({ cls := "PileHeirs", name := "trace", desc := "(I)I" } : Jvm.MethodName) : Cond) ∈ GW := gw_of (i := 547) (by decide +kernel) rfl
theorem g_529 : (.instanceMethod ({ cls := "PileHeirs", name := "trace", desc := "(I)I" } : Jvm.MethodName) : Cond) ∈ GW := gw_of (i := 548) (by decide +kernel) rfl
theorem g_530 : (.selects "PileHeirs" ({ cls := "PileHeirs", name := "trace", desc := "(I)I" } : Jvm.MethodName) ({ cls := "PileHeirs", name := "trace", desc := "(I)I" } : Jvm.MethodName) : Cond) ∈ GW := gw_of (i := 549) (by decide +kernel) rfl
theorem g_531 : (.code ({ cls := "PileHeirs", name := "trace", desc := "(I)I" } : Jvm.MethodName) prog_1_method_13_code 2 (Option.some Jvm.ClassFile.FieldType.int) : Cond) ∈ GW := gw_of (i := 550) (by decide +kernel) rfl
theorem g_532 : (.methodLink "PileHeirs" 100 ({ cls := "PileHeirs$Trace", name := "latest", desc := "(I)I" } : Jvm.MethodName) : Cond) ∈ GW := gw_of (i := 551) (by decide +kernel) rfl
theorem g_533 : (.instanceMethod ({ cls := "PileHeirs$Trace", name := "latest", desc := "(I)I" } : Jvm.MethodName) : Cond) ∈ GW := gw_of (i := 552) (by decide +kernel) rfl
theorem g_534 : (.selects "PileHeirs$Trace" ({ cls := "PileHeirs$Trace", name := "latest", desc := "(I)I" } : Jvm.MethodName) ({ cls := "PileHeirs$Trace", name := "latest", desc := "(I)I" } : Jvm.MethodName) : Cond) ∈ GW := gw_of (i := 553) (by decide +kernel) rfl
theorem g_535 : (.code ({ cls := "PileHeirs$Trace", name := "latest", desc := "(I)I" } : Jvm.MethodName) prog_10_method_3_code 3 (Option.some Jvm.ClassFile.FieldType.int) : Cond) ∈ GW := gw_of (i := 554) (by decide +kernel) rfl
theorem g_536 : (.methodLink "PileHeirsLaw" 81 ({ cls := "PileHeirs", name := "count", desc := "(I)I" } : Jvm.MethodName) : Cond) ∈ GW := gw_of (i := 555) (by decide +kernel) rfl
theorem g_537 : (.instanceMethod ({ cls := "PileHeirs", name := "count", desc := "(I)I" } : Jvm.MethodName) : Cond) ∈ GW := gw_of (i := 556) (by decide +kernel) rfl
theorem g_538 : (.selects "PileHeirs" ({ cls := "PileHeirs", name := "count", desc := "(I)I" } : Jvm.MethodName) ({ cls := "PileHeirs", name := "count", desc := "(I)I" } : Jvm.MethodName) : Cond) ∈ GW := gw_of (i := 557) (by decide +kernel) rfl
theorem g_539 : (.code ({ cls := "PileHeirs", name := "count", desc := "(I)I" } : Jvm.MethodName) prog_1_method_14_code 2 (Option.some Jvm.ClassFile.FieldType.int) : Cond) ∈ GW := gw_of (i := 558) (by decide +kernel) rfl
theorem g_540 : (.methodLink "PileHeirs" 103 ({ cls := "PileHeirs$Timbers", name := "howMany", desc := "()I" } : Jvm.MethodName) : Cond) ∈ GW := gw_of (i := 559) (by decide +kernel) rfl
theorem g_541 : (.instanceMethod ({ cls := "PileHeirs$Timbers", name := "howMany", desc := "()I" } : Jvm.MethodName) : Cond) ∈ GW := gw_of (i := 560) (by decide +kernel) rfl
theorem g_542 : (.selects "PileHeirs$Timbers" ({ cls := "PileHeirs$Timbers", name := "howMany", desc := "()I" } : Jvm.MethodName) ({ cls := "PileHeirs$Timbers", name := "howMany", desc := "()I" } : Jvm.MethodName) : Cond) ∈ GW := gw_of (i := 561) (by decide +kernel) rfl
theorem g_543 : (.code ({ cls := "PileHeirs$Timbers", name := "howMany", desc := "()I" } : Jvm.MethodName) prog_9_method_4_code 1 (Option.some Jvm.ClassFile.FieldType.int) : Cond) ∈ GW := gw_of (i := 562) (by decide +kernel) rfl
theorem g_544 : (.methodLink "PileHeirs" 106 ({ cls := "PileHeirs$Trace", name := "rulesEver", desc := "()I" } : Jvm.MethodName) : Cond) ∈ GW := gw_of (i := 563) (by decide +kernel) rfl
theorem g_545 : (.instanceMethod ({ cls := "PileHeirs$Trace", name := "rulesEver", desc := "()I" } : Jvm.MethodName) : Cond) ∈ GW := gw_of (i := 564) (by decide +kernel) rfl
theorem g_546 : (.selects "PileHeirs$Trace" ({ cls := "PileHeirs$Trace", name := "rulesEver", desc := "()I" } : Jvm.MethodName) ({ cls := "PileHeirs$Trace", name := "rulesEver", desc := "()I" } : Jvm.MethodName) : Cond) ∈ GW := gw_of (i := 565) (by decide +kernel) rfl
theorem g_547 : (.code ({ cls := "PileHeirs$Trace", name := "rulesEver", desc := "()I" } : Jvm.MethodName) prog_10_method_6_code 1 (Option.some Jvm.ClassFile.FieldType.int) : Cond) ∈ GW := gw_of (i := 566) (by decide +kernel) rfl
theorem g_548 : (.methodLink "PileHeirs" 109 ({ cls := "PileHeirs$Trace", name := "heavyEver", desc := "()I" } : Jvm.MethodName) : Cond) ∈ GW := gw_of (i := 567) (by decide +kernel) rfl
theorem g_549 : (.instanceMethod ({ cls := "PileHeirs$Trace", name := "heavyEver", desc := "()I" } : Jvm.MethodName) : Cond) ∈ GW := gw_of (i := 568) (by decide +kernel) rfl
theorem g_550 : (.selects "PileHeirs$Trace" ({ cls := "PileHeirs$Trace", name := "heavyEver", desc := "()I" } : Jvm.MethodName) ({ cls := "PileHeirs$Trace", name := "heavyEver", desc := "()I" } : Jvm.MethodName) : Cond) ∈ GW := gw_of (i := 569) (by decide +kernel) rfl
theorem g_551 : (.code ({ cls := "PileHeirs$Trace", name := "heavyEver", desc := "()I" } : Jvm.MethodName) prog_10_method_7_code 1 (Option.some Jvm.ClassFile.FieldType.int) : Cond) ∈ GW := gw_of (i := 570) (by decide +kernel) rfl
theorem g_552 : (.methodLink "PileHeirs" 112 ({ cls := "PileHeirs$Trace", name := "nothingEver", desc := "()I" } : Jvm.MethodName) : Cond) ∈ GW := gw_of (i := 571) (by decide +kernel) rfl
theorem g_553 : (.instanceMethod ({ cls := "PileHeirs$Trace", name := "nothingEver", desc := "()I" } : Jvm.MethodName) : Cond) ∈ GW := gw_of (i := 572) (by decide +kernel) rfl
theorem g_554 : (.selects "PileHeirs$Trace" ({ cls := "PileHeirs$Trace", name := "nothingEver", desc := "()I" } : Jvm.MethodName) ({ cls := "PileHeirs$Trace", name := "nothingEver", desc := "()I" } : Jvm.MethodName) : Cond) ∈ GW := gw_of (i := 573) (by decide +kernel) rfl
theorem g_555 : (.code ({ cls := "PileHeirs$Trace", name := "nothingEver", desc := "()I" } : Jvm.MethodName) prog_10_method_8_code 1 (Option.some Jvm.ClassFile.FieldType.int) : Cond) ∈ GW := gw_of (i := 574) (by decide +kernel) rfl
theorem g_556 : (.methodLink "PileHeirsLaw" 35 ({ cls := "PileHeirsLaw", name := "put", desc := "(LPileHeirs;II[J)I" } : Jvm.MethodName) : Cond) ∈ GW := gw_of (i := 575) (by decide +kernel) rfl
theorem g_557 : (.static ({ cls := "PileHeirsLaw", name := "put", desc := "(LPileHeirs;II[J)I" } : Jvm.MethodName) : Cond) ∈ GW := gw_of (i := 576) (by decide +kernel) rfl
theorem g_559 : (.classLink "PileHeirsLaw" 13 "java/lang/UnsupportedOperationException" : Cond) ∈ GW := gw_of (i := 578) (by decide +kernel) rfl
theorem g_560 : (.methodLink "PileHeirsLaw" 7 ({ cls := "PileHeirs", name := "put", desc := "(II)I" } : Jvm.MethodName) : Cond) ∈ GW := gw_of (i := 579) (by decide +kernel) rfl
theorem g_561 : (.instanceMethod ({ cls := "PileHeirs", name := "put", desc := "(II)I" } : Jvm.MethodName) : Cond) ∈ GW := gw_of (i := 580) (by decide +kernel) rfl
theorem g_562 : (.selects "PileHeirs" ({ cls := "PileHeirs", name := "put", desc := "(II)I" } : Jvm.MethodName) ({ cls := "PileHeirs", name := "put", desc := "(II)I" } : Jvm.MethodName) : Cond) ∈ GW := gw_of (i := 581) (by decide +kernel) rfl
theorem g_563 : (.code ({ cls := "PileHeirs", name := "put", desc := "(II)I" } : Jvm.MethodName) prog_1_method_4_code 5 (Option.some Jvm.ClassFile.FieldType.int) : Cond) ∈ GW := gw_of (i := 582) (by decide +kernel) rfl
theorem g_564 : (.classLink "PileHeirs" 59 "java/lang/UnsupportedOperationException" : Cond) ∈ GW := gw_of (i := 583) (by decide +kernel) rfl
theorem g_565 : (.instantiable "java/lang/UnsupportedOperationException" 6 : Cond) ∈ GW := gw_of (i := 584) (by decide +kernel) rfl
theorem g_573 : (.selects "java/lang/UnsupportedOperationException" ({ cls := "java/lang/Throwable", name := "fillInStackTrace", desc := "(I)Ljava/lang/Throwable;" } : Jvm.MethodName) ({ cls := "java/lang/Throwable", name := "fillInStackTrace", desc := "(I)Ljava/lang/Throwable;" } : Jvm.MethodName) : Cond) ∈ GW := gw_of (i := 592) (by decide +kernel) rfl
theorem g_574 : (.selects "java/lang/UnsupportedOperationException" ({ cls := "java/lang/Throwable", name := "fillInStackTrace", desc := "()Ljava/lang/Throwable;" } : Jvm.MethodName) ({ cls := "java/lang/Throwable", name := "fillInStackTrace", desc := "()Ljava/lang/Throwable;" } : Jvm.MethodName) : Cond) ∈ GW := gw_of (i := 593) (by decide +kernel) rfl
theorem g_575 : (.lays "java/lang/UnsupportedOperationException" "java/lang/Throwable" "cause" "Ljava/lang/Throwable;" : Cond) ∈ GW := gw_of (i := 594) (by decide +kernel) rfl
theorem g_576 : (.lays "java/lang/Throwable" "java/lang/Throwable" "cause" "Ljava/lang/Throwable;" : Cond) ∈ GW := gw_of (i := 595) (by decide +kernel) rfl
theorem g_577 : (.lays "java/lang/UnsupportedOperationException" "java/lang/Throwable" "stackTrace" "[Ljava/lang/StackTraceElement;" : Cond) ∈ GW := gw_of (i := 596) (by decide +kernel) rfl
theorem g_578 : (.lays "java/lang/Throwable" "java/lang/Throwable" "stackTrace" "[Ljava/lang/StackTraceElement;" : Cond) ∈ GW := gw_of (i := 597) (by decide +kernel) rfl
theorem g_579 : (.lays "java/lang/UnsupportedOperationException" "java/lang/Throwable" "suppressedExceptions" "Ljava/util/List;" : Cond) ∈ GW := gw_of (i := 598) (by decide +kernel) rfl
theorem g_580 : (.lays "java/lang/Throwable" "java/lang/Throwable" "suppressedExceptions" "Ljava/util/List;" : Cond) ∈ GW := gw_of (i := 599) (by decide +kernel) rfl
theorem g_581 : (.lays "java/lang/UnsupportedOperationException" "java/lang/Throwable" "detailMessage" "Ljava/lang/String;" : Cond) ∈ GW := gw_of (i := 600) (by decide +kernel) rfl
theorem g_582 : (.lays "java/lang/Throwable" "java/lang/Throwable" "detailMessage" "Ljava/lang/String;" : Cond) ∈ GW := gw_of (i := 601) (by decide +kernel) rfl
theorem g_583 : (.lays "java/lang/UnsupportedOperationException" "java/lang/Throwable" "backtrace" "Ljava/lang/Object;" : Cond) ∈ GW := gw_of (i := 602) (by decide +kernel) rfl
theorem g_584 : (.lays "java/lang/Throwable" "java/lang/Throwable" "backtrace" "Ljava/lang/Object;" : Cond) ∈ GW := gw_of (i := 603) (by decide +kernel) rfl
theorem g_585 : (.fieldLink "java/lang/Throwable" 198 "java/lang/Throwable" "backtrace" "Ljava/lang/Object;" : Cond) ∈ GW := gw_of (i := 604) (by decide +kernel) rfl
theorem g_586 : (.superclass "java/lang/Throwable" "java/lang/Object" : Cond) ∈ GW := gw_of (i := 605) (by decide +kernel) rfl
theorem g_587 : (.instanceMethod ({ cls := "java/lang/Throwable", name := "<init>", desc := "()V" } : Jvm.MethodName) : Cond) ∈ GW := gw_of (i := 606) (by decide +kernel) rfl
theorem g_588 : (.code ({ cls := "java/lang/Throwable", name := "<init>", desc := "()V" } : Jvm.MethodName) prog_19_method_1_code 1 (Option.none : Option Jvm.ClassFile.FieldType) : Cond) ∈ GW := gw_of (i := 607) (by decide +kernel) rfl
theorem g_589 : (.methodLink "java/lang/Throwable" 1 ({ cls := "java/lang/Object", name := "<init>", desc := "()V" } : Jvm.MethodName) : Cond) ∈ GW := gw_of (i := 608) (by decide +kernel) rfl
theorem g_590 : (.fieldLink "java/lang/Throwable" 13 "java/lang/Throwable" "UNASSIGNED_STACK" "[Ljava/lang/StackTraceElement;" : Cond) ∈ GW := gw_of (i := 609) (by decide +kernel) rfl
theorem g_592 : (.fieldLink "java/lang/Throwable" 20 "java/lang/Throwable" "SUPPRESSED_SENTINEL" "Ljava/util/List;" : Cond) ∈ GW := gw_of (i := 611) (by decide +kernel) rfl
theorem g_594 : (.methodLink "java/lang/Throwable" 27 ({ cls := "java/lang/Throwable", name := "fillInStackTrace", desc := "()Ljava/lang/Throwable;" } : Jvm.MethodName) : Cond) ∈ GW := gw_of (i := 613) (by decide +kernel) rfl
theorem g_595 : (.instanceMethod ({ cls := "java/lang/Throwable", name := "fillInStackTrace", desc := "()Ljava/lang/Throwable;" } : Jvm.MethodName) : Cond) ∈ GW := gw_of (i := 614) (by decide +kernel) rfl
theorem g_596 : (.sameMethod "java/lang/Throwable" "java/lang/Throwable" "fillInStackTrace" "()Ljava/lang/Throwable;" : Cond) ∈ GW := gw_of (i := 615) (by decide +kernel) rfl
theorem g_597 : (.selects "java/lang/NullPointerException" ({ cls := "java/lang/Throwable", name := "fillInStackTrace", desc := "()Ljava/lang/Throwable;" } : Jvm.MethodName) ({ cls := "java/lang/NullPointerException", name := "fillInStackTrace", desc := "()Ljava/lang/Throwable;" } : Jvm.MethodName) : Cond) ∈ GW := gw_of (i := 616) (by decide +kernel) rfl
theorem g_598 : (.instanceMethod ({ cls := "java/lang/NullPointerException", name := "fillInStackTrace", desc := "()Ljava/lang/Throwable;" } : Jvm.MethodName) : Cond) ∈ GW := gw_of (i := 617) (by decide +kernel) rfl
theorem g_600 : (.methodLink "java/lang/NullPointerException" 16 ({ cls := "java/lang/NullPointerException", name := "getExtendedNPEMessage", desc := "()Ljava/lang/String;" } : Jvm.MethodName) : Cond) ∈ GW := gw_of (i := 619) (by decide +kernel) rfl
theorem g_602 : (.instanceMethod ({ cls := "java/lang/NullPointerException", name := "getExtendedNPEMessage", desc := "()Ljava/lang/String;" } : Jvm.MethodName) : Cond) ∈ GW := gw_of (i := 621) (by decide +kernel) rfl
theorem g_603 : (.instantiable "java/lang/NullPointerException" 8 : Cond) ∈ GW := gw_of (i := 622) (by decide +kernel) rfl
theorem g_605 : (.methodLink "java/lang/NullPointerException" 24 ({ cls := "java/lang/RuntimeException", name := "fillInStackTrace", desc := "()Ljava/lang/Throwable;" } : Jvm.MethodName) : Cond) ∈ GW := gw_of (i := 624) (by decide +kernel) rfl
theorem g_606 : (.sameMethod "java/lang/RuntimeException" "java/lang/Throwable" "fillInStackTrace" "()Ljava/lang/Throwable;" : Cond) ∈ GW := gw_of (i := 625) (by decide +kernel) rfl
theorem g_609 : (.methodLink "java/lang/Throwable" 202 ({ cls := "java/lang/Throwable", name := "fillInStackTrace", desc := "(I)Ljava/lang/Throwable;" } : Jvm.MethodName) : Cond) ∈ GW := gw_of (i := 628) (by decide +kernel) rfl
theorem g_611 : (.instanceMethod ({ cls := "java/lang/Throwable", name := "fillInStackTrace", desc := "(I)Ljava/lang/Throwable;" } : Jvm.MethodName) : Cond) ∈ GW := gw_of (i := 630) (by decide +kernel) rfl
theorem g_612 : (.instantiable "java/lang/Throwable" 6 : Cond) ∈ GW := gw_of (i := 631) (by decide +kernel) rfl
theorem g_615 : (.methodLink "PileHeirs" 63 ({ cls := "java/lang/UnsupportedOperationException", name := "<init>", desc := "(Ljava/lang/String;)V" } : Jvm.MethodName) : Cond) ∈ GW := gw_of (i := 634) (by decide +kernel) rfl
theorem g_616 : (.instanceMethod ({ cls := "java/lang/UnsupportedOperationException", name := "<init>", desc := "(Ljava/lang/String;)V" } : Jvm.MethodName) : Cond) ∈ GW := gw_of (i := 635) (by decide +kernel) rfl
theorem g_617 : (.code ({ cls := "java/lang/UnsupportedOperationException", name := "<init>", desc := "(Ljava/lang/String;)V" } : Jvm.MethodName) prog_20_method_2_code 2 (Option.none : Option Jvm.ClassFile.FieldType) : Cond) ∈ GW := gw_of (i := 636) (by decide +kernel) rfl
theorem g_618 : (.methodLink "java/lang/UnsupportedOperationException" 7 ({ cls := "java/lang/RuntimeException", name := "<init>", desc := "(Ljava/lang/String;)V" } : Jvm.MethodName) : Cond) ∈ GW := gw_of (i := 637) (by decide +kernel) rfl
theorem g_619 : (.instanceMethod ({ cls := "java/lang/RuntimeException", name := "<init>", desc := "(Ljava/lang/String;)V" } : Jvm.MethodName) : Cond) ∈ GW := gw_of (i := 638) (by decide +kernel) rfl
theorem g_620 : (.code ({ cls := "java/lang/RuntimeException", name := "<init>", desc := "(Ljava/lang/String;)V" } : Jvm.MethodName) prog_17_method_2_code 2 (Option.none : Option Jvm.ClassFile.FieldType) : Cond) ∈ GW := gw_of (i := 639) (by decide +kernel) rfl
theorem g_621 : (.methodLink "java/lang/RuntimeException" 7 ({ cls := "java/lang/Exception", name := "<init>", desc := "(Ljava/lang/String;)V" } : Jvm.MethodName) : Cond) ∈ GW := gw_of (i := 640) (by decide +kernel) rfl
theorem g_622 : (.instanceMethod ({ cls := "java/lang/Exception", name := "<init>", desc := "(Ljava/lang/String;)V" } : Jvm.MethodName) : Cond) ∈ GW := gw_of (i := 641) (by decide +kernel) rfl
theorem g_623 : (.code ({ cls := "java/lang/Exception", name := "<init>", desc := "(Ljava/lang/String;)V" } : Jvm.MethodName) prog_14_method_2_code 2 (Option.none : Option Jvm.ClassFile.FieldType) : Cond) ∈ GW := gw_of (i := 642) (by decide +kernel) rfl
theorem g_624 : (.methodLink "java/lang/Exception" 7 ({ cls := "java/lang/Throwable", name := "<init>", desc := "(Ljava/lang/String;)V" } : Jvm.MethodName) : Cond) ∈ GW := gw_of (i := 643) (by decide +kernel) rfl
theorem g_625 : (.instanceMethod ({ cls := "java/lang/Throwable", name := "<init>", desc := "(Ljava/lang/String;)V" } : Jvm.MethodName) : Cond) ∈ GW := gw_of (i := 644) (by decide +kernel) rfl
theorem g_626 : (.code ({ cls := "java/lang/Throwable", name := "<init>", desc := "(Ljava/lang/String;)V" } : Jvm.MethodName) prog_19_method_2_code 2 (Option.none : Option Jvm.ClassFile.FieldType) : Cond) ∈ GW := gw_of (i := 645) (by decide +kernel) rfl
theorem g_627 : (.fieldLink "java/lang/Throwable" 198 "java/lang/Throwable" "backtrace" "Ljava/lang/Object;" : Cond) ∈ GW := gw_of (i := 646) (by decide +kernel) rfl
theorem g_628 : (.fieldLink "java/lang/Throwable" 31 "java/lang/Throwable" "detailMessage" "Ljava/lang/String;" : Cond) ∈ GW := gw_of (i := 647) (by decide +kernel) rfl
theorem g_629 : (.fieldLink "java/lang/Throwable" 7 "java/lang/Throwable" "cause" "Ljava/lang/Throwable;" : Cond) ∈ GW := gw_of (i := 648) (by decide +kernel) rfl
theorem g_630 : (.fieldLink "java/lang/Throwable" 17 "java/lang/Throwable" "stackTrace" "[Ljava/lang/StackTraceElement;" : Cond) ∈ GW := gw_of (i := 649) (by decide +kernel) rfl
theorem g_631 : (.fieldLink "java/lang/Throwable" 24 "java/lang/Throwable" "suppressedExceptions" "Ljava/util/List;" : Cond) ∈ GW := gw_of (i := 650) (by decide +kernel) rfl
theorem g_636 : (.lays "java/lang/UnsupportedOperationException" "java/lang/Throwable" "depth" "I" : Cond) ∈ GW := gw_of (i := 655) (by decide +kernel) rfl
theorem g_639 : (.superclass "java/lang/UnsupportedOperationException" "java/lang/RuntimeException" : Cond) ∈ GW := gw_of (i := 658) (by decide +kernel) rfl
theorem g_640 : (.arrayClass Jvm.ClassFile.FieldType.byte : Cond) ∈ GW := gw_of (i := 659) (by decide +kernel) rfl
theorem g_641 : (.methodLink "PileHeirsLaw" 45 ({ cls := "PileHeirsLaw", name := "take", desc := "(LPileHeirs;I[J)I" } : Jvm.MethodName) : Cond) ∈ GW := gw_of (i := 660) (by decide +kernel) rfl
theorem g_642 : (.static ({ cls := "PileHeirsLaw", name := "take", desc := "(LPileHeirs;I[J)I" } : Jvm.MethodName) : Cond) ∈ GW := gw_of (i := 661) (by decide +kernel) rfl
theorem g_644 : (.classLink "PileHeirsLaw" 19 "java/lang/NullPointerException" : Cond) ∈ GW := gw_of (i := 663) (by decide +kernel) rfl
theorem g_645 : (.instanceMethod ({ cls := "java/lang/NullPointerException", name := "<init>", desc := "()V" } : Jvm.MethodName) : Cond) ∈ GW := gw_of (i := 664) (by decide +kernel) rfl
theorem g_646 : (.code ({ cls := "java/lang/NullPointerException", name := "<init>", desc := "()V" } : Jvm.MethodName) prog_16_method_1_code 1 (Option.none : Option Jvm.ClassFile.FieldType) : Cond) ∈ GW := gw_of (i := 665) (by decide +kernel) rfl
theorem g_647 : (.methodLink "java/lang/NullPointerException" 1 ({ cls := "java/lang/RuntimeException", name := "<init>", desc := "()V" } : Jvm.MethodName) : Cond) ∈ GW := gw_of (i := 666) (by decide +kernel) rfl
theorem g_648 : (.instanceMethod ({ cls := "java/lang/RuntimeException", name := "<init>", desc := "()V" } : Jvm.MethodName) : Cond) ∈ GW := gw_of (i := 667) (by decide +kernel) rfl
theorem g_649 : (.code ({ cls := "java/lang/RuntimeException", name := "<init>", desc := "()V" } : Jvm.MethodName) prog_17_method_1_code 1 (Option.none : Option Jvm.ClassFile.FieldType) : Cond) ∈ GW := gw_of (i := 668) (by decide +kernel) rfl
theorem g_650 : (.methodLink "java/lang/RuntimeException" 1 ({ cls := "java/lang/Exception", name := "<init>", desc := "()V" } : Jvm.MethodName) : Cond) ∈ GW := gw_of (i := 669) (by decide +kernel) rfl
theorem g_651 : (.instanceMethod ({ cls := "java/lang/Exception", name := "<init>", desc := "()V" } : Jvm.MethodName) : Cond) ∈ GW := gw_of (i := 670) (by decide +kernel) rfl
theorem g_652 : (.code ({ cls := "java/lang/Exception", name := "<init>", desc := "()V" } : Jvm.MethodName) prog_14_method_1_code 1 (Option.none : Option Jvm.ClassFile.FieldType) : Cond) ∈ GW := gw_of (i := 671) (by decide +kernel) rfl
theorem g_653 : (.methodLink "java/lang/Exception" 1 ({ cls := "java/lang/Throwable", name := "<init>", desc := "()V" } : Jvm.MethodName) : Cond) ∈ GW := gw_of (i := 672) (by decide +kernel) rfl
theorem g_654 : (.fieldLink "java/lang/NullPointerException" 10 "java/lang/NullPointerException" "extendedMessageState" "I" : Cond) ∈ GW := gw_of (i := 673) (by decide +kernel) rfl
theorem g_655 : (.fieldLink "java/lang/NullPointerException" 20 "java/lang/NullPointerException" "extendedMessage" "Ljava/lang/String;" : Cond) ∈ GW := gw_of (i := 674) (by decide +kernel) rfl
theorem g_656 : (.lays "java/lang/NullPointerException" "java/lang/NullPointerException" "extendedMessageState" "I" : Cond) ∈ GW := gw_of (i := 675) (by decide +kernel) rfl
theorem g_658 : (.lays "java/lang/NullPointerException" "java/lang/NullPointerException" "extendedMessage" "Ljava/lang/String;" : Cond) ∈ GW := gw_of (i := 677) (by decide +kernel) rfl
theorem g_660 : (.lays "java/lang/NullPointerException" "java/lang/Throwable" "backtrace" "Ljava/lang/Object;" : Cond) ∈ GW := gw_of (i := 679) (by decide +kernel) rfl
theorem g_661 : (.lays "java/lang/NullPointerException" "java/lang/Throwable" "detailMessage" "Ljava/lang/String;" : Cond) ∈ GW := gw_of (i := 680) (by decide +kernel) rfl
theorem g_662 : (.lays "java/lang/NullPointerException" "java/lang/Throwable" "cause" "Ljava/lang/Throwable;" : Cond) ∈ GW := gw_of (i := 681) (by decide +kernel) rfl
theorem g_663 : (.lays "java/lang/NullPointerException" "java/lang/Throwable" "stackTrace" "[Ljava/lang/StackTraceElement;" : Cond) ∈ GW := gw_of (i := 682) (by decide +kernel) rfl
theorem g_664 : (.lays "java/lang/NullPointerException" "java/lang/Throwable" "depth" "I" : Cond) ∈ GW := gw_of (i := 683) (by decide +kernel) rfl
theorem g_665 : (.lays "java/lang/NullPointerException" "java/lang/Throwable" "suppressedExceptions" "Ljava/util/List;" : Cond) ∈ GW := gw_of (i := 684) (by decide +kernel) rfl
theorem g_666 : (.superclass "java/lang/NullPointerException" "java/lang/RuntimeException" : Cond) ∈ GW := gw_of (i := 685) (by decide +kernel) rfl
theorem g_668 : (.selects "java/lang/NullPointerException" ({ cls := "java/lang/Throwable", name := "fillInStackTrace", desc := "(I)Ljava/lang/Throwable;" } : Jvm.MethodName) ({ cls := "java/lang/Throwable", name := "fillInStackTrace", desc := "(I)Ljava/lang/Throwable;" } : Jvm.MethodName) : Cond) ∈ GW := gw_of (i := 687) (by decide +kernel) rfl
theorem g_670 : (.methodLink "PileHeirsLaw" 15 ({ cls := "PileHeirs", name := "take", desc := "(I)I" } : Jvm.MethodName) : Cond) ∈ GW := gw_of (i := 689) (by decide +kernel) rfl
theorem g_671 : (.instanceMethod ({ cls := "PileHeirs", name := "take", desc := "(I)I" } : Jvm.MethodName) : Cond) ∈ GW := gw_of (i := 690) (by decide +kernel) rfl
theorem g_672 : (.selects "PileHeirs" ({ cls := "PileHeirs", name := "take", desc := "(I)I" } : Jvm.MethodName) ({ cls := "PileHeirs", name := "take", desc := "(I)I" } : Jvm.MethodName) : Cond) ∈ GW := gw_of (i := 691) (by decide +kernel) rfl
theorem g_673 : (.code ({ cls := "PileHeirs", name := "take", desc := "(I)I" } : Jvm.MethodName) prog_1_method_5_code 4 (Option.some Jvm.ClassFile.FieldType.int) : Cond) ∈ GW := gw_of (i := 692) (by decide +kernel) rfl
theorem g_674 : (.classLink "PileHeirs" 70 "java/lang/NullPointerException" : Cond) ∈ GW := gw_of (i := 693) (by decide +kernel) rfl
theorem g_676 : (.methodLink "PileHeirs" 74 ({ cls := "java/lang/NullPointerException", name := "<init>", desc := "(Ljava/lang/String;)V" } : Jvm.MethodName) : Cond) ∈ GW := gw_of (i := 695) (by decide +kernel) rfl
theorem g_677 : (.instanceMethod ({ cls := "java/lang/NullPointerException", name := "<init>", desc := "(Ljava/lang/String;)V" } : Jvm.MethodName) : Cond) ∈ GW := gw_of (i := 696) (by decide +kernel) rfl
theorem g_678 : (.code ({ cls := "java/lang/NullPointerException", name := "<init>", desc := "(Ljava/lang/String;)V" } : Jvm.MethodName) prog_16_method_2_code 2 (Option.none : Option Jvm.ClassFile.FieldType) : Cond) ∈ GW := gw_of (i := 697) (by decide +kernel) rfl
theorem g_679 : (.methodLink "java/lang/NullPointerException" 7 ({ cls := "java/lang/RuntimeException", name := "<init>", desc := "(Ljava/lang/String;)V" } : Jvm.MethodName) : Cond) ∈ GW := gw_of (i := 698) (by decide +kernel) rfl
theorem g_680 : (.classLink "PileHeirsLaw" 22 "PileHeirsModel" : Cond) ∈ GW := gw_of (i := 699) (by decide +kernel) rfl
theorem g_681 : (.instantiable "PileHeirsModel" 17 : Cond) ∈ GW := gw_of (i := 700) (by decide +kernel) rfl
theorem g_682 : (.methodLink "PileHeirsLaw" 24 ({ cls := "PileHeirsModel", name := "<init>", desc := "()V" } : Jvm.MethodName) : Cond) ∈ GW := gw_of (i := 701) (by decide +kernel) rfl
theorem g_683 : (.instanceMethod ({ cls := "PileHeirsModel", name := "<init>", desc := "()V" } : Jvm.MethodName) : Cond) ∈ GW := gw_of (i := 702) (by decide +kernel) rfl
theorem g_684 : (.code ({ cls := "PileHeirsModel", name := "<init>", desc := "()V" } : Jvm.MethodName) prog_13_method_1_code 1 (Option.none : Option Jvm.ClassFile.FieldType) : Cond) ∈ GW := gw_of (i := 703) (by decide +kernel) rfl
theorem g_685 : (.methodLink "PileHeirsModel" 1 ({ cls := "java/lang/Object", name := "<init>", desc := "()V" } : Jvm.MethodName) : Cond) ∈ GW := gw_of (i := 704) (by decide +kernel) rfl
theorem g_686 : (.fieldLink "PileHeirsModel" 41 "PileHeirsModel" "code" "I" : Cond) ∈ GW := gw_of (i := 705) (by decide +kernel) rfl
theorem g_687 : (.fieldLink "PileHeirsModel" 45 "PileHeirsModel" "timbers" "I" : Cond) ∈ GW := gw_of (i := 706) (by decide +kernel) rfl
theorem g_688 : (.fieldLink "PileHeirsModel" 7 "PileHeirsModel" "lengths" "[I" : Cond) ∈ GW := gw_of (i := 707) (by decide +kernel) rfl
theorem g_689 : (.fieldLink "PileHeirsModel" 13 "PileHeirsModel" "weights" "[I" : Cond) ∈ GW := gw_of (i := 708) (by decide +kernel) rfl
theorem g_690 : (.fieldLink "PileHeirsModel" 16 "PileHeirsModel" "wet" "[Z" : Cond) ∈ GW := gw_of (i := 709) (by decide +kernel) rfl
theorem g_691 : (.fieldLink "PileHeirsModel" 20 "PileHeirsModel" "lies" "[I" : Cond) ∈ GW := gw_of (i := 710) (by decide +kernel) rfl
theorem g_692 : (.fieldLink "PileHeirsModel" 52 "PileHeirsModel" "piles" "I" : Cond) ∈ GW := gw_of (i := 711) (by decide +kernel) rfl
theorem g_693 : (.fieldLink "PileHeirsModel" 23 "PileHeirsModel" "kinds" "[I" : Cond) ∈ GW := gw_of (i := 712) (by decide +kernel) rfl
theorem g_694 : (.fieldLink "PileHeirsModel" 26 "PileHeirsModel" "caps" "[I" : Cond) ∈ GW := gw_of (i := 713) (by decide +kernel) rfl
theorem g_695 : (.fieldLink "PileHeirsModel" 29 "PileHeirsModel" "limits" "[I" : Cond) ∈ GW := gw_of (i := 714) (by decide +kernel) rfl
theorem g_696 : (.fieldLink "PileHeirsModel" 32 "PileHeirsModel" "many" "[I" : Cond) ∈ GW := gw_of (i := 715) (by decide +kernel) rfl
theorem g_697 : (.fieldLink "PileHeirsModel" 35 "PileHeirsModel" "rows" "[I" : Cond) ∈ GW := gw_of (i := 716) (by decide +kernel) rfl
theorem g_698 : (.fieldLink "PileHeirsModel" 38 "PileHeirsModel" "trace" "[I" : Cond) ∈ GW := gw_of (i := 717) (by decide +kernel) rfl
theorem g_699 : (.fieldLink "PileHeirsModel" 55 "PileHeirsModel" "done" "I" : Cond) ∈ GW := gw_of (i := 718) (by decide +kernel) rfl
theorem g_700 : (.fieldLink "PileHeirsModel" 74 "PileHeirsModel" "heavies" "I" : Cond) ∈ GW := gw_of (i := 719) (by decide +kernel) rfl
theorem g_701 : (.fieldLink "PileHeirsModel" 93 "PileHeirsModel" "nothings" "I" : Cond) ∈ GW := gw_of (i := 720) (by decide +kernel) rfl
theorem g_702 : (.fieldLink "PileHeirsModel" 66 "PileHeirsModel" "ended" "Z" : Cond) ∈ GW := gw_of (i := 721) (by decide +kernel) rfl
theorem g_703 : (.lays "PileHeirsModel" "PileHeirsModel" "code" "I" : Cond) ∈ GW := gw_of (i := 722) (by decide +kernel) rfl
theorem g_705 : (.lays "PileHeirsModel" "PileHeirsModel" "timbers" "I" : Cond) ∈ GW := gw_of (i := 724) (by decide +kernel) rfl
theorem g_707 : (.laysFinal "PileHeirsModel" "PileHeirsModel" "lengths" "[I" : Cond) ∈ GW := gw_of (i := 726) (by decide +kernel) rfl
theorem g_709 : (.laysFinal "PileHeirsModel" "PileHeirsModel" "weights" "[I" : Cond) ∈ GW := gw_of (i := 728) (by decide +kernel) rfl
theorem g_711 : (.laysFinal "PileHeirsModel" "PileHeirsModel" "wet" "[Z" : Cond) ∈ GW := gw_of (i := 730) (by decide +kernel) rfl
theorem g_713 : (.laysFinal "PileHeirsModel" "PileHeirsModel" "lies" "[I" : Cond) ∈ GW := gw_of (i := 732) (by decide +kernel) rfl
theorem g_715 : (.lays "PileHeirsModel" "PileHeirsModel" "piles" "I" : Cond) ∈ GW := gw_of (i := 734) (by decide +kernel) rfl
theorem g_717 : (.laysFinal "PileHeirsModel" "PileHeirsModel" "kinds" "[I" : Cond) ∈ GW := gw_of (i := 736) (by decide +kernel) rfl
theorem g_719 : (.laysFinal "PileHeirsModel" "PileHeirsModel" "caps" "[I" : Cond) ∈ GW := gw_of (i := 738) (by decide +kernel) rfl
theorem g_721 : (.laysFinal "PileHeirsModel" "PileHeirsModel" "limits" "[I" : Cond) ∈ GW := gw_of (i := 740) (by decide +kernel) rfl
theorem g_723 : (.laysFinal "PileHeirsModel" "PileHeirsModel" "many" "[I" : Cond) ∈ GW := gw_of (i := 742) (by decide +kernel) rfl
theorem g_725 : (.laysFinal "PileHeirsModel" "PileHeirsModel" "rows" "[I" : Cond) ∈ GW := gw_of (i := 744) (by decide +kernel) rfl
theorem g_727 : (.laysFinal "PileHeirsModel" "PileHeirsModel" "trace" "[I" : Cond) ∈ GW := gw_of (i := 746) (by decide +kernel) rfl
theorem g_729 : (.lays "PileHeirsModel" "PileHeirsModel" "done" "I" : Cond) ∈ GW := gw_of (i := 748) (by decide +kernel) rfl
theorem g_731 : (.lays "PileHeirsModel" "PileHeirsModel" "heavies" "I" : Cond) ∈ GW := gw_of (i := 750) (by decide +kernel) rfl
theorem g_733 : (.lays "PileHeirsModel" "PileHeirsModel" "nothings" "I" : Cond) ∈ GW := gw_of (i := 752) (by decide +kernel) rfl
theorem g_735 : (.lays "PileHeirsModel" "PileHeirsModel" "ended" "Z" : Cond) ∈ GW := gw_of (i := 754) (by decide +kernel) rfl
theorem g_737 : (.superclass "PileHeirsModel" "java/lang/Object" : Cond) ∈ GW := gw_of (i := 756) (by decide +kernel) rfl
theorem g_738 : (.methodLink "PileHeirsLaw" 41 ({ cls := "PileHeirsModel", name := "thrown", desc := "()I" } : Jvm.MethodName) : Cond) ∈ GW := gw_of (i := 757) (by decide +kernel) rfl
theorem g_739 : (.instanceMethod ({ cls := "PileHeirsModel", name := "thrown", desc := "()I" } : Jvm.MethodName) : Cond) ∈ GW := gw_of (i := 758) (by decide +kernel) rfl
theorem g_740 : (.selects "PileHeirsModel" ({ cls := "PileHeirsModel", name := "thrown", desc := "()I" } : Jvm.MethodName) ({ cls := "PileHeirsModel", name := "thrown", desc := "()I" } : Jvm.MethodName) : Cond) ∈ GW := gw_of (i := 759) (by decide +kernel) rfl
theorem g_741 : (.code ({ cls := "PileHeirsModel", name := "thrown", desc := "()I" } : Jvm.MethodName) prog_13_method_2_code 1 (Option.some Jvm.ClassFile.FieldType.int) : Cond) ∈ GW := gw_of (i := 760) (by decide +kernel) rfl
theorem g_742 : (.methodLink "PileHeirsLaw" 29 ({ cls := "PileHeirsModel", name := "timber", desc := "(IIZ)I" } : Jvm.MethodName) : Cond) ∈ GW := gw_of (i := 761) (by decide +kernel) rfl
theorem g_743 : (.instanceMethod ({ cls := "PileHeirsModel", name := "timber", desc := "(IIZ)I" } : Jvm.MethodName) : Cond) ∈ GW := gw_of (i := 762) (by decide +kernel) rfl
theorem g_744 : (.selects "PileHeirsModel" ({ cls := "PileHeirsModel", name := "timber", desc := "(IIZ)I" } : Jvm.MethodName) ({ cls := "PileHeirsModel", name := "timber", desc := "(IIZ)I" } : Jvm.MethodName) : Cond) ∈ GW := gw_of (i := 763) (by decide +kernel) rfl
theorem g_745 : (.code ({ cls := "PileHeirsModel", name := "timber", desc := "(IIZ)I" } : Jvm.MethodName) prog_13_method_7_code 4 (Option.some Jvm.ClassFile.FieldType.int) : Cond) ∈ GW := gw_of (i := 764) (by decide +kernel) rfl
theorem g_746 : (.methodLink "PileHeirsModel" 48 ({ cls := "PileHeirsModel", name := "isIn", desc := "(III)Z" } : Jvm.MethodName) : Cond) ∈ GW := gw_of (i := 765) (by decide +kernel) rfl
theorem g_747 : (.static ({ cls := "PileHeirsModel", name := "isIn", desc := "(III)Z" } : Jvm.MethodName) : Cond) ∈ GW := gw_of (i := 766) (by decide +kernel) rfl
theorem g_748 : (.code ({ cls := "PileHeirsModel", name := "isIn", desc := "(III)Z" } : Jvm.MethodName) prog_13_method_3_code 3 (Option.some Jvm.ClassFile.FieldType.boolean) : Cond) ∈ GW := gw_of (i := 767) (by decide +kernel) rfl
theorem g_749 : (.methodLink "PileHeirsLaw" 34 ({ cls := "PileHeirsModel", name := "pile", desc := "(III)I" } : Jvm.MethodName) : Cond) ∈ GW := gw_of (i := 768) (by decide +kernel) rfl
theorem g_750 : (.instanceMethod ({ cls := "PileHeirsModel", name := "pile", desc := "(III)I" } : Jvm.MethodName) : Cond) ∈ GW := gw_of (i := 769) (by decide +kernel) rfl
theorem g_751 : (.selects "PileHeirsModel" ({ cls := "PileHeirsModel", name := "pile", desc := "(III)I" } : Jvm.MethodName) ({ cls := "PileHeirsModel", name := "pile", desc := "(III)I" } : Jvm.MethodName) : Cond) ∈ GW := gw_of (i := 770) (by decide +kernel) rfl
theorem g_752 : (.code ({ cls := "PileHeirsModel", name := "pile", desc := "(III)I" } : Jvm.MethodName) prog_13_method_8_code 4 (Option.some Jvm.ClassFile.FieldType.int) : Cond) ∈ GW := gw_of (i := 771) (by decide +kernel) rfl
theorem g_753 : (.methodLink "PileHeirsLaw" 40 ({ cls := "PileHeirsModel", name := "put", desc := "(II)I" } : Jvm.MethodName) : Cond) ∈ GW := gw_of (i := 772) (by decide +kernel) rfl
theorem g_754 : (.instanceMethod ({ cls := "PileHeirsModel", name := "put", desc := "(II)I" } : Jvm.MethodName) : Cond) ∈ GW := gw_of (i := 773) (by decide +kernel) rfl
theorem g_755 : (.selects "PileHeirsModel" ({ cls := "PileHeirsModel", name := "put", desc := "(II)I" } : Jvm.MethodName) ({ cls := "PileHeirsModel", name := "put", desc := "(II)I" } : Jvm.MethodName) : Cond) ∈ GW := gw_of (i := 774) (by decide +kernel) rfl
theorem g_756 : (.code ({ cls := "PileHeirsModel", name := "put", desc := "(II)I" } : Jvm.MethodName) prog_13_method_13_code 4 (Option.some Jvm.ClassFile.FieldType.int) : Cond) ∈ GW := gw_of (i := 775) (by decide +kernel) rfl
theorem g_757 : (.methodLink "PileHeirsModel" 80 ({ cls := "PileHeirsModel", name := "isPile", desc := "(I)Z" } : Jvm.MethodName) : Cond) ∈ GW := gw_of (i := 776) (by decide +kernel) rfl
theorem g_759 : (.instanceMethod ({ cls := "PileHeirsModel", name := "isPile", desc := "(I)Z" } : Jvm.MethodName) : Cond) ∈ GW := gw_of (i := 778) (by decide +kernel) rfl
theorem g_760 : (.code ({ cls := "PileHeirsModel", name := "isPile", desc := "(I)Z" } : Jvm.MethodName) prog_13_method_5_code 2 (Option.some Jvm.ClassFile.FieldType.boolean) : Cond) ∈ GW := gw_of (i := 779) (by decide +kernel) rfl
theorem g_761 : (.methodLink "PileHeirsModel" 84 ({ cls := "PileHeirsModel", name := "isTimber", desc := "(I)Z" } : Jvm.MethodName) : Cond) ∈ GW := gw_of (i := 780) (by decide +kernel) rfl
theorem g_763 : (.instanceMethod ({ cls := "PileHeirsModel", name := "isTimber", desc := "(I)Z" } : Jvm.MethodName) : Cond) ∈ GW := gw_of (i := 782) (by decide +kernel) rfl
theorem g_764 : (.code ({ cls := "PileHeirsModel", name := "isTimber", desc := "(I)Z" } : Jvm.MethodName) prog_13_method_4_code 2 (Option.some Jvm.ClassFile.FieldType.boolean) : Cond) ∈ GW := gw_of (i := 783) (by decide +kernel) rfl
theorem g_765 : (.methodLink "PileHeirsModel" 87 ({ cls := "PileHeirsModel", name := "putOf", desc := "(II)Z" } : Jvm.MethodName) : Cond) ∈ GW := gw_of (i := 784) (by decide +kernel) rfl
theorem g_767 : (.instanceMethod ({ cls := "PileHeirsModel", name := "putOf", desc := "(II)Z" } : Jvm.MethodName) : Cond) ∈ GW := gw_of (i := 786) (by decide +kernel) rfl
theorem g_768 : (.code ({ cls := "PileHeirsModel", name := "putOf", desc := "(II)Z" } : Jvm.MethodName) prog_13_method_12_code 4 (Option.some Jvm.ClassFile.FieldType.boolean) : Cond) ∈ GW := gw_of (i := 787) (by decide +kernel) rfl
theorem g_769 : (.methodLink "PileHeirsModel" 58 ({ cls := "PileHeirsModel", name := "rule", desc := "(II)V" } : Jvm.MethodName) : Cond) ∈ GW := gw_of (i := 788) (by decide +kernel) rfl
theorem g_771 : (.instanceMethod ({ cls := "PileHeirsModel", name := "rule", desc := "(II)V" } : Jvm.MethodName) : Cond) ∈ GW := gw_of (i := 790) (by decide +kernel) rfl
theorem g_772 : (.code ({ cls := "PileHeirsModel", name := "rule", desc := "(II)V" } : Jvm.MethodName) prog_13_method_6_code 3 (Option.none : Option Jvm.ClassFile.FieldType) : Cond) ∈ GW := gw_of (i := 791) (by decide +kernel) rfl
theorem g_773 : (.methodLink "PileHeirsModel" 70 ({ cls := "PileHeirsModel", name := "loadOf", desc := "(I)I" } : Jvm.MethodName) : Cond) ∈ GW := gw_of (i := 792) (by decide +kernel) rfl
theorem g_775 : (.instanceMethod ({ cls := "PileHeirsModel", name := "loadOf", desc := "(I)I" } : Jvm.MethodName) : Cond) ∈ GW := gw_of (i := 794) (by decide +kernel) rfl
theorem g_776 : (.code ({ cls := "PileHeirsModel", name := "loadOf", desc := "(I)I" } : Jvm.MethodName) prog_13_method_9_code 7 (Option.some Jvm.ClassFile.FieldType.int) : Cond) ∈ GW := gw_of (i := 795) (by decide +kernel) rfl
theorem g_777 : (.methodLink "PileHeirsModel" 62 ({ cls := "PileHeirsModel", name := "putPlain", desc := "(II)Z" } : Jvm.MethodName) : Cond) ∈ GW := gw_of (i := 796) (by decide +kernel) rfl
theorem g_779 : (.instanceMethod ({ cls := "PileHeirsModel", name := "putPlain", desc := "(II)Z" } : Jvm.MethodName) : Cond) ∈ GW := gw_of (i := 798) (by decide +kernel) rfl
theorem g_780 : (.code ({ cls := "PileHeirsModel", name := "putPlain", desc := "(II)Z" } : Jvm.MethodName) prog_13_method_10_code 3 (Option.some Jvm.ClassFile.FieldType.boolean) : Cond) ∈ GW := gw_of (i := 799) (by decide +kernel) rfl
theorem g_781 : (.methodLink "PileHeirsModel" 77 ({ cls := "PileHeirsModel", name := "putSorted", desc := "(II)Z" } : Jvm.MethodName) : Cond) ∈ GW := gw_of (i := 800) (by decide +kernel) rfl
theorem g_783 : (.instanceMethod ({ cls := "PileHeirsModel", name := "putSorted", desc := "(II)Z" } : Jvm.MethodName) : Cond) ∈ GW := gw_of (i := 802) (by decide +kernel) rfl
theorem g_784 : (.code ({ cls := "PileHeirsModel", name := "putSorted", desc := "(II)Z" } : Jvm.MethodName) prog_13_method_11_code 5 (Option.some Jvm.ClassFile.FieldType.boolean) : Cond) ∈ GW := gw_of (i := 803) (by decide +kernel) rfl
theorem g_785 : (.methodLink "PileHeirsLaw" 48 ({ cls := "PileHeirsModel", name := "take", desc := "(I)I" } : Jvm.MethodName) : Cond) ∈ GW := gw_of (i := 804) (by decide +kernel) rfl
theorem g_786 : (.instanceMethod ({ cls := "PileHeirsModel", name := "take", desc := "(I)I" } : Jvm.MethodName) : Cond) ∈ GW := gw_of (i := 805) (by decide +kernel) rfl
theorem g_787 : (.selects "PileHeirsModel" ({ cls := "PileHeirsModel", name := "take", desc := "(I)I" } : Jvm.MethodName) ({ cls := "PileHeirsModel", name := "take", desc := "(I)I" } : Jvm.MethodName) : Cond) ∈ GW := gw_of (i := 806) (by decide +kernel) rfl
theorem g_788 : (.code ({ cls := "PileHeirsModel", name := "take", desc := "(I)I" } : Jvm.MethodName) prog_13_method_16_code 3 (Option.some Jvm.ClassFile.FieldType.int) : Cond) ∈ GW := gw_of (i := 807) (by decide +kernel) rfl
theorem g_789 : (.methodLink "PileHeirsModel" 96 ({ cls := "PileHeirsModel", name := "takeOf", desc := "(I)I" } : Jvm.MethodName) : Cond) ∈ GW := gw_of (i := 808) (by decide +kernel) rfl
theorem g_791 : (.instanceMethod ({ cls := "PileHeirsModel", name := "takeOf", desc := "(I)I" } : Jvm.MethodName) : Cond) ∈ GW := gw_of (i := 810) (by decide +kernel) rfl
theorem g_792 : (.code ({ cls := "PileHeirsModel", name := "takeOf", desc := "(I)I" } : Jvm.MethodName) prog_13_method_15_code 6 (Option.some Jvm.ClassFile.FieldType.int) : Cond) ∈ GW := gw_of (i := 811) (by decide +kernel) rfl
theorem g_793 : (.methodLink "PileHeirsModel" 90 ({ cls := "PileHeirsModel", name := "takePlain", desc := "(I)I" } : Jvm.MethodName) : Cond) ∈ GW := gw_of (i := 812) (by decide +kernel) rfl
theorem g_795 : (.instanceMethod ({ cls := "PileHeirsModel", name := "takePlain", desc := "(I)I" } : Jvm.MethodName) : Cond) ∈ GW := gw_of (i := 814) (by decide +kernel) rfl
theorem g_796 : (.code ({ cls := "PileHeirsModel", name := "takePlain", desc := "(I)I" } : Jvm.MethodName) prog_13_method_14_code 3 (Option.some Jvm.ClassFile.FieldType.int) : Cond) ∈ GW := gw_of (i := 815) (by decide +kernel) rfl
theorem g_797 : (.methodLink "PileHeirsLaw" 52 ({ cls := "PileHeirsModel", name := "load", desc := "(I)I" } : Jvm.MethodName) : Cond) ∈ GW := gw_of (i := 816) (by decide +kernel) rfl
theorem g_798 : (.instanceMethod ({ cls := "PileHeirsModel", name := "load", desc := "(I)I" } : Jvm.MethodName) : Cond) ∈ GW := gw_of (i := 817) (by decide +kernel) rfl
theorem g_799 : (.selects "PileHeirsModel" ({ cls := "PileHeirsModel", name := "load", desc := "(I)I" } : Jvm.MethodName) ({ cls := "PileHeirsModel", name := "load", desc := "(I)I" } : Jvm.MethodName) : Cond) ∈ GW := gw_of (i := 818) (by decide +kernel) rfl
theorem g_800 : (.code ({ cls := "PileHeirsModel", name := "load", desc := "(I)I" } : Jvm.MethodName) prog_13_method_17_code 2 (Option.some Jvm.ClassFile.FieldType.int) : Cond) ∈ GW := gw_of (i := 819) (by decide +kernel) rfl
theorem g_801 : (.methodLink "PileHeirsLaw" 56 ({ cls := "PileHeirsModel", name := "search", desc := "(II)I" } : Jvm.MethodName) : Cond) ∈ GW := gw_of (i := 820) (by decide +kernel) rfl
theorem g_802 : (.instanceMethod ({ cls := "PileHeirsModel", name := "search", desc := "(II)I" } : Jvm.MethodName) : Cond) ∈ GW := gw_of (i := 821) (by decide +kernel) rfl
theorem g_803 : (.selects "PileHeirsModel" ({ cls := "PileHeirsModel", name := "search", desc := "(II)I" } : Jvm.MethodName) ({ cls := "PileHeirsModel", name := "search", desc := "(II)I" } : Jvm.MethodName) : Cond) ∈ GW := gw_of (i := 822) (by decide +kernel) rfl
theorem g_804 : (.code ({ cls := "PileHeirsModel", name := "search", desc := "(II)I" } : Jvm.MethodName) prog_13_method_19_code 5 (Option.some Jvm.ClassFile.FieldType.int) : Cond) ∈ GW := gw_of (i := 823) (by decide +kernel) rfl
theorem g_805 : (.methodLink "PileHeirsModel" 99 ({ cls := "PileHeirsModel", name := "lowest", desc := "(II)I" } : Jvm.MethodName) : Cond) ∈ GW := gw_of (i := 824) (by decide +kernel) rfl
theorem g_807 : (.instanceMethod ({ cls := "PileHeirsModel", name := "lowest", desc := "(II)I" } : Jvm.MethodName) : Cond) ∈ GW := gw_of (i := 826) (by decide +kernel) rfl
theorem g_808 : (.code ({ cls := "PileHeirsModel", name := "lowest", desc := "(II)I" } : Jvm.MethodName) prog_13_method_18_code 4 (Option.some Jvm.ClassFile.FieldType.int) : Cond) ∈ GW := gw_of (i := 827) (by decide +kernel) rfl
theorem g_809 : (.methodLink "PileHeirsLaw" 60 ({ cls := "PileHeirsModel", name := "free", desc := "(I)I" } : Jvm.MethodName) : Cond) ∈ GW := gw_of (i := 828) (by decide +kernel) rfl
theorem g_810 : (.instanceMethod ({ cls := "PileHeirsModel", name := "free", desc := "(I)I" } : Jvm.MethodName) : Cond) ∈ GW := gw_of (i := 829) (by decide +kernel) rfl
theorem g_811 : (.selects "PileHeirsModel" ({ cls := "PileHeirsModel", name := "free", desc := "(I)I" } : Jvm.MethodName) ({ cls := "PileHeirsModel", name := "free", desc := "(I)I" } : Jvm.MethodName) : Cond) ∈ GW := gw_of (i := 830) (by decide +kernel) rfl
theorem g_812 : (.code ({ cls := "PileHeirsModel", name := "free", desc := "(I)I" } : Jvm.MethodName) prog_13_method_22_code 2 (Option.some Jvm.ClassFile.FieldType.int) : Cond) ∈ GW := gw_of (i := 831) (by decide +kernel) rfl
theorem g_813 : (.methodLink "PileHeirsModel" 106 ({ cls := "PileHeirsModel", name := "freeOf", desc := "(I)I" } : Jvm.MethodName) : Cond) ∈ GW := gw_of (i := 832) (by decide +kernel) rfl
theorem g_815 : (.instanceMethod ({ cls := "PileHeirsModel", name := "freeOf", desc := "(I)I" } : Jvm.MethodName) : Cond) ∈ GW := gw_of (i := 834) (by decide +kernel) rfl
theorem g_816 : (.code ({ cls := "PileHeirsModel", name := "freeOf", desc := "(I)I" } : Jvm.MethodName) prog_13_method_21_code 4 (Option.some Jvm.ClassFile.FieldType.int) : Cond) ∈ GW := gw_of (i := 835) (by decide +kernel) rfl
theorem g_817 : (.methodLink "PileHeirsModel" 103 ({ cls := "PileHeirsModel", name := "freeStrict", desc := "(I)I" } : Jvm.MethodName) : Cond) ∈ GW := gw_of (i := 836) (by decide +kernel) rfl
theorem g_819 : (.instanceMethod ({ cls := "PileHeirsModel", name := "freeStrict", desc := "(I)I" } : Jvm.MethodName) : Cond) ∈ GW := gw_of (i := 838) (by decide +kernel) rfl
theorem g_820 : (.code ({ cls := "PileHeirsModel", name := "freeStrict", desc := "(I)I" } : Jvm.MethodName) prog_13_method_20_code 2 (Option.some Jvm.ClassFile.FieldType.int) : Cond) ∈ GW := gw_of (i := 839) (by decide +kernel) rfl
theorem g_821 : (.methodLink "PileHeirsLaw" 64 ({ cls := "PileHeirsModel", name := "full", desc := "(I)I" } : Jvm.MethodName) : Cond) ∈ GW := gw_of (i := 840) (by decide +kernel) rfl
theorem g_822 : (.instanceMethod ({ cls := "PileHeirsModel", name := "full", desc := "(I)I" } : Jvm.MethodName) : Cond) ∈ GW := gw_of (i := 841) (by decide +kernel) rfl
theorem g_823 : (.selects "PileHeirsModel" ({ cls := "PileHeirsModel", name := "full", desc := "(I)I" } : Jvm.MethodName) ({ cls := "PileHeirsModel", name := "full", desc := "(I)I" } : Jvm.MethodName) : Cond) ∈ GW := gw_of (i := 842) (by decide +kernel) rfl
theorem g_824 : (.code ({ cls := "PileHeirsModel", name := "full", desc := "(I)I" } : Jvm.MethodName) prog_13_method_23_code 3 (Option.some Jvm.ClassFile.FieldType.int) : Cond) ∈ GW := gw_of (i := 843) (by decide +kernel) rfl
theorem g_825 : (.methodLink "PileHeirsLaw" 68 ({ cls := "PileHeirsModel", name := "move", desc := "(II)I" } : Jvm.MethodName) : Cond) ∈ GW := gw_of (i := 844) (by decide +kernel) rfl
theorem g_826 : (.instanceMethod ({ cls := "PileHeirsModel", name := "move", desc := "(II)I" } : Jvm.MethodName) : Cond) ∈ GW := gw_of (i := 845) (by decide +kernel) rfl
theorem g_827 : (.selects "PileHeirsModel" ({ cls := "PileHeirsModel", name := "move", desc := "(II)I" } : Jvm.MethodName) ({ cls := "PileHeirsModel", name := "move", desc := "(II)I" } : Jvm.MethodName) : Cond) ∈ GW := gw_of (i := 846) (by decide +kernel) rfl
theorem g_828 : (.code ({ cls := "PileHeirsModel", name := "move", desc := "(II)I" } : Jvm.MethodName) prog_13_method_24_code 4 (Option.some Jvm.ClassFile.FieldType.int) : Cond) ∈ GW := gw_of (i := 847) (by decide +kernel) rfl
theorem g_829 : (.methodLink "PileHeirsLaw" 72 ({ cls := "PileHeirsModel", name := "at", desc := "(II)I" } : Jvm.MethodName) : Cond) ∈ GW := gw_of (i := 848) (by decide +kernel) rfl
theorem g_830 : (.instanceMethod ({ cls := "PileHeirsModel", name := "at", desc := "(II)I" } : Jvm.MethodName) : Cond) ∈ GW := gw_of (i := 849) (by decide +kernel) rfl
theorem g_831 : (.selects "PileHeirsModel" ({ cls := "PileHeirsModel", name := "at", desc := "(II)I" } : Jvm.MethodName) ({ cls := "PileHeirsModel", name := "at", desc := "(II)I" } : Jvm.MethodName) : Cond) ∈ GW := gw_of (i := 850) (by decide +kernel) rfl
theorem g_832 : (.code ({ cls := "PileHeirsModel", name := "at", desc := "(II)I" } : Jvm.MethodName) prog_13_method_25_code 3 (Option.some Jvm.ClassFile.FieldType.int) : Cond) ∈ GW := gw_of (i := 851) (by decide +kernel) rfl
theorem g_833 : (.methodLink "PileHeirsLaw" 76 ({ cls := "PileHeirsModel", name := "of", desc := "(II)I" } : Jvm.MethodName) : Cond) ∈ GW := gw_of (i := 852) (by decide +kernel) rfl
theorem g_834 : (.instanceMethod ({ cls := "PileHeirsModel", name := "of", desc := "(II)I" } : Jvm.MethodName) : Cond) ∈ GW := gw_of (i := 853) (by decide +kernel) rfl
theorem g_835 : (.selects "PileHeirsModel" ({ cls := "PileHeirsModel", name := "of", desc := "(II)I" } : Jvm.MethodName) ({ cls := "PileHeirsModel", name := "of", desc := "(II)I" } : Jvm.MethodName) : Cond) ∈ GW := gw_of (i := 854) (by decide +kernel) rfl
theorem g_836 : (.code ({ cls := "PileHeirsModel", name := "of", desc := "(II)I" } : Jvm.MethodName) prog_13_method_26_code 3 (Option.some Jvm.ClassFile.FieldType.int) : Cond) ∈ GW := gw_of (i := 855) (by decide +kernel) rfl
theorem g_837 : (.methodLink "PileHeirsLaw" 80 ({ cls := "PileHeirsModel", name := "trace", desc := "(I)I" } : Jvm.MethodName) : Cond) ∈ GW := gw_of (i := 856) (by decide +kernel) rfl
theorem g_838 : (.instanceMethod ({ cls := "PileHeirsModel", name := "trace", desc := "(I)I" } : Jvm.MethodName) : Cond) ∈ GW := gw_of (i := 857) (by decide +kernel) rfl
theorem g_839 : (.selects "PileHeirsModel" ({ cls := "PileHeirsModel", name := "trace", desc := "(I)I" } : Jvm.MethodName) ({ cls := "PileHeirsModel", name := "trace", desc := "(I)I" } : Jvm.MethodName) : Cond) ∈ GW := gw_of (i := 858) (by decide +kernel) rfl
theorem g_840 : (.code ({ cls := "PileHeirsModel", name := "trace", desc := "(I)I" } : Jvm.MethodName) prog_13_method_27_code 3 (Option.some Jvm.ClassFile.FieldType.int) : Cond) ∈ GW := gw_of (i := 859) (by decide +kernel) rfl
theorem g_841 : (.methodLink "PileHeirsLaw" 84 ({ cls := "PileHeirsModel", name := "count", desc := "(I)I" } : Jvm.MethodName) : Cond) ∈ GW := gw_of (i := 860) (by decide +kernel) rfl
theorem g_842 : (.instanceMethod ({ cls := "PileHeirsModel", name := "count", desc := "(I)I" } : Jvm.MethodName) : Cond) ∈ GW := gw_of (i := 861) (by decide +kernel) rfl
theorem g_843 : (.selects "PileHeirsModel" ({ cls := "PileHeirsModel", name := "count", desc := "(I)I" } : Jvm.MethodName) ({ cls := "PileHeirsModel", name := "count", desc := "(I)I" } : Jvm.MethodName) : Cond) ∈ GW := gw_of (i := 862) (by decide +kernel) rfl
theorem g_844 : (.code ({ cls := "PileHeirsModel", name := "count", desc := "(I)I" } : Jvm.MethodName) prog_13_method_28_code 2 (Option.some Jvm.ClassFile.FieldType.int) : Cond) ∈ GW := gw_of (i := 863) (by decide +kernel) rfl
theorem g_845 : (.arrayClass Jvm.ClassFile.FieldType.long : Cond) ∈ GW := gw_of (i := 864) (by decide +kernel) rfl
theorem g_846 : (.sameMethod "PileHeirs$Plain" "PileHeirs$Plain" "timberAt" "(I)I" : Cond) ∈ GW := gw_of (i := 865) (by decide +kernel) rfl
theorem g_847 : (.selects "PileHeirs$Drying" ({ cls := "PileHeirs$Plain", name := "timberAt", desc := "(I)I" } : Jvm.MethodName) ({ cls := "PileHeirs$Plain", name := "timberAt", desc := "(I)I" } : Jvm.MethodName) : Cond) ∈ GW := gw_of (i := 866) (by decide +kernel) rfl
theorem g_848 : (.selects "PileHeirs$Lean" ({ cls := "PileHeirs$Plain", name := "timberAt", desc := "(I)I" } : Jvm.MethodName) ({ cls := "PileHeirs$Plain", name := "timberAt", desc := "(I)I" } : Jvm.MethodName) : Cond) ∈ GW := gw_of (i := 867) (by decide +kernel) rfl
theorem g_849 : (.selects "PileHeirs$Marked" ({ cls := "PileHeirs$Plain", name := "timberAt", desc := "(I)I" } : Jvm.MethodName) ({ cls := "PileHeirs$Plain", name := "timberAt", desc := "(I)I" } : Jvm.MethodName) : Cond) ∈ GW := gw_of (i := 868) (by decide +kernel) rfl
theorem g_850 : (.selects "PileHeirs$Open" ({ cls := "PileHeirs$Plain", name := "timberAt", desc := "(I)I" } : Jvm.MethodName) ({ cls := "PileHeirs$Plain", name := "timberAt", desc := "(I)I" } : Jvm.MethodName) : Cond) ∈ GW := gw_of (i := 869) (by decide +kernel) rfl
theorem g_851 : (.selects "PileHeirs$Plain" ({ cls := "PileHeirs$Plain", name := "timberAt", desc := "(I)I" } : Jvm.MethodName) ({ cls := "PileHeirs$Plain", name := "timberAt", desc := "(I)I" } : Jvm.MethodName) : Cond) ∈ GW := gw_of (i := 870) (by decide +kernel) rfl
theorem g_852 : (.selects "PileHeirs$Sorted" ({ cls := "PileHeirs$Plain", name := "timberAt", desc := "(I)I" } : Jvm.MethodName) ({ cls := "PileHeirs$Plain", name := "timberAt", desc := "(I)I" } : Jvm.MethodName) : Cond) ∈ GW := gw_of (i := 871) (by decide +kernel) rfl
theorem g_853 : (.selects "PileHeirs$Strict" ({ cls := "PileHeirs$Plain", name := "timberAt", desc := "(I)I" } : Jvm.MethodName) ({ cls := "PileHeirs$Plain", name := "timberAt", desc := "(I)I" } : Jvm.MethodName) : Cond) ∈ GW := gw_of (i := 872) (by decide +kernel) rfl
theorem g_854 : (.selects "PileHeirs$Twofold" ({ cls := "PileHeirs$Plain", name := "timberAt", desc := "(I)I" } : Jvm.MethodName) ({ cls := "PileHeirs$Plain", name := "timberAt", desc := "(I)I" } : Jvm.MethodName) : Cond) ∈ GW := gw_of (i := 873) (by decide +kernel) rfl
theorem g_855 : (.sameMethod "PileHeirs$Sorted" "PileHeirs$Sorted" "sinkTopmost" "(I)V" : Cond) ∈ GW := gw_of (i := 874) (by decide +kernel) rfl
theorem g_856 : (.sameMethod "PileHeirs$Plain" "PileHeirs$Plain" "putAct" "(I)I" : Cond) ∈ GW := gw_of (i := 875) (by decide +kernel) rfl
theorem g_857 : (.selects "PileHeirs$Drying" ({ cls := "PileHeirs$Plain", name := "putAct", desc := "(I)I" } : Jvm.MethodName) ({ cls := "PileHeirs$Sorted", name := "putAct", desc := "(I)I" } : Jvm.MethodName) : Cond) ∈ GW := gw_of (i := 876) (by decide +kernel) rfl
theorem g_858 : (.selects "PileHeirs$Lean" ({ cls := "PileHeirs$Plain", name := "putAct", desc := "(I)I" } : Jvm.MethodName) ({ cls := "PileHeirs$Strict", name := "putAct", desc := "(I)I" } : Jvm.MethodName) : Cond) ∈ GW := gw_of (i := 877) (by decide +kernel) rfl
theorem g_859 : (.selects "PileHeirs$Marked" ({ cls := "PileHeirs$Plain", name := "putAct", desc := "(I)I" } : Jvm.MethodName) ({ cls := "PileHeirs$Plain", name := "putAct", desc := "(I)I" } : Jvm.MethodName) : Cond) ∈ GW := gw_of (i := 878) (by decide +kernel) rfl
theorem g_860 : (.selects "PileHeirs$Open" ({ cls := "PileHeirs$Plain", name := "putAct", desc := "(I)I" } : Jvm.MethodName) ({ cls := "PileHeirs$Open", name := "putAct", desc := "(I)I" } : Jvm.MethodName) : Cond) ∈ GW := gw_of (i := 879) (by decide +kernel) rfl
theorem g_861 : (.selects "PileHeirs$Plain" ({ cls := "PileHeirs$Plain", name := "putAct", desc := "(I)I" } : Jvm.MethodName) ({ cls := "PileHeirs$Plain", name := "putAct", desc := "(I)I" } : Jvm.MethodName) : Cond) ∈ GW := gw_of (i := 880) (by decide +kernel) rfl
theorem g_862 : (.selects "PileHeirs$Sorted" ({ cls := "PileHeirs$Plain", name := "putAct", desc := "(I)I" } : Jvm.MethodName) ({ cls := "PileHeirs$Sorted", name := "putAct", desc := "(I)I" } : Jvm.MethodName) : Cond) ∈ GW := gw_of (i := 881) (by decide +kernel) rfl
theorem g_863 : (.selects "PileHeirs$Strict" ({ cls := "PileHeirs$Plain", name := "putAct", desc := "(I)I" } : Jvm.MethodName) ({ cls := "PileHeirs$Strict", name := "putAct", desc := "(I)I" } : Jvm.MethodName) : Cond) ∈ GW := gw_of (i := 882) (by decide +kernel) rfl
theorem g_864 : (.selects "PileHeirs$Twofold" ({ cls := "PileHeirs$Plain", name := "putAct", desc := "(I)I" } : Jvm.MethodName) ({ cls := "PileHeirs$Strict", name := "putAct", desc := "(I)I" } : Jvm.MethodName) : Cond) ∈ GW := gw_of (i := 883) (by decide +kernel) rfl
theorem g_865 : (.sameMethod "java/lang/Throwable" "java/lang/Throwable" "fillInStackTrace" "(I)Ljava/lang/Throwable;" : Cond) ∈ GW := gw_of (i := 884) (by decide +kernel) rfl
end
section
def RX0 : String := "PileHeirs$Drying"
def TX0 : u_T := fun k => match k with
  | 0 => ("PileHeirs$Plain", "timbers", "LPileHeirs$Timbers;", true)
  | 1 => ("PileHeirs$Plain", "done", "LPileHeirs$Trace;", true)
  | 2 => ("PileHeirs$Plain", "number", "I", true)
  | 3 => ("PileHeirs$Plain", "cap", "I", true)
  | 4 => ("PileHeirs$Plain", "limit", "I", true)
  | 5 => ("PileHeirs$Plain", "row", "[I", true)
  | _ => ("PileHeirs$Plain", "height", "I", false)
def tyX0 : Nat → FieldType := fun k => match k with
  | 0 => .object "PileHeirs$Timbers"
  | 1 => .object "PileHeirs$Trace"
  | 2 => .int
  | 3 => .int
  | 4 => .int
  | 5 => .array .int
  | _ => .int
theorem nmX0 : ∀ a, a < 7 → ∀ b, b < 7 → a ≠ b → (TX0 a).2.1 ≠ (TX0 b).2.1 := by decide +kernel
theorem tyX0_ok : ∀ k, k < 7 → parseFieldDescriptor (TX0 k).2.2.1 = some (tyX0 k) := by decide +kernel
abbrev cX0_init : ByteArray := prog_2_method_1_code
def yX0_init : MethodName := ⟨RX0, "<init>", "(LPileHeirs$Timbers;LPileHeirs$Trace;III)V"⟩
abbrev cX0_takeAct : ByteArray := prog_2_method_2_code
def yX0_takeAct : MethodName := ⟨RX0, "takeAct", "()I"⟩
abbrev cX0_searchAct : ByteArray := prog_2_method_3_code
def yX0_searchAct : MethodName := ⟨RX0, "searchAct", "(I)I"⟩
def RX1 : String := "PileHeirs$Lean"
def TX1 : u_T := fun k => match k with
  | 0 => ("PileHeirs$Plain", "timbers", "LPileHeirs$Timbers;", true)
  | 1 => ("PileHeirs$Plain", "done", "LPileHeirs$Trace;", true)
  | 2 => ("PileHeirs$Plain", "number", "I", true)
  | 3 => ("PileHeirs$Plain", "cap", "I", true)
  | 4 => ("PileHeirs$Plain", "limit", "I", true)
  | 5 => ("PileHeirs$Plain", "row", "[I", true)
  | _ => ("PileHeirs$Plain", "height", "I", false)
def tyX1 : Nat → FieldType := fun k => match k with
  | 0 => .object "PileHeirs$Timbers"
  | 1 => .object "PileHeirs$Trace"
  | 2 => .int
  | 3 => .int
  | 4 => .int
  | 5 => .array .int
  | _ => .int
theorem nmX1 : ∀ a, a < 7 → ∀ b, b < 7 → a ≠ b → (TX1 a).2.1 ≠ (TX1 b).2.1 := by decide +kernel
theorem tyX1_ok : ∀ k, k < 7 → parseFieldDescriptor (TX1 k).2.2.1 = some (tyX1 k) := by decide +kernel
abbrev cX1_init : ByteArray := prog_3_method_1_code
def yX1_init : MethodName := ⟨RX1, "<init>", "(LPileHeirs$Timbers;LPileHeirs$Trace;III)V"⟩
abbrev cX1_takeAct : ByteArray := prog_3_method_2_code
def yX1_takeAct : MethodName := ⟨RX1, "takeAct", "()I"⟩
abbrev cX1_freeAct : ByteArray := prog_3_method_3_code
def yX1_freeAct : MethodName := ⟨RX1, "freeAct", "()I"⟩
def RX2 : String := "PileHeirs$Marked"
def TX2 : u_T := fun k => match k with
  | 0 => ("PileHeirs$Plain", "timbers", "LPileHeirs$Timbers;", true)
  | 1 => ("PileHeirs$Plain", "done", "LPileHeirs$Trace;", true)
  | 2 => ("PileHeirs$Plain", "number", "I", true)
  | 3 => ("PileHeirs$Plain", "cap", "I", true)
  | 4 => ("PileHeirs$Plain", "limit", "I", true)
  | 5 => ("PileHeirs$Plain", "row", "[I", true)
  | _ => ("PileHeirs$Plain", "height", "I", false)
def tyX2 : Nat → FieldType := fun k => match k with
  | 0 => .object "PileHeirs$Timbers"
  | 1 => .object "PileHeirs$Trace"
  | 2 => .int
  | 3 => .int
  | 4 => .int
  | 5 => .array .int
  | _ => .int
theorem nmX2 : ∀ a, a < 7 → ∀ b, b < 7 → a ≠ b → (TX2 a).2.1 ≠ (TX2 b).2.1 := by decide +kernel
theorem tyX2_ok : ∀ k, k < 7 → parseFieldDescriptor (TX2 k).2.2.1 = some (tyX2 k) := by decide +kernel
abbrev cX2_init : ByteArray := prog_4_method_1_code
def yX2_init : MethodName := ⟨RX2, "<init>", "(LPileHeirs$Timbers;LPileHeirs$Trace;III)V"⟩
abbrev cX2_isFull : ByteArray := prog_4_method_2_code
def yX2_isFull : MethodName := ⟨RX2, "isFull", "()Z"⟩
def RX3 : String := "PileHeirs$Open"
def TX3 : u_T := fun k => match k with
  | 0 => ("PileHeirs$Plain", "timbers", "LPileHeirs$Timbers;", true)
  | 1 => ("PileHeirs$Plain", "done", "LPileHeirs$Trace;", true)
  | 2 => ("PileHeirs$Plain", "number", "I", true)
  | 3 => ("PileHeirs$Plain", "cap", "I", true)
  | 4 => ("PileHeirs$Plain", "limit", "I", true)
  | 5 => ("PileHeirs$Plain", "row", "[I", true)
  | _ => ("PileHeirs$Plain", "height", "I", false)
def tyX3 : Nat → FieldType := fun k => match k with
  | 0 => .object "PileHeirs$Timbers"
  | 1 => .object "PileHeirs$Trace"
  | 2 => .int
  | 3 => .int
  | 4 => .int
  | 5 => .array .int
  | _ => .int
theorem nmX3 : ∀ a, a < 7 → ∀ b, b < 7 → a ≠ b → (TX3 a).2.1 ≠ (TX3 b).2.1 := by decide +kernel
theorem tyX3_ok : ∀ k, k < 7 → parseFieldDescriptor (TX3 k).2.2.1 = some (tyX3 k) := by decide +kernel
abbrev cX3_init : ByteArray := prog_5_method_1_code
def yX3_init : MethodName := ⟨RX3, "<init>", "(LPileHeirs$Timbers;LPileHeirs$Trace;III)V"⟩
abbrev cX3_putAct : ByteArray := prog_5_method_2_code
def yX3_putAct : MethodName := ⟨RX3, "putAct", "(I)I"⟩
abbrev cX3_loadAct : ByteArray := prog_5_method_3_code
def yX3_loadAct : MethodName := ⟨RX3, "loadAct", "()I"⟩
def RX4 : String := "PileHeirs$Plain"
def TX4 : u_T := fun k => match k with
  | 0 => ("PileHeirs$Plain", "timbers", "LPileHeirs$Timbers;", true)
  | 1 => ("PileHeirs$Plain", "done", "LPileHeirs$Trace;", true)
  | 2 => ("PileHeirs$Plain", "number", "I", true)
  | 3 => ("PileHeirs$Plain", "cap", "I", true)
  | 4 => ("PileHeirs$Plain", "limit", "I", true)
  | 5 => ("PileHeirs$Plain", "row", "[I", true)
  | _ => ("PileHeirs$Plain", "height", "I", false)
def tyX4 : Nat → FieldType := fun k => match k with
  | 0 => .object "PileHeirs$Timbers"
  | 1 => .object "PileHeirs$Trace"
  | 2 => .int
  | 3 => .int
  | 4 => .int
  | 5 => .array .int
  | _ => .int
theorem nmX4 : ∀ a, a < 7 → ∀ b, b < 7 → a ≠ b → (TX4 a).2.1 ≠ (TX4 b).2.1 := by decide +kernel
theorem tyX4_ok : ∀ k, k < 7 → parseFieldDescriptor (TX4 k).2.2.1 = some (tyX4 k) := by decide +kernel
abbrev cX4_init : ByteArray := prog_6_method_1_code
def yX4_init : MethodName := ⟨RX4, "<init>", "(LPileHeirs$Timbers;LPileHeirs$Trace;III)V"⟩
abbrev cX4_putAct : ByteArray := prog_6_method_2_code
def yX4_putAct : MethodName := ⟨RX4, "putAct", "(I)I"⟩
abbrev cX4_takeAct : ByteArray := prog_6_method_3_code
def yX4_takeAct : MethodName := ⟨RX4, "takeAct", "()I"⟩
abbrev cX4_loadAct : ByteArray := prog_6_method_4_code
def yX4_loadAct : MethodName := ⟨RX4, "loadAct", "()I"⟩
abbrev cX4_searchAct : ByteArray := prog_6_method_5_code
def yX4_searchAct : MethodName := ⟨RX4, "searchAct", "(I)I"⟩
abbrev cX4_freeAct : ByteArray := prog_6_method_6_code
def yX4_freeAct : MethodName := ⟨RX4, "freeAct", "()I"⟩
abbrev cX4_isFull : ByteArray := prog_6_method_7_code
def yX4_isFull : MethodName := ⟨RX4, "isFull", "()Z"⟩
abbrev cX4_howMany : ByteArray := prog_6_method_8_code
def yX4_howMany : MethodName := ⟨RX4, "howMany", "()I"⟩
abbrev cX4_timberAt : ByteArray := prog_6_method_9_code
def yX4_timberAt : MethodName := ⟨RX4, "timberAt", "(I)I"⟩
abbrev cX4_swapWithUnder : ByteArray := prog_6_method_10_code
def yX4_swapWithUnder : MethodName := ⟨RX4, "swapWithUnder", "(I)V"⟩
def RX5 : String := "PileHeirs$Sorted"
def TX5 : u_T := fun k => match k with
  | 0 => ("PileHeirs$Plain", "timbers", "LPileHeirs$Timbers;", true)
  | 1 => ("PileHeirs$Plain", "done", "LPileHeirs$Trace;", true)
  | 2 => ("PileHeirs$Plain", "number", "I", true)
  | 3 => ("PileHeirs$Plain", "cap", "I", true)
  | 4 => ("PileHeirs$Plain", "limit", "I", true)
  | 5 => ("PileHeirs$Plain", "row", "[I", true)
  | _ => ("PileHeirs$Plain", "height", "I", false)
def tyX5 : Nat → FieldType := fun k => match k with
  | 0 => .object "PileHeirs$Timbers"
  | 1 => .object "PileHeirs$Trace"
  | 2 => .int
  | 3 => .int
  | 4 => .int
  | 5 => .array .int
  | _ => .int
theorem nmX5 : ∀ a, a < 7 → ∀ b, b < 7 → a ≠ b → (TX5 a).2.1 ≠ (TX5 b).2.1 := by decide +kernel
theorem tyX5_ok : ∀ k, k < 7 → parseFieldDescriptor (TX5 k).2.2.1 = some (tyX5 k) := by decide +kernel
abbrev cX5_init : ByteArray := prog_7_method_1_code
def yX5_init : MethodName := ⟨RX5, "<init>", "(LPileHeirs$Timbers;LPileHeirs$Trace;III)V"⟩
abbrev cX5_putAct : ByteArray := prog_7_method_2_code
def yX5_putAct : MethodName := ⟨RX5, "putAct", "(I)I"⟩
abbrev cX5_sinkTopmost : ByteArray := prog_7_method_3_code
def yX5_sinkTopmost : MethodName := ⟨RX5, "sinkTopmost", "(I)V"⟩
def RX6 : String := "PileHeirs$Strict"
def TX6 : u_T := fun k => match k with
  | 0 => ("PileHeirs$Plain", "timbers", "LPileHeirs$Timbers;", true)
  | 1 => ("PileHeirs$Plain", "done", "LPileHeirs$Trace;", true)
  | 2 => ("PileHeirs$Plain", "number", "I", true)
  | 3 => ("PileHeirs$Plain", "cap", "I", true)
  | 4 => ("PileHeirs$Plain", "limit", "I", true)
  | 5 => ("PileHeirs$Plain", "row", "[I", true)
  | _ => ("PileHeirs$Plain", "height", "I", false)
def tyX6 : Nat → FieldType := fun k => match k with
  | 0 => .object "PileHeirs$Timbers"
  | 1 => .object "PileHeirs$Trace"
  | 2 => .int
  | 3 => .int
  | 4 => .int
  | 5 => .array .int
  | _ => .int
theorem nmX6 : ∀ a, a < 7 → ∀ b, b < 7 → a ≠ b → (TX6 a).2.1 ≠ (TX6 b).2.1 := by decide +kernel
theorem tyX6_ok : ∀ k, k < 7 → parseFieldDescriptor (TX6 k).2.2.1 = some (tyX6 k) := by decide +kernel
abbrev cX6_init : ByteArray := prog_8_method_1_code
def yX6_init : MethodName := ⟨RX6, "<init>", "(LPileHeirs$Timbers;LPileHeirs$Trace;III)V"⟩
abbrev cX6_putAct : ByteArray := prog_8_method_2_code
def yX6_putAct : MethodName := ⟨RX6, "putAct", "(I)I"⟩
abbrev cX6_freeAct : ByteArray := prog_8_method_3_code
def yX6_freeAct : MethodName := ⟨RX6, "freeAct", "()I"⟩
def RX7 : String := "PileHeirs$Timbers"
def TX7 : u_T := fun k => match k with
  | 0 => ("PileHeirs$Timbers", "lengths", "[I", true)
  | 1 => ("PileHeirs$Timbers", "weights", "[I", true)
  | 2 => ("PileHeirs$Timbers", "wets", "[Z", true)
  | 3 => ("PileHeirs$Timbers", "pileNumbers", "[I", true)
  | _ => ("PileHeirs$Timbers", "size", "I", false)
def tyX7 : Nat → FieldType := fun k => match k with
  | 0 => .array .int
  | 1 => .array .int
  | 2 => .array .boolean
  | 3 => .array .int
  | _ => .int
theorem nmX7 : ∀ a, a < 5 → ∀ b, b < 5 → a ≠ b → (TX7 a).2.1 ≠ (TX7 b).2.1 := by decide +kernel
theorem tyX7_ok : ∀ k, k < 5 → parseFieldDescriptor (TX7 k).2.2.1 = some (tyX7 k) := by decide +kernel
abbrev cX7_init : ByteArray := prog_9_method_1_code
def yX7_init : MethodName := ⟨RX7, "<init>", "()V"⟩
abbrev cX7_add : ByteArray := prog_9_method_2_code
def yX7_add : MethodName := ⟨RX7, "add", "(IIZ)I"⟩
abbrev cX7_has : ByteArray := prog_9_method_3_code
def yX7_has : MethodName := ⟨RX7, "has", "(I)Z"⟩
abbrev cX7_howMany : ByteArray := prog_9_method_4_code
def yX7_howMany : MethodName := ⟨RX7, "howMany", "()I"⟩
abbrev cX7_lengthOf : ByteArray := prog_9_method_5_code
def yX7_lengthOf : MethodName := ⟨RX7, "lengthOf", "(I)I"⟩
abbrev cX7_weightOf : ByteArray := prog_9_method_6_code
def yX7_weightOf : MethodName := ⟨RX7, "weightOf", "(I)I"⟩
abbrev cX7_isWet : ByteArray := prog_9_method_7_code
def yX7_isWet : MethodName := ⟨RX7, "isWet", "(I)Z"⟩
abbrev cX7_pileOf : ByteArray := prog_9_method_8_code
def yX7_pileOf : MethodName := ⟨RX7, "pileOf", "(I)I"⟩
abbrev cX7_setWet : ByteArray := prog_9_method_9_code
def yX7_setWet : MethodName := ⟨RX7, "setWet", "(IZ)V"⟩
abbrev cX7_lighten : ByteArray := prog_9_method_10_code
def yX7_lighten : MethodName := ⟨RX7, "lighten", "(I)V"⟩
abbrev cX7_setPile : ByteArray := prog_9_method_11_code
def yX7_setPile : MethodName := ⟨RX7, "setPile", "(II)V"⟩
def RX8 : String := "PileHeirs$Trace"
def TX8 : u_T := fun k => match k with
  | 0 => ("PileHeirs$Trace", "ring", "[I", true)
  | 1 => ("PileHeirs$Trace", "next", "I", false)
  | 2 => ("PileHeirs$Trace", "kept", "I", false)
  | 3 => ("PileHeirs$Trace", "rules", "I", false)
  | 4 => ("PileHeirs$Trace", "heavies", "I", false)
  | _ => ("PileHeirs$Trace", "nothings", "I", false)
def tyX8 : Nat → FieldType := fun k => match k with
  | 0 => .array .int
  | 1 => .int
  | 2 => .int
  | 3 => .int
  | 4 => .int
  | _ => .int
theorem nmX8 : ∀ a, a < 6 → ∀ b, b < 6 → a ≠ b → (TX8 a).2.1 ≠ (TX8 b).2.1 := by decide +kernel
theorem tyX8_ok : ∀ k, k < 6 → parseFieldDescriptor (TX8 k).2.2.1 = some (tyX8 k) := by decide +kernel
abbrev cX8_init : ByteArray := prog_10_method_1_code
def yX8_init : MethodName := ⟨RX8, "<init>", "()V"⟩
abbrev cX8_begin : ByteArray := prog_10_method_2_code
def yX8_begin : MethodName := ⟨RX8, "begin", "(II)V"⟩
abbrev cX8_latest : ByteArray := prog_10_method_3_code
def yX8_latest : MethodName := ⟨RX8, "latest", "(I)I"⟩
abbrev cX8_countHeavy : ByteArray := prog_10_method_4_code
def yX8_countHeavy : MethodName := ⟨RX8, "countHeavy", "()V"⟩
abbrev cX8_countNothing : ByteArray := prog_10_method_5_code
def yX8_countNothing : MethodName := ⟨RX8, "countNothing", "()V"⟩
abbrev cX8_rulesEver : ByteArray := prog_10_method_6_code
def yX8_rulesEver : MethodName := ⟨RX8, "rulesEver", "()I"⟩
abbrev cX8_heavyEver : ByteArray := prog_10_method_7_code
def yX8_heavyEver : MethodName := ⟨RX8, "heavyEver", "()I"⟩
abbrev cX8_nothingEver : ByteArray := prog_10_method_8_code
def yX8_nothingEver : MethodName := ⟨RX8, "nothingEver", "()I"⟩
def RX9 : String := "PileHeirs$Twofold"
def TX9 : u_T := fun k => match k with
  | 0 => ("PileHeirs$Plain", "timbers", "LPileHeirs$Timbers;", true)
  | 1 => ("PileHeirs$Plain", "done", "LPileHeirs$Trace;", true)
  | 2 => ("PileHeirs$Plain", "number", "I", true)
  | 3 => ("PileHeirs$Plain", "cap", "I", true)
  | 4 => ("PileHeirs$Plain", "limit", "I", true)
  | 5 => ("PileHeirs$Plain", "row", "[I", true)
  | _ => ("PileHeirs$Plain", "height", "I", false)
def tyX9 : Nat → FieldType := fun k => match k with
  | 0 => .object "PileHeirs$Timbers"
  | 1 => .object "PileHeirs$Trace"
  | 2 => .int
  | 3 => .int
  | 4 => .int
  | 5 => .array .int
  | _ => .int
theorem nmX9 : ∀ a, a < 7 → ∀ b, b < 7 → a ≠ b → (TX9 a).2.1 ≠ (TX9 b).2.1 := by decide +kernel
theorem tyX9_ok : ∀ k, k < 7 → parseFieldDescriptor (TX9 k).2.2.1 = some (tyX9 k) := by decide +kernel
abbrev cX9_init : ByteArray := prog_11_method_1_code
def yX9_init : MethodName := ⟨RX9, "<init>", "(LPileHeirs$Timbers;LPileHeirs$Trace;III)V"⟩
abbrev cX9_loadAct : ByteArray := prog_11_method_2_code
def yX9_loadAct : MethodName := ⟨RX9, "loadAct", "()I"⟩
abbrev cX9_searchAct : ByteArray := prog_11_method_3_code
def yX9_searchAct : MethodName := ⟨RX9, "searchAct", "(I)I"⟩
def RX10 : String := "PileHeirs"
def TX10 : u_T := fun k => match k with
  | 0 => ("PileHeirs", "timbers", "LPileHeirs$Timbers;", true)
  | 1 => ("PileHeirs", "done", "LPileHeirs$Trace;", true)
  | 2 => ("PileHeirs", "piles", "[LPileHeirs$Plain;", true)
  | _ => ("PileHeirs", "pileCount", "I", false)
def tyX10 : Nat → FieldType := fun k => match k with
  | 0 => .object "PileHeirs$Timbers"
  | 1 => .object "PileHeirs$Trace"
  | 2 => .array (.object "PileHeirs$Plain")
  | _ => .int
theorem nmX10 : ∀ a, a < 4 → ∀ b, b < 4 → a ≠ b → (TX10 a).2.1 ≠ (TX10 b).2.1 := by decide +kernel
theorem tyX10_ok : ∀ k, k < 4 → parseFieldDescriptor (TX10 k).2.2.1 = some (tyX10 k) := by decide +kernel
abbrev cX10_init : ByteArray := prog_1_method_1_code
def yX10_init : MethodName := ⟨RX10, "<init>", "()V"⟩
abbrev cX10_timber : ByteArray := prog_1_method_2_code
def yX10_timber : MethodName := ⟨RX10, "timber", "(IIZ)I"⟩
abbrev cX10_pile : ByteArray := prog_1_method_3_code
def yX10_pile : MethodName := ⟨RX10, "pile", "(III)I"⟩
abbrev cX10_put : ByteArray := prog_1_method_4_code
def yX10_put : MethodName := ⟨RX10, "put", "(II)I"⟩
abbrev cX10_take : ByteArray := prog_1_method_5_code
def yX10_take : MethodName := ⟨RX10, "take", "(I)I"⟩
abbrev cX10_load : ByteArray := prog_1_method_6_code
def yX10_load : MethodName := ⟨RX10, "load", "(I)I"⟩
abbrev cX10_search : ByteArray := prog_1_method_7_code
def yX10_search : MethodName := ⟨RX10, "search", "(II)I"⟩
abbrev cX10_free : ByteArray := prog_1_method_8_code
def yX10_free : MethodName := ⟨RX10, "free", "(I)I"⟩
abbrev cX10_full : ByteArray := prog_1_method_9_code
def yX10_full : MethodName := ⟨RX10, "full", "(I)I"⟩
abbrev cX10_move : ByteArray := prog_1_method_10_code
def yX10_move : MethodName := ⟨RX10, "move", "(II)I"⟩
abbrev cX10_at : ByteArray := prog_1_method_11_code
def yX10_at : MethodName := ⟨RX10, "at", "(II)I"⟩
abbrev cX10_of : ByteArray := prog_1_method_12_code
def yX10_of : MethodName := ⟨RX10, "of", "(II)I"⟩
abbrev cX10_trace : ByteArray := prog_1_method_13_code
def yX10_trace : MethodName := ⟨RX10, "trace", "(I)I"⟩
abbrev cX10_count : ByteArray := prog_1_method_14_code
def yX10_count : MethodName := ⟨RX10, "count", "(I)I"⟩
abbrev cX10_isOutside : ByteArray := prog_1_method_15_code
def yX10_isOutside : MethodName := ⟨RX10, "isOutside", "(III)Z"⟩
abbrev cX10_pileOf : ByteArray := prog_1_method_16_code
def yX10_pileOf : MethodName := ⟨RX10, "pileOf", "(I)LPileHeirs$Plain;"⟩
abbrev cX10_newPile : ByteArray := prog_1_method_17_code
def yX10_newPile : MethodName := ⟨RX10, "newPile", "(IIII)LPileHeirs$Plain;"⟩
def RX11 : String := "PileHeirsModel"
def TX11 : u_T := fun k => match k with
  | 0 => ("PileHeirsModel", "code", "I", false)
  | 1 => ("PileHeirsModel", "timbers", "I", false)
  | 2 => ("PileHeirsModel", "lengths", "[I", true)
  | 3 => ("PileHeirsModel", "weights", "[I", true)
  | 4 => ("PileHeirsModel", "wet", "[Z", true)
  | 5 => ("PileHeirsModel", "lies", "[I", true)
  | 6 => ("PileHeirsModel", "piles", "I", false)
  | 7 => ("PileHeirsModel", "kinds", "[I", true)
  | 8 => ("PileHeirsModel", "caps", "[I", true)
  | 9 => ("PileHeirsModel", "limits", "[I", true)
  | 10 => ("PileHeirsModel", "many", "[I", true)
  | 11 => ("PileHeirsModel", "rows", "[I", true)
  | 12 => ("PileHeirsModel", "trace", "[I", true)
  | 13 => ("PileHeirsModel", "done", "I", false)
  | 14 => ("PileHeirsModel", "heavies", "I", false)
  | 15 => ("PileHeirsModel", "nothings", "I", false)
  | _ => ("PileHeirsModel", "ended", "Z", false)
def tyX11 : Nat → FieldType := fun k => match k with
  | 0 => .int
  | 1 => .int
  | 2 => .array .int
  | 3 => .array .int
  | 4 => .array .boolean
  | 5 => .array .int
  | 6 => .int
  | 7 => .array .int
  | 8 => .array .int
  | 9 => .array .int
  | 10 => .array .int
  | 11 => .array .int
  | 12 => .array .int
  | 13 => .int
  | 14 => .int
  | 15 => .int
  | _ => .boolean
theorem nmX11 : ∀ a, a < 17 → ∀ b, b < 17 → a ≠ b → (TX11 a).2.1 ≠ (TX11 b).2.1 := by decide +kernel
theorem tyX11_ok : ∀ k, k < 17 → parseFieldDescriptor (TX11 k).2.2.1 = some (tyX11 k) := by decide +kernel
abbrev cX11_init : ByteArray := prog_13_method_1_code
def yX11_init : MethodName := ⟨RX11, "<init>", "()V"⟩
abbrev cX11_thrown : ByteArray := prog_13_method_2_code
def yX11_thrown : MethodName := ⟨RX11, "thrown", "()I"⟩
abbrev cX11_isIn : ByteArray := prog_13_method_3_code
def yX11_isIn : MethodName := ⟨RX11, "isIn", "(III)Z"⟩
abbrev cX11_isTimber : ByteArray := prog_13_method_4_code
def yX11_isTimber : MethodName := ⟨RX11, "isTimber", "(I)Z"⟩
abbrev cX11_isPile : ByteArray := prog_13_method_5_code
def yX11_isPile : MethodName := ⟨RX11, "isPile", "(I)Z"⟩
abbrev cX11_rule : ByteArray := prog_13_method_6_code
def yX11_rule : MethodName := ⟨RX11, "rule", "(II)V"⟩
abbrev cX11_timber : ByteArray := prog_13_method_7_code
def yX11_timber : MethodName := ⟨RX11, "timber", "(IIZ)I"⟩
abbrev cX11_pile : ByteArray := prog_13_method_8_code
def yX11_pile : MethodName := ⟨RX11, "pile", "(III)I"⟩
abbrev cX11_loadOf : ByteArray := prog_13_method_9_code
def yX11_loadOf : MethodName := ⟨RX11, "loadOf", "(I)I"⟩
abbrev cX11_putPlain : ByteArray := prog_13_method_10_code
def yX11_putPlain : MethodName := ⟨RX11, "putPlain", "(II)Z"⟩
abbrev cX11_putSorted : ByteArray := prog_13_method_11_code
def yX11_putSorted : MethodName := ⟨RX11, "putSorted", "(II)Z"⟩
abbrev cX11_putOf : ByteArray := prog_13_method_12_code
def yX11_putOf : MethodName := ⟨RX11, "putOf", "(II)Z"⟩
abbrev cX11_put : ByteArray := prog_13_method_13_code
def yX11_put : MethodName := ⟨RX11, "put", "(II)I"⟩
abbrev cX11_takePlain : ByteArray := prog_13_method_14_code
def yX11_takePlain : MethodName := ⟨RX11, "takePlain", "(I)I"⟩
abbrev cX11_takeOf : ByteArray := prog_13_method_15_code
def yX11_takeOf : MethodName := ⟨RX11, "takeOf", "(I)I"⟩
abbrev cX11_take : ByteArray := prog_13_method_16_code
def yX11_take : MethodName := ⟨RX11, "take", "(I)I"⟩
abbrev cX11_load : ByteArray := prog_13_method_17_code
def yX11_load : MethodName := ⟨RX11, "load", "(I)I"⟩
abbrev cX11_lowest : ByteArray := prog_13_method_18_code
def yX11_lowest : MethodName := ⟨RX11, "lowest", "(II)I"⟩
abbrev cX11_search : ByteArray := prog_13_method_19_code
def yX11_search : MethodName := ⟨RX11, "search", "(II)I"⟩
abbrev cX11_freeStrict : ByteArray := prog_13_method_20_code
def yX11_freeStrict : MethodName := ⟨RX11, "freeStrict", "(I)I"⟩
abbrev cX11_freeOf : ByteArray := prog_13_method_21_code
def yX11_freeOf : MethodName := ⟨RX11, "freeOf", "(I)I"⟩
abbrev cX11_free : ByteArray := prog_13_method_22_code
def yX11_free : MethodName := ⟨RX11, "free", "(I)I"⟩
abbrev cX11_full : ByteArray := prog_13_method_23_code
def yX11_full : MethodName := ⟨RX11, "full", "(I)I"⟩
abbrev cX11_move : ByteArray := prog_13_method_24_code
def yX11_move : MethodName := ⟨RX11, "move", "(II)I"⟩
abbrev cX11_at : ByteArray := prog_13_method_25_code
def yX11_at : MethodName := ⟨RX11, "at", "(II)I"⟩
abbrev cX11_of : ByteArray := prog_13_method_26_code
def yX11_of : MethodName := ⟨RX11, "of", "(II)I"⟩
abbrev cX11_trace : ByteArray := prog_13_method_27_code
def yX11_trace : MethodName := ⟨RX11, "trace", "(I)I"⟩
abbrev cX11_count : ByteArray := prog_13_method_28_code
def yX11_count : MethodName := ⟨RX11, "count", "(I)I"⟩
def RJ9 : String := "java/lang/Math"
def TJ9 : u_T := fun k => match k with
  | _ => ("", "", "", false)
def tyJ9 : Nat → FieldType := fun k => match k with
  | _ => .int
theorem nmJ9 : ∀ a, a < 0 → ∀ b, b < 0 → a ≠ b → (TJ9 a).2.1 ≠ (TJ9 b).2.1 := by decide +kernel
theorem tyJ9_ok : ∀ k, k < 0 → parseFieldDescriptor (TJ9 k).2.2.1 = some (tyJ9 k) := by decide +kernel
abbrev cJ9_max_7cf53 : ByteArray := prog_15_method_65_code
def yJ9_max_7cf53 : MethodName := ⟨RJ9, "max", "(II)I"⟩
abbrev cJ9_min_7cf53 : ByteArray := prog_15_method_69_code
def yJ9_min_7cf53 : MethodName := ⟨RJ9, "min", "(II)I"⟩
def RJx5d777 : String := "java/lang/NullPointerException"
def TJx5d777 : u_T := fun k => match k with
  | 0 => ("java/lang/Throwable", "backtrace", "Ljava/lang/Object;", false)
  | 1 => ("java/lang/Throwable", "detailMessage", "Ljava/lang/String;", false)
  | 2 => ("java/lang/Throwable", "cause", "Ljava/lang/Throwable;", false)
  | 3 => ("java/lang/Throwable", "stackTrace", "[Ljava/lang/StackTraceElement;", false)
  | 4 => ("java/lang/Throwable", "depth", "I", false)
  | 5 => ("java/lang/Throwable", "suppressedExceptions", "Ljava/util/List;", false)
  | 6 => ("java/lang/NullPointerException", "extendedMessageState", "I", false)
  | _ => ("java/lang/NullPointerException", "extendedMessage", "Ljava/lang/String;", false)
def tyJx5d777 : Nat → FieldType := fun k => match k with
  | 0 => .object "java/lang/Object"
  | 1 => .object "java/lang/String"
  | 2 => .object "java/lang/Throwable"
  | 3 => .array (.object "java/lang/StackTraceElement")
  | 4 => .int
  | 5 => .object "java/util/List"
  | 6 => .int
  | _ => .object "java/lang/String"
theorem nmJx5d777 : ∀ a, a < 8 → ∀ b, b < 8 → a ≠ b → (TJx5d777 a).2.1 ≠ (TJx5d777 b).2.1 := by decide +kernel
theorem tyJx5d777_ok : ∀ k, k < 8 → parseFieldDescriptor (TJx5d777 k).2.2.1 = some (tyJx5d777 k) := by decide +kernel
abbrev cJx5d777_init_da8c8 : ByteArray := prog_16_method_1_code
def yJx5d777_init_da8c8 : MethodName := ⟨RJx5d777, "<init>", "()V"⟩
abbrev cJx5d777_init_a7421 : ByteArray := prog_16_method_2_code
def yJx5d777_init_a7421 : MethodName := ⟨RJx5d777, "<init>", "(Ljava/lang/String;)V"⟩
abbrev cJx5d777_fillInStackTrace_cddbd : ByteArray := prog_16_method_3_code
def yJx5d777_fillInStackTrace_cddbd : MethodName := ⟨RJx5d777, "fillInStackTrace", "()Ljava/lang/Throwable;"⟩
def RJ0 : String := "java/lang/String"
def TJ0 : u_T := fun k => match k with
  | _ => ("", "", "", false)
def tyJ0 : Nat → FieldType := fun k => match k with
  | _ => .int
theorem nmJ0 : ∀ a, a < 0 → ∀ b, b < 0 → a ≠ b → (TJ0 a).2.1 ≠ (TJ0 b).2.1 := by decide +kernel
theorem tyJ0_ok : ∀ k, k < 0 → parseFieldDescriptor (TJ0 k).2.2.1 = some (tyJ0 k) := by decide +kernel
def RL : String := "PileHeirsLaw"
abbrev cL_put : ByteArray := method_3_code
def yL_put : MethodName := ⟨RL, "put", "(LPileHeirs;II[J)I"⟩
abbrev cL_take : ByteArray := method_4_code
def yL_take : MethodName := ⟨RL, "take", "(LPileHeirs;I[J)I"⟩
abbrev cL_law : ByteArray := code
def yL_law : MethodName := ⟨RL, "law", "([I)Z"⟩
abbrev vwCl : List vw_C := [(RJx5d777, TJx5d777, 8), (RX0, TX0, 7), (RX1, TX1, 7), (RX2, TX2, 7), (RX3, TX3, 7), (RX4, TX4, 7), (RX5, TX5, 7), (RX6, TX6, 7), (RX7, TX7, 5), (RX8, TX8, 6), (RX9, TX9, 7), (RX10, TX10, 4), (RX11, TX11, 17)]
end
section
theorem dX0_init_0 : decode cX0_init 0 = .ok (.aload_n 0, 1) := by decide +kernel
theorem dX0_init_1 : decode cX0_init 1 = .ok (.aload_n 1, 1) := by decide +kernel
theorem dX0_init_2 : decode cX0_init 2 = .ok (.aload_n 2, 1) := by decide +kernel
theorem dX0_init_3 : decode cX0_init 3 = .ok (.iload_n 3, 1) := by decide +kernel
theorem dX0_init_4 : decode cX0_init 4 = .ok (.iload 4, 2) := by decide +kernel
theorem dX0_init_6 : decode cX0_init 6 = .ok (.iload 5, 2) := by decide +kernel
theorem dX0_init_8 : decode cX0_init 8 = .ok (.invokespecial 3, 3) := by decide +kernel
theorem dX0_init_11 : decode cX0_init 11 = .ok (.return_, 1) := by decide +kernel
theorem dX0_takeAct_0 : decode cX0_takeAct 0 = .ok (.aload_n 0, 1) := by decide +kernel
theorem dX0_takeAct_1 : decode cX0_takeAct 1 = .ok (.getfield 9, 3) := by decide +kernel
theorem dX0_takeAct_4 : decode cX0_takeAct 4 = .ok (.iconst 1, 1) := by decide +kernel
theorem dX0_takeAct_5 : decode cX0_takeAct 5 = .ok (.iconst 4, 1) := by decide +kernel
theorem dX0_takeAct_6 : decode cX0_takeAct 6 = .ok (.invokevirtual 15, 3) := by decide +kernel
theorem dX0_takeAct_9 : decode cX0_takeAct 9 = .ok (.aload_n 0, 1) := by decide +kernel
theorem dX0_takeAct_10 : decode cX0_takeAct 10 = .ok (.invokespecial 21, 3) := by decide +kernel
theorem dX0_takeAct_13 : decode cX0_takeAct 13 = .ok (.istore_n 1, 1) := by decide +kernel
theorem dX0_takeAct_14 : decode cX0_takeAct 14 = .ok (.iload_n 1, 1) := by decide +kernel
theorem dX0_takeAct_15 : decode cX0_takeAct 15 = .ok (.iconst (-1), 1) := by decide +kernel
theorem dX0_takeAct_16 : decode cX0_takeAct 16 = .ok (.if_icmp .ne 13, 3) := by decide +kernel
theorem dX0_takeAct_19 : decode cX0_takeAct 19 = .ok (.aload_n 0, 1) := by decide +kernel
theorem dX0_takeAct_20 : decode cX0_takeAct 20 = .ok (.getfield 9, 3) := by decide +kernel
theorem dX0_takeAct_23 : decode cX0_takeAct 23 = .ok (.invokevirtual 25, 3) := by decide +kernel
theorem dX0_takeAct_26 : decode cX0_takeAct 26 = .ok (.bipush (-2), 2) := by decide +kernel
theorem dX0_takeAct_28 : decode cX0_takeAct 28 = .ok (.ireturn, 1) := by decide +kernel
theorem dX0_takeAct_29 : decode cX0_takeAct 29 = .ok (.aload_n 0, 1) := by decide +kernel
theorem dX0_takeAct_30 : decode cX0_takeAct 30 = .ok (.getfield 29, 3) := by decide +kernel
theorem dX0_takeAct_33 : decode cX0_takeAct 33 = .ok (.iload_n 1, 1) := by decide +kernel
theorem dX0_takeAct_34 : decode cX0_takeAct 34 = .ok (.invokevirtual 33, 3) := by decide +kernel
theorem dX0_takeAct_37 : decode cX0_takeAct 37 = .ok (.ifCond .ne 5, 3) := by decide +kernel
theorem dX0_takeAct_40 : decode cX0_takeAct 40 = .ok (.iload_n 1, 1) := by decide +kernel
theorem dX0_takeAct_41 : decode cX0_takeAct 41 = .ok (.ireturn, 1) := by decide +kernel
theorem dX0_takeAct_42 : decode cX0_takeAct 42 = .ok (.aload_n 0, 1) := by decide +kernel
theorem dX0_takeAct_43 : decode cX0_takeAct 43 = .ok (.getfield 29, 3) := by decide +kernel
theorem dX0_takeAct_46 : decode cX0_takeAct 46 = .ok (.iload_n 1, 1) := by decide +kernel
theorem dX0_takeAct_47 : decode cX0_takeAct 47 = .ok (.iconst 0, 1) := by decide +kernel
theorem dX0_takeAct_48 : decode cX0_takeAct 48 = .ok (.invokevirtual 39, 3) := by decide +kernel
theorem dX0_takeAct_51 : decode cX0_takeAct 51 = .ok (.aload_n 0, 1) := by decide +kernel
theorem dX0_takeAct_52 : decode cX0_takeAct 52 = .ok (.iload_n 1, 1) := by decide +kernel
theorem dX0_takeAct_53 : decode cX0_takeAct 53 = .ok (.invokevirtual 43, 3) := by decide +kernel
theorem dX0_takeAct_56 : decode cX0_takeAct 56 = .ok (.pop, 1) := by decide +kernel
theorem dX0_takeAct_57 : decode cX0_takeAct 57 = .ok (.aload_n 0, 1) := by decide +kernel
theorem dX0_takeAct_58 : decode cX0_takeAct 58 = .ok (.invokespecial 21, 3) := by decide +kernel
theorem dX0_takeAct_61 : decode cX0_takeAct 61 = .ok (.ireturn, 1) := by decide +kernel
theorem dX0_searchAct_0 : decode cX0_searchAct 0 = .ok (.aload_n 0, 1) := by decide +kernel
theorem dX0_searchAct_1 : decode cX0_searchAct 1 = .ok (.getfield 9, 3) := by decide +kernel
theorem dX0_searchAct_4 : decode cX0_searchAct 4 = .ok (.iconst 3, 1) := by decide +kernel
theorem dX0_searchAct_5 : decode cX0_searchAct 5 = .ok (.iconst 4, 1) := by decide +kernel
theorem dX0_searchAct_6 : decode cX0_searchAct 6 = .ok (.invokevirtual 15, 3) := by decide +kernel
theorem dX0_searchAct_9 : decode cX0_searchAct 9 = .ok (.aload_n 0, 1) := by decide +kernel
theorem dX0_searchAct_10 : decode cX0_searchAct 10 = .ok (.iload_n 1, 1) := by decide +kernel
theorem dX0_searchAct_11 : decode cX0_searchAct 11 = .ok (.invokespecial 47, 3) := by decide +kernel
theorem dX0_searchAct_14 : decode cX0_searchAct 14 = .ok (.istore_n 2, 1) := by decide +kernel
theorem dX0_searchAct_15 : decode cX0_searchAct 15 = .ok (.iload_n 2, 1) := by decide +kernel
theorem dX0_searchAct_16 : decode cX0_searchAct 16 = .ok (.iconst (-1), 1) := by decide +kernel
theorem dX0_searchAct_17 : decode cX0_searchAct 17 = .ok (.if_icmp .eq 18, 3) := by decide +kernel
theorem dX0_searchAct_20 : decode cX0_searchAct 20 = .ok (.aload_n 0, 1) := by decide +kernel
theorem dX0_searchAct_21 : decode cX0_searchAct 21 = .ok (.getfield 29, 3) := by decide +kernel
theorem dX0_searchAct_24 : decode cX0_searchAct 24 = .ok (.aload_n 0, 1) := by decide +kernel
theorem dX0_searchAct_25 : decode cX0_searchAct 25 = .ok (.iload_n 2, 1) := by decide +kernel
theorem dX0_searchAct_26 : decode cX0_searchAct 26 = .ok (.invokevirtual 50, 3) := by decide +kernel
theorem dX0_searchAct_29 : decode cX0_searchAct 29 = .ok (.invokevirtual 33, 3) := by decide +kernel
theorem dX0_searchAct_32 : decode cX0_searchAct 32 = .ok (.ifCond .eq 7, 3) := by decide +kernel
theorem dX0_searchAct_35 : decode cX0_searchAct 35 = .ok (.iconst (-1), 1) := by decide +kernel
theorem dX0_searchAct_36 : decode cX0_searchAct 36 = .ok (.goto 4, 3) := by decide +kernel
theorem dX0_searchAct_39 : decode cX0_searchAct 39 = .ok (.iload_n 2, 1) := by decide +kernel
theorem dX0_searchAct_40 : decode cX0_searchAct 40 = .ok (.ireturn, 1) := by decide +kernel
theorem dX1_init_0 : decode cX1_init 0 = .ok (.aload_n 0, 1) := by decide +kernel
theorem dX1_init_1 : decode cX1_init 1 = .ok (.aload_n 1, 1) := by decide +kernel
theorem dX1_init_2 : decode cX1_init 2 = .ok (.aload_n 2, 1) := by decide +kernel
theorem dX1_init_3 : decode cX1_init 3 = .ok (.iload_n 3, 1) := by decide +kernel
theorem dX1_init_4 : decode cX1_init 4 = .ok (.iload 4, 2) := by decide +kernel
theorem dX1_init_6 : decode cX1_init 6 = .ok (.iload 5, 2) := by decide +kernel
theorem dX1_init_8 : decode cX1_init 8 = .ok (.invokespecial 3, 3) := by decide +kernel
theorem dX1_init_11 : decode cX1_init 11 = .ok (.return_, 1) := by decide +kernel
theorem dX1_takeAct_0 : decode cX1_takeAct 0 = .ok (.aload_n 0, 1) := by decide +kernel
theorem dX1_takeAct_1 : decode cX1_takeAct 1 = .ok (.getfield 9, 3) := by decide +kernel
theorem dX1_takeAct_4 : decode cX1_takeAct 4 = .ok (.iconst 1, 1) := by decide +kernel
theorem dX1_takeAct_5 : decode cX1_takeAct 5 = .ok (.bipush 7, 2) := by decide +kernel
theorem dX1_takeAct_7 : decode cX1_takeAct 7 = .ok (.invokevirtual 15, 3) := by decide +kernel
theorem dX1_takeAct_10 : decode cX1_takeAct 10 = .ok (.aload_n 0, 1) := by decide +kernel
theorem dX1_takeAct_11 : decode cX1_takeAct 11 = .ok (.invokespecial 21, 3) := by decide +kernel
theorem dX1_takeAct_14 : decode cX1_takeAct 14 = .ok (.istore_n 1, 1) := by decide +kernel
theorem dX1_takeAct_15 : decode cX1_takeAct 15 = .ok (.iload_n 1, 1) := by decide +kernel
theorem dX1_takeAct_16 : decode cX1_takeAct 16 = .ok (.iconst (-1), 1) := by decide +kernel
theorem dX1_takeAct_17 : decode cX1_takeAct 17 = .ok (.if_icmp .ne 13, 3) := by decide +kernel
theorem dX1_takeAct_20 : decode cX1_takeAct 20 = .ok (.aload_n 0, 1) := by decide +kernel
theorem dX1_takeAct_21 : decode cX1_takeAct 21 = .ok (.getfield 9, 3) := by decide +kernel
theorem dX1_takeAct_24 : decode cX1_takeAct 24 = .ok (.invokevirtual 25, 3) := by decide +kernel
theorem dX1_takeAct_27 : decode cX1_takeAct 27 = .ok (.bipush (-2), 2) := by decide +kernel
theorem dX1_takeAct_29 : decode cX1_takeAct 29 = .ok (.ireturn, 1) := by decide +kernel
theorem dX1_takeAct_30 : decode cX1_takeAct 30 = .ok (.aload_n 0, 1) := by decide +kernel
theorem dX1_takeAct_31 : decode cX1_takeAct 31 = .ok (.getfield 29, 3) := by decide +kernel
theorem dX1_takeAct_34 : decode cX1_takeAct 34 = .ok (.iload_n 1, 1) := by decide +kernel
theorem dX1_takeAct_35 : decode cX1_takeAct 35 = .ok (.invokevirtual 33, 3) := by decide +kernel
theorem dX1_takeAct_38 : decode cX1_takeAct 38 = .ok (.iload_n 1, 1) := by decide +kernel
theorem dX1_takeAct_39 : decode cX1_takeAct 39 = .ok (.ireturn, 1) := by decide +kernel
theorem dX1_freeAct_0 : decode cX1_freeAct 0 = .ok (.aload_n 0, 1) := by decide +kernel
theorem dX1_freeAct_1 : decode cX1_freeAct 1 = .ok (.getfield 9, 3) := by decide +kernel
theorem dX1_freeAct_4 : decode cX1_freeAct 4 = .ok (.iconst 4, 1) := by decide +kernel
theorem dX1_freeAct_5 : decode cX1_freeAct 5 = .ok (.bipush 7, 2) := by decide +kernel
theorem dX1_freeAct_7 : decode cX1_freeAct 7 = .ok (.invokevirtual 15, 3) := by decide +kernel
theorem dX1_freeAct_10 : decode cX1_freeAct 10 = .ok (.iconst 0, 1) := by decide +kernel
theorem dX1_freeAct_11 : decode cX1_freeAct 11 = .ok (.aload_n 0, 1) := by decide +kernel
theorem dX1_freeAct_12 : decode cX1_freeAct 12 = .ok (.invokespecial 39, 3) := by decide +kernel
theorem dX1_freeAct_15 : decode cX1_freeAct 15 = .ok (.iconst 1, 1) := by decide +kernel
theorem dX1_freeAct_16 : decode cX1_freeAct 16 = .ok (.isub, 1) := by decide +kernel
theorem dX1_freeAct_17 : decode cX1_freeAct 17 = .ok (.invokestatic 42, 3) := by decide +kernel
theorem dX1_freeAct_20 : decode cX1_freeAct 20 = .ok (.ireturn, 1) := by decide +kernel
theorem dX2_init_0 : decode cX2_init 0 = .ok (.aload_n 0, 1) := by decide +kernel
theorem dX2_init_1 : decode cX2_init 1 = .ok (.aload_n 1, 1) := by decide +kernel
theorem dX2_init_2 : decode cX2_init 2 = .ok (.aload_n 2, 1) := by decide +kernel
theorem dX2_init_3 : decode cX2_init 3 = .ok (.iload_n 3, 1) := by decide +kernel
theorem dX2_init_4 : decode cX2_init 4 = .ok (.iload 4, 2) := by decide +kernel
theorem dX2_init_6 : decode cX2_init 6 = .ok (.iload 5, 2) := by decide +kernel
theorem dX2_init_8 : decode cX2_init 8 = .ok (.invokespecial 1, 3) := by decide +kernel
theorem dX2_init_11 : decode cX2_init 11 = .ok (.return_, 1) := by decide +kernel
theorem dX2_isFull_0 : decode cX2_isFull 0 = .ok (.aload_n 0, 1) := by decide +kernel
theorem dX2_isFull_1 : decode cX2_isFull 1 = .ok (.invokevirtual 7, 3) := by decide +kernel
theorem dX2_isFull_4 : decode cX2_isFull 4 = .ok (.ifCond .ne 7, 3) := by decide +kernel
theorem dX2_isFull_7 : decode cX2_isFull 7 = .ok (.iconst 1, 1) := by decide +kernel
theorem dX2_isFull_8 : decode cX2_isFull 8 = .ok (.goto 4, 3) := by decide +kernel
theorem dX2_isFull_11 : decode cX2_isFull 11 = .ok (.iconst 0, 1) := by decide +kernel
theorem dX2_isFull_12 : decode cX2_isFull 12 = .ok (.ireturn, 1) := by decide +kernel
theorem dX3_init_0 : decode cX3_init 0 = .ok (.aload_n 0, 1) := by decide +kernel
theorem dX3_init_1 : decode cX3_init 1 = .ok (.aload_n 1, 1) := by decide +kernel
theorem dX3_init_2 : decode cX3_init 2 = .ok (.aload_n 2, 1) := by decide +kernel
theorem dX3_init_3 : decode cX3_init 3 = .ok (.iload_n 3, 1) := by decide +kernel
theorem dX3_init_4 : decode cX3_init 4 = .ok (.iload 4, 2) := by decide +kernel
theorem dX3_init_6 : decode cX3_init 6 = .ok (.iload 5, 2) := by decide +kernel
theorem dX3_init_8 : decode cX3_init 8 = .ok (.invokespecial 3, 3) := by decide +kernel
theorem dX3_init_11 : decode cX3_init 11 = .ok (.return_, 1) := by decide +kernel
theorem dX3_putAct_0 : decode cX3_putAct 0 = .ok (.aload_n 0, 1) := by decide +kernel
theorem dX3_putAct_1 : decode cX3_putAct 1 = .ok (.getfield 9, 3) := by decide +kernel
theorem dX3_putAct_4 : decode cX3_putAct 4 = .ok (.iconst 0, 1) := by decide +kernel
theorem dX3_putAct_5 : decode cX3_putAct 5 = .ok (.bipush 6, 2) := by decide +kernel
theorem dX3_putAct_7 : decode cX3_putAct 7 = .ok (.invokevirtual 15, 3) := by decide +kernel
theorem dX3_putAct_10 : decode cX3_putAct 10 = .ok (.aload_n 0, 1) := by decide +kernel
theorem dX3_putAct_11 : decode cX3_putAct 11 = .ok (.getfield 21, 3) := by decide +kernel
theorem dX3_putAct_14 : decode cX3_putAct 14 = .ok (.iload_n 1, 1) := by decide +kernel
theorem dX3_putAct_15 : decode cX3_putAct 15 = .ok (.invokevirtual 25, 3) := by decide +kernel
theorem dX3_putAct_18 : decode cX3_putAct 18 = .ok (.iconst 2, 1) := by decide +kernel
theorem dX3_putAct_19 : decode cX3_putAct 19 = .ok (.irem, 1) := by decide +kernel
theorem dX3_putAct_20 : decode cX3_putAct 20 = .ok (.ifCond .eq 12, 3) := by decide +kernel
theorem dX3_putAct_23 : decode cX3_putAct 23 = .ok (.aload_n 0, 1) := by decide +kernel
theorem dX3_putAct_24 : decode cX3_putAct 24 = .ok (.getfield 21, 3) := by decide +kernel
theorem dX3_putAct_27 : decode cX3_putAct 27 = .ok (.iload_n 1, 1) := by decide +kernel
theorem dX3_putAct_28 : decode cX3_putAct 28 = .ok (.iconst 1, 1) := by decide +kernel
theorem dX3_putAct_29 : decode cX3_putAct 29 = .ok (.invokevirtual 31, 3) := by decide +kernel
theorem dX3_putAct_32 : decode cX3_putAct 32 = .ok (.aload_n 0, 1) := by decide +kernel
theorem dX3_putAct_33 : decode cX3_putAct 33 = .ok (.iload_n 1, 1) := by decide +kernel
theorem dX3_putAct_34 : decode cX3_putAct 34 = .ok (.invokespecial 35, 3) := by decide +kernel
theorem dX3_putAct_37 : decode cX3_putAct 37 = .ok (.ireturn, 1) := by decide +kernel
theorem dX3_loadAct_0 : decode cX3_loadAct 0 = .ok (.aload_n 0, 1) := by decide +kernel
theorem dX3_loadAct_1 : decode cX3_loadAct 1 = .ok (.getfield 9, 3) := by decide +kernel
theorem dX3_loadAct_4 : decode cX3_loadAct 4 = .ok (.iconst 2, 1) := by decide +kernel
theorem dX3_loadAct_5 : decode cX3_loadAct 5 = .ok (.bipush 6, 2) := by decide +kernel
theorem dX3_loadAct_7 : decode cX3_loadAct 7 = .ok (.invokevirtual 15, 3) := by decide +kernel
theorem dX3_loadAct_10 : decode cX3_loadAct 10 = .ok (.aload_n 0, 1) := by decide +kernel
theorem dX3_loadAct_11 : decode cX3_loadAct 11 = .ok (.invokespecial 38, 3) := by decide +kernel
theorem dX3_loadAct_14 : decode cX3_loadAct 14 = .ok (.istore_n 1, 1) := by decide +kernel
theorem dX3_loadAct_15 : decode cX3_loadAct 15 = .ok (.iconst 0, 1) := by decide +kernel
theorem dX3_loadAct_16 : decode cX3_loadAct 16 = .ok (.istore_n 2, 1) := by decide +kernel
theorem dX3_loadAct_17 : decode cX3_loadAct 17 = .ok (.iload_n 2, 1) := by decide +kernel
theorem dX3_loadAct_18 : decode cX3_loadAct 18 = .ok (.aload_n 0, 1) := by decide +kernel
theorem dX3_loadAct_19 : decode cX3_loadAct 19 = .ok (.invokevirtual 42, 3) := by decide +kernel
theorem dX3_loadAct_22 : decode cX3_loadAct 22 = .ok (.if_icmp .ge 27, 3) := by decide +kernel
theorem dX3_loadAct_25 : decode cX3_loadAct 25 = .ok (.aload_n 0, 1) := by decide +kernel
theorem dX3_loadAct_26 : decode cX3_loadAct 26 = .ok (.getfield 21, 3) := by decide +kernel
theorem dX3_loadAct_29 : decode cX3_loadAct 29 = .ok (.aload_n 0, 1) := by decide +kernel
theorem dX3_loadAct_30 : decode cX3_loadAct 30 = .ok (.iload_n 2, 1) := by decide +kernel
theorem dX3_loadAct_31 : decode cX3_loadAct 31 = .ok (.invokevirtual 45, 3) := by decide +kernel
theorem dX3_loadAct_34 : decode cX3_loadAct 34 = .ok (.invokevirtual 48, 3) := by decide +kernel
theorem dX3_loadAct_37 : decode cX3_loadAct 37 = .ok (.ifCond .eq 6, 3) := by decide +kernel
theorem dX3_loadAct_40 : decode cX3_loadAct 40 = .ok (.iinc 1 10, 3) := by decide +kernel
theorem dX3_loadAct_43 : decode cX3_loadAct 43 = .ok (.iinc 2 1, 3) := by decide +kernel
theorem dX3_loadAct_46 : decode cX3_loadAct 46 = .ok (.goto (-29), 3) := by decide +kernel
theorem dX3_loadAct_49 : decode cX3_loadAct 49 = .ok (.iload_n 1, 1) := by decide +kernel
theorem dX3_loadAct_50 : decode cX3_loadAct 50 = .ok (.ireturn, 1) := by decide +kernel
theorem dX4_init_0 : decode cX4_init 0 = .ok (.aload_n 0, 1) := by decide +kernel
theorem dX4_init_1 : decode cX4_init 1 = .ok (.invokespecial 3, 3) := by decide +kernel
theorem dX4_init_4 : decode cX4_init 4 = .ok (.aload_n 0, 1) := by decide +kernel
theorem dX4_init_5 : decode cX4_init 5 = .ok (.aload_n 1, 1) := by decide +kernel
theorem dX4_init_6 : decode cX4_init 6 = .ok (.putfield 9, 3) := by decide +kernel
theorem dX4_init_9 : decode cX4_init 9 = .ok (.aload_n 0, 1) := by decide +kernel
theorem dX4_init_10 : decode cX4_init 10 = .ok (.aload_n 2, 1) := by decide +kernel
theorem dX4_init_11 : decode cX4_init 11 = .ok (.putfield 15, 3) := by decide +kernel
theorem dX4_init_14 : decode cX4_init 14 = .ok (.aload_n 0, 1) := by decide +kernel
theorem dX4_init_15 : decode cX4_init 15 = .ok (.iload_n 3, 1) := by decide +kernel
theorem dX4_init_16 : decode cX4_init 16 = .ok (.putfield 19, 3) := by decide +kernel
theorem dX4_init_19 : decode cX4_init 19 = .ok (.aload_n 0, 1) := by decide +kernel
theorem dX4_init_20 : decode cX4_init 20 = .ok (.iload 4, 2) := by decide +kernel
theorem dX4_init_22 : decode cX4_init 22 = .ok (.putfield 23, 3) := by decide +kernel
theorem dX4_init_25 : decode cX4_init 25 = .ok (.aload_n 0, 1) := by decide +kernel
theorem dX4_init_26 : decode cX4_init 26 = .ok (.iload 5, 2) := by decide +kernel
theorem dX4_init_28 : decode cX4_init 28 = .ok (.putfield 26, 3) := by decide +kernel
theorem dX4_init_31 : decode cX4_init 31 = .ok (.aload_n 0, 1) := by decide +kernel
theorem dX4_init_32 : decode cX4_init 32 = .ok (.bipush 12, 2) := by decide +kernel
theorem dX4_init_34 : decode cX4_init 34 = .ok (.newarray .int, 2) := by decide +kernel
theorem dX4_init_36 : decode cX4_init 36 = .ok (.putfield 29, 3) := by decide +kernel
theorem dX4_init_39 : decode cX4_init 39 = .ok (.return_, 1) := by decide +kernel
theorem dX4_putAct_0 : decode cX4_putAct 0 = .ok (.aload_n 0, 1) := by decide +kernel
theorem dX4_putAct_1 : decode cX4_putAct 1 = .ok (.getfield 15, 3) := by decide +kernel
theorem dX4_putAct_4 : decode cX4_putAct 4 = .ok (.iconst 0, 1) := by decide +kernel
theorem dX4_putAct_5 : decode cX4_putAct 5 = .ok (.iconst 0, 1) := by decide +kernel
theorem dX4_putAct_6 : decode cX4_putAct 6 = .ok (.invokevirtual 33, 3) := by decide +kernel
theorem dX4_putAct_9 : decode cX4_putAct 9 = .ok (.aload_n 0, 1) := by decide +kernel
theorem dX4_putAct_10 : decode cX4_putAct 10 = .ok (.getfield 39, 3) := by decide +kernel
theorem dX4_putAct_13 : decode cX4_putAct 13 = .ok (.ifCond .lt 26, 3) := by decide +kernel
theorem dX4_putAct_16 : decode cX4_putAct 16 = .ok (.aload_n 0, 1) := by decide +kernel
theorem dX4_putAct_17 : decode cX4_putAct 17 = .ok (.getfield 39, 3) := by decide +kernel
theorem dX4_putAct_20 : decode cX4_putAct 20 = .ok (.aload_n 0, 1) := by decide +kernel
theorem dX4_putAct_21 : decode cX4_putAct 21 = .ok (.getfield 23, 3) := by decide +kernel
theorem dX4_putAct_24 : decode cX4_putAct 24 = .ok (.if_icmp .ge 15, 3) := by decide +kernel
theorem dX4_putAct_27 : decode cX4_putAct 27 = .ok (.aload_n 0, 1) := by decide +kernel
theorem dX4_putAct_28 : decode cX4_putAct 28 = .ok (.getfield 39, 3) := by decide +kernel
theorem dX4_putAct_31 : decode cX4_putAct 31 = .ok (.aload_n 0, 1) := by decide +kernel
theorem dX4_putAct_32 : decode cX4_putAct 32 = .ok (.getfield 29, 3) := by decide +kernel
theorem dX4_putAct_35 : decode cX4_putAct 35 = .ok (.arraylength, 1) := by decide +kernel
theorem dX4_putAct_36 : decode cX4_putAct 36 = .ok (.if_icmp .lt 5, 3) := by decide +kernel
theorem dX4_putAct_39 : decode cX4_putAct 39 = .ok (.iconst 0, 1) := by decide +kernel
theorem dX4_putAct_40 : decode cX4_putAct 40 = .ok (.ireturn, 1) := by decide +kernel
theorem dX4_putAct_41 : decode cX4_putAct 41 = .ok (.aload_n 0, 1) := by decide +kernel
theorem dX4_putAct_42 : decode cX4_putAct 42 = .ok (.getfield 29, 3) := by decide +kernel
theorem dX4_putAct_45 : decode cX4_putAct 45 = .ok (.aload_n 0, 1) := by decide +kernel
theorem dX4_putAct_46 : decode cX4_putAct 46 = .ok (.getfield 39, 3) := by decide +kernel
theorem dX4_putAct_49 : decode cX4_putAct 49 = .ok (.iload_n 1, 1) := by decide +kernel
theorem dX4_putAct_50 : decode cX4_putAct 50 = .ok (.iastore, 1) := by decide +kernel
theorem dX4_putAct_51 : decode cX4_putAct 51 = .ok (.aload_n 0, 1) := by decide +kernel
theorem dX4_putAct_52 : decode cX4_putAct 52 = .ok (.dup, 1) := by decide +kernel
theorem dX4_putAct_53 : decode cX4_putAct 53 = .ok (.getfield 39, 3) := by decide +kernel
theorem dX4_putAct_56 : decode cX4_putAct 56 = .ok (.iconst 1, 1) := by decide +kernel
theorem dX4_putAct_57 : decode cX4_putAct 57 = .ok (.iadd, 1) := by decide +kernel
theorem dX4_putAct_58 : decode cX4_putAct 58 = .ok (.putfield 39, 3) := by decide +kernel
theorem dX4_putAct_61 : decode cX4_putAct 61 = .ok (.aload_n 0, 1) := by decide +kernel
theorem dX4_putAct_62 : decode cX4_putAct 62 = .ok (.getfield 9, 3) := by decide +kernel
theorem dX4_putAct_65 : decode cX4_putAct 65 = .ok (.iload_n 1, 1) := by decide +kernel
theorem dX4_putAct_66 : decode cX4_putAct 66 = .ok (.aload_n 0, 1) := by decide +kernel
theorem dX4_putAct_67 : decode cX4_putAct 67 = .ok (.getfield 19, 3) := by decide +kernel
theorem dX4_putAct_70 : decode cX4_putAct 70 = .ok (.invokevirtual 42, 3) := by decide +kernel
theorem dX4_putAct_73 : decode cX4_putAct 73 = .ok (.iconst 1, 1) := by decide +kernel
theorem dX4_putAct_74 : decode cX4_putAct 74 = .ok (.ireturn, 1) := by decide +kernel
theorem dX4_takeAct_0 : decode cX4_takeAct 0 = .ok (.aload_n 0, 1) := by decide +kernel
theorem dX4_takeAct_1 : decode cX4_takeAct 1 = .ok (.getfield 15, 3) := by decide +kernel
theorem dX4_takeAct_4 : decode cX4_takeAct 4 = .ok (.iconst 1, 1) := by decide +kernel
theorem dX4_takeAct_5 : decode cX4_takeAct 5 = .ok (.iconst 0, 1) := by decide +kernel
theorem dX4_takeAct_6 : decode cX4_takeAct 6 = .ok (.invokevirtual 33, 3) := by decide +kernel
theorem dX4_takeAct_9 : decode cX4_takeAct 9 = .ok (.aload_n 0, 1) := by decide +kernel
theorem dX4_takeAct_10 : decode cX4_takeAct 10 = .ok (.getfield 39, 3) := by decide +kernel
theorem dX4_takeAct_13 : decode cX4_takeAct 13 = .ok (.iconst 1, 1) := by decide +kernel
theorem dX4_takeAct_14 : decode cX4_takeAct 14 = .ok (.if_icmp .lt 15, 3) := by decide +kernel
theorem dX4_takeAct_17 : decode cX4_takeAct 17 = .ok (.aload_n 0, 1) := by decide +kernel
theorem dX4_takeAct_18 : decode cX4_takeAct 18 = .ok (.getfield 39, 3) := by decide +kernel
theorem dX4_takeAct_21 : decode cX4_takeAct 21 = .ok (.aload_n 0, 1) := by decide +kernel
theorem dX4_takeAct_22 : decode cX4_takeAct 22 = .ok (.getfield 29, 3) := by decide +kernel
theorem dX4_takeAct_25 : decode cX4_takeAct 25 = .ok (.arraylength, 1) := by decide +kernel
theorem dX4_takeAct_26 : decode cX4_takeAct 26 = .ok (.if_icmp .le 5, 3) := by decide +kernel
theorem dX4_takeAct_29 : decode cX4_takeAct 29 = .ok (.iconst (-1), 1) := by decide +kernel
theorem dX4_takeAct_30 : decode cX4_takeAct 30 = .ok (.ireturn, 1) := by decide +kernel
theorem dX4_takeAct_31 : decode cX4_takeAct 31 = .ok (.aload_n 0, 1) := by decide +kernel
theorem dX4_takeAct_32 : decode cX4_takeAct 32 = .ok (.dup, 1) := by decide +kernel
theorem dX4_takeAct_33 : decode cX4_takeAct 33 = .ok (.getfield 39, 3) := by decide +kernel
theorem dX4_takeAct_36 : decode cX4_takeAct 36 = .ok (.iconst 1, 1) := by decide +kernel
theorem dX4_takeAct_37 : decode cX4_takeAct 37 = .ok (.isub, 1) := by decide +kernel
theorem dX4_takeAct_38 : decode cX4_takeAct 38 = .ok (.putfield 39, 3) := by decide +kernel
theorem dX4_takeAct_41 : decode cX4_takeAct 41 = .ok (.aload_n 0, 1) := by decide +kernel
theorem dX4_takeAct_42 : decode cX4_takeAct 42 = .ok (.getfield 29, 3) := by decide +kernel
theorem dX4_takeAct_45 : decode cX4_takeAct 45 = .ok (.aload_n 0, 1) := by decide +kernel
theorem dX4_takeAct_46 : decode cX4_takeAct 46 = .ok (.getfield 39, 3) := by decide +kernel
theorem dX4_takeAct_49 : decode cX4_takeAct 49 = .ok (.iaload, 1) := by decide +kernel
theorem dX4_takeAct_50 : decode cX4_takeAct 50 = .ok (.istore_n 1, 1) := by decide +kernel
theorem dX4_takeAct_51 : decode cX4_takeAct 51 = .ok (.aload_n 0, 1) := by decide +kernel
theorem dX4_takeAct_52 : decode cX4_takeAct 52 = .ok (.getfield 9, 3) := by decide +kernel
theorem dX4_takeAct_55 : decode cX4_takeAct 55 = .ok (.iload_n 1, 1) := by decide +kernel
theorem dX4_takeAct_56 : decode cX4_takeAct 56 = .ok (.iconst (-1), 1) := by decide +kernel
theorem dX4_takeAct_57 : decode cX4_takeAct 57 = .ok (.invokevirtual 42, 3) := by decide +kernel
theorem dX4_takeAct_60 : decode cX4_takeAct 60 = .ok (.iload_n 1, 1) := by decide +kernel
theorem dX4_takeAct_61 : decode cX4_takeAct 61 = .ok (.ireturn, 1) := by decide +kernel
theorem dX4_loadAct_0 : decode cX4_loadAct 0 = .ok (.aload_n 0, 1) := by decide +kernel
theorem dX4_loadAct_1 : decode cX4_loadAct 1 = .ok (.getfield 15, 3) := by decide +kernel
theorem dX4_loadAct_4 : decode cX4_loadAct 4 = .ok (.iconst 2, 1) := by decide +kernel
theorem dX4_loadAct_5 : decode cX4_loadAct 5 = .ok (.iconst 0, 1) := by decide +kernel
theorem dX4_loadAct_6 : decode cX4_loadAct 6 = .ok (.invokevirtual 33, 3) := by decide +kernel
theorem dX4_loadAct_9 : decode cX4_loadAct 9 = .ok (.iconst 0, 1) := by decide +kernel
theorem dX4_loadAct_10 : decode cX4_loadAct 10 = .ok (.istore_n 1, 1) := by decide +kernel
theorem dX4_loadAct_11 : decode cX4_loadAct 11 = .ok (.iconst 0, 1) := by decide +kernel
theorem dX4_loadAct_12 : decode cX4_loadAct 12 = .ok (.istore_n 2, 1) := by decide +kernel
theorem dX4_loadAct_13 : decode cX4_loadAct 13 = .ok (.iload_n 2, 1) := by decide +kernel
theorem dX4_loadAct_14 : decode cX4_loadAct 14 = .ok (.aload_n 0, 1) := by decide +kernel
theorem dX4_loadAct_15 : decode cX4_loadAct 15 = .ok (.getfield 39, 3) := by decide +kernel
theorem dX4_loadAct_18 : decode cX4_loadAct 18 = .ok (.if_icmp .ge 24, 3) := by decide +kernel
theorem dX4_loadAct_21 : decode cX4_loadAct 21 = .ok (.iload_n 1, 1) := by decide +kernel
theorem dX4_loadAct_22 : decode cX4_loadAct 22 = .ok (.aload_n 0, 1) := by decide +kernel
theorem dX4_loadAct_23 : decode cX4_loadAct 23 = .ok (.getfield 9, 3) := by decide +kernel
theorem dX4_loadAct_26 : decode cX4_loadAct 26 = .ok (.aload_n 0, 1) := by decide +kernel
theorem dX4_loadAct_27 : decode cX4_loadAct 27 = .ok (.iload_n 2, 1) := by decide +kernel
theorem dX4_loadAct_28 : decode cX4_loadAct 28 = .ok (.invokevirtual 47, 3) := by decide +kernel
theorem dX4_loadAct_31 : decode cX4_loadAct 31 = .ok (.invokevirtual 51, 3) := by decide +kernel
theorem dX4_loadAct_34 : decode cX4_loadAct 34 = .ok (.iadd, 1) := by decide +kernel
theorem dX4_loadAct_35 : decode cX4_loadAct 35 = .ok (.istore_n 1, 1) := by decide +kernel
theorem dX4_loadAct_36 : decode cX4_loadAct 36 = .ok (.iinc 2 1, 3) := by decide +kernel
theorem dX4_loadAct_39 : decode cX4_loadAct 39 = .ok (.goto (-26), 3) := by decide +kernel
theorem dX4_loadAct_42 : decode cX4_loadAct 42 = .ok (.iload_n 1, 1) := by decide +kernel
theorem dX4_loadAct_43 : decode cX4_loadAct 43 = .ok (.ireturn, 1) := by decide +kernel
theorem dX4_searchAct_0 : decode cX4_searchAct 0 = .ok (.aload_n 0, 1) := by decide +kernel
theorem dX4_searchAct_1 : decode cX4_searchAct 1 = .ok (.getfield 15, 3) := by decide +kernel
theorem dX4_searchAct_4 : decode cX4_searchAct 4 = .ok (.iconst 3, 1) := by decide +kernel
theorem dX4_searchAct_5 : decode cX4_searchAct 5 = .ok (.iconst 0, 1) := by decide +kernel
theorem dX4_searchAct_6 : decode cX4_searchAct 6 = .ok (.invokevirtual 33, 3) := by decide +kernel
theorem dX4_searchAct_9 : decode cX4_searchAct 9 = .ok (.iconst 0, 1) := by decide +kernel
theorem dX4_searchAct_10 : decode cX4_searchAct 10 = .ok (.istore_n 2, 1) := by decide +kernel
theorem dX4_searchAct_11 : decode cX4_searchAct 11 = .ok (.iload_n 2, 1) := by decide +kernel
theorem dX4_searchAct_12 : decode cX4_searchAct 12 = .ok (.aload_n 0, 1) := by decide +kernel
theorem dX4_searchAct_13 : decode cX4_searchAct 13 = .ok (.getfield 39, 3) := by decide +kernel
theorem dX4_searchAct_16 : decode cX4_searchAct 16 = .ok (.if_icmp .ge 27, 3) := by decide +kernel
theorem dX4_searchAct_19 : decode cX4_searchAct 19 = .ok (.aload_n 0, 1) := by decide +kernel
theorem dX4_searchAct_20 : decode cX4_searchAct 20 = .ok (.getfield 9, 3) := by decide +kernel
theorem dX4_searchAct_23 : decode cX4_searchAct 23 = .ok (.aload_n 0, 1) := by decide +kernel
theorem dX4_searchAct_24 : decode cX4_searchAct 24 = .ok (.iload_n 2, 1) := by decide +kernel
theorem dX4_searchAct_25 : decode cX4_searchAct 25 = .ok (.invokevirtual 47, 3) := by decide +kernel
theorem dX4_searchAct_28 : decode cX4_searchAct 28 = .ok (.invokevirtual 54, 3) := by decide +kernel
theorem dX4_searchAct_31 : decode cX4_searchAct 31 = .ok (.iload_n 1, 1) := by decide +kernel
theorem dX4_searchAct_32 : decode cX4_searchAct 32 = .ok (.if_icmp .lt 5, 3) := by decide +kernel
theorem dX4_searchAct_35 : decode cX4_searchAct 35 = .ok (.iload_n 2, 1) := by decide +kernel
theorem dX4_searchAct_36 : decode cX4_searchAct 36 = .ok (.ireturn, 1) := by decide +kernel
theorem dX4_searchAct_37 : decode cX4_searchAct 37 = .ok (.iinc 2 1, 3) := by decide +kernel
theorem dX4_searchAct_40 : decode cX4_searchAct 40 = .ok (.goto (-29), 3) := by decide +kernel
theorem dX4_searchAct_43 : decode cX4_searchAct 43 = .ok (.iconst (-1), 1) := by decide +kernel
theorem dX4_searchAct_44 : decode cX4_searchAct 44 = .ok (.ireturn, 1) := by decide +kernel
theorem dX4_freeAct_0 : decode cX4_freeAct 0 = .ok (.aload_n 0, 1) := by decide +kernel
theorem dX4_freeAct_1 : decode cX4_freeAct 1 = .ok (.getfield 15, 3) := by decide +kernel
theorem dX4_freeAct_4 : decode cX4_freeAct 4 = .ok (.iconst 4, 1) := by decide +kernel
theorem dX4_freeAct_5 : decode cX4_freeAct 5 = .ok (.iconst 0, 1) := by decide +kernel
theorem dX4_freeAct_6 : decode cX4_freeAct 6 = .ok (.invokevirtual 33, 3) := by decide +kernel
theorem dX4_freeAct_9 : decode cX4_freeAct 9 = .ok (.aload_n 0, 1) := by decide +kernel
theorem dX4_freeAct_10 : decode cX4_freeAct 10 = .ok (.getfield 23, 3) := by decide +kernel
theorem dX4_freeAct_13 : decode cX4_freeAct 13 = .ok (.aload_n 0, 1) := by decide +kernel
theorem dX4_freeAct_14 : decode cX4_freeAct 14 = .ok (.getfield 39, 3) := by decide +kernel
theorem dX4_freeAct_17 : decode cX4_freeAct 17 = .ok (.isub, 1) := by decide +kernel
theorem dX4_freeAct_18 : decode cX4_freeAct 18 = .ok (.ireturn, 1) := by decide +kernel
theorem dX4_isFull_0 : decode cX4_isFull 0 = .ok (.aload_n 0, 1) := by decide +kernel
theorem dX4_isFull_1 : decode cX4_isFull 1 = .ok (.getfield 39, 3) := by decide +kernel
theorem dX4_isFull_4 : decode cX4_isFull 4 = .ok (.aload_n 0, 1) := by decide +kernel
theorem dX4_isFull_5 : decode cX4_isFull 5 = .ok (.getfield 23, 3) := by decide +kernel
theorem dX4_isFull_8 : decode cX4_isFull 8 = .ok (.if_icmp .lt 7, 3) := by decide +kernel
theorem dX4_isFull_11 : decode cX4_isFull 11 = .ok (.iconst 1, 1) := by decide +kernel
theorem dX4_isFull_12 : decode cX4_isFull 12 = .ok (.goto 4, 3) := by decide +kernel
theorem dX4_isFull_15 : decode cX4_isFull 15 = .ok (.iconst 0, 1) := by decide +kernel
theorem dX4_isFull_16 : decode cX4_isFull 16 = .ok (.ireturn, 1) := by decide +kernel
theorem dX4_howMany_0 : decode cX4_howMany 0 = .ok (.aload_n 0, 1) := by decide +kernel
theorem dX4_howMany_1 : decode cX4_howMany 1 = .ok (.getfield 39, 3) := by decide +kernel
theorem dX4_howMany_4 : decode cX4_howMany 4 = .ok (.ireturn, 1) := by decide +kernel
theorem dX4_timberAt_0 : decode cX4_timberAt 0 = .ok (.iload_n 1, 1) := by decide +kernel
theorem dX4_timberAt_1 : decode cX4_timberAt 1 = .ok (.ifCond .lt 29, 3) := by decide +kernel
theorem dX4_timberAt_4 : decode cX4_timberAt 4 = .ok (.iload_n 1, 1) := by decide +kernel
theorem dX4_timberAt_5 : decode cX4_timberAt 5 = .ok (.aload_n 0, 1) := by decide +kernel
theorem dX4_timberAt_6 : decode cX4_timberAt 6 = .ok (.getfield 39, 3) := by decide +kernel
theorem dX4_timberAt_9 : decode cX4_timberAt 9 = .ok (.if_icmp .ge 21, 3) := by decide +kernel
theorem dX4_timberAt_12 : decode cX4_timberAt 12 = .ok (.iload_n 1, 1) := by decide +kernel
theorem dX4_timberAt_13 : decode cX4_timberAt 13 = .ok (.aload_n 0, 1) := by decide +kernel
theorem dX4_timberAt_14 : decode cX4_timberAt 14 = .ok (.getfield 29, 3) := by decide +kernel
theorem dX4_timberAt_17 : decode cX4_timberAt 17 = .ok (.arraylength, 1) := by decide +kernel
theorem dX4_timberAt_18 : decode cX4_timberAt 18 = .ok (.if_icmp .ge 12, 3) := by decide +kernel
theorem dX4_timberAt_21 : decode cX4_timberAt 21 = .ok (.aload_n 0, 1) := by decide +kernel
theorem dX4_timberAt_22 : decode cX4_timberAt 22 = .ok (.getfield 29, 3) := by decide +kernel
theorem dX4_timberAt_25 : decode cX4_timberAt 25 = .ok (.iload_n 1, 1) := by decide +kernel
theorem dX4_timberAt_26 : decode cX4_timberAt 26 = .ok (.iaload, 1) := by decide +kernel
theorem dX4_timberAt_27 : decode cX4_timberAt 27 = .ok (.goto 4, 3) := by decide +kernel
theorem dX4_timberAt_30 : decode cX4_timberAt 30 = .ok (.iconst (-1), 1) := by decide +kernel
theorem dX4_timberAt_31 : decode cX4_timberAt 31 = .ok (.ireturn, 1) := by decide +kernel
theorem dX4_swapWithUnder_0 : decode cX4_swapWithUnder 0 = .ok (.iload_n 1, 1) := by decide +kernel
theorem dX4_swapWithUnder_1 : decode cX4_swapWithUnder 1 = .ok (.iconst 1, 1) := by decide +kernel
theorem dX4_swapWithUnder_2 : decode cX4_swapWithUnder 2 = .ok (.if_icmp .lt 50, 3) := by decide +kernel
theorem dX4_swapWithUnder_5 : decode cX4_swapWithUnder 5 = .ok (.iload_n 1, 1) := by decide +kernel
theorem dX4_swapWithUnder_6 : decode cX4_swapWithUnder 6 = .ok (.aload_n 0, 1) := by decide +kernel
theorem dX4_swapWithUnder_7 : decode cX4_swapWithUnder 7 = .ok (.getfield 39, 3) := by decide +kernel
theorem dX4_swapWithUnder_10 : decode cX4_swapWithUnder 10 = .ok (.if_icmp .ge 42, 3) := by decide +kernel
theorem dX4_swapWithUnder_13 : decode cX4_swapWithUnder 13 = .ok (.iload_n 1, 1) := by decide +kernel
theorem dX4_swapWithUnder_14 : decode cX4_swapWithUnder 14 = .ok (.aload_n 0, 1) := by decide +kernel
theorem dX4_swapWithUnder_15 : decode cX4_swapWithUnder 15 = .ok (.getfield 29, 3) := by decide +kernel
theorem dX4_swapWithUnder_18 : decode cX4_swapWithUnder 18 = .ok (.arraylength, 1) := by decide +kernel
theorem dX4_swapWithUnder_19 : decode cX4_swapWithUnder 19 = .ok (.if_icmp .ge 33, 3) := by decide +kernel
theorem dX4_swapWithUnder_22 : decode cX4_swapWithUnder 22 = .ok (.aload_n 0, 1) := by decide +kernel
theorem dX4_swapWithUnder_23 : decode cX4_swapWithUnder 23 = .ok (.getfield 29, 3) := by decide +kernel
theorem dX4_swapWithUnder_26 : decode cX4_swapWithUnder 26 = .ok (.iload_n 1, 1) := by decide +kernel
theorem dX4_swapWithUnder_27 : decode cX4_swapWithUnder 27 = .ok (.iconst 1, 1) := by decide +kernel
theorem dX4_swapWithUnder_28 : decode cX4_swapWithUnder 28 = .ok (.isub, 1) := by decide +kernel
theorem dX4_swapWithUnder_29 : decode cX4_swapWithUnder 29 = .ok (.iaload, 1) := by decide +kernel
theorem dX4_swapWithUnder_30 : decode cX4_swapWithUnder 30 = .ok (.istore_n 2, 1) := by decide +kernel
theorem dX4_swapWithUnder_31 : decode cX4_swapWithUnder 31 = .ok (.aload_n 0, 1) := by decide +kernel
theorem dX4_swapWithUnder_32 : decode cX4_swapWithUnder 32 = .ok (.getfield 29, 3) := by decide +kernel
theorem dX4_swapWithUnder_35 : decode cX4_swapWithUnder 35 = .ok (.iload_n 1, 1) := by decide +kernel
theorem dX4_swapWithUnder_36 : decode cX4_swapWithUnder 36 = .ok (.iconst 1, 1) := by decide +kernel
theorem dX4_swapWithUnder_37 : decode cX4_swapWithUnder 37 = .ok (.isub, 1) := by decide +kernel
theorem dX4_swapWithUnder_38 : decode cX4_swapWithUnder 38 = .ok (.aload_n 0, 1) := by decide +kernel
theorem dX4_swapWithUnder_39 : decode cX4_swapWithUnder 39 = .ok (.getfield 29, 3) := by decide +kernel
theorem dX4_swapWithUnder_42 : decode cX4_swapWithUnder 42 = .ok (.iload_n 1, 1) := by decide +kernel
theorem dX4_swapWithUnder_43 : decode cX4_swapWithUnder 43 = .ok (.iaload, 1) := by decide +kernel
theorem dX4_swapWithUnder_44 : decode cX4_swapWithUnder 44 = .ok (.iastore, 1) := by decide +kernel
theorem dX4_swapWithUnder_45 : decode cX4_swapWithUnder 45 = .ok (.aload_n 0, 1) := by decide +kernel
theorem dX4_swapWithUnder_46 : decode cX4_swapWithUnder 46 = .ok (.getfield 29, 3) := by decide +kernel
theorem dX4_swapWithUnder_49 : decode cX4_swapWithUnder 49 = .ok (.iload_n 1, 1) := by decide +kernel
theorem dX4_swapWithUnder_50 : decode cX4_swapWithUnder 50 = .ok (.iload_n 2, 1) := by decide +kernel
theorem dX4_swapWithUnder_51 : decode cX4_swapWithUnder 51 = .ok (.iastore, 1) := by decide +kernel
theorem dX4_swapWithUnder_52 : decode cX4_swapWithUnder 52 = .ok (.return_, 1) := by decide +kernel
theorem dX5_init_0 : decode cX5_init 0 = .ok (.aload_n 0, 1) := by decide +kernel
theorem dX5_init_1 : decode cX5_init 1 = .ok (.aload_n 1, 1) := by decide +kernel
theorem dX5_init_2 : decode cX5_init 2 = .ok (.aload_n 2, 1) := by decide +kernel
theorem dX5_init_3 : decode cX5_init 3 = .ok (.iload_n 3, 1) := by decide +kernel
theorem dX5_init_4 : decode cX5_init 4 = .ok (.iload 4, 2) := by decide +kernel
theorem dX5_init_6 : decode cX5_init 6 = .ok (.iload 5, 2) := by decide +kernel
theorem dX5_init_8 : decode cX5_init 8 = .ok (.invokespecial 3, 3) := by decide +kernel
theorem dX5_init_11 : decode cX5_init 11 = .ok (.return_, 1) := by decide +kernel
theorem dX5_putAct_0 : decode cX5_putAct 0 = .ok (.aload_n 0, 1) := by decide +kernel
theorem dX5_putAct_1 : decode cX5_putAct 1 = .ok (.getfield 9, 3) := by decide +kernel
theorem dX5_putAct_4 : decode cX5_putAct 4 = .ok (.iconst 0, 1) := by decide +kernel
theorem dX5_putAct_5 : decode cX5_putAct 5 = .ok (.iconst 2, 1) := by decide +kernel
theorem dX5_putAct_6 : decode cX5_putAct 6 = .ok (.invokevirtual 15, 3) := by decide +kernel
theorem dX5_putAct_9 : decode cX5_putAct 9 = .ok (.aload_n 0, 1) := by decide +kernel
theorem dX5_putAct_10 : decode cX5_putAct 10 = .ok (.iload_n 1, 1) := by decide +kernel
theorem dX5_putAct_11 : decode cX5_putAct 11 = .ok (.invokespecial 21, 3) := by decide +kernel
theorem dX5_putAct_14 : decode cX5_putAct 14 = .ok (.istore_n 2, 1) := by decide +kernel
theorem dX5_putAct_15 : decode cX5_putAct 15 = .ok (.iload_n 2, 1) := by decide +kernel
theorem dX5_putAct_16 : decode cX5_putAct 16 = .ok (.iconst 1, 1) := by decide +kernel
theorem dX5_putAct_17 : decode cX5_putAct 17 = .ok (.if_icmp .ne 15, 3) := by decide +kernel
theorem dX5_putAct_20 : decode cX5_putAct 20 = .ok (.aload_n 0, 1) := by decide +kernel
theorem dX5_putAct_21 : decode cX5_putAct 21 = .ok (.aload_n 0, 1) := by decide +kernel
theorem dX5_putAct_22 : decode cX5_putAct 22 = .ok (.getfield 25, 3) := by decide +kernel
theorem dX5_putAct_25 : decode cX5_putAct 25 = .ok (.iload_n 1, 1) := by decide +kernel
theorem dX5_putAct_26 : decode cX5_putAct 26 = .ok (.invokevirtual 29, 3) := by decide +kernel
theorem dX5_putAct_29 : decode cX5_putAct 29 = .ok (.invokevirtual 34, 3) := by decide +kernel
theorem dX5_putAct_32 : decode cX5_putAct 32 = .ok (.iload_n 2, 1) := by decide +kernel
theorem dX5_putAct_33 : decode cX5_putAct 33 = .ok (.ireturn, 1) := by decide +kernel
theorem dX5_sinkTopmost_0 : decode cX5_sinkTopmost 0 = .ok (.aload_n 0, 1) := by decide +kernel
theorem dX5_sinkTopmost_1 : decode cX5_sinkTopmost 1 = .ok (.invokevirtual 38, 3) := by decide +kernel
theorem dX5_sinkTopmost_4 : decode cX5_sinkTopmost 4 = .ok (.iconst 1, 1) := by decide +kernel
theorem dX5_sinkTopmost_5 : decode cX5_sinkTopmost 5 = .ok (.isub, 1) := by decide +kernel
theorem dX5_sinkTopmost_6 : decode cX5_sinkTopmost 6 = .ok (.istore_n 2, 1) := by decide +kernel
theorem dX5_sinkTopmost_7 : decode cX5_sinkTopmost 7 = .ok (.iload_n 2, 1) := by decide +kernel
theorem dX5_sinkTopmost_8 : decode cX5_sinkTopmost 8 = .ok (.ifCond .le 33, 3) := by decide +kernel
theorem dX5_sinkTopmost_11 : decode cX5_sinkTopmost 11 = .ok (.aload_n 0, 1) := by decide +kernel
theorem dX5_sinkTopmost_12 : decode cX5_sinkTopmost 12 = .ok (.getfield 25, 3) := by decide +kernel
theorem dX5_sinkTopmost_15 : decode cX5_sinkTopmost 15 = .ok (.aload_n 0, 1) := by decide +kernel
theorem dX5_sinkTopmost_16 : decode cX5_sinkTopmost 16 = .ok (.iload_n 2, 1) := by decide +kernel
theorem dX5_sinkTopmost_17 : decode cX5_sinkTopmost 17 = .ok (.iconst 1, 1) := by decide +kernel
theorem dX5_sinkTopmost_18 : decode cX5_sinkTopmost 18 = .ok (.isub, 1) := by decide +kernel
theorem dX5_sinkTopmost_19 : decode cX5_sinkTopmost 19 = .ok (.invokevirtual 42, 3) := by decide +kernel
theorem dX5_sinkTopmost_22 : decode cX5_sinkTopmost 22 = .ok (.invokevirtual 29, 3) := by decide +kernel
theorem dX5_sinkTopmost_25 : decode cX5_sinkTopmost 25 = .ok (.iload_n 1, 1) := by decide +kernel
theorem dX5_sinkTopmost_26 : decode cX5_sinkTopmost 26 = .ok (.if_icmp .lt 4, 3) := by decide +kernel
theorem dX5_sinkTopmost_29 : decode cX5_sinkTopmost 29 = .ok (.return_, 1) := by decide +kernel
theorem dX5_sinkTopmost_30 : decode cX5_sinkTopmost 30 = .ok (.aload_n 0, 1) := by decide +kernel
theorem dX5_sinkTopmost_31 : decode cX5_sinkTopmost 31 = .ok (.iload_n 2, 1) := by decide +kernel
theorem dX5_sinkTopmost_32 : decode cX5_sinkTopmost 32 = .ok (.invokevirtual 45, 3) := by decide +kernel
theorem dX5_sinkTopmost_35 : decode cX5_sinkTopmost 35 = .ok (.iinc 2 (-1), 3) := by decide +kernel
theorem dX5_sinkTopmost_38 : decode cX5_sinkTopmost 38 = .ok (.goto (-31), 3) := by decide +kernel
theorem dX5_sinkTopmost_41 : decode cX5_sinkTopmost 41 = .ok (.return_, 1) := by decide +kernel
theorem dX6_init_0 : decode cX6_init 0 = .ok (.aload_n 0, 1) := by decide +kernel
theorem dX6_init_1 : decode cX6_init 1 = .ok (.aload_n 1, 1) := by decide +kernel
theorem dX6_init_2 : decode cX6_init 2 = .ok (.aload_n 2, 1) := by decide +kernel
theorem dX6_init_3 : decode cX6_init 3 = .ok (.iload_n 3, 1) := by decide +kernel
theorem dX6_init_4 : decode cX6_init 4 = .ok (.iload 4, 2) := by decide +kernel
theorem dX6_init_6 : decode cX6_init 6 = .ok (.iload 5, 2) := by decide +kernel
theorem dX6_init_8 : decode cX6_init 8 = .ok (.invokespecial 3, 3) := by decide +kernel
theorem dX6_init_11 : decode cX6_init 11 = .ok (.return_, 1) := by decide +kernel
theorem dX6_putAct_0 : decode cX6_putAct 0 = .ok (.aload_n 0, 1) := by decide +kernel
theorem dX6_putAct_1 : decode cX6_putAct 1 = .ok (.getfield 9, 3) := by decide +kernel
theorem dX6_putAct_4 : decode cX6_putAct 4 = .ok (.iconst 0, 1) := by decide +kernel
theorem dX6_putAct_5 : decode cX6_putAct 5 = .ok (.iconst 3, 1) := by decide +kernel
theorem dX6_putAct_6 : decode cX6_putAct 6 = .ok (.invokevirtual 15, 3) := by decide +kernel
theorem dX6_putAct_9 : decode cX6_putAct 9 = .ok (.aload_n 0, 1) := by decide +kernel
theorem dX6_putAct_10 : decode cX6_putAct 10 = .ok (.invokevirtual 21, 3) := by decide +kernel
theorem dX6_putAct_13 : decode cX6_putAct 13 = .ok (.aload_n 0, 1) := by decide +kernel
theorem dX6_putAct_14 : decode cX6_putAct 14 = .ok (.getfield 25, 3) := by decide +kernel
theorem dX6_putAct_17 : decode cX6_putAct 17 = .ok (.iload_n 1, 1) := by decide +kernel
theorem dX6_putAct_18 : decode cX6_putAct 18 = .ok (.invokevirtual 29, 3) := by decide +kernel
theorem dX6_putAct_21 : decode cX6_putAct 21 = .ok (.iadd, 1) := by decide +kernel
theorem dX6_putAct_22 : decode cX6_putAct 22 = .ok (.aload_n 0, 1) := by decide +kernel
theorem dX6_putAct_23 : decode cX6_putAct 23 = .ok (.getfield 35, 3) := by decide +kernel
theorem dX6_putAct_26 : decode cX6_putAct 26 = .ok (.if_icmp .le 12, 3) := by decide +kernel
theorem dX6_putAct_29 : decode cX6_putAct 29 = .ok (.aload_n 0, 1) := by decide +kernel
theorem dX6_putAct_30 : decode cX6_putAct 30 = .ok (.getfield 9, 3) := by decide +kernel
theorem dX6_putAct_33 : decode cX6_putAct 33 = .ok (.invokevirtual 39, 3) := by decide +kernel
theorem dX6_putAct_36 : decode cX6_putAct 36 = .ok (.iconst 2, 1) := by decide +kernel
theorem dX6_putAct_37 : decode cX6_putAct 37 = .ok (.ireturn, 1) := by decide +kernel
theorem dX6_putAct_38 : decode cX6_putAct 38 = .ok (.aload_n 0, 1) := by decide +kernel
theorem dX6_putAct_39 : decode cX6_putAct 39 = .ok (.iload_n 1, 1) := by decide +kernel
theorem dX6_putAct_40 : decode cX6_putAct 40 = .ok (.invokespecial 43, 3) := by decide +kernel
theorem dX6_putAct_43 : decode cX6_putAct 43 = .ok (.ireturn, 1) := by decide +kernel
theorem dX6_freeAct_0 : decode cX6_freeAct 0 = .ok (.aload_n 0, 1) := by decide +kernel
theorem dX6_freeAct_1 : decode cX6_freeAct 1 = .ok (.getfield 9, 3) := by decide +kernel
theorem dX6_freeAct_4 : decode cX6_freeAct 4 = .ok (.iconst 4, 1) := by decide +kernel
theorem dX6_freeAct_5 : decode cX6_freeAct 5 = .ok (.iconst 3, 1) := by decide +kernel
theorem dX6_freeAct_6 : decode cX6_freeAct 6 = .ok (.invokevirtual 15, 3) := by decide +kernel
theorem dX6_freeAct_9 : decode cX6_freeAct 9 = .ok (.aload_n 0, 1) := by decide +kernel
theorem dX6_freeAct_10 : decode cX6_freeAct 10 = .ok (.invokevirtual 21, 3) := by decide +kernel
theorem dX6_freeAct_13 : decode cX6_freeAct 13 = .ok (.aload_n 0, 1) := by decide +kernel
theorem dX6_freeAct_14 : decode cX6_freeAct 14 = .ok (.getfield 35, 3) := by decide +kernel
theorem dX6_freeAct_17 : decode cX6_freeAct 17 = .ok (.if_icmp .lt 7, 3) := by decide +kernel
theorem dX6_freeAct_20 : decode cX6_freeAct 20 = .ok (.iconst 0, 1) := by decide +kernel
theorem dX6_freeAct_21 : decode cX6_freeAct 21 = .ok (.goto 7, 3) := by decide +kernel
theorem dX6_freeAct_24 : decode cX6_freeAct 24 = .ok (.aload_n 0, 1) := by decide +kernel
theorem dX6_freeAct_25 : decode cX6_freeAct 25 = .ok (.invokespecial 46, 3) := by decide +kernel
theorem dX6_freeAct_28 : decode cX6_freeAct 28 = .ok (.ireturn, 1) := by decide +kernel
theorem dX7_init_0 : decode cX7_init 0 = .ok (.aload_n 0, 1) := by decide +kernel
theorem dX7_init_1 : decode cX7_init 1 = .ok (.invokespecial 3, 3) := by decide +kernel
theorem dX7_init_4 : decode cX7_init 4 = .ok (.aload_n 0, 1) := by decide +kernel
theorem dX7_init_5 : decode cX7_init 5 = .ok (.bipush 60, 2) := by decide +kernel
theorem dX7_init_7 : decode cX7_init 7 = .ok (.newarray .int, 2) := by decide +kernel
theorem dX7_init_9 : decode cX7_init 9 = .ok (.putfield 9, 3) := by decide +kernel
theorem dX7_init_12 : decode cX7_init 12 = .ok (.aload_n 0, 1) := by decide +kernel
theorem dX7_init_13 : decode cX7_init 13 = .ok (.bipush 60, 2) := by decide +kernel
theorem dX7_init_15 : decode cX7_init 15 = .ok (.newarray .int, 2) := by decide +kernel
theorem dX7_init_17 : decode cX7_init 17 = .ok (.putfield 15, 3) := by decide +kernel
theorem dX7_init_20 : decode cX7_init 20 = .ok (.aload_n 0, 1) := by decide +kernel
theorem dX7_init_21 : decode cX7_init 21 = .ok (.bipush 60, 2) := by decide +kernel
theorem dX7_init_23 : decode cX7_init 23 = .ok (.newarray .boolean, 2) := by decide +kernel
theorem dX7_init_25 : decode cX7_init 25 = .ok (.putfield 18, 3) := by decide +kernel
theorem dX7_init_28 : decode cX7_init 28 = .ok (.aload_n 0, 1) := by decide +kernel
theorem dX7_init_29 : decode cX7_init 29 = .ok (.bipush 60, 2) := by decide +kernel
theorem dX7_init_31 : decode cX7_init 31 = .ok (.newarray .int, 2) := by decide +kernel
theorem dX7_init_33 : decode cX7_init 33 = .ok (.putfield 22, 3) := by decide +kernel
theorem dX7_init_36 : decode cX7_init 36 = .ok (.return_, 1) := by decide +kernel
theorem dX7_add_0 : decode cX7_add 0 = .ok (.aload_n 0, 1) := by decide +kernel
theorem dX7_add_1 : decode cX7_add 1 = .ok (.getfield 25, 3) := by decide +kernel
theorem dX7_add_4 : decode cX7_add 4 = .ok (.ifCond .lt 12, 3) := by decide +kernel
theorem dX7_add_7 : decode cX7_add 7 = .ok (.aload_n 0, 1) := by decide +kernel
theorem dX7_add_8 : decode cX7_add 8 = .ok (.getfield 25, 3) := by decide +kernel
theorem dX7_add_11 : decode cX7_add 11 = .ok (.bipush 60, 2) := by decide +kernel
theorem dX7_add_13 : decode cX7_add 13 = .ok (.if_icmp .lt 6, 3) := by decide +kernel
theorem dX7_add_16 : decode cX7_add 16 = .ok (.bipush (-104), 2) := by decide +kernel
theorem dX7_add_18 : decode cX7_add 18 = .ok (.ireturn, 1) := by decide +kernel
theorem dX7_add_19 : decode cX7_add 19 = .ok (.aload_n 0, 1) := by decide +kernel
theorem dX7_add_20 : decode cX7_add 20 = .ok (.getfield 25, 3) := by decide +kernel
theorem dX7_add_23 : decode cX7_add 23 = .ok (.istore 4, 2) := by decide +kernel
theorem dX7_add_25 : decode cX7_add 25 = .ok (.aload_n 0, 1) := by decide +kernel
theorem dX7_add_26 : decode cX7_add 26 = .ok (.getfield 9, 3) := by decide +kernel
theorem dX7_add_29 : decode cX7_add 29 = .ok (.iload 4, 2) := by decide +kernel
theorem dX7_add_31 : decode cX7_add 31 = .ok (.iload_n 1, 1) := by decide +kernel
theorem dX7_add_32 : decode cX7_add 32 = .ok (.iastore, 1) := by decide +kernel
theorem dX7_add_33 : decode cX7_add 33 = .ok (.aload_n 0, 1) := by decide +kernel
theorem dX7_add_34 : decode cX7_add 34 = .ok (.getfield 15, 3) := by decide +kernel
theorem dX7_add_37 : decode cX7_add 37 = .ok (.iload 4, 2) := by decide +kernel
theorem dX7_add_39 : decode cX7_add 39 = .ok (.iload_n 2, 1) := by decide +kernel
theorem dX7_add_40 : decode cX7_add 40 = .ok (.iastore, 1) := by decide +kernel
theorem dX7_add_41 : decode cX7_add 41 = .ok (.aload_n 0, 1) := by decide +kernel
theorem dX7_add_42 : decode cX7_add 42 = .ok (.getfield 18, 3) := by decide +kernel
theorem dX7_add_45 : decode cX7_add 45 = .ok (.iload 4, 2) := by decide +kernel
theorem dX7_add_47 : decode cX7_add 47 = .ok (.iload_n 3, 1) := by decide +kernel
theorem dX7_add_48 : decode cX7_add 48 = .ok (.bastore, 1) := by decide +kernel
theorem dX7_add_49 : decode cX7_add 49 = .ok (.aload_n 0, 1) := by decide +kernel
theorem dX7_add_50 : decode cX7_add 50 = .ok (.getfield 22, 3) := by decide +kernel
theorem dX7_add_53 : decode cX7_add 53 = .ok (.iload 4, 2) := by decide +kernel
theorem dX7_add_55 : decode cX7_add 55 = .ok (.iconst (-1), 1) := by decide +kernel
theorem dX7_add_56 : decode cX7_add 56 = .ok (.iastore, 1) := by decide +kernel
theorem dX7_add_57 : decode cX7_add 57 = .ok (.aload_n 0, 1) := by decide +kernel
theorem dX7_add_58 : decode cX7_add 58 = .ok (.dup, 1) := by decide +kernel
theorem dX7_add_59 : decode cX7_add 59 = .ok (.getfield 25, 3) := by decide +kernel
theorem dX7_add_62 : decode cX7_add 62 = .ok (.iconst 1, 1) := by decide +kernel
theorem dX7_add_63 : decode cX7_add 63 = .ok (.iadd, 1) := by decide +kernel
theorem dX7_add_64 : decode cX7_add 64 = .ok (.putfield 25, 3) := by decide +kernel
theorem dX7_add_67 : decode cX7_add 67 = .ok (.iload 4, 2) := by decide +kernel
theorem dX7_add_69 : decode cX7_add 69 = .ok (.ireturn, 1) := by decide +kernel
theorem dX7_has_0 : decode cX7_has 0 = .ok (.iload_n 1, 1) := by decide +kernel
theorem dX7_has_1 : decode cX7_has 1 = .ok (.ifCond .lt 21, 3) := by decide +kernel
theorem dX7_has_4 : decode cX7_has 4 = .ok (.iload_n 1, 1) := by decide +kernel
theorem dX7_has_5 : decode cX7_has 5 = .ok (.aload_n 0, 1) := by decide +kernel
theorem dX7_has_6 : decode cX7_has 6 = .ok (.getfield 25, 3) := by decide +kernel
theorem dX7_has_9 : decode cX7_has 9 = .ok (.if_icmp .ge 13, 3) := by decide +kernel
theorem dX7_has_12 : decode cX7_has 12 = .ok (.iload_n 1, 1) := by decide +kernel
theorem dX7_has_13 : decode cX7_has 13 = .ok (.bipush 60, 2) := by decide +kernel
theorem dX7_has_15 : decode cX7_has 15 = .ok (.if_icmp .ge 7, 3) := by decide +kernel
theorem dX7_has_18 : decode cX7_has 18 = .ok (.iconst 1, 1) := by decide +kernel
theorem dX7_has_19 : decode cX7_has 19 = .ok (.goto 4, 3) := by decide +kernel
theorem dX7_has_22 : decode cX7_has 22 = .ok (.iconst 0, 1) := by decide +kernel
theorem dX7_has_23 : decode cX7_has 23 = .ok (.ireturn, 1) := by decide +kernel
theorem dX7_howMany_0 : decode cX7_howMany 0 = .ok (.aload_n 0, 1) := by decide +kernel
theorem dX7_howMany_1 : decode cX7_howMany 1 = .ok (.getfield 25, 3) := by decide +kernel
theorem dX7_howMany_4 : decode cX7_howMany 4 = .ok (.ireturn, 1) := by decide +kernel
theorem dX7_lengthOf_0 : decode cX7_lengthOf 0 = .ok (.aload_n 0, 1) := by decide +kernel
theorem dX7_lengthOf_1 : decode cX7_lengthOf 1 = .ok (.iload_n 1, 1) := by decide +kernel
theorem dX7_lengthOf_2 : decode cX7_lengthOf 2 = .ok (.invokevirtual 29, 3) := by decide +kernel
theorem dX7_lengthOf_5 : decode cX7_lengthOf 5 = .ok (.ifCond .eq 12, 3) := by decide +kernel
theorem dX7_lengthOf_8 : decode cX7_lengthOf 8 = .ok (.aload_n 0, 1) := by decide +kernel
theorem dX7_lengthOf_9 : decode cX7_lengthOf 9 = .ok (.getfield 9, 3) := by decide +kernel
theorem dX7_lengthOf_12 : decode cX7_lengthOf 12 = .ok (.iload_n 1, 1) := by decide +kernel
theorem dX7_lengthOf_13 : decode cX7_lengthOf 13 = .ok (.iaload, 1) := by decide +kernel
theorem dX7_lengthOf_14 : decode cX7_lengthOf 14 = .ok (.goto 4, 3) := by decide +kernel
theorem dX7_lengthOf_17 : decode cX7_lengthOf 17 = .ok (.iconst 0, 1) := by decide +kernel
theorem dX7_lengthOf_18 : decode cX7_lengthOf 18 = .ok (.ireturn, 1) := by decide +kernel
theorem dX7_weightOf_0 : decode cX7_weightOf 0 = .ok (.aload_n 0, 1) := by decide +kernel
theorem dX7_weightOf_1 : decode cX7_weightOf 1 = .ok (.iload_n 1, 1) := by decide +kernel
theorem dX7_weightOf_2 : decode cX7_weightOf 2 = .ok (.invokevirtual 29, 3) := by decide +kernel
theorem dX7_weightOf_5 : decode cX7_weightOf 5 = .ok (.ifCond .eq 12, 3) := by decide +kernel
theorem dX7_weightOf_8 : decode cX7_weightOf 8 = .ok (.aload_n 0, 1) := by decide +kernel
theorem dX7_weightOf_9 : decode cX7_weightOf 9 = .ok (.getfield 15, 3) := by decide +kernel
theorem dX7_weightOf_12 : decode cX7_weightOf 12 = .ok (.iload_n 1, 1) := by decide +kernel
theorem dX7_weightOf_13 : decode cX7_weightOf 13 = .ok (.iaload, 1) := by decide +kernel
theorem dX7_weightOf_14 : decode cX7_weightOf 14 = .ok (.goto 4, 3) := by decide +kernel
theorem dX7_weightOf_17 : decode cX7_weightOf 17 = .ok (.iconst 0, 1) := by decide +kernel
theorem dX7_weightOf_18 : decode cX7_weightOf 18 = .ok (.ireturn, 1) := by decide +kernel
theorem dX7_isWet_0 : decode cX7_isWet 0 = .ok (.aload_n 0, 1) := by decide +kernel
theorem dX7_isWet_1 : decode cX7_isWet 1 = .ok (.iload_n 1, 1) := by decide +kernel
theorem dX7_isWet_2 : decode cX7_isWet 2 = .ok (.invokevirtual 29, 3) := by decide +kernel
theorem dX7_isWet_5 : decode cX7_isWet 5 = .ok (.ifCond .eq 16, 3) := by decide +kernel
theorem dX7_isWet_8 : decode cX7_isWet 8 = .ok (.aload_n 0, 1) := by decide +kernel
theorem dX7_isWet_9 : decode cX7_isWet 9 = .ok (.getfield 18, 3) := by decide +kernel
theorem dX7_isWet_12 : decode cX7_isWet 12 = .ok (.iload_n 1, 1) := by decide +kernel
theorem dX7_isWet_13 : decode cX7_isWet 13 = .ok (.baload, 1) := by decide +kernel
theorem dX7_isWet_14 : decode cX7_isWet 14 = .ok (.ifCond .eq 7, 3) := by decide +kernel
theorem dX7_isWet_17 : decode cX7_isWet 17 = .ok (.iconst 1, 1) := by decide +kernel
theorem dX7_isWet_18 : decode cX7_isWet 18 = .ok (.goto 4, 3) := by decide +kernel
theorem dX7_isWet_21 : decode cX7_isWet 21 = .ok (.iconst 0, 1) := by decide +kernel
theorem dX7_isWet_22 : decode cX7_isWet 22 = .ok (.ireturn, 1) := by decide +kernel
theorem dX7_pileOf_0 : decode cX7_pileOf 0 = .ok (.aload_n 0, 1) := by decide +kernel
theorem dX7_pileOf_1 : decode cX7_pileOf 1 = .ok (.iload_n 1, 1) := by decide +kernel
theorem dX7_pileOf_2 : decode cX7_pileOf 2 = .ok (.invokevirtual 29, 3) := by decide +kernel
theorem dX7_pileOf_5 : decode cX7_pileOf 5 = .ok (.ifCond .eq 12, 3) := by decide +kernel
theorem dX7_pileOf_8 : decode cX7_pileOf 8 = .ok (.aload_n 0, 1) := by decide +kernel
theorem dX7_pileOf_9 : decode cX7_pileOf 9 = .ok (.getfield 22, 3) := by decide +kernel
theorem dX7_pileOf_12 : decode cX7_pileOf 12 = .ok (.iload_n 1, 1) := by decide +kernel
theorem dX7_pileOf_13 : decode cX7_pileOf 13 = .ok (.iaload, 1) := by decide +kernel
theorem dX7_pileOf_14 : decode cX7_pileOf 14 = .ok (.goto 4, 3) := by decide +kernel
theorem dX7_pileOf_17 : decode cX7_pileOf 17 = .ok (.iconst (-1), 1) := by decide +kernel
theorem dX7_pileOf_18 : decode cX7_pileOf 18 = .ok (.ireturn, 1) := by decide +kernel
theorem dX7_setWet_0 : decode cX7_setWet 0 = .ok (.aload_n 0, 1) := by decide +kernel
theorem dX7_setWet_1 : decode cX7_setWet 1 = .ok (.iload_n 1, 1) := by decide +kernel
theorem dX7_setWet_2 : decode cX7_setWet 2 = .ok (.invokevirtual 29, 3) := by decide +kernel
theorem dX7_setWet_5 : decode cX7_setWet 5 = .ok (.ifCond .eq 10, 3) := by decide +kernel
theorem dX7_setWet_8 : decode cX7_setWet 8 = .ok (.aload_n 0, 1) := by decide +kernel
theorem dX7_setWet_9 : decode cX7_setWet 9 = .ok (.getfield 18, 3) := by decide +kernel
theorem dX7_setWet_12 : decode cX7_setWet 12 = .ok (.iload_n 1, 1) := by decide +kernel
theorem dX7_setWet_13 : decode cX7_setWet 13 = .ok (.iload_n 2, 1) := by decide +kernel
theorem dX7_setWet_14 : decode cX7_setWet 14 = .ok (.bastore, 1) := by decide +kernel
theorem dX7_setWet_15 : decode cX7_setWet 15 = .ok (.return_, 1) := by decide +kernel
theorem dX7_lighten_0 : decode cX7_lighten 0 = .ok (.aload_n 0, 1) := by decide +kernel
theorem dX7_lighten_1 : decode cX7_lighten 1 = .ok (.iload_n 1, 1) := by decide +kernel
theorem dX7_lighten_2 : decode cX7_lighten 2 = .ok (.invokevirtual 29, 3) := by decide +kernel
theorem dX7_lighten_5 : decode cX7_lighten 5 = .ok (.ifCond .eq 21, 3) := by decide +kernel
theorem dX7_lighten_8 : decode cX7_lighten 8 = .ok (.aload_n 0, 1) := by decide +kernel
theorem dX7_lighten_9 : decode cX7_lighten 9 = .ok (.getfield 15, 3) := by decide +kernel
theorem dX7_lighten_12 : decode cX7_lighten 12 = .ok (.iload_n 1, 1) := by decide +kernel
theorem dX7_lighten_13 : decode cX7_lighten 13 = .ok (.iconst 1, 1) := by decide +kernel
theorem dX7_lighten_14 : decode cX7_lighten 14 = .ok (.aload_n 0, 1) := by decide +kernel
theorem dX7_lighten_15 : decode cX7_lighten 15 = .ok (.getfield 15, 3) := by decide +kernel
theorem dX7_lighten_18 : decode cX7_lighten 18 = .ok (.iload_n 1, 1) := by decide +kernel
theorem dX7_lighten_19 : decode cX7_lighten 19 = .ok (.iaload, 1) := by decide +kernel
theorem dX7_lighten_20 : decode cX7_lighten 20 = .ok (.iconst 1, 1) := by decide +kernel
theorem dX7_lighten_21 : decode cX7_lighten 21 = .ok (.isub, 1) := by decide +kernel
theorem dX7_lighten_22 : decode cX7_lighten 22 = .ok (.invokestatic 33, 3) := by decide +kernel
theorem dX7_lighten_25 : decode cX7_lighten 25 = .ok (.iastore, 1) := by decide +kernel
theorem dX7_lighten_26 : decode cX7_lighten 26 = .ok (.return_, 1) := by decide +kernel
theorem dX7_setPile_0 : decode cX7_setPile 0 = .ok (.aload_n 0, 1) := by decide +kernel
theorem dX7_setPile_1 : decode cX7_setPile 1 = .ok (.iload_n 1, 1) := by decide +kernel
theorem dX7_setPile_2 : decode cX7_setPile 2 = .ok (.invokevirtual 29, 3) := by decide +kernel
theorem dX7_setPile_5 : decode cX7_setPile 5 = .ok (.ifCond .eq 10, 3) := by decide +kernel
theorem dX7_setPile_8 : decode cX7_setPile 8 = .ok (.aload_n 0, 1) := by decide +kernel
theorem dX7_setPile_9 : decode cX7_setPile 9 = .ok (.getfield 22, 3) := by decide +kernel
theorem dX7_setPile_12 : decode cX7_setPile 12 = .ok (.iload_n 1, 1) := by decide +kernel
theorem dX7_setPile_13 : decode cX7_setPile 13 = .ok (.iload_n 2, 1) := by decide +kernel
theorem dX7_setPile_14 : decode cX7_setPile 14 = .ok (.iastore, 1) := by decide +kernel
theorem dX7_setPile_15 : decode cX7_setPile 15 = .ok (.return_, 1) := by decide +kernel
theorem dX8_init_0 : decode cX8_init 0 = .ok (.aload_n 0, 1) := by decide +kernel
theorem dX8_init_1 : decode cX8_init 1 = .ok (.invokespecial 3, 3) := by decide +kernel
theorem dX8_init_4 : decode cX8_init 4 = .ok (.aload_n 0, 1) := by decide +kernel
theorem dX8_init_5 : decode cX8_init 5 = .ok (.sipush 200, 3) := by decide +kernel
theorem dX8_init_8 : decode cX8_init 8 = .ok (.newarray .int, 2) := by decide +kernel
theorem dX8_init_10 : decode cX8_init 10 = .ok (.putfield 9, 3) := by decide +kernel
theorem dX8_init_13 : decode cX8_init 13 = .ok (.return_, 1) := by decide +kernel
theorem dX8_begin_0 : decode cX8_begin 0 = .ok (.aload_n 0, 1) := by decide +kernel
theorem dX8_begin_1 : decode cX8_begin 1 = .ok (.getfield 15, 3) := by decide +kernel
theorem dX8_begin_4 : decode cX8_begin 4 = .ok (.ifCond .lt 15, 3) := by decide +kernel
theorem dX8_begin_7 : decode cX8_begin 7 = .ok (.aload_n 0, 1) := by decide +kernel
theorem dX8_begin_8 : decode cX8_begin 8 = .ok (.getfield 15, 3) := by decide +kernel
theorem dX8_begin_11 : decode cX8_begin 11 = .ok (.aload_n 0, 1) := by decide +kernel
theorem dX8_begin_12 : decode cX8_begin 12 = .ok (.getfield 9, 3) := by decide +kernel
theorem dX8_begin_15 : decode cX8_begin 15 = .ok (.arraylength, 1) := by decide +kernel
theorem dX8_begin_16 : decode cX8_begin 16 = .ok (.if_icmp .lt 8, 3) := by decide +kernel
theorem dX8_begin_19 : decode cX8_begin 19 = .ok (.aload_n 0, 1) := by decide +kernel
theorem dX8_begin_20 : decode cX8_begin 20 = .ok (.iconst 0, 1) := by decide +kernel
theorem dX8_begin_21 : decode cX8_begin 21 = .ok (.putfield 15, 3) := by decide +kernel
theorem dX8_begin_24 : decode cX8_begin 24 = .ok (.aload_n 0, 1) := by decide +kernel
theorem dX8_begin_25 : decode cX8_begin 25 = .ok (.getfield 9, 3) := by decide +kernel
theorem dX8_begin_28 : decode cX8_begin 28 = .ok (.aload_n 0, 1) := by decide +kernel
theorem dX8_begin_29 : decode cX8_begin 29 = .ok (.getfield 15, 3) := by decide +kernel
theorem dX8_begin_32 : decode cX8_begin 32 = .ok (.bipush 10, 2) := by decide +kernel
theorem dX8_begin_34 : decode cX8_begin 34 = .ok (.iload_n 1, 1) := by decide +kernel
theorem dX8_begin_35 : decode cX8_begin 35 = .ok (.imul, 1) := by decide +kernel
theorem dX8_begin_36 : decode cX8_begin 36 = .ok (.iload_n 2, 1) := by decide +kernel
theorem dX8_begin_37 : decode cX8_begin 37 = .ok (.iadd, 1) := by decide +kernel
theorem dX8_begin_38 : decode cX8_begin 38 = .ok (.iastore, 1) := by decide +kernel
theorem dX8_begin_39 : decode cX8_begin 39 = .ok (.aload_n 0, 1) := by decide +kernel
theorem dX8_begin_40 : decode cX8_begin 40 = .ok (.dup, 1) := by decide +kernel
theorem dX8_begin_41 : decode cX8_begin 41 = .ok (.getfield 15, 3) := by decide +kernel
theorem dX8_begin_44 : decode cX8_begin 44 = .ok (.iconst 1, 1) := by decide +kernel
theorem dX8_begin_45 : decode cX8_begin 45 = .ok (.iadd, 1) := by decide +kernel
theorem dX8_begin_46 : decode cX8_begin 46 = .ok (.putfield 15, 3) := by decide +kernel
theorem dX8_begin_49 : decode cX8_begin 49 = .ok (.aload_n 0, 1) := by decide +kernel
theorem dX8_begin_50 : decode cX8_begin 50 = .ok (.aload_n 0, 1) := by decide +kernel
theorem dX8_begin_51 : decode cX8_begin 51 = .ok (.getfield 19, 3) := by decide +kernel
theorem dX8_begin_54 : decode cX8_begin 54 = .ok (.iconst 1, 1) := by decide +kernel
theorem dX8_begin_55 : decode cX8_begin 55 = .ok (.iadd, 1) := by decide +kernel
theorem dX8_begin_56 : decode cX8_begin 56 = .ok (.aload_n 0, 1) := by decide +kernel
theorem dX8_begin_57 : decode cX8_begin 57 = .ok (.getfield 9, 3) := by decide +kernel
theorem dX8_begin_60 : decode cX8_begin 60 = .ok (.arraylength, 1) := by decide +kernel
theorem dX8_begin_61 : decode cX8_begin 61 = .ok (.invokestatic 22, 3) := by decide +kernel
theorem dX8_begin_64 : decode cX8_begin 64 = .ok (.putfield 19, 3) := by decide +kernel
theorem dX8_begin_67 : decode cX8_begin 67 = .ok (.aload_n 0, 1) := by decide +kernel
theorem dX8_begin_68 : decode cX8_begin 68 = .ok (.dup, 1) := by decide +kernel
theorem dX8_begin_69 : decode cX8_begin 69 = .ok (.getfield 28, 3) := by decide +kernel
theorem dX8_begin_72 : decode cX8_begin 72 = .ok (.iconst 1, 1) := by decide +kernel
theorem dX8_begin_73 : decode cX8_begin 73 = .ok (.iadd, 1) := by decide +kernel
theorem dX8_begin_74 : decode cX8_begin 74 = .ok (.putfield 28, 3) := by decide +kernel
theorem dX8_begin_77 : decode cX8_begin 77 = .ok (.return_, 1) := by decide +kernel
theorem dX8_latest_0 : decode cX8_latest 0 = .ok (.iload_n 1, 1) := by decide +kernel
theorem dX8_latest_1 : decode cX8_latest 1 = .ok (.ifCond .lt 11, 3) := by decide +kernel
theorem dX8_latest_4 : decode cX8_latest 4 = .ok (.iload_n 1, 1) := by decide +kernel
theorem dX8_latest_5 : decode cX8_latest 5 = .ok (.aload_n 0, 1) := by decide +kernel
theorem dX8_latest_6 : decode cX8_latest 6 = .ok (.getfield 19, 3) := by decide +kernel
theorem dX8_latest_9 : decode cX8_latest 9 = .ok (.if_icmp .lt 6, 3) := by decide +kernel
theorem dX8_latest_12 : decode cX8_latest 12 = .ok (.bipush (-101), 2) := by decide +kernel
theorem dX8_latest_14 : decode cX8_latest 14 = .ok (.ireturn, 1) := by decide +kernel
theorem dX8_latest_15 : decode cX8_latest 15 = .ok (.aload_n 0, 1) := by decide +kernel
theorem dX8_latest_16 : decode cX8_latest 16 = .ok (.getfield 15, 3) := by decide +kernel
theorem dX8_latest_19 : decode cX8_latest 19 = .ok (.iconst 1, 1) := by decide +kernel
theorem dX8_latest_20 : decode cX8_latest 20 = .ok (.isub, 1) := by decide +kernel
theorem dX8_latest_21 : decode cX8_latest 21 = .ok (.iload_n 1, 1) := by decide +kernel
theorem dX8_latest_22 : decode cX8_latest 22 = .ok (.isub, 1) := by decide +kernel
theorem dX8_latest_23 : decode cX8_latest 23 = .ok (.istore_n 2, 1) := by decide +kernel
theorem dX8_latest_24 : decode cX8_latest 24 = .ok (.iload_n 2, 1) := by decide +kernel
theorem dX8_latest_25 : decode cX8_latest 25 = .ok (.ifCond .ge 11, 3) := by decide +kernel
theorem dX8_latest_28 : decode cX8_latest 28 = .ok (.iload_n 2, 1) := by decide +kernel
theorem dX8_latest_29 : decode cX8_latest 29 = .ok (.aload_n 0, 1) := by decide +kernel
theorem dX8_latest_30 : decode cX8_latest 30 = .ok (.getfield 9, 3) := by decide +kernel
theorem dX8_latest_33 : decode cX8_latest 33 = .ok (.arraylength, 1) := by decide +kernel
theorem dX8_latest_34 : decode cX8_latest 34 = .ok (.iadd, 1) := by decide +kernel
theorem dX8_latest_35 : decode cX8_latest 35 = .ok (.istore_n 2, 1) := by decide +kernel
theorem dX8_latest_36 : decode cX8_latest 36 = .ok (.iload_n 2, 1) := by decide +kernel
theorem dX8_latest_37 : decode cX8_latest 37 = .ok (.ifCond .lt 21, 3) := by decide +kernel
theorem dX8_latest_40 : decode cX8_latest 40 = .ok (.iload_n 2, 1) := by decide +kernel
theorem dX8_latest_41 : decode cX8_latest 41 = .ok (.aload_n 0, 1) := by decide +kernel
theorem dX8_latest_42 : decode cX8_latest 42 = .ok (.getfield 9, 3) := by decide +kernel
theorem dX8_latest_45 : decode cX8_latest 45 = .ok (.arraylength, 1) := by decide +kernel
theorem dX8_latest_46 : decode cX8_latest 46 = .ok (.if_icmp .ge 12, 3) := by decide +kernel
theorem dX8_latest_49 : decode cX8_latest 49 = .ok (.aload_n 0, 1) := by decide +kernel
theorem dX8_latest_50 : decode cX8_latest 50 = .ok (.getfield 9, 3) := by decide +kernel
theorem dX8_latest_53 : decode cX8_latest 53 = .ok (.iload_n 2, 1) := by decide +kernel
theorem dX8_latest_54 : decode cX8_latest 54 = .ok (.iaload, 1) := by decide +kernel
theorem dX8_latest_55 : decode cX8_latest 55 = .ok (.goto 5, 3) := by decide +kernel
theorem dX8_latest_58 : decode cX8_latest 58 = .ok (.bipush (-101), 2) := by decide +kernel
theorem dX8_latest_60 : decode cX8_latest 60 = .ok (.ireturn, 1) := by decide +kernel
theorem dX8_countHeavy_0 : decode cX8_countHeavy 0 = .ok (.aload_n 0, 1) := by decide +kernel
theorem dX8_countHeavy_1 : decode cX8_countHeavy 1 = .ok (.dup, 1) := by decide +kernel
theorem dX8_countHeavy_2 : decode cX8_countHeavy 2 = .ok (.getfield 31, 3) := by decide +kernel
theorem dX8_countHeavy_5 : decode cX8_countHeavy 5 = .ok (.iconst 1, 1) := by decide +kernel
theorem dX8_countHeavy_6 : decode cX8_countHeavy 6 = .ok (.iadd, 1) := by decide +kernel
theorem dX8_countHeavy_7 : decode cX8_countHeavy 7 = .ok (.putfield 31, 3) := by decide +kernel
theorem dX8_countHeavy_10 : decode cX8_countHeavy 10 = .ok (.return_, 1) := by decide +kernel
theorem dX8_countNothing_0 : decode cX8_countNothing 0 = .ok (.aload_n 0, 1) := by decide +kernel
theorem dX8_countNothing_1 : decode cX8_countNothing 1 = .ok (.dup, 1) := by decide +kernel
theorem dX8_countNothing_2 : decode cX8_countNothing 2 = .ok (.getfield 34, 3) := by decide +kernel
theorem dX8_countNothing_5 : decode cX8_countNothing 5 = .ok (.iconst 1, 1) := by decide +kernel
theorem dX8_countNothing_6 : decode cX8_countNothing 6 = .ok (.iadd, 1) := by decide +kernel
theorem dX8_countNothing_7 : decode cX8_countNothing 7 = .ok (.putfield 34, 3) := by decide +kernel
theorem dX8_countNothing_10 : decode cX8_countNothing 10 = .ok (.return_, 1) := by decide +kernel
theorem dX8_rulesEver_0 : decode cX8_rulesEver 0 = .ok (.aload_n 0, 1) := by decide +kernel
theorem dX8_rulesEver_1 : decode cX8_rulesEver 1 = .ok (.getfield 28, 3) := by decide +kernel
theorem dX8_rulesEver_4 : decode cX8_rulesEver 4 = .ok (.ireturn, 1) := by decide +kernel
theorem dX8_heavyEver_0 : decode cX8_heavyEver 0 = .ok (.aload_n 0, 1) := by decide +kernel
theorem dX8_heavyEver_1 : decode cX8_heavyEver 1 = .ok (.getfield 31, 3) := by decide +kernel
theorem dX8_heavyEver_4 : decode cX8_heavyEver 4 = .ok (.ireturn, 1) := by decide +kernel
theorem dX8_nothingEver_0 : decode cX8_nothingEver 0 = .ok (.aload_n 0, 1) := by decide +kernel
theorem dX8_nothingEver_1 : decode cX8_nothingEver 1 = .ok (.getfield 34, 3) := by decide +kernel
theorem dX8_nothingEver_4 : decode cX8_nothingEver 4 = .ok (.ireturn, 1) := by decide +kernel
theorem dX9_init_0 : decode cX9_init 0 = .ok (.aload_n 0, 1) := by decide +kernel
theorem dX9_init_1 : decode cX9_init 1 = .ok (.aload_n 1, 1) := by decide +kernel
theorem dX9_init_2 : decode cX9_init 2 = .ok (.aload_n 2, 1) := by decide +kernel
theorem dX9_init_3 : decode cX9_init 3 = .ok (.iload_n 3, 1) := by decide +kernel
theorem dX9_init_4 : decode cX9_init 4 = .ok (.iload 4, 2) := by decide +kernel
theorem dX9_init_6 : decode cX9_init 6 = .ok (.iload 5, 2) := by decide +kernel
theorem dX9_init_8 : decode cX9_init 8 = .ok (.invokespecial 3, 3) := by decide +kernel
theorem dX9_init_11 : decode cX9_init 11 = .ok (.return_, 1) := by decide +kernel
theorem dX9_loadAct_0 : decode cX9_loadAct 0 = .ok (.aload_n 0, 1) := by decide +kernel
theorem dX9_loadAct_1 : decode cX9_loadAct 1 = .ok (.getfield 9, 3) := by decide +kernel
theorem dX9_loadAct_4 : decode cX9_loadAct 4 = .ok (.iconst 2, 1) := by decide +kernel
theorem dX9_loadAct_5 : decode cX9_loadAct 5 = .ok (.iconst 5, 1) := by decide +kernel
theorem dX9_loadAct_6 : decode cX9_loadAct 6 = .ok (.invokevirtual 15, 3) := by decide +kernel
theorem dX9_loadAct_9 : decode cX9_loadAct 9 = .ok (.iconst 2, 1) := by decide +kernel
theorem dX9_loadAct_10 : decode cX9_loadAct 10 = .ok (.aload_n 0, 1) := by decide +kernel
theorem dX9_loadAct_11 : decode cX9_loadAct 11 = .ok (.invokespecial 21, 3) := by decide +kernel
theorem dX9_loadAct_14 : decode cX9_loadAct 14 = .ok (.imul, 1) := by decide +kernel
theorem dX9_loadAct_15 : decode cX9_loadAct 15 = .ok (.ireturn, 1) := by decide +kernel
theorem dX9_searchAct_0 : decode cX9_searchAct 0 = .ok (.aload_n 0, 1) := by decide +kernel
theorem dX9_searchAct_1 : decode cX9_searchAct 1 = .ok (.getfield 9, 3) := by decide +kernel
theorem dX9_searchAct_4 : decode cX9_searchAct 4 = .ok (.iconst 3, 1) := by decide +kernel
theorem dX9_searchAct_5 : decode cX9_searchAct 5 = .ok (.iconst 5, 1) := by decide +kernel
theorem dX9_searchAct_6 : decode cX9_searchAct 6 = .ok (.invokevirtual 15, 3) := by decide +kernel
theorem dX9_searchAct_9 : decode cX9_searchAct 9 = .ok (.aload_n 0, 1) := by decide +kernel
theorem dX9_searchAct_10 : decode cX9_searchAct 10 = .ok (.iload_n 1, 1) := by decide +kernel
theorem dX9_searchAct_11 : decode cX9_searchAct 11 = .ok (.invokespecial 25, 3) := by decide +kernel
theorem dX9_searchAct_14 : decode cX9_searchAct 14 = .ok (.istore_n 2, 1) := by decide +kernel
theorem dX9_searchAct_15 : decode cX9_searchAct 15 = .ok (.iload_n 2, 1) := by decide +kernel
theorem dX9_searchAct_16 : decode cX9_searchAct 16 = .ok (.iconst (-1), 1) := by decide +kernel
theorem dX9_searchAct_17 : decode cX9_searchAct 17 = .ok (.if_icmp .ne 13, 3) := by decide +kernel
theorem dX9_searchAct_20 : decode cX9_searchAct 20 = .ok (.aload_n 0, 1) := by decide +kernel
theorem dX9_searchAct_21 : decode cX9_searchAct 21 = .ok (.iload_n 1, 1) := by decide +kernel
theorem dX9_searchAct_22 : decode cX9_searchAct 22 = .ok (.iconst 2, 1) := by decide +kernel
theorem dX9_searchAct_23 : decode cX9_searchAct 23 = .ok (.idiv, 1) := by decide +kernel
theorem dX9_searchAct_24 : decode cX9_searchAct 24 = .ok (.invokespecial 25, 3) := by decide +kernel
theorem dX9_searchAct_27 : decode cX9_searchAct 27 = .ok (.goto 4, 3) := by decide +kernel
theorem dX9_searchAct_30 : decode cX9_searchAct 30 = .ok (.iload_n 2, 1) := by decide +kernel
theorem dX9_searchAct_31 : decode cX9_searchAct 31 = .ok (.ireturn, 1) := by decide +kernel
theorem dX10_init_0 : decode cX10_init 0 = .ok (.aload_n 0, 1) := by decide +kernel
theorem dX10_init_1 : decode cX10_init 1 = .ok (.invokespecial 1, 3) := by decide +kernel
theorem dX10_init_4 : decode cX10_init 4 = .ok (.aload_n 0, 1) := by decide +kernel
theorem dX10_init_5 : decode cX10_init 5 = .ok (.new 7, 3) := by decide +kernel
theorem dX10_init_8 : decode cX10_init 8 = .ok (.dup, 1) := by decide +kernel
theorem dX10_init_9 : decode cX10_init 9 = .ok (.invokespecial 9, 3) := by decide +kernel
theorem dX10_init_12 : decode cX10_init 12 = .ok (.putfield 10, 3) := by decide +kernel
theorem dX10_init_15 : decode cX10_init 15 = .ok (.aload_n 0, 1) := by decide +kernel
theorem dX10_init_16 : decode cX10_init 16 = .ok (.new 16, 3) := by decide +kernel
theorem dX10_init_19 : decode cX10_init 19 = .ok (.dup, 1) := by decide +kernel
theorem dX10_init_20 : decode cX10_init 20 = .ok (.invokespecial 18, 3) := by decide +kernel
theorem dX10_init_23 : decode cX10_init 23 = .ok (.putfield 19, 3) := by decide +kernel
theorem dX10_init_26 : decode cX10_init 26 = .ok (.aload_n 0, 1) := by decide +kernel
theorem dX10_init_27 : decode cX10_init 27 = .ok (.bipush 12, 2) := by decide +kernel
theorem dX10_init_29 : decode cX10_init 29 = .ok (.anewarray 23, 3) := by decide +kernel
theorem dX10_init_32 : decode cX10_init 32 = .ok (.putfield 25, 3) := by decide +kernel
theorem dX10_init_35 : decode cX10_init 35 = .ok (.return_, 1) := by decide +kernel
theorem dX10_timber_0 : decode cX10_timber 0 = .ok (.iload_n 1, 1) := by decide +kernel
theorem dX10_timber_1 : decode cX10_timber 1 = .ok (.iconst 1, 1) := by decide +kernel
theorem dX10_timber_2 : decode cX10_timber 2 = .ok (.sipush 1000, 3) := by decide +kernel
theorem dX10_timber_5 : decode cX10_timber 5 = .ok (.invokestatic 29, 3) := by decide +kernel
theorem dX10_timber_8 : decode cX10_timber 8 = .ok (.ifCond .ne 14, 3) := by decide +kernel
theorem dX10_timber_11 : decode cX10_timber 11 = .ok (.iload_n 2, 1) := by decide +kernel
theorem dX10_timber_12 : decode cX10_timber 12 = .ok (.iconst 1, 1) := by decide +kernel
theorem dX10_timber_13 : decode cX10_timber 13 = .ok (.sipush 1000, 3) := by decide +kernel
theorem dX10_timber_16 : decode cX10_timber 16 = .ok (.invokestatic 29, 3) := by decide +kernel
theorem dX10_timber_19 : decode cX10_timber 19 = .ok (.ifCond .eq 6, 3) := by decide +kernel
theorem dX10_timber_22 : decode cX10_timber 22 = .ok (.bipush (-102), 2) := by decide +kernel
theorem dX10_timber_24 : decode cX10_timber 24 = .ok (.ireturn, 1) := by decide +kernel
theorem dX10_timber_25 : decode cX10_timber 25 = .ok (.aload_n 0, 1) := by decide +kernel
theorem dX10_timber_26 : decode cX10_timber 26 = .ok (.getfield 10, 3) := by decide +kernel
theorem dX10_timber_29 : decode cX10_timber 29 = .ok (.iload_n 1, 1) := by decide +kernel
theorem dX10_timber_30 : decode cX10_timber 30 = .ok (.iload_n 2, 1) := by decide +kernel
theorem dX10_timber_31 : decode cX10_timber 31 = .ok (.iload_n 3, 1) := by decide +kernel
theorem dX10_timber_32 : decode cX10_timber 32 = .ok (.invokevirtual 33, 3) := by decide +kernel
theorem dX10_timber_35 : decode cX10_timber 35 = .ok (.ireturn, 1) := by decide +kernel
theorem dX10_pile_0 : decode cX10_pile 0 = .ok (.iload_n 1, 1) := by decide +kernel
theorem dX10_pile_1 : decode cX10_pile 1 = .ok (.iconst 0, 1) := by decide +kernel
theorem dX10_pile_2 : decode cX10_pile 2 = .ok (.bipush 7, 2) := by decide +kernel
theorem dX10_pile_4 : decode cX10_pile 4 = .ok (.invokestatic 29, 3) := by decide +kernel
theorem dX10_pile_7 : decode cX10_pile 7 = .ok (.ifCond .ne 24, 3) := by decide +kernel
theorem dX10_pile_10 : decode cX10_pile 10 = .ok (.iload_n 2, 1) := by decide +kernel
theorem dX10_pile_11 : decode cX10_pile 11 = .ok (.iconst 1, 1) := by decide +kernel
theorem dX10_pile_12 : decode cX10_pile 12 = .ok (.bipush 12, 2) := by decide +kernel
theorem dX10_pile_14 : decode cX10_pile 14 = .ok (.invokestatic 29, 3) := by decide +kernel
theorem dX10_pile_17 : decode cX10_pile 17 = .ok (.ifCond .ne 14, 3) := by decide +kernel
theorem dX10_pile_20 : decode cX10_pile 20 = .ok (.iload_n 3, 1) := by decide +kernel
theorem dX10_pile_21 : decode cX10_pile 21 = .ok (.iconst 0, 1) := by decide +kernel
theorem dX10_pile_22 : decode cX10_pile 22 = .ok (.sipush 20000, 3) := by decide +kernel
theorem dX10_pile_25 : decode cX10_pile 25 = .ok (.invokestatic 29, 3) := by decide +kernel
theorem dX10_pile_28 : decode cX10_pile 28 = .ok (.ifCond .eq 6, 3) := by decide +kernel
theorem dX10_pile_31 : decode cX10_pile 31 = .ok (.bipush (-102), 2) := by decide +kernel
theorem dX10_pile_33 : decode cX10_pile 33 = .ok (.ireturn, 1) := by decide +kernel
theorem dX10_pile_34 : decode cX10_pile 34 = .ok (.aload_n 0, 1) := by decide +kernel
theorem dX10_pile_35 : decode cX10_pile 35 = .ok (.getfield 37, 3) := by decide +kernel
theorem dX10_pile_38 : decode cX10_pile 38 = .ok (.ifCond .lt 15, 3) := by decide +kernel
theorem dX10_pile_41 : decode cX10_pile 41 = .ok (.aload_n 0, 1) := by decide +kernel
theorem dX10_pile_42 : decode cX10_pile 42 = .ok (.getfield 37, 3) := by decide +kernel
theorem dX10_pile_45 : decode cX10_pile 45 = .ok (.aload_n 0, 1) := by decide +kernel
theorem dX10_pile_46 : decode cX10_pile 46 = .ok (.getfield 25, 3) := by decide +kernel
theorem dX10_pile_49 : decode cX10_pile 49 = .ok (.arraylength, 1) := by decide +kernel
theorem dX10_pile_50 : decode cX10_pile 50 = .ok (.if_icmp .lt 6, 3) := by decide +kernel
theorem dX10_pile_53 : decode cX10_pile 53 = .ok (.bipush (-104), 2) := by decide +kernel
theorem dX10_pile_55 : decode cX10_pile 55 = .ok (.ireturn, 1) := by decide +kernel
theorem dX10_pile_56 : decode cX10_pile 56 = .ok (.aload_n 0, 1) := by decide +kernel
theorem dX10_pile_57 : decode cX10_pile 57 = .ok (.getfield 37, 3) := by decide +kernel
theorem dX10_pile_60 : decode cX10_pile 60 = .ok (.istore 4, 2) := by decide +kernel
theorem dX10_pile_62 : decode cX10_pile 62 = .ok (.aload_n 0, 1) := by decide +kernel
theorem dX10_pile_63 : decode cX10_pile 63 = .ok (.getfield 25, 3) := by decide +kernel
theorem dX10_pile_66 : decode cX10_pile 66 = .ok (.iload 4, 2) := by decide +kernel
theorem dX10_pile_68 : decode cX10_pile 68 = .ok (.aload_n 0, 1) := by decide +kernel
theorem dX10_pile_69 : decode cX10_pile 69 = .ok (.iload_n 1, 1) := by decide +kernel
theorem dX10_pile_70 : decode cX10_pile 70 = .ok (.iload 4, 2) := by decide +kernel
theorem dX10_pile_72 : decode cX10_pile 72 = .ok (.iload_n 2, 1) := by decide +kernel
theorem dX10_pile_73 : decode cX10_pile 73 = .ok (.iload_n 3, 1) := by decide +kernel
theorem dX10_pile_74 : decode cX10_pile 74 = .ok (.invokevirtual 41, 3) := by decide +kernel
theorem dX10_pile_77 : decode cX10_pile 77 = .ok (.aastore, 1) := by decide +kernel
theorem dX10_pile_78 : decode cX10_pile 78 = .ok (.aload_n 0, 1) := by decide +kernel
theorem dX10_pile_79 : decode cX10_pile 79 = .ok (.dup, 1) := by decide +kernel
theorem dX10_pile_80 : decode cX10_pile 80 = .ok (.getfield 37, 3) := by decide +kernel
theorem dX10_pile_83 : decode cX10_pile 83 = .ok (.iconst 1, 1) := by decide +kernel
theorem dX10_pile_84 : decode cX10_pile 84 = .ok (.iadd, 1) := by decide +kernel
theorem dX10_pile_85 : decode cX10_pile 85 = .ok (.putfield 37, 3) := by decide +kernel
theorem dX10_pile_88 : decode cX10_pile 88 = .ok (.iload 4, 2) := by decide +kernel
theorem dX10_pile_90 : decode cX10_pile 90 = .ok (.ireturn, 1) := by decide +kernel
theorem dX10_put_0 : decode cX10_put 0 = .ok (.aload_n 0, 1) := by decide +kernel
theorem dX10_put_1 : decode cX10_put 1 = .ok (.iload_n 1, 1) := by decide +kernel
theorem dX10_put_2 : decode cX10_put 2 = .ok (.invokevirtual 45, 3) := by decide +kernel
theorem dX10_put_5 : decode cX10_put 5 = .ok (.astore_n 3, 1) := by decide +kernel
theorem dX10_put_6 : decode cX10_put 6 = .ok (.aload_n 3, 1) := by decide +kernel
theorem dX10_put_7 : decode cX10_put 7 = .ok (.ifnull 14, 3) := by decide +kernel
theorem dX10_put_10 : decode cX10_put 10 = .ok (.aload_n 0, 1) := by decide +kernel
theorem dX10_put_11 : decode cX10_put 11 = .ok (.getfield 10, 3) := by decide +kernel
theorem dX10_put_14 : decode cX10_put 14 = .ok (.iload_n 2, 1) := by decide +kernel
theorem dX10_put_15 : decode cX10_put 15 = .ok (.invokevirtual 49, 3) := by decide +kernel
theorem dX10_put_18 : decode cX10_put 18 = .ok (.ifCond .ne 6, 3) := by decide +kernel
theorem dX10_put_21 : decode cX10_put 21 = .ok (.bipush (-101), 2) := by decide +kernel
theorem dX10_put_23 : decode cX10_put 23 = .ok (.ireturn, 1) := by decide +kernel
theorem dX10_put_24 : decode cX10_put 24 = .ok (.aload_n 0, 1) := by decide +kernel
theorem dX10_put_25 : decode cX10_put 25 = .ok (.getfield 10, 3) := by decide +kernel
theorem dX10_put_28 : decode cX10_put 28 = .ok (.iload_n 2, 1) := by decide +kernel
theorem dX10_put_29 : decode cX10_put 29 = .ok (.invokevirtual 53, 3) := by decide +kernel
theorem dX10_put_32 : decode cX10_put 32 = .ok (.iconst (-1), 1) := by decide +kernel
theorem dX10_put_33 : decode cX10_put 33 = .ok (.if_icmp .eq 6, 3) := by decide +kernel
theorem dX10_put_36 : decode cX10_put 36 = .ok (.bipush (-103), 2) := by decide +kernel
theorem dX10_put_38 : decode cX10_put 38 = .ok (.ireturn, 1) := by decide +kernel
theorem dX10_put_39 : decode cX10_put 39 = .ok (.aload_n 3, 1) := by decide +kernel
theorem dX10_put_40 : decode cX10_put 40 = .ok (.iload_n 2, 1) := by decide +kernel
theorem dX10_put_41 : decode cX10_put 41 = .ok (.invokevirtual 56, 3) := by decide +kernel
theorem dX10_put_44 : decode cX10_put 44 = .ok (.istore 4, 2) := by decide +kernel
theorem dX10_put_46 : decode cX10_put 46 = .ok (.iload 4, 2) := by decide +kernel
theorem dX10_put_48 : decode cX10_put 48 = .ok (.iconst 2, 1) := by decide +kernel
theorem dX10_put_49 : decode cX10_put 49 = .ok (.if_icmp .ne 13, 3) := by decide +kernel
theorem dX10_put_52 : decode cX10_put 52 = .ok (.new 59, 3) := by decide +kernel
theorem dX10_put_55 : decode cX10_put 55 = .ok (.dup, 1) := by decide +kernel
theorem dX10_put_56 : decode cX10_put 56 = .ok (.ldc 61, 2) := by decide +kernel
theorem dX10_put_58 : decode cX10_put 58 = .ok (.invokespecial 63, 3) := by decide +kernel
theorem dX10_put_61 : decode cX10_put 61 = .ok (.athrow, 1) := by decide +kernel
theorem dX10_put_62 : decode cX10_put 62 = .ok (.iload 4, 2) := by decide +kernel
theorem dX10_put_64 : decode cX10_put 64 = .ok (.ireturn, 1) := by decide +kernel
theorem dX10_take_0 : decode cX10_take 0 = .ok (.aload_n 0, 1) := by decide +kernel
theorem dX10_take_1 : decode cX10_take 1 = .ok (.iload_n 1, 1) := by decide +kernel
theorem dX10_take_2 : decode cX10_take 2 = .ok (.invokevirtual 45, 3) := by decide +kernel
theorem dX10_take_5 : decode cX10_take 5 = .ok (.astore_n 2, 1) := by decide +kernel
theorem dX10_take_6 : decode cX10_take 6 = .ok (.aload_n 2, 1) := by decide +kernel
theorem dX10_take_7 : decode cX10_take 7 = .ok (.ifnonnull 6, 3) := by decide +kernel
theorem dX10_take_10 : decode cX10_take 10 = .ok (.bipush (-101), 2) := by decide +kernel
theorem dX10_take_12 : decode cX10_take 12 = .ok (.ireturn, 1) := by decide +kernel
theorem dX10_take_13 : decode cX10_take 13 = .ok (.aload_n 2, 1) := by decide +kernel
theorem dX10_take_14 : decode cX10_take 14 = .ok (.invokevirtual 66, 3) := by decide +kernel
theorem dX10_take_17 : decode cX10_take 17 = .ok (.istore_n 3, 1) := by decide +kernel
theorem dX10_take_18 : decode cX10_take 18 = .ok (.iload_n 3, 1) := by decide +kernel
theorem dX10_take_19 : decode cX10_take 19 = .ok (.bipush (-2), 2) := by decide +kernel
theorem dX10_take_21 : decode cX10_take 21 = .ok (.if_icmp .ne 13, 3) := by decide +kernel
theorem dX10_take_24 : decode cX10_take 24 = .ok (.new 70, 3) := by decide +kernel
theorem dX10_take_27 : decode cX10_take 27 = .ok (.dup, 1) := by decide +kernel
theorem dX10_take_28 : decode cX10_take 28 = .ok (.ldc 72, 2) := by decide +kernel
theorem dX10_take_30 : decode cX10_take 30 = .ok (.invokespecial 74, 3) := by decide +kernel
theorem dX10_take_33 : decode cX10_take 33 = .ok (.athrow, 1) := by decide +kernel
theorem dX10_take_34 : decode cX10_take 34 = .ok (.iload_n 3, 1) := by decide +kernel
theorem dX10_take_35 : decode cX10_take 35 = .ok (.ireturn, 1) := by decide +kernel
theorem dX10_load_0 : decode cX10_load 0 = .ok (.aload_n 0, 1) := by decide +kernel
theorem dX10_load_1 : decode cX10_load 1 = .ok (.iload_n 1, 1) := by decide +kernel
theorem dX10_load_2 : decode cX10_load 2 = .ok (.invokevirtual 45, 3) := by decide +kernel
theorem dX10_load_5 : decode cX10_load 5 = .ok (.astore_n 2, 1) := by decide +kernel
theorem dX10_load_6 : decode cX10_load 6 = .ok (.aload_n 2, 1) := by decide +kernel
theorem dX10_load_7 : decode cX10_load 7 = .ok (.ifnonnull 8, 3) := by decide +kernel
theorem dX10_load_10 : decode cX10_load 10 = .ok (.bipush (-101), 2) := by decide +kernel
theorem dX10_load_12 : decode cX10_load 12 = .ok (.goto 7, 3) := by decide +kernel
theorem dX10_load_15 : decode cX10_load 15 = .ok (.aload_n 2, 1) := by decide +kernel
theorem dX10_load_16 : decode cX10_load 16 = .ok (.invokevirtual 75, 3) := by decide +kernel
theorem dX10_load_19 : decode cX10_load 19 = .ok (.ireturn, 1) := by decide +kernel
theorem dX10_search_0 : decode cX10_search 0 = .ok (.aload_n 0, 1) := by decide +kernel
theorem dX10_search_1 : decode cX10_search 1 = .ok (.iload_n 1, 1) := by decide +kernel
theorem dX10_search_2 : decode cX10_search 2 = .ok (.invokevirtual 45, 3) := by decide +kernel
theorem dX10_search_5 : decode cX10_search 5 = .ok (.astore_n 3, 1) := by decide +kernel
theorem dX10_search_6 : decode cX10_search 6 = .ok (.aload_n 3, 1) := by decide +kernel
theorem dX10_search_7 : decode cX10_search 7 = .ok (.ifnonnull 6, 3) := by decide +kernel
theorem dX10_search_10 : decode cX10_search 10 = .ok (.bipush (-101), 2) := by decide +kernel
theorem dX10_search_12 : decode cX10_search 12 = .ok (.ireturn, 1) := by decide +kernel
theorem dX10_search_13 : decode cX10_search 13 = .ok (.iload_n 2, 1) := by decide +kernel
theorem dX10_search_14 : decode cX10_search 14 = .ok (.iconst 1, 1) := by decide +kernel
theorem dX10_search_15 : decode cX10_search 15 = .ok (.sipush 1000, 3) := by decide +kernel
theorem dX10_search_18 : decode cX10_search 18 = .ok (.invokestatic 29, 3) := by decide +kernel
theorem dX10_search_21 : decode cX10_search 21 = .ok (.ifCond .eq 6, 3) := by decide +kernel
theorem dX10_search_24 : decode cX10_search 24 = .ok (.bipush (-102), 2) := by decide +kernel
theorem dX10_search_26 : decode cX10_search 26 = .ok (.ireturn, 1) := by decide +kernel
theorem dX10_search_27 : decode cX10_search 27 = .ok (.aload_n 3, 1) := by decide +kernel
theorem dX10_search_28 : decode cX10_search 28 = .ok (.iload_n 2, 1) := by decide +kernel
theorem dX10_search_29 : decode cX10_search 29 = .ok (.invokevirtual 78, 3) := by decide +kernel
theorem dX10_search_32 : decode cX10_search 32 = .ok (.ireturn, 1) := by decide +kernel
theorem dX10_free_0 : decode cX10_free 0 = .ok (.aload_n 0, 1) := by decide +kernel
theorem dX10_free_1 : decode cX10_free 1 = .ok (.iload_n 1, 1) := by decide +kernel
theorem dX10_free_2 : decode cX10_free 2 = .ok (.invokevirtual 45, 3) := by decide +kernel
theorem dX10_free_5 : decode cX10_free 5 = .ok (.astore_n 2, 1) := by decide +kernel
theorem dX10_free_6 : decode cX10_free 6 = .ok (.aload_n 2, 1) := by decide +kernel
theorem dX10_free_7 : decode cX10_free 7 = .ok (.ifnonnull 8, 3) := by decide +kernel
theorem dX10_free_10 : decode cX10_free 10 = .ok (.bipush (-101), 2) := by decide +kernel
theorem dX10_free_12 : decode cX10_free 12 = .ok (.goto 7, 3) := by decide +kernel
theorem dX10_free_15 : decode cX10_free 15 = .ok (.aload_n 2, 1) := by decide +kernel
theorem dX10_free_16 : decode cX10_free 16 = .ok (.invokevirtual 81, 3) := by decide +kernel
theorem dX10_free_19 : decode cX10_free 19 = .ok (.ireturn, 1) := by decide +kernel
theorem dX10_full_0 : decode cX10_full 0 = .ok (.aload_n 0, 1) := by decide +kernel
theorem dX10_full_1 : decode cX10_full 1 = .ok (.iload_n 1, 1) := by decide +kernel
theorem dX10_full_2 : decode cX10_full 2 = .ok (.invokevirtual 45, 3) := by decide +kernel
theorem dX10_full_5 : decode cX10_full 5 = .ok (.astore_n 2, 1) := by decide +kernel
theorem dX10_full_6 : decode cX10_full 6 = .ok (.aload_n 2, 1) := by decide +kernel
theorem dX10_full_7 : decode cX10_full 7 = .ok (.ifnonnull 6, 3) := by decide +kernel
theorem dX10_full_10 : decode cX10_full 10 = .ok (.bipush (-101), 2) := by decide +kernel
theorem dX10_full_12 : decode cX10_full 12 = .ok (.ireturn, 1) := by decide +kernel
theorem dX10_full_13 : decode cX10_full 13 = .ok (.aload_n 2, 1) := by decide +kernel
theorem dX10_full_14 : decode cX10_full 14 = .ok (.invokevirtual 84, 3) := by decide +kernel
theorem dX10_full_17 : decode cX10_full 17 = .ok (.ifCond .eq 7, 3) := by decide +kernel
theorem dX10_full_20 : decode cX10_full 20 = .ok (.iconst 1, 1) := by decide +kernel
theorem dX10_full_21 : decode cX10_full 21 = .ok (.goto 4, 3) := by decide +kernel
theorem dX10_full_24 : decode cX10_full 24 = .ok (.iconst 0, 1) := by decide +kernel
theorem dX10_full_25 : decode cX10_full 25 = .ok (.ireturn, 1) := by decide +kernel
theorem dX10_move_0 : decode cX10_move 0 = .ok (.aload_n 0, 1) := by decide +kernel
theorem dX10_move_1 : decode cX10_move 1 = .ok (.iload_n 1, 1) := by decide +kernel
theorem dX10_move_2 : decode cX10_move 2 = .ok (.invokevirtual 45, 3) := by decide +kernel
theorem dX10_move_5 : decode cX10_move 5 = .ok (.astore_n 3, 1) := by decide +kernel
theorem dX10_move_6 : decode cX10_move 6 = .ok (.aload_n 0, 1) := by decide +kernel
theorem dX10_move_7 : decode cX10_move 7 = .ok (.iload_n 2, 1) := by decide +kernel
theorem dX10_move_8 : decode cX10_move 8 = .ok (.invokevirtual 45, 3) := by decide +kernel
theorem dX10_move_11 : decode cX10_move 11 = .ok (.astore 4, 2) := by decide +kernel
theorem dX10_move_13 : decode cX10_move 13 = .ok (.aload_n 3, 1) := by decide +kernel
theorem dX10_move_14 : decode cX10_move 14 = .ok (.ifnull 8, 3) := by decide +kernel
theorem dX10_move_17 : decode cX10_move 17 = .ok (.aload 4, 2) := by decide +kernel
theorem dX10_move_19 : decode cX10_move 19 = .ok (.ifnonnull 6, 3) := by decide +kernel
theorem dX10_move_22 : decode cX10_move 22 = .ok (.bipush (-101), 2) := by decide +kernel
theorem dX10_move_24 : decode cX10_move 24 = .ok (.ireturn, 1) := by decide +kernel
theorem dX10_move_25 : decode cX10_move 25 = .ok (.aload_n 3, 1) := by decide +kernel
theorem dX10_move_26 : decode cX10_move 26 = .ok (.invokevirtual 66, 3) := by decide +kernel
theorem dX10_move_29 : decode cX10_move 29 = .ok (.istore 5, 2) := by decide +kernel
theorem dX10_move_31 : decode cX10_move 31 = .ok (.iload 5, 2) := by decide +kernel
theorem dX10_move_33 : decode cX10_move 33 = .ok (.iconst (-1), 1) := by decide +kernel
theorem dX10_move_34 : decode cX10_move 34 = .ok (.if_icmp .eq 10, 3) := by decide +kernel
theorem dX10_move_37 : decode cX10_move 37 = .ok (.iload 5, 2) := by decide +kernel
theorem dX10_move_39 : decode cX10_move 39 = .ok (.bipush (-2), 2) := by decide +kernel
theorem dX10_move_41 : decode cX10_move 41 = .ok (.if_icmp .ne 5, 3) := by decide +kernel
theorem dX10_move_44 : decode cX10_move 44 = .ok (.iconst (-1), 1) := by decide +kernel
theorem dX10_move_45 : decode cX10_move 45 = .ok (.ireturn, 1) := by decide +kernel
theorem dX10_move_46 : decode cX10_move 46 = .ok (.aload 4, 2) := by decide +kernel
theorem dX10_move_48 : decode cX10_move 48 = .ok (.iload 5, 2) := by decide +kernel
theorem dX10_move_50 : decode cX10_move 50 = .ok (.invokevirtual 56, 3) := by decide +kernel
theorem dX10_move_53 : decode cX10_move 53 = .ok (.iconst 1, 1) := by decide +kernel
theorem dX10_move_54 : decode cX10_move 54 = .ok (.if_icmp .ne 8, 3) := by decide +kernel
theorem dX10_move_57 : decode cX10_move 57 = .ok (.iload 5, 2) := by decide +kernel
theorem dX10_move_59 : decode cX10_move 59 = .ok (.goto 8, 3) := by decide +kernel
theorem dX10_move_62 : decode cX10_move 62 = .ok (.bipush (-2), 2) := by decide +kernel
theorem dX10_move_64 : decode cX10_move 64 = .ok (.iload 5, 2) := by decide +kernel
theorem dX10_move_66 : decode cX10_move 66 = .ok (.isub, 1) := by decide +kernel
theorem dX10_move_67 : decode cX10_move 67 = .ok (.ireturn, 1) := by decide +kernel
theorem dX10_at_0 : decode cX10_at 0 = .ok (.aload_n 0, 1) := by decide +kernel
theorem dX10_at_1 : decode cX10_at 1 = .ok (.iload_n 1, 1) := by decide +kernel
theorem dX10_at_2 : decode cX10_at 2 = .ok (.invokevirtual 45, 3) := by decide +kernel
theorem dX10_at_5 : decode cX10_at 5 = .ok (.astore_n 3, 1) := by decide +kernel
theorem dX10_at_6 : decode cX10_at 6 = .ok (.aload_n 3, 1) := by decide +kernel
theorem dX10_at_7 : decode cX10_at 7 = .ok (.ifnonnull 6, 3) := by decide +kernel
theorem dX10_at_10 : decode cX10_at 10 = .ok (.bipush (-101), 2) := by decide +kernel
theorem dX10_at_12 : decode cX10_at 12 = .ok (.ireturn, 1) := by decide +kernel
theorem dX10_at_13 : decode cX10_at 13 = .ok (.aload_n 3, 1) := by decide +kernel
theorem dX10_at_14 : decode cX10_at 14 = .ok (.iload_n 2, 1) := by decide +kernel
theorem dX10_at_15 : decode cX10_at 15 = .ok (.invokevirtual 88, 3) := by decide +kernel
theorem dX10_at_18 : decode cX10_at 18 = .ok (.istore 4, 2) := by decide +kernel
theorem dX10_at_20 : decode cX10_at 20 = .ok (.iload 4, 2) := by decide +kernel
theorem dX10_at_22 : decode cX10_at 22 = .ok (.iconst (-1), 1) := by decide +kernel
theorem dX10_at_23 : decode cX10_at 23 = .ok (.if_icmp .ne 8, 3) := by decide +kernel
theorem dX10_at_26 : decode cX10_at 26 = .ok (.bipush (-101), 2) := by decide +kernel
theorem dX10_at_28 : decode cX10_at 28 = .ok (.goto 5, 3) := by decide +kernel
theorem dX10_at_31 : decode cX10_at 31 = .ok (.iload 4, 2) := by decide +kernel
theorem dX10_at_33 : decode cX10_at 33 = .ok (.ireturn, 1) := by decide +kernel
theorem dX10_of_0 : decode cX10_of 0 = .ok (.aload_n 0, 1) := by decide +kernel
theorem dX10_of_1 : decode cX10_of 1 = .ok (.getfield 10, 3) := by decide +kernel
theorem dX10_of_4 : decode cX10_of 4 = .ok (.iload_n 1, 1) := by decide +kernel
theorem dX10_of_5 : decode cX10_of 5 = .ok (.invokevirtual 49, 3) := by decide +kernel
theorem dX10_of_8 : decode cX10_of 8 = .ok (.ifCond .ne 6, 3) := by decide +kernel
theorem dX10_of_11 : decode cX10_of 11 = .ok (.bipush (-101), 2) := by decide +kernel
theorem dX10_of_13 : decode cX10_of 13 = .ok (.ireturn, 1) := by decide +kernel
theorem dX10_of_14 : decode cX10_of 14 = .ok (.iload_n 2, 1) := by decide +kernel
theorem dX10_of_15 : decode cX10_of 15 = .ok (.tableswitch 73 0 3 #[29, 38, 47, 64], 29) := by decide +kernel
theorem dX10_of_44 : decode cX10_of 44 = .ok (.aload_n 0, 1) := by decide +kernel
theorem dX10_of_45 : decode cX10_of 45 = .ok (.getfield 10, 3) := by decide +kernel
theorem dX10_of_48 : decode cX10_of 48 = .ok (.iload_n 1, 1) := by decide +kernel
theorem dX10_of_49 : decode cX10_of 49 = .ok (.invokevirtual 91, 3) := by decide +kernel
theorem dX10_of_52 : decode cX10_of 52 = .ok (.ireturn, 1) := by decide +kernel
theorem dX10_of_53 : decode cX10_of 53 = .ok (.aload_n 0, 1) := by decide +kernel
theorem dX10_of_54 : decode cX10_of 54 = .ok (.getfield 10, 3) := by decide +kernel
theorem dX10_of_57 : decode cX10_of 57 = .ok (.iload_n 1, 1) := by decide +kernel
theorem dX10_of_58 : decode cX10_of 58 = .ok (.invokevirtual 94, 3) := by decide +kernel
theorem dX10_of_61 : decode cX10_of 61 = .ok (.ireturn, 1) := by decide +kernel
theorem dX10_of_62 : decode cX10_of 62 = .ok (.aload_n 0, 1) := by decide +kernel
theorem dX10_of_63 : decode cX10_of 63 = .ok (.getfield 10, 3) := by decide +kernel
theorem dX10_of_66 : decode cX10_of 66 = .ok (.iload_n 1, 1) := by decide +kernel
theorem dX10_of_67 : decode cX10_of 67 = .ok (.invokevirtual 97, 3) := by decide +kernel
theorem dX10_of_70 : decode cX10_of 70 = .ok (.ifCond .eq 7, 3) := by decide +kernel
theorem dX10_of_73 : decode cX10_of 73 = .ok (.iconst 1, 1) := by decide +kernel
theorem dX10_of_74 : decode cX10_of 74 = .ok (.goto 4, 3) := by decide +kernel
theorem dX10_of_77 : decode cX10_of 77 = .ok (.iconst 0, 1) := by decide +kernel
theorem dX10_of_78 : decode cX10_of 78 = .ok (.ireturn, 1) := by decide +kernel
theorem dX10_of_79 : decode cX10_of 79 = .ok (.aload_n 0, 1) := by decide +kernel
theorem dX10_of_80 : decode cX10_of 80 = .ok (.getfield 10, 3) := by decide +kernel
theorem dX10_of_83 : decode cX10_of 83 = .ok (.iload_n 1, 1) := by decide +kernel
theorem dX10_of_84 : decode cX10_of 84 = .ok (.invokevirtual 53, 3) := by decide +kernel
theorem dX10_of_87 : decode cX10_of 87 = .ok (.ireturn, 1) := by decide +kernel
theorem dX10_of_88 : decode cX10_of 88 = .ok (.bipush (-102), 2) := by decide +kernel
theorem dX10_of_90 : decode cX10_of 90 = .ok (.ireturn, 1) := by decide +kernel
theorem dX10_trace_0 : decode cX10_trace 0 = .ok (.aload_n 0, 1) := by decide +kernel
theorem dX10_trace_1 : decode cX10_trace 1 = .ok (.getfield 19, 3) := by decide +kernel
theorem dX10_trace_4 : decode cX10_trace 4 = .ok (.iload_n 1, 1) := by decide +kernel
theorem dX10_trace_5 : decode cX10_trace 5 = .ok (.invokevirtual 100, 3) := by decide +kernel
theorem dX10_trace_8 : decode cX10_trace 8 = .ok (.ireturn, 1) := by decide +kernel
theorem dX10_count_0 : decode cX10_count 0 = .ok (.iload_n 1, 1) := by decide +kernel
theorem dX10_count_1 : decode cX10_count 1 = .ok (.tableswitch 72 0 4 #[35, 43, 48, 56, 64], 35) := by decide +kernel
theorem dX10_count_36 : decode cX10_count 36 = .ok (.aload_n 0, 1) := by decide +kernel
theorem dX10_count_37 : decode cX10_count 37 = .ok (.getfield 10, 3) := by decide +kernel
theorem dX10_count_40 : decode cX10_count 40 = .ok (.invokevirtual 103, 3) := by decide +kernel
theorem dX10_count_43 : decode cX10_count 43 = .ok (.ireturn, 1) := by decide +kernel
theorem dX10_count_44 : decode cX10_count 44 = .ok (.aload_n 0, 1) := by decide +kernel
theorem dX10_count_45 : decode cX10_count 45 = .ok (.getfield 37, 3) := by decide +kernel
theorem dX10_count_48 : decode cX10_count 48 = .ok (.ireturn, 1) := by decide +kernel
theorem dX10_count_49 : decode cX10_count 49 = .ok (.aload_n 0, 1) := by decide +kernel
theorem dX10_count_50 : decode cX10_count 50 = .ok (.getfield 19, 3) := by decide +kernel
theorem dX10_count_53 : decode cX10_count 53 = .ok (.invokevirtual 106, 3) := by decide +kernel
theorem dX10_count_56 : decode cX10_count 56 = .ok (.ireturn, 1) := by decide +kernel
theorem dX10_count_57 : decode cX10_count 57 = .ok (.aload_n 0, 1) := by decide +kernel
theorem dX10_count_58 : decode cX10_count 58 = .ok (.getfield 19, 3) := by decide +kernel
theorem dX10_count_61 : decode cX10_count 61 = .ok (.invokevirtual 109, 3) := by decide +kernel
theorem dX10_count_64 : decode cX10_count 64 = .ok (.ireturn, 1) := by decide +kernel
theorem dX10_count_65 : decode cX10_count 65 = .ok (.aload_n 0, 1) := by decide +kernel
theorem dX10_count_66 : decode cX10_count 66 = .ok (.getfield 19, 3) := by decide +kernel
theorem dX10_count_69 : decode cX10_count 69 = .ok (.invokevirtual 112, 3) := by decide +kernel
theorem dX10_count_72 : decode cX10_count 72 = .ok (.ireturn, 1) := by decide +kernel
theorem dX10_count_73 : decode cX10_count 73 = .ok (.bipush (-102), 2) := by decide +kernel
theorem dX10_count_75 : decode cX10_count 75 = .ok (.ireturn, 1) := by decide +kernel
theorem dX10_isOutside_0 : decode cX10_isOutside 0 = .ok (.iload_n 0, 1) := by decide +kernel
theorem dX10_isOutside_1 : decode cX10_isOutside 1 = .ok (.iload_n 1, 1) := by decide +kernel
theorem dX10_isOutside_2 : decode cX10_isOutside 2 = .ok (.if_icmp .lt 8, 3) := by decide +kernel
theorem dX10_isOutside_5 : decode cX10_isOutside 5 = .ok (.iload_n 0, 1) := by decide +kernel
theorem dX10_isOutside_6 : decode cX10_isOutside 6 = .ok (.iload_n 2, 1) := by decide +kernel
theorem dX10_isOutside_7 : decode cX10_isOutside 7 = .ok (.if_icmp .le 7, 3) := by decide +kernel
theorem dX10_isOutside_10 : decode cX10_isOutside 10 = .ok (.iconst 1, 1) := by decide +kernel
theorem dX10_isOutside_11 : decode cX10_isOutside 11 = .ok (.goto 4, 3) := by decide +kernel
theorem dX10_isOutside_14 : decode cX10_isOutside 14 = .ok (.iconst 0, 1) := by decide +kernel
theorem dX10_isOutside_15 : decode cX10_isOutside 15 = .ok (.ireturn, 1) := by decide +kernel
theorem dX10_pileOf_0 : decode cX10_pileOf 0 = .ok (.iload_n 1, 1) := by decide +kernel
theorem dX10_pileOf_1 : decode cX10_pileOf 1 = .ok (.ifCond .lt 20, 3) := by decide +kernel
theorem dX10_pileOf_4 : decode cX10_pileOf 4 = .ok (.iload_n 1, 1) := by decide +kernel
theorem dX10_pileOf_5 : decode cX10_pileOf 5 = .ok (.aload_n 0, 1) := by decide +kernel
theorem dX10_pileOf_6 : decode cX10_pileOf 6 = .ok (.getfield 37, 3) := by decide +kernel
theorem dX10_pileOf_9 : decode cX10_pileOf 9 = .ok (.if_icmp .ge 12, 3) := by decide +kernel
theorem dX10_pileOf_12 : decode cX10_pileOf 12 = .ok (.iload_n 1, 1) := by decide +kernel
theorem dX10_pileOf_13 : decode cX10_pileOf 13 = .ok (.aload_n 0, 1) := by decide +kernel
theorem dX10_pileOf_14 : decode cX10_pileOf 14 = .ok (.getfield 25, 3) := by decide +kernel
theorem dX10_pileOf_17 : decode cX10_pileOf 17 = .ok (.arraylength, 1) := by decide +kernel
theorem dX10_pileOf_18 : decode cX10_pileOf 18 = .ok (.if_icmp .lt 5, 3) := by decide +kernel
theorem dX10_pileOf_21 : decode cX10_pileOf 21 = .ok (.aconst_null, 1) := by decide +kernel
theorem dX10_pileOf_22 : decode cX10_pileOf 22 = .ok (.areturn, 1) := by decide +kernel
theorem dX10_pileOf_23 : decode cX10_pileOf 23 = .ok (.aload_n 0, 1) := by decide +kernel
theorem dX10_pileOf_24 : decode cX10_pileOf 24 = .ok (.getfield 25, 3) := by decide +kernel
theorem dX10_pileOf_27 : decode cX10_pileOf 27 = .ok (.iload_n 1, 1) := by decide +kernel
theorem dX10_pileOf_28 : decode cX10_pileOf 28 = .ok (.aaload, 1) := by decide +kernel
theorem dX10_pileOf_29 : decode cX10_pileOf 29 = .ok (.areturn, 1) := by decide +kernel
theorem dX10_newPile_0 : decode cX10_newPile 0 = .ok (.iload_n 1, 1) := by decide +kernel
theorem dX10_newPile_1 : decode cX10_newPile 1 = .ok (.tableswitch 183 1 7 #[43, 63, 83, 103, 123, 143, 163], 43) := by decide +kernel
theorem dX10_newPile_44 : decode cX10_newPile 44 = .ok (.new 115, 3) := by decide +kernel
theorem dX10_newPile_47 : decode cX10_newPile 47 = .ok (.dup, 1) := by decide +kernel
theorem dX10_newPile_48 : decode cX10_newPile 48 = .ok (.aload_n 0, 1) := by decide +kernel
theorem dX10_newPile_49 : decode cX10_newPile 49 = .ok (.getfield 10, 3) := by decide +kernel
theorem dX10_newPile_52 : decode cX10_newPile 52 = .ok (.aload_n 0, 1) := by decide +kernel
theorem dX10_newPile_53 : decode cX10_newPile 53 = .ok (.getfield 19, 3) := by decide +kernel
theorem dX10_newPile_56 : decode cX10_newPile 56 = .ok (.iload_n 2, 1) := by decide +kernel
theorem dX10_newPile_57 : decode cX10_newPile 57 = .ok (.iload_n 3, 1) := by decide +kernel
theorem dX10_newPile_58 : decode cX10_newPile 58 = .ok (.iload 4, 2) := by decide +kernel
theorem dX10_newPile_60 : decode cX10_newPile 60 = .ok (.invokespecial 117, 3) := by decide +kernel
theorem dX10_newPile_63 : decode cX10_newPile 63 = .ok (.areturn, 1) := by decide +kernel
theorem dX10_newPile_64 : decode cX10_newPile 64 = .ok (.new 120, 3) := by decide +kernel
theorem dX10_newPile_67 : decode cX10_newPile 67 = .ok (.dup, 1) := by decide +kernel
theorem dX10_newPile_68 : decode cX10_newPile 68 = .ok (.aload_n 0, 1) := by decide +kernel
theorem dX10_newPile_69 : decode cX10_newPile 69 = .ok (.getfield 10, 3) := by decide +kernel
theorem dX10_newPile_72 : decode cX10_newPile 72 = .ok (.aload_n 0, 1) := by decide +kernel
theorem dX10_newPile_73 : decode cX10_newPile 73 = .ok (.getfield 19, 3) := by decide +kernel
theorem dX10_newPile_76 : decode cX10_newPile 76 = .ok (.iload_n 2, 1) := by decide +kernel
theorem dX10_newPile_77 : decode cX10_newPile 77 = .ok (.iload_n 3, 1) := by decide +kernel
theorem dX10_newPile_78 : decode cX10_newPile 78 = .ok (.iload 4, 2) := by decide +kernel
theorem dX10_newPile_80 : decode cX10_newPile 80 = .ok (.invokespecial 122, 3) := by decide +kernel
theorem dX10_newPile_83 : decode cX10_newPile 83 = .ok (.areturn, 1) := by decide +kernel
theorem dX10_newPile_84 : decode cX10_newPile 84 = .ok (.new 123, 3) := by decide +kernel
theorem dX10_newPile_87 : decode cX10_newPile 87 = .ok (.dup, 1) := by decide +kernel
theorem dX10_newPile_88 : decode cX10_newPile 88 = .ok (.aload_n 0, 1) := by decide +kernel
theorem dX10_newPile_89 : decode cX10_newPile 89 = .ok (.getfield 10, 3) := by decide +kernel
theorem dX10_newPile_92 : decode cX10_newPile 92 = .ok (.aload_n 0, 1) := by decide +kernel
theorem dX10_newPile_93 : decode cX10_newPile 93 = .ok (.getfield 19, 3) := by decide +kernel
theorem dX10_newPile_96 : decode cX10_newPile 96 = .ok (.iload_n 2, 1) := by decide +kernel
theorem dX10_newPile_97 : decode cX10_newPile 97 = .ok (.iload_n 3, 1) := by decide +kernel
theorem dX10_newPile_98 : decode cX10_newPile 98 = .ok (.iload 4, 2) := by decide +kernel
theorem dX10_newPile_100 : decode cX10_newPile 100 = .ok (.invokespecial 125, 3) := by decide +kernel
theorem dX10_newPile_103 : decode cX10_newPile 103 = .ok (.areturn, 1) := by decide +kernel
theorem dX10_newPile_104 : decode cX10_newPile 104 = .ok (.new 126, 3) := by decide +kernel
theorem dX10_newPile_107 : decode cX10_newPile 107 = .ok (.dup, 1) := by decide +kernel
theorem dX10_newPile_108 : decode cX10_newPile 108 = .ok (.aload_n 0, 1) := by decide +kernel
theorem dX10_newPile_109 : decode cX10_newPile 109 = .ok (.getfield 10, 3) := by decide +kernel
theorem dX10_newPile_112 : decode cX10_newPile 112 = .ok (.aload_n 0, 1) := by decide +kernel
theorem dX10_newPile_113 : decode cX10_newPile 113 = .ok (.getfield 19, 3) := by decide +kernel
theorem dX10_newPile_116 : decode cX10_newPile 116 = .ok (.iload_n 2, 1) := by decide +kernel
theorem dX10_newPile_117 : decode cX10_newPile 117 = .ok (.iload_n 3, 1) := by decide +kernel
theorem dX10_newPile_118 : decode cX10_newPile 118 = .ok (.iload 4, 2) := by decide +kernel
theorem dX10_newPile_120 : decode cX10_newPile 120 = .ok (.invokespecial 128, 3) := by decide +kernel
theorem dX10_newPile_123 : decode cX10_newPile 123 = .ok (.areturn, 1) := by decide +kernel
theorem dX10_newPile_124 : decode cX10_newPile 124 = .ok (.new 129, 3) := by decide +kernel
theorem dX10_newPile_127 : decode cX10_newPile 127 = .ok (.dup, 1) := by decide +kernel
theorem dX10_newPile_128 : decode cX10_newPile 128 = .ok (.aload_n 0, 1) := by decide +kernel
theorem dX10_newPile_129 : decode cX10_newPile 129 = .ok (.getfield 10, 3) := by decide +kernel
theorem dX10_newPile_132 : decode cX10_newPile 132 = .ok (.aload_n 0, 1) := by decide +kernel
theorem dX10_newPile_133 : decode cX10_newPile 133 = .ok (.getfield 19, 3) := by decide +kernel
theorem dX10_newPile_136 : decode cX10_newPile 136 = .ok (.iload_n 2, 1) := by decide +kernel
theorem dX10_newPile_137 : decode cX10_newPile 137 = .ok (.iload_n 3, 1) := by decide +kernel
theorem dX10_newPile_138 : decode cX10_newPile 138 = .ok (.iload 4, 2) := by decide +kernel
theorem dX10_newPile_140 : decode cX10_newPile 140 = .ok (.invokespecial 131, 3) := by decide +kernel
theorem dX10_newPile_143 : decode cX10_newPile 143 = .ok (.areturn, 1) := by decide +kernel
theorem dX10_newPile_144 : decode cX10_newPile 144 = .ok (.new 132, 3) := by decide +kernel
theorem dX10_newPile_147 : decode cX10_newPile 147 = .ok (.dup, 1) := by decide +kernel
theorem dX10_newPile_148 : decode cX10_newPile 148 = .ok (.aload_n 0, 1) := by decide +kernel
theorem dX10_newPile_149 : decode cX10_newPile 149 = .ok (.getfield 10, 3) := by decide +kernel
theorem dX10_newPile_152 : decode cX10_newPile 152 = .ok (.aload_n 0, 1) := by decide +kernel
theorem dX10_newPile_153 : decode cX10_newPile 153 = .ok (.getfield 19, 3) := by decide +kernel
theorem dX10_newPile_156 : decode cX10_newPile 156 = .ok (.iload_n 2, 1) := by decide +kernel
theorem dX10_newPile_157 : decode cX10_newPile 157 = .ok (.iload_n 3, 1) := by decide +kernel
theorem dX10_newPile_158 : decode cX10_newPile 158 = .ok (.iload 4, 2) := by decide +kernel
theorem dX10_newPile_160 : decode cX10_newPile 160 = .ok (.invokespecial 134, 3) := by decide +kernel
theorem dX10_newPile_163 : decode cX10_newPile 163 = .ok (.areturn, 1) := by decide +kernel
theorem dX10_newPile_164 : decode cX10_newPile 164 = .ok (.new 135, 3) := by decide +kernel
theorem dX10_newPile_167 : decode cX10_newPile 167 = .ok (.dup, 1) := by decide +kernel
theorem dX10_newPile_168 : decode cX10_newPile 168 = .ok (.aload_n 0, 1) := by decide +kernel
theorem dX10_newPile_169 : decode cX10_newPile 169 = .ok (.getfield 10, 3) := by decide +kernel
theorem dX10_newPile_172 : decode cX10_newPile 172 = .ok (.aload_n 0, 1) := by decide +kernel
theorem dX10_newPile_173 : decode cX10_newPile 173 = .ok (.getfield 19, 3) := by decide +kernel
theorem dX10_newPile_176 : decode cX10_newPile 176 = .ok (.iload_n 2, 1) := by decide +kernel
theorem dX10_newPile_177 : decode cX10_newPile 177 = .ok (.iload_n 3, 1) := by decide +kernel
theorem dX10_newPile_178 : decode cX10_newPile 178 = .ok (.iload 4, 2) := by decide +kernel
theorem dX10_newPile_180 : decode cX10_newPile 180 = .ok (.invokespecial 137, 3) := by decide +kernel
theorem dX10_newPile_183 : decode cX10_newPile 183 = .ok (.areturn, 1) := by decide +kernel
theorem dX10_newPile_184 : decode cX10_newPile 184 = .ok (.new 23, 3) := by decide +kernel
theorem dX10_newPile_187 : decode cX10_newPile 187 = .ok (.dup, 1) := by decide +kernel
theorem dX10_newPile_188 : decode cX10_newPile 188 = .ok (.aload_n 0, 1) := by decide +kernel
theorem dX10_newPile_189 : decode cX10_newPile 189 = .ok (.getfield 10, 3) := by decide +kernel
theorem dX10_newPile_192 : decode cX10_newPile 192 = .ok (.aload_n 0, 1) := by decide +kernel
theorem dX10_newPile_193 : decode cX10_newPile 193 = .ok (.getfield 19, 3) := by decide +kernel
theorem dX10_newPile_196 : decode cX10_newPile 196 = .ok (.iload_n 2, 1) := by decide +kernel
theorem dX10_newPile_197 : decode cX10_newPile 197 = .ok (.iload_n 3, 1) := by decide +kernel
theorem dX10_newPile_198 : decode cX10_newPile 198 = .ok (.iload 4, 2) := by decide +kernel
theorem dX10_newPile_200 : decode cX10_newPile 200 = .ok (.invokespecial 138, 3) := by decide +kernel
theorem dX10_newPile_203 : decode cX10_newPile 203 = .ok (.areturn, 1) := by decide +kernel
end
section
theorem dX11_init_0 : decode cX11_init 0 = .ok (.aload_n 0, 1) := by decide +kernel
theorem dX11_init_1 : decode cX11_init 1 = .ok (.invokespecial 1, 3) := by decide +kernel
theorem dX11_init_4 : decode cX11_init 4 = .ok (.aload_n 0, 1) := by decide +kernel
theorem dX11_init_5 : decode cX11_init 5 = .ok (.bipush 60, 2) := by decide +kernel
theorem dX11_init_7 : decode cX11_init 7 = .ok (.newarray .int, 2) := by decide +kernel
theorem dX11_init_9 : decode cX11_init 9 = .ok (.putfield 7, 3) := by decide +kernel
theorem dX11_init_12 : decode cX11_init 12 = .ok (.aload_n 0, 1) := by decide +kernel
theorem dX11_init_13 : decode cX11_init 13 = .ok (.bipush 60, 2) := by decide +kernel
theorem dX11_init_15 : decode cX11_init 15 = .ok (.newarray .int, 2) := by decide +kernel
theorem dX11_init_17 : decode cX11_init 17 = .ok (.putfield 13, 3) := by decide +kernel
theorem dX11_init_20 : decode cX11_init 20 = .ok (.aload_n 0, 1) := by decide +kernel
theorem dX11_init_21 : decode cX11_init 21 = .ok (.bipush 60, 2) := by decide +kernel
theorem dX11_init_23 : decode cX11_init 23 = .ok (.newarray .boolean, 2) := by decide +kernel
theorem dX11_init_25 : decode cX11_init 25 = .ok (.putfield 16, 3) := by decide +kernel
theorem dX11_init_28 : decode cX11_init 28 = .ok (.aload_n 0, 1) := by decide +kernel
theorem dX11_init_29 : decode cX11_init 29 = .ok (.bipush 60, 2) := by decide +kernel
theorem dX11_init_31 : decode cX11_init 31 = .ok (.newarray .int, 2) := by decide +kernel
theorem dX11_init_33 : decode cX11_init 33 = .ok (.putfield 20, 3) := by decide +kernel
theorem dX11_init_36 : decode cX11_init 36 = .ok (.aload_n 0, 1) := by decide +kernel
theorem dX11_init_37 : decode cX11_init 37 = .ok (.bipush 12, 2) := by decide +kernel
theorem dX11_init_39 : decode cX11_init 39 = .ok (.newarray .int, 2) := by decide +kernel
theorem dX11_init_41 : decode cX11_init 41 = .ok (.putfield 23, 3) := by decide +kernel
theorem dX11_init_44 : decode cX11_init 44 = .ok (.aload_n 0, 1) := by decide +kernel
theorem dX11_init_45 : decode cX11_init 45 = .ok (.bipush 12, 2) := by decide +kernel
theorem dX11_init_47 : decode cX11_init 47 = .ok (.newarray .int, 2) := by decide +kernel
theorem dX11_init_49 : decode cX11_init 49 = .ok (.putfield 26, 3) := by decide +kernel
theorem dX11_init_52 : decode cX11_init 52 = .ok (.aload_n 0, 1) := by decide +kernel
theorem dX11_init_53 : decode cX11_init 53 = .ok (.bipush 12, 2) := by decide +kernel
theorem dX11_init_55 : decode cX11_init 55 = .ok (.newarray .int, 2) := by decide +kernel
theorem dX11_init_57 : decode cX11_init 57 = .ok (.putfield 29, 3) := by decide +kernel
theorem dX11_init_60 : decode cX11_init 60 = .ok (.aload_n 0, 1) := by decide +kernel
theorem dX11_init_61 : decode cX11_init 61 = .ok (.bipush 12, 2) := by decide +kernel
theorem dX11_init_63 : decode cX11_init 63 = .ok (.newarray .int, 2) := by decide +kernel
theorem dX11_init_65 : decode cX11_init 65 = .ok (.putfield 32, 3) := by decide +kernel
theorem dX11_init_68 : decode cX11_init 68 = .ok (.aload_n 0, 1) := by decide +kernel
theorem dX11_init_69 : decode cX11_init 69 = .ok (.sipush 144, 3) := by decide +kernel
theorem dX11_init_72 : decode cX11_init 72 = .ok (.newarray .int, 2) := by decide +kernel
theorem dX11_init_74 : decode cX11_init 74 = .ok (.putfield 35, 3) := by decide +kernel
theorem dX11_init_77 : decode cX11_init 77 = .ok (.aload_n 0, 1) := by decide +kernel
theorem dX11_init_78 : decode cX11_init 78 = .ok (.sipush 200, 3) := by decide +kernel
theorem dX11_init_81 : decode cX11_init 81 = .ok (.newarray .int, 2) := by decide +kernel
theorem dX11_init_83 : decode cX11_init 83 = .ok (.putfield 38, 3) := by decide +kernel
theorem dX11_init_86 : decode cX11_init 86 = .ok (.return_, 1) := by decide +kernel
theorem dX11_thrown_0 : decode cX11_thrown 0 = .ok (.aload_n 0, 1) := by decide +kernel
theorem dX11_thrown_1 : decode cX11_thrown 1 = .ok (.getfield 41, 3) := by decide +kernel
theorem dX11_thrown_4 : decode cX11_thrown 4 = .ok (.ireturn, 1) := by decide +kernel
theorem dX11_isIn_0 : decode cX11_isIn 0 = .ok (.iload_n 0, 1) := by decide +kernel
theorem dX11_isIn_1 : decode cX11_isIn 1 = .ok (.iload_n 1, 1) := by decide +kernel
theorem dX11_isIn_2 : decode cX11_isIn 2 = .ok (.if_icmp .lt 12, 3) := by decide +kernel
theorem dX11_isIn_5 : decode cX11_isIn 5 = .ok (.iload_n 0, 1) := by decide +kernel
theorem dX11_isIn_6 : decode cX11_isIn 6 = .ok (.iload_n 2, 1) := by decide +kernel
theorem dX11_isIn_7 : decode cX11_isIn 7 = .ok (.if_icmp .gt 7, 3) := by decide +kernel
theorem dX11_isIn_10 : decode cX11_isIn 10 = .ok (.iconst 1, 1) := by decide +kernel
theorem dX11_isIn_11 : decode cX11_isIn 11 = .ok (.goto 4, 3) := by decide +kernel
theorem dX11_isIn_14 : decode cX11_isIn 14 = .ok (.iconst 0, 1) := by decide +kernel
theorem dX11_isIn_15 : decode cX11_isIn 15 = .ok (.ireturn, 1) := by decide +kernel
theorem dX11_isTimber_0 : decode cX11_isTimber 0 = .ok (.iload_n 1, 1) := by decide +kernel
theorem dX11_isTimber_1 : decode cX11_isTimber 1 = .ok (.iconst 0, 1) := by decide +kernel
theorem dX11_isTimber_2 : decode cX11_isTimber 2 = .ok (.aload_n 0, 1) := by decide +kernel
theorem dX11_isTimber_3 : decode cX11_isTimber 3 = .ok (.getfield 45, 3) := by decide +kernel
theorem dX11_isTimber_6 : decode cX11_isTimber 6 = .ok (.iconst 1, 1) := by decide +kernel
theorem dX11_isTimber_7 : decode cX11_isTimber 7 = .ok (.isub, 1) := by decide +kernel
theorem dX11_isTimber_8 : decode cX11_isTimber 8 = .ok (.invokestatic 48, 3) := by decide +kernel
theorem dX11_isTimber_11 : decode cX11_isTimber 11 = .ok (.ireturn, 1) := by decide +kernel
theorem dX11_isPile_0 : decode cX11_isPile 0 = .ok (.iload_n 1, 1) := by decide +kernel
theorem dX11_isPile_1 : decode cX11_isPile 1 = .ok (.iconst 0, 1) := by decide +kernel
theorem dX11_isPile_2 : decode cX11_isPile 2 = .ok (.aload_n 0, 1) := by decide +kernel
theorem dX11_isPile_3 : decode cX11_isPile 3 = .ok (.getfield 52, 3) := by decide +kernel
theorem dX11_isPile_6 : decode cX11_isPile 6 = .ok (.iconst 1, 1) := by decide +kernel
theorem dX11_isPile_7 : decode cX11_isPile 7 = .ok (.isub, 1) := by decide +kernel
theorem dX11_isPile_8 : decode cX11_isPile 8 = .ok (.invokestatic 48, 3) := by decide +kernel
theorem dX11_isPile_11 : decode cX11_isPile 11 = .ok (.ireturn, 1) := by decide +kernel
theorem dX11_rule_0 : decode cX11_rule 0 = .ok (.aload_n 0, 1) := by decide +kernel
theorem dX11_rule_1 : decode cX11_rule 1 = .ok (.getfield 38, 3) := by decide +kernel
theorem dX11_rule_4 : decode cX11_rule 4 = .ok (.aload_n 0, 1) := by decide +kernel
theorem dX11_rule_5 : decode cX11_rule 5 = .ok (.getfield 55, 3) := by decide +kernel
theorem dX11_rule_8 : decode cX11_rule 8 = .ok (.sipush 200, 3) := by decide +kernel
theorem dX11_rule_11 : decode cX11_rule 11 = .ok (.irem, 1) := by decide +kernel
theorem dX11_rule_12 : decode cX11_rule 12 = .ok (.bipush 10, 2) := by decide +kernel
theorem dX11_rule_14 : decode cX11_rule 14 = .ok (.iload_n 1, 1) := by decide +kernel
theorem dX11_rule_15 : decode cX11_rule 15 = .ok (.imul, 1) := by decide +kernel
theorem dX11_rule_16 : decode cX11_rule 16 = .ok (.iload_n 2, 1) := by decide +kernel
theorem dX11_rule_17 : decode cX11_rule 17 = .ok (.iadd, 1) := by decide +kernel
theorem dX11_rule_18 : decode cX11_rule 18 = .ok (.iastore, 1) := by decide +kernel
theorem dX11_rule_19 : decode cX11_rule 19 = .ok (.aload_n 0, 1) := by decide +kernel
theorem dX11_rule_20 : decode cX11_rule 20 = .ok (.dup, 1) := by decide +kernel
theorem dX11_rule_21 : decode cX11_rule 21 = .ok (.getfield 55, 3) := by decide +kernel
theorem dX11_rule_24 : decode cX11_rule 24 = .ok (.iconst 1, 1) := by decide +kernel
theorem dX11_rule_25 : decode cX11_rule 25 = .ok (.iadd, 1) := by decide +kernel
theorem dX11_rule_26 : decode cX11_rule 26 = .ok (.putfield 55, 3) := by decide +kernel
theorem dX11_rule_29 : decode cX11_rule 29 = .ok (.return_, 1) := by decide +kernel
theorem dX11_timber_0 : decode cX11_timber 0 = .ok (.aload_n 0, 1) := by decide +kernel
theorem dX11_timber_1 : decode cX11_timber 1 = .ok (.iconst 0, 1) := by decide +kernel
theorem dX11_timber_2 : decode cX11_timber 2 = .ok (.putfield 41, 3) := by decide +kernel
theorem dX11_timber_5 : decode cX11_timber 5 = .ok (.iload_n 1, 1) := by decide +kernel
theorem dX11_timber_6 : decode cX11_timber 6 = .ok (.iconst 1, 1) := by decide +kernel
theorem dX11_timber_7 : decode cX11_timber 7 = .ok (.sipush 1000, 3) := by decide +kernel
theorem dX11_timber_10 : decode cX11_timber 10 = .ok (.invokestatic 48, 3) := by decide +kernel
theorem dX11_timber_13 : decode cX11_timber 13 = .ok (.ifCond .eq 14, 3) := by decide +kernel
theorem dX11_timber_16 : decode cX11_timber 16 = .ok (.iload_n 2, 1) := by decide +kernel
theorem dX11_timber_17 : decode cX11_timber 17 = .ok (.iconst 1, 1) := by decide +kernel
theorem dX11_timber_18 : decode cX11_timber 18 = .ok (.sipush 1000, 3) := by decide +kernel
theorem dX11_timber_21 : decode cX11_timber 21 = .ok (.invokestatic 48, 3) := by decide +kernel
theorem dX11_timber_24 : decode cX11_timber 24 = .ok (.ifCond .ne 6, 3) := by decide +kernel
theorem dX11_timber_27 : decode cX11_timber 27 = .ok (.bipush (-102), 2) := by decide +kernel
theorem dX11_timber_29 : decode cX11_timber 29 = .ok (.ireturn, 1) := by decide +kernel
theorem dX11_timber_30 : decode cX11_timber 30 = .ok (.aload_n 0, 1) := by decide +kernel
theorem dX11_timber_31 : decode cX11_timber 31 = .ok (.getfield 45, 3) := by decide +kernel
theorem dX11_timber_34 : decode cX11_timber 34 = .ok (.bipush 60, 2) := by decide +kernel
theorem dX11_timber_36 : decode cX11_timber 36 = .ok (.if_icmp .ne 6, 3) := by decide +kernel
theorem dX11_timber_39 : decode cX11_timber 39 = .ok (.bipush (-104), 2) := by decide +kernel
theorem dX11_timber_41 : decode cX11_timber 41 = .ok (.ireturn, 1) := by decide +kernel
theorem dX11_timber_42 : decode cX11_timber 42 = .ok (.aload_n 0, 1) := by decide +kernel
theorem dX11_timber_43 : decode cX11_timber 43 = .ok (.getfield 7, 3) := by decide +kernel
theorem dX11_timber_46 : decode cX11_timber 46 = .ok (.aload_n 0, 1) := by decide +kernel
theorem dX11_timber_47 : decode cX11_timber 47 = .ok (.getfield 45, 3) := by decide +kernel
theorem dX11_timber_50 : decode cX11_timber 50 = .ok (.iload_n 1, 1) := by decide +kernel
theorem dX11_timber_51 : decode cX11_timber 51 = .ok (.iastore, 1) := by decide +kernel
theorem dX11_timber_52 : decode cX11_timber 52 = .ok (.aload_n 0, 1) := by decide +kernel
theorem dX11_timber_53 : decode cX11_timber 53 = .ok (.getfield 13, 3) := by decide +kernel
theorem dX11_timber_56 : decode cX11_timber 56 = .ok (.aload_n 0, 1) := by decide +kernel
theorem dX11_timber_57 : decode cX11_timber 57 = .ok (.getfield 45, 3) := by decide +kernel
theorem dX11_timber_60 : decode cX11_timber 60 = .ok (.iload_n 2, 1) := by decide +kernel
theorem dX11_timber_61 : decode cX11_timber 61 = .ok (.iastore, 1) := by decide +kernel
theorem dX11_timber_62 : decode cX11_timber 62 = .ok (.aload_n 0, 1) := by decide +kernel
theorem dX11_timber_63 : decode cX11_timber 63 = .ok (.getfield 16, 3) := by decide +kernel
theorem dX11_timber_66 : decode cX11_timber 66 = .ok (.aload_n 0, 1) := by decide +kernel
theorem dX11_timber_67 : decode cX11_timber 67 = .ok (.getfield 45, 3) := by decide +kernel
theorem dX11_timber_70 : decode cX11_timber 70 = .ok (.iload_n 3, 1) := by decide +kernel
theorem dX11_timber_71 : decode cX11_timber 71 = .ok (.bastore, 1) := by decide +kernel
theorem dX11_timber_72 : decode cX11_timber 72 = .ok (.aload_n 0, 1) := by decide +kernel
theorem dX11_timber_73 : decode cX11_timber 73 = .ok (.getfield 20, 3) := by decide +kernel
theorem dX11_timber_76 : decode cX11_timber 76 = .ok (.aload_n 0, 1) := by decide +kernel
theorem dX11_timber_77 : decode cX11_timber 77 = .ok (.getfield 45, 3) := by decide +kernel
theorem dX11_timber_80 : decode cX11_timber 80 = .ok (.iconst (-1), 1) := by decide +kernel
theorem dX11_timber_81 : decode cX11_timber 81 = .ok (.iastore, 1) := by decide +kernel
theorem dX11_timber_82 : decode cX11_timber 82 = .ok (.aload_n 0, 1) := by decide +kernel
theorem dX11_timber_83 : decode cX11_timber 83 = .ok (.dup, 1) := by decide +kernel
theorem dX11_timber_84 : decode cX11_timber 84 = .ok (.getfield 45, 3) := by decide +kernel
theorem dX11_timber_87 : decode cX11_timber 87 = .ok (.iconst 1, 1) := by decide +kernel
theorem dX11_timber_88 : decode cX11_timber 88 = .ok (.iadd, 1) := by decide +kernel
theorem dX11_timber_89 : decode cX11_timber 89 = .ok (.putfield 45, 3) := by decide +kernel
theorem dX11_timber_92 : decode cX11_timber 92 = .ok (.aload_n 0, 1) := by decide +kernel
theorem dX11_timber_93 : decode cX11_timber 93 = .ok (.getfield 45, 3) := by decide +kernel
theorem dX11_timber_96 : decode cX11_timber 96 = .ok (.iconst 1, 1) := by decide +kernel
theorem dX11_timber_97 : decode cX11_timber 97 = .ok (.isub, 1) := by decide +kernel
theorem dX11_timber_98 : decode cX11_timber 98 = .ok (.ireturn, 1) := by decide +kernel
theorem dX11_pile_0 : decode cX11_pile 0 = .ok (.aload_n 0, 1) := by decide +kernel
theorem dX11_pile_1 : decode cX11_pile 1 = .ok (.iconst 0, 1) := by decide +kernel
theorem dX11_pile_2 : decode cX11_pile 2 = .ok (.putfield 41, 3) := by decide +kernel
theorem dX11_pile_5 : decode cX11_pile 5 = .ok (.iload_n 1, 1) := by decide +kernel
theorem dX11_pile_6 : decode cX11_pile 6 = .ok (.iconst 0, 1) := by decide +kernel
theorem dX11_pile_7 : decode cX11_pile 7 = .ok (.bipush 7, 2) := by decide +kernel
theorem dX11_pile_9 : decode cX11_pile 9 = .ok (.invokestatic 48, 3) := by decide +kernel
theorem dX11_pile_12 : decode cX11_pile 12 = .ok (.ifCond .eq 24, 3) := by decide +kernel
theorem dX11_pile_15 : decode cX11_pile 15 = .ok (.iload_n 2, 1) := by decide +kernel
theorem dX11_pile_16 : decode cX11_pile 16 = .ok (.iconst 1, 1) := by decide +kernel
theorem dX11_pile_17 : decode cX11_pile 17 = .ok (.bipush 12, 2) := by decide +kernel
theorem dX11_pile_19 : decode cX11_pile 19 = .ok (.invokestatic 48, 3) := by decide +kernel
theorem dX11_pile_22 : decode cX11_pile 22 = .ok (.ifCond .eq 14, 3) := by decide +kernel
theorem dX11_pile_25 : decode cX11_pile 25 = .ok (.iload_n 3, 1) := by decide +kernel
theorem dX11_pile_26 : decode cX11_pile 26 = .ok (.iconst 0, 1) := by decide +kernel
theorem dX11_pile_27 : decode cX11_pile 27 = .ok (.sipush 20000, 3) := by decide +kernel
theorem dX11_pile_30 : decode cX11_pile 30 = .ok (.invokestatic 48, 3) := by decide +kernel
theorem dX11_pile_33 : decode cX11_pile 33 = .ok (.ifCond .ne 6, 3) := by decide +kernel
theorem dX11_pile_36 : decode cX11_pile 36 = .ok (.bipush (-102), 2) := by decide +kernel
theorem dX11_pile_38 : decode cX11_pile 38 = .ok (.ireturn, 1) := by decide +kernel
theorem dX11_pile_39 : decode cX11_pile 39 = .ok (.aload_n 0, 1) := by decide +kernel
theorem dX11_pile_40 : decode cX11_pile 40 = .ok (.getfield 52, 3) := by decide +kernel
theorem dX11_pile_43 : decode cX11_pile 43 = .ok (.bipush 12, 2) := by decide +kernel
theorem dX11_pile_45 : decode cX11_pile 45 = .ok (.if_icmp .ne 6, 3) := by decide +kernel
theorem dX11_pile_48 : decode cX11_pile 48 = .ok (.bipush (-104), 2) := by decide +kernel
theorem dX11_pile_50 : decode cX11_pile 50 = .ok (.ireturn, 1) := by decide +kernel
theorem dX11_pile_51 : decode cX11_pile 51 = .ok (.aload_n 0, 1) := by decide +kernel
theorem dX11_pile_52 : decode cX11_pile 52 = .ok (.getfield 23, 3) := by decide +kernel
theorem dX11_pile_55 : decode cX11_pile 55 = .ok (.aload_n 0, 1) := by decide +kernel
theorem dX11_pile_56 : decode cX11_pile 56 = .ok (.getfield 52, 3) := by decide +kernel
theorem dX11_pile_59 : decode cX11_pile 59 = .ok (.iload_n 1, 1) := by decide +kernel
theorem dX11_pile_60 : decode cX11_pile 60 = .ok (.iastore, 1) := by decide +kernel
theorem dX11_pile_61 : decode cX11_pile 61 = .ok (.aload_n 0, 1) := by decide +kernel
theorem dX11_pile_62 : decode cX11_pile 62 = .ok (.getfield 26, 3) := by decide +kernel
theorem dX11_pile_65 : decode cX11_pile 65 = .ok (.aload_n 0, 1) := by decide +kernel
theorem dX11_pile_66 : decode cX11_pile 66 = .ok (.getfield 52, 3) := by decide +kernel
theorem dX11_pile_69 : decode cX11_pile 69 = .ok (.iload_n 2, 1) := by decide +kernel
theorem dX11_pile_70 : decode cX11_pile 70 = .ok (.iastore, 1) := by decide +kernel
theorem dX11_pile_71 : decode cX11_pile 71 = .ok (.aload_n 0, 1) := by decide +kernel
theorem dX11_pile_72 : decode cX11_pile 72 = .ok (.getfield 29, 3) := by decide +kernel
theorem dX11_pile_75 : decode cX11_pile 75 = .ok (.aload_n 0, 1) := by decide +kernel
theorem dX11_pile_76 : decode cX11_pile 76 = .ok (.getfield 52, 3) := by decide +kernel
theorem dX11_pile_79 : decode cX11_pile 79 = .ok (.iload_n 3, 1) := by decide +kernel
theorem dX11_pile_80 : decode cX11_pile 80 = .ok (.iastore, 1) := by decide +kernel
theorem dX11_pile_81 : decode cX11_pile 81 = .ok (.aload_n 0, 1) := by decide +kernel
theorem dX11_pile_82 : decode cX11_pile 82 = .ok (.getfield 32, 3) := by decide +kernel
theorem dX11_pile_85 : decode cX11_pile 85 = .ok (.aload_n 0, 1) := by decide +kernel
theorem dX11_pile_86 : decode cX11_pile 86 = .ok (.getfield 52, 3) := by decide +kernel
theorem dX11_pile_89 : decode cX11_pile 89 = .ok (.iconst 0, 1) := by decide +kernel
theorem dX11_pile_90 : decode cX11_pile 90 = .ok (.iastore, 1) := by decide +kernel
theorem dX11_pile_91 : decode cX11_pile 91 = .ok (.aload_n 0, 1) := by decide +kernel
theorem dX11_pile_92 : decode cX11_pile 92 = .ok (.dup, 1) := by decide +kernel
theorem dX11_pile_93 : decode cX11_pile 93 = .ok (.getfield 52, 3) := by decide +kernel
theorem dX11_pile_96 : decode cX11_pile 96 = .ok (.iconst 1, 1) := by decide +kernel
theorem dX11_pile_97 : decode cX11_pile 97 = .ok (.iadd, 1) := by decide +kernel
theorem dX11_pile_98 : decode cX11_pile 98 = .ok (.putfield 52, 3) := by decide +kernel
theorem dX11_pile_101 : decode cX11_pile 101 = .ok (.aload_n 0, 1) := by decide +kernel
theorem dX11_pile_102 : decode cX11_pile 102 = .ok (.getfield 52, 3) := by decide +kernel
theorem dX11_pile_105 : decode cX11_pile 105 = .ok (.iconst 1, 1) := by decide +kernel
theorem dX11_pile_106 : decode cX11_pile 106 = .ok (.isub, 1) := by decide +kernel
theorem dX11_pile_107 : decode cX11_pile 107 = .ok (.ireturn, 1) := by decide +kernel
theorem dX11_loadOf_0 : decode cX11_loadOf 0 = .ok (.aload_n 0, 1) := by decide +kernel
theorem dX11_loadOf_1 : decode cX11_loadOf 1 = .ok (.getfield 23, 3) := by decide +kernel
theorem dX11_loadOf_4 : decode cX11_loadOf 4 = .ok (.iload_n 1, 1) := by decide +kernel
theorem dX11_loadOf_5 : decode cX11_loadOf 5 = .ok (.iaload, 1) := by decide +kernel
theorem dX11_loadOf_6 : decode cX11_loadOf 6 = .ok (.istore_n 2, 1) := by decide +kernel
theorem dX11_loadOf_7 : decode cX11_loadOf 7 = .ok (.iload_n 2, 1) := by decide +kernel
theorem dX11_loadOf_8 : decode cX11_loadOf 8 = .ok (.iconst 5, 1) := by decide +kernel
theorem dX11_loadOf_9 : decode cX11_loadOf 9 = .ok (.if_icmp .eq 9, 3) := by decide +kernel
theorem dX11_loadOf_12 : decode cX11_loadOf 12 = .ok (.iload_n 2, 1) := by decide +kernel
theorem dX11_loadOf_13 : decode cX11_loadOf 13 = .ok (.bipush 7, 2) := by decide +kernel
theorem dX11_loadOf_15 : decode cX11_loadOf 15 = .ok (.if_icmp .ne 7, 3) := by decide +kernel
theorem dX11_loadOf_18 : decode cX11_loadOf 18 = .ok (.iconst 1, 1) := by decide +kernel
theorem dX11_loadOf_19 : decode cX11_loadOf 19 = .ok (.goto 4, 3) := by decide +kernel
theorem dX11_loadOf_22 : decode cX11_loadOf 22 = .ok (.iconst 0, 1) := by decide +kernel
theorem dX11_loadOf_23 : decode cX11_loadOf 23 = .ok (.istore_n 3, 1) := by decide +kernel
theorem dX11_loadOf_24 : decode cX11_loadOf 24 = .ok (.iload_n 3, 1) := by decide +kernel
theorem dX11_loadOf_25 : decode cX11_loadOf 25 = .ok (.ifCond .eq 9, 3) := by decide +kernel
theorem dX11_loadOf_28 : decode cX11_loadOf 28 = .ok (.aload_n 0, 1) := by decide +kernel
theorem dX11_loadOf_29 : decode cX11_loadOf 29 = .ok (.iconst 2, 1) := by decide +kernel
theorem dX11_loadOf_30 : decode cX11_loadOf 30 = .ok (.iconst 5, 1) := by decide +kernel
theorem dX11_loadOf_31 : decode cX11_loadOf 31 = .ok (.invokevirtual 58, 3) := by decide +kernel
theorem dX11_loadOf_34 : decode cX11_loadOf 34 = .ok (.iload_n 2, 1) := by decide +kernel
theorem dX11_loadOf_35 : decode cX11_loadOf 35 = .ok (.bipush 6, 2) := by decide +kernel
theorem dX11_loadOf_37 : decode cX11_loadOf 37 = .ok (.if_icmp .ne 10, 3) := by decide +kernel
theorem dX11_loadOf_40 : decode cX11_loadOf 40 = .ok (.aload_n 0, 1) := by decide +kernel
theorem dX11_loadOf_41 : decode cX11_loadOf 41 = .ok (.iconst 2, 1) := by decide +kernel
theorem dX11_loadOf_42 : decode cX11_loadOf 42 = .ok (.bipush 6, 2) := by decide +kernel
theorem dX11_loadOf_44 : decode cX11_loadOf 44 = .ok (.invokevirtual 58, 3) := by decide +kernel
theorem dX11_loadOf_47 : decode cX11_loadOf 47 = .ok (.aload_n 0, 1) := by decide +kernel
theorem dX11_loadOf_48 : decode cX11_loadOf 48 = .ok (.iconst 2, 1) := by decide +kernel
theorem dX11_loadOf_49 : decode cX11_loadOf 49 = .ok (.iconst 0, 1) := by decide +kernel
theorem dX11_loadOf_50 : decode cX11_loadOf 50 = .ok (.invokevirtual 58, 3) := by decide +kernel
theorem dX11_loadOf_53 : decode cX11_loadOf 53 = .ok (.iconst 0, 1) := by decide +kernel
theorem dX11_loadOf_54 : decode cX11_loadOf 54 = .ok (.istore 4, 2) := by decide +kernel
theorem dX11_loadOf_56 : decode cX11_loadOf 56 = .ok (.iconst 0, 1) := by decide +kernel
theorem dX11_loadOf_57 : decode cX11_loadOf 57 = .ok (.istore 5, 2) := by decide +kernel
theorem dX11_loadOf_59 : decode cX11_loadOf 59 = .ok (.iconst 0, 1) := by decide +kernel
theorem dX11_loadOf_60 : decode cX11_loadOf 60 = .ok (.istore 6, 2) := by decide +kernel
theorem dX11_loadOf_62 : decode cX11_loadOf 62 = .ok (.iload 6, 2) := by decide +kernel
theorem dX11_loadOf_64 : decode cX11_loadOf 64 = .ok (.aload_n 0, 1) := by decide +kernel
theorem dX11_loadOf_65 : decode cX11_loadOf 65 = .ok (.getfield 32, 3) := by decide +kernel
theorem dX11_loadOf_68 : decode cX11_loadOf 68 = .ok (.iload_n 1, 1) := by decide +kernel
theorem dX11_loadOf_69 : decode cX11_loadOf 69 = .ok (.iaload, 1) := by decide +kernel
theorem dX11_loadOf_70 : decode cX11_loadOf 70 = .ok (.if_icmp .ge 61, 3) := by decide +kernel
theorem dX11_loadOf_73 : decode cX11_loadOf 73 = .ok (.iload 4, 2) := by decide +kernel
theorem dX11_loadOf_75 : decode cX11_loadOf 75 = .ok (.aload_n 0, 1) := by decide +kernel
theorem dX11_loadOf_76 : decode cX11_loadOf 76 = .ok (.getfield 13, 3) := by decide +kernel
theorem dX11_loadOf_79 : decode cX11_loadOf 79 = .ok (.aload_n 0, 1) := by decide +kernel
theorem dX11_loadOf_80 : decode cX11_loadOf 80 = .ok (.getfield 35, 3) := by decide +kernel
theorem dX11_loadOf_83 : decode cX11_loadOf 83 = .ok (.bipush 12, 2) := by decide +kernel
theorem dX11_loadOf_85 : decode cX11_loadOf 85 = .ok (.iload_n 1, 1) := by decide +kernel
theorem dX11_loadOf_86 : decode cX11_loadOf 86 = .ok (.imul, 1) := by decide +kernel
theorem dX11_loadOf_87 : decode cX11_loadOf 87 = .ok (.iload 6, 2) := by decide +kernel
theorem dX11_loadOf_89 : decode cX11_loadOf 89 = .ok (.iadd, 1) := by decide +kernel
theorem dX11_loadOf_90 : decode cX11_loadOf 90 = .ok (.iaload, 1) := by decide +kernel
theorem dX11_loadOf_91 : decode cX11_loadOf 91 = .ok (.iaload, 1) := by decide +kernel
theorem dX11_loadOf_92 : decode cX11_loadOf 92 = .ok (.iadd, 1) := by decide +kernel
theorem dX11_loadOf_93 : decode cX11_loadOf 93 = .ok (.istore 4, 2) := by decide +kernel
theorem dX11_loadOf_95 : decode cX11_loadOf 95 = .ok (.iload 5, 2) := by decide +kernel
theorem dX11_loadOf_97 : decode cX11_loadOf 97 = .ok (.aload_n 0, 1) := by decide +kernel
theorem dX11_loadOf_98 : decode cX11_loadOf 98 = .ok (.getfield 16, 3) := by decide +kernel
theorem dX11_loadOf_101 : decode cX11_loadOf 101 = .ok (.aload_n 0, 1) := by decide +kernel
theorem dX11_loadOf_102 : decode cX11_loadOf 102 = .ok (.getfield 35, 3) := by decide +kernel
theorem dX11_loadOf_105 : decode cX11_loadOf 105 = .ok (.bipush 12, 2) := by decide +kernel
theorem dX11_loadOf_107 : decode cX11_loadOf 107 = .ok (.iload_n 1, 1) := by decide +kernel
theorem dX11_loadOf_108 : decode cX11_loadOf 108 = .ok (.imul, 1) := by decide +kernel
theorem dX11_loadOf_109 : decode cX11_loadOf 109 = .ok (.iload 6, 2) := by decide +kernel
theorem dX11_loadOf_111 : decode cX11_loadOf 111 = .ok (.iadd, 1) := by decide +kernel
theorem dX11_loadOf_112 : decode cX11_loadOf 112 = .ok (.iaload, 1) := by decide +kernel
theorem dX11_loadOf_113 : decode cX11_loadOf 113 = .ok (.baload, 1) := by decide +kernel
theorem dX11_loadOf_114 : decode cX11_loadOf 114 = .ok (.ifCond .eq 7, 3) := by decide +kernel
theorem dX11_loadOf_117 : decode cX11_loadOf 117 = .ok (.iconst 1, 1) := by decide +kernel
theorem dX11_loadOf_118 : decode cX11_loadOf 118 = .ok (.goto 4, 3) := by decide +kernel
theorem dX11_loadOf_121 : decode cX11_loadOf 121 = .ok (.iconst 0, 1) := by decide +kernel
theorem dX11_loadOf_122 : decode cX11_loadOf 122 = .ok (.iadd, 1) := by decide +kernel
theorem dX11_loadOf_123 : decode cX11_loadOf 123 = .ok (.istore 5, 2) := by decide +kernel
theorem dX11_loadOf_125 : decode cX11_loadOf 125 = .ok (.iinc 6 1, 3) := by decide +kernel
theorem dX11_loadOf_128 : decode cX11_loadOf 128 = .ok (.goto (-66), 3) := by decide +kernel
theorem dX11_loadOf_131 : decode cX11_loadOf 131 = .ok (.iload_n 3, 1) := by decide +kernel
theorem dX11_loadOf_132 : decode cX11_loadOf 132 = .ok (.ifCond .eq 10, 3) := by decide +kernel
theorem dX11_loadOf_135 : decode cX11_loadOf 135 = .ok (.iconst 2, 1) := by decide +kernel
theorem dX11_loadOf_136 : decode cX11_loadOf 136 = .ok (.iload 4, 2) := by decide +kernel
theorem dX11_loadOf_138 : decode cX11_loadOf 138 = .ok (.imul, 1) := by decide +kernel
theorem dX11_loadOf_139 : decode cX11_loadOf 139 = .ok (.goto 22, 3) := by decide +kernel
theorem dX11_loadOf_142 : decode cX11_loadOf 142 = .ok (.iload_n 2, 1) := by decide +kernel
theorem dX11_loadOf_143 : decode cX11_loadOf 143 = .ok (.bipush 6, 2) := by decide +kernel
theorem dX11_loadOf_145 : decode cX11_loadOf 145 = .ok (.if_icmp .ne 14, 3) := by decide +kernel
theorem dX11_loadOf_148 : decode cX11_loadOf 148 = .ok (.iload 4, 2) := by decide +kernel
theorem dX11_loadOf_150 : decode cX11_loadOf 150 = .ok (.bipush 10, 2) := by decide +kernel
theorem dX11_loadOf_152 : decode cX11_loadOf 152 = .ok (.iload 5, 2) := by decide +kernel
theorem dX11_loadOf_154 : decode cX11_loadOf 154 = .ok (.imul, 1) := by decide +kernel
theorem dX11_loadOf_155 : decode cX11_loadOf 155 = .ok (.iadd, 1) := by decide +kernel
theorem dX11_loadOf_156 : decode cX11_loadOf 156 = .ok (.goto 5, 3) := by decide +kernel
theorem dX11_loadOf_159 : decode cX11_loadOf 159 = .ok (.iload 4, 2) := by decide +kernel
theorem dX11_loadOf_161 : decode cX11_loadOf 161 = .ok (.ireturn, 1) := by decide +kernel
theorem dX11_putPlain_0 : decode cX11_putPlain 0 = .ok (.aload_n 0, 1) := by decide +kernel
theorem dX11_putPlain_1 : decode cX11_putPlain 1 = .ok (.iconst 0, 1) := by decide +kernel
theorem dX11_putPlain_2 : decode cX11_putPlain 2 = .ok (.iconst 0, 1) := by decide +kernel
theorem dX11_putPlain_3 : decode cX11_putPlain 3 = .ok (.invokevirtual 58, 3) := by decide +kernel
theorem dX11_putPlain_6 : decode cX11_putPlain 6 = .ok (.aload_n 0, 1) := by decide +kernel
theorem dX11_putPlain_7 : decode cX11_putPlain 7 = .ok (.getfield 32, 3) := by decide +kernel
theorem dX11_putPlain_10 : decode cX11_putPlain 10 = .ok (.iload_n 1, 1) := by decide +kernel
theorem dX11_putPlain_11 : decode cX11_putPlain 11 = .ok (.iaload, 1) := by decide +kernel
theorem dX11_putPlain_12 : decode cX11_putPlain 12 = .ok (.aload_n 0, 1) := by decide +kernel
theorem dX11_putPlain_13 : decode cX11_putPlain 13 = .ok (.getfield 26, 3) := by decide +kernel
theorem dX11_putPlain_16 : decode cX11_putPlain 16 = .ok (.iload_n 1, 1) := by decide +kernel
theorem dX11_putPlain_17 : decode cX11_putPlain 17 = .ok (.iaload, 1) := by decide +kernel
theorem dX11_putPlain_18 : decode cX11_putPlain 18 = .ok (.if_icmp .ne 5, 3) := by decide +kernel
theorem dX11_putPlain_21 : decode cX11_putPlain 21 = .ok (.iconst 0, 1) := by decide +kernel
theorem dX11_putPlain_22 : decode cX11_putPlain 22 = .ok (.ireturn, 1) := by decide +kernel
theorem dX11_putPlain_23 : decode cX11_putPlain 23 = .ok (.aload_n 0, 1) := by decide +kernel
theorem dX11_putPlain_24 : decode cX11_putPlain 24 = .ok (.getfield 35, 3) := by decide +kernel
theorem dX11_putPlain_27 : decode cX11_putPlain 27 = .ok (.bipush 12, 2) := by decide +kernel
theorem dX11_putPlain_29 : decode cX11_putPlain 29 = .ok (.iload_n 1, 1) := by decide +kernel
theorem dX11_putPlain_30 : decode cX11_putPlain 30 = .ok (.imul, 1) := by decide +kernel
theorem dX11_putPlain_31 : decode cX11_putPlain 31 = .ok (.aload_n 0, 1) := by decide +kernel
theorem dX11_putPlain_32 : decode cX11_putPlain 32 = .ok (.getfield 32, 3) := by decide +kernel
theorem dX11_putPlain_35 : decode cX11_putPlain 35 = .ok (.iload_n 1, 1) := by decide +kernel
theorem dX11_putPlain_36 : decode cX11_putPlain 36 = .ok (.iaload, 1) := by decide +kernel
theorem dX11_putPlain_37 : decode cX11_putPlain 37 = .ok (.iadd, 1) := by decide +kernel
theorem dX11_putPlain_38 : decode cX11_putPlain 38 = .ok (.iload_n 2, 1) := by decide +kernel
theorem dX11_putPlain_39 : decode cX11_putPlain 39 = .ok (.iastore, 1) := by decide +kernel
theorem dX11_putPlain_40 : decode cX11_putPlain 40 = .ok (.aload_n 0, 1) := by decide +kernel
theorem dX11_putPlain_41 : decode cX11_putPlain 41 = .ok (.getfield 32, 3) := by decide +kernel
theorem dX11_putPlain_44 : decode cX11_putPlain 44 = .ok (.iload_n 1, 1) := by decide +kernel
theorem dX11_putPlain_45 : decode cX11_putPlain 45 = .ok (.dup2, 1) := by decide +kernel
theorem dX11_putPlain_46 : decode cX11_putPlain 46 = .ok (.iaload, 1) := by decide +kernel
theorem dX11_putPlain_47 : decode cX11_putPlain 47 = .ok (.iconst 1, 1) := by decide +kernel
theorem dX11_putPlain_48 : decode cX11_putPlain 48 = .ok (.iadd, 1) := by decide +kernel
theorem dX11_putPlain_49 : decode cX11_putPlain 49 = .ok (.iastore, 1) := by decide +kernel
theorem dX11_putPlain_50 : decode cX11_putPlain 50 = .ok (.aload_n 0, 1) := by decide +kernel
theorem dX11_putPlain_51 : decode cX11_putPlain 51 = .ok (.getfield 20, 3) := by decide +kernel
theorem dX11_putPlain_54 : decode cX11_putPlain 54 = .ok (.iload_n 2, 1) := by decide +kernel
theorem dX11_putPlain_55 : decode cX11_putPlain 55 = .ok (.iload_n 1, 1) := by decide +kernel
theorem dX11_putPlain_56 : decode cX11_putPlain 56 = .ok (.iastore, 1) := by decide +kernel
theorem dX11_putPlain_57 : decode cX11_putPlain 57 = .ok (.iconst 1, 1) := by decide +kernel
theorem dX11_putPlain_58 : decode cX11_putPlain 58 = .ok (.ireturn, 1) := by decide +kernel
theorem dX11_putSorted_0 : decode cX11_putSorted 0 = .ok (.aload_n 0, 1) := by decide +kernel
theorem dX11_putSorted_1 : decode cX11_putSorted 1 = .ok (.iconst 0, 1) := by decide +kernel
theorem dX11_putSorted_2 : decode cX11_putSorted 2 = .ok (.iconst 2, 1) := by decide +kernel
theorem dX11_putSorted_3 : decode cX11_putSorted 3 = .ok (.invokevirtual 58, 3) := by decide +kernel
theorem dX11_putSorted_6 : decode cX11_putSorted 6 = .ok (.aload_n 0, 1) := by decide +kernel
theorem dX11_putSorted_7 : decode cX11_putSorted 7 = .ok (.iload_n 1, 1) := by decide +kernel
theorem dX11_putSorted_8 : decode cX11_putSorted 8 = .ok (.iload_n 2, 1) := by decide +kernel
theorem dX11_putSorted_9 : decode cX11_putSorted 9 = .ok (.invokevirtual 62, 3) := by decide +kernel
theorem dX11_putSorted_12 : decode cX11_putSorted 12 = .ok (.istore_n 3, 1) := by decide +kernel
theorem dX11_putSorted_13 : decode cX11_putSorted 13 = .ok (.bipush 12, 2) := by decide +kernel
theorem dX11_putSorted_15 : decode cX11_putSorted 15 = .ok (.iload_n 1, 1) := by decide +kernel
theorem dX11_putSorted_16 : decode cX11_putSorted 16 = .ok (.imul, 1) := by decide +kernel
theorem dX11_putSorted_17 : decode cX11_putSorted 17 = .ok (.aload_n 0, 1) := by decide +kernel
theorem dX11_putSorted_18 : decode cX11_putSorted 18 = .ok (.getfield 32, 3) := by decide +kernel
theorem dX11_putSorted_21 : decode cX11_putSorted 21 = .ok (.iload_n 1, 1) := by decide +kernel
theorem dX11_putSorted_22 : decode cX11_putSorted 22 = .ok (.iaload, 1) := by decide +kernel
theorem dX11_putSorted_23 : decode cX11_putSorted 23 = .ok (.iadd, 1) := by decide +kernel
theorem dX11_putSorted_24 : decode cX11_putSorted 24 = .ok (.iconst 1, 1) := by decide +kernel
theorem dX11_putSorted_25 : decode cX11_putSorted 25 = .ok (.isub, 1) := by decide +kernel
theorem dX11_putSorted_26 : decode cX11_putSorted 26 = .ok (.istore 4, 2) := by decide +kernel
theorem dX11_putSorted_28 : decode cX11_putSorted 28 = .ok (.iload_n 3, 1) := by decide +kernel
theorem dX11_putSorted_29 : decode cX11_putSorted 29 = .ok (.ifCond .eq 67, 3) := by decide +kernel
theorem dX11_putSorted_32 : decode cX11_putSorted 32 = .ok (.iload 4, 2) := by decide +kernel
theorem dX11_putSorted_34 : decode cX11_putSorted 34 = .ok (.bipush 12, 2) := by decide +kernel
theorem dX11_putSorted_36 : decode cX11_putSorted 36 = .ok (.iload_n 1, 1) := by decide +kernel
theorem dX11_putSorted_37 : decode cX11_putSorted 37 = .ok (.imul, 1) := by decide +kernel
theorem dX11_putSorted_38 : decode cX11_putSorted 38 = .ok (.if_icmp .le 58, 3) := by decide +kernel
theorem dX11_putSorted_41 : decode cX11_putSorted 41 = .ok (.aload_n 0, 1) := by decide +kernel
theorem dX11_putSorted_42 : decode cX11_putSorted 42 = .ok (.getfield 7, 3) := by decide +kernel
theorem dX11_putSorted_45 : decode cX11_putSorted 45 = .ok (.aload_n 0, 1) := by decide +kernel
theorem dX11_putSorted_46 : decode cX11_putSorted 46 = .ok (.getfield 35, 3) := by decide +kernel
theorem dX11_putSorted_49 : decode cX11_putSorted 49 = .ok (.iload 4, 2) := by decide +kernel
theorem dX11_putSorted_51 : decode cX11_putSorted 51 = .ok (.iconst 1, 1) := by decide +kernel
theorem dX11_putSorted_52 : decode cX11_putSorted 52 = .ok (.isub, 1) := by decide +kernel
theorem dX11_putSorted_53 : decode cX11_putSorted 53 = .ok (.iaload, 1) := by decide +kernel
theorem dX11_putSorted_54 : decode cX11_putSorted 54 = .ok (.iaload, 1) := by decide +kernel
theorem dX11_putSorted_55 : decode cX11_putSorted 55 = .ok (.aload_n 0, 1) := by decide +kernel
theorem dX11_putSorted_56 : decode cX11_putSorted 56 = .ok (.getfield 7, 3) := by decide +kernel
theorem dX11_putSorted_59 : decode cX11_putSorted 59 = .ok (.iload_n 2, 1) := by decide +kernel
theorem dX11_putSorted_60 : decode cX11_putSorted 60 = .ok (.iaload, 1) := by decide +kernel
theorem dX11_putSorted_61 : decode cX11_putSorted 61 = .ok (.if_icmp .ge 35, 3) := by decide +kernel
theorem dX11_putSorted_64 : decode cX11_putSorted 64 = .ok (.aload_n 0, 1) := by decide +kernel
theorem dX11_putSorted_65 : decode cX11_putSorted 65 = .ok (.getfield 35, 3) := by decide +kernel
theorem dX11_putSorted_68 : decode cX11_putSorted 68 = .ok (.iload 4, 2) := by decide +kernel
theorem dX11_putSorted_70 : decode cX11_putSorted 70 = .ok (.aload_n 0, 1) := by decide +kernel
theorem dX11_putSorted_71 : decode cX11_putSorted 71 = .ok (.getfield 35, 3) := by decide +kernel
theorem dX11_putSorted_74 : decode cX11_putSorted 74 = .ok (.iload 4, 2) := by decide +kernel
theorem dX11_putSorted_76 : decode cX11_putSorted 76 = .ok (.iconst 1, 1) := by decide +kernel
theorem dX11_putSorted_77 : decode cX11_putSorted 77 = .ok (.isub, 1) := by decide +kernel
theorem dX11_putSorted_78 : decode cX11_putSorted 78 = .ok (.iaload, 1) := by decide +kernel
theorem dX11_putSorted_79 : decode cX11_putSorted 79 = .ok (.iastore, 1) := by decide +kernel
theorem dX11_putSorted_80 : decode cX11_putSorted 80 = .ok (.aload_n 0, 1) := by decide +kernel
theorem dX11_putSorted_81 : decode cX11_putSorted 81 = .ok (.getfield 35, 3) := by decide +kernel
theorem dX11_putSorted_84 : decode cX11_putSorted 84 = .ok (.iload 4, 2) := by decide +kernel
theorem dX11_putSorted_86 : decode cX11_putSorted 86 = .ok (.iconst 1, 1) := by decide +kernel
theorem dX11_putSorted_87 : decode cX11_putSorted 87 = .ok (.isub, 1) := by decide +kernel
theorem dX11_putSorted_88 : decode cX11_putSorted 88 = .ok (.iload_n 2, 1) := by decide +kernel
theorem dX11_putSorted_89 : decode cX11_putSorted 89 = .ok (.iastore, 1) := by decide +kernel
theorem dX11_putSorted_90 : decode cX11_putSorted 90 = .ok (.iinc 4 (-1), 3) := by decide +kernel
theorem dX11_putSorted_93 : decode cX11_putSorted 93 = .ok (.goto (-65), 3) := by decide +kernel
theorem dX11_putSorted_96 : decode cX11_putSorted 96 = .ok (.iload_n 3, 1) := by decide +kernel
theorem dX11_putSorted_97 : decode cX11_putSorted 97 = .ok (.ireturn, 1) := by decide +kernel
theorem dX11_putOf_0 : decode cX11_putOf 0 = .ok (.aload_n 0, 1) := by decide +kernel
theorem dX11_putOf_1 : decode cX11_putOf 1 = .ok (.getfield 23, 3) := by decide +kernel
theorem dX11_putOf_4 : decode cX11_putOf 4 = .ok (.iload_n 1, 1) := by decide +kernel
theorem dX11_putOf_5 : decode cX11_putOf 5 = .ok (.iaload, 1) := by decide +kernel
theorem dX11_putOf_6 : decode cX11_putOf 6 = .ok (.istore_n 3, 1) := by decide +kernel
theorem dX11_putOf_7 : decode cX11_putOf 7 = .ok (.aload_n 0, 1) := by decide +kernel
theorem dX11_putOf_8 : decode cX11_putOf 8 = .ok (.iconst 0, 1) := by decide +kernel
theorem dX11_putOf_9 : decode cX11_putOf 9 = .ok (.putfield 66, 3) := by decide +kernel
theorem dX11_putOf_12 : decode cX11_putOf 12 = .ok (.iload_n 3, 1) := by decide +kernel
theorem dX11_putOf_13 : decode cX11_putOf 13 = .ok (.iconst 3, 1) := by decide +kernel
theorem dX11_putOf_14 : decode cX11_putOf 14 = .ok (.if_icmp .eq 14, 3) := by decide +kernel
theorem dX11_putOf_17 : decode cX11_putOf 17 = .ok (.iload_n 3, 1) := by decide +kernel
theorem dX11_putOf_18 : decode cX11_putOf 18 = .ok (.iconst 5, 1) := by decide +kernel
theorem dX11_putOf_19 : decode cX11_putOf 19 = .ok (.if_icmp .eq 9, 3) := by decide +kernel
theorem dX11_putOf_22 : decode cX11_putOf 22 = .ok (.iload_n 3, 1) := by decide +kernel
theorem dX11_putOf_23 : decode cX11_putOf 23 = .ok (.bipush 7, 2) := by decide +kernel
theorem dX11_putOf_25 : decode cX11_putOf 25 = .ok (.if_icmp .ne 54, 3) := by decide +kernel
theorem dX11_putOf_28 : decode cX11_putOf 28 = .ok (.aload_n 0, 1) := by decide +kernel
theorem dX11_putOf_29 : decode cX11_putOf 29 = .ok (.iconst 0, 1) := by decide +kernel
theorem dX11_putOf_30 : decode cX11_putOf 30 = .ok (.iconst 3, 1) := by decide +kernel
theorem dX11_putOf_31 : decode cX11_putOf 31 = .ok (.invokevirtual 58, 3) := by decide +kernel
theorem dX11_putOf_34 : decode cX11_putOf 34 = .ok (.aload_n 0, 1) := by decide +kernel
theorem dX11_putOf_35 : decode cX11_putOf 35 = .ok (.iload_n 1, 1) := by decide +kernel
theorem dX11_putOf_36 : decode cX11_putOf 36 = .ok (.invokevirtual 70, 3) := by decide +kernel
theorem dX11_putOf_39 : decode cX11_putOf 39 = .ok (.aload_n 0, 1) := by decide +kernel
theorem dX11_putOf_40 : decode cX11_putOf 40 = .ok (.getfield 13, 3) := by decide +kernel
theorem dX11_putOf_43 : decode cX11_putOf 43 = .ok (.iload_n 2, 1) := by decide +kernel
theorem dX11_putOf_44 : decode cX11_putOf 44 = .ok (.iaload, 1) := by decide +kernel
theorem dX11_putOf_45 : decode cX11_putOf 45 = .ok (.iadd, 1) := by decide +kernel
theorem dX11_putOf_46 : decode cX11_putOf 46 = .ok (.aload_n 0, 1) := by decide +kernel
theorem dX11_putOf_47 : decode cX11_putOf 47 = .ok (.getfield 29, 3) := by decide +kernel
theorem dX11_putOf_50 : decode cX11_putOf 50 = .ok (.iload_n 1, 1) := by decide +kernel
theorem dX11_putOf_51 : decode cX11_putOf 51 = .ok (.iaload, 1) := by decide +kernel
theorem dX11_putOf_52 : decode cX11_putOf 52 = .ok (.if_icmp .le 20, 3) := by decide +kernel
theorem dX11_putOf_55 : decode cX11_putOf 55 = .ok (.aload_n 0, 1) := by decide +kernel
theorem dX11_putOf_56 : decode cX11_putOf 56 = .ok (.dup, 1) := by decide +kernel
theorem dX11_putOf_57 : decode cX11_putOf 57 = .ok (.getfield 74, 3) := by decide +kernel
theorem dX11_putOf_60 : decode cX11_putOf 60 = .ok (.iconst 1, 1) := by decide +kernel
theorem dX11_putOf_61 : decode cX11_putOf 61 = .ok (.iadd, 1) := by decide +kernel
theorem dX11_putOf_62 : decode cX11_putOf 62 = .ok (.putfield 74, 3) := by decide +kernel
theorem dX11_putOf_65 : decode cX11_putOf 65 = .ok (.aload_n 0, 1) := by decide +kernel
theorem dX11_putOf_66 : decode cX11_putOf 66 = .ok (.iconst 1, 1) := by decide +kernel
theorem dX11_putOf_67 : decode cX11_putOf 67 = .ok (.putfield 66, 3) := by decide +kernel
theorem dX11_putOf_70 : decode cX11_putOf 70 = .ok (.iconst 0, 1) := by decide +kernel
theorem dX11_putOf_71 : decode cX11_putOf 71 = .ok (.ireturn, 1) := by decide +kernel
theorem dX11_putOf_72 : decode cX11_putOf 72 = .ok (.aload_n 0, 1) := by decide +kernel
theorem dX11_putOf_73 : decode cX11_putOf 73 = .ok (.iload_n 1, 1) := by decide +kernel
theorem dX11_putOf_74 : decode cX11_putOf 74 = .ok (.iload_n 2, 1) := by decide +kernel
theorem dX11_putOf_75 : decode cX11_putOf 75 = .ok (.invokevirtual 62, 3) := by decide +kernel
theorem dX11_putOf_78 : decode cX11_putOf 78 = .ok (.ireturn, 1) := by decide +kernel
theorem dX11_putOf_79 : decode cX11_putOf 79 = .ok (.iload_n 3, 1) := by decide +kernel
theorem dX11_putOf_80 : decode cX11_putOf 80 = .ok (.bipush 6, 2) := by decide +kernel
theorem dX11_putOf_82 : decode cX11_putOf 82 = .ok (.if_icmp .ne 42, 3) := by decide +kernel
theorem dX11_putOf_85 : decode cX11_putOf 85 = .ok (.aload_n 0, 1) := by decide +kernel
theorem dX11_putOf_86 : decode cX11_putOf 86 = .ok (.iconst 0, 1) := by decide +kernel
theorem dX11_putOf_87 : decode cX11_putOf 87 = .ok (.bipush 6, 2) := by decide +kernel
theorem dX11_putOf_89 : decode cX11_putOf 89 = .ok (.invokevirtual 58, 3) := by decide +kernel
theorem dX11_putOf_92 : decode cX11_putOf 92 = .ok (.aload_n 0, 1) := by decide +kernel
theorem dX11_putOf_93 : decode cX11_putOf 93 = .ok (.getfield 16, 3) := by decide +kernel
theorem dX11_putOf_96 : decode cX11_putOf 96 = .ok (.iload_n 2, 1) := by decide +kernel
theorem dX11_putOf_97 : decode cX11_putOf 97 = .ok (.aload_n 0, 1) := by decide +kernel
theorem dX11_putOf_98 : decode cX11_putOf 98 = .ok (.getfield 16, 3) := by decide +kernel
theorem dX11_putOf_101 : decode cX11_putOf 101 = .ok (.iload_n 2, 1) := by decide +kernel
theorem dX11_putOf_102 : decode cX11_putOf 102 = .ok (.baload, 1) := by decide +kernel
theorem dX11_putOf_103 : decode cX11_putOf 103 = .ok (.ifCond .ne 15, 3) := by decide +kernel
theorem dX11_putOf_106 : decode cX11_putOf 106 = .ok (.aload_n 0, 1) := by decide +kernel
theorem dX11_putOf_107 : decode cX11_putOf 107 = .ok (.getfield 13, 3) := by decide +kernel
theorem dX11_putOf_110 : decode cX11_putOf 110 = .ok (.iload_n 2, 1) := by decide +kernel
theorem dX11_putOf_111 : decode cX11_putOf 111 = .ok (.iaload, 1) := by decide +kernel
theorem dX11_putOf_112 : decode cX11_putOf 112 = .ok (.iconst 2, 1) := by decide +kernel
theorem dX11_putOf_113 : decode cX11_putOf 113 = .ok (.irem, 1) := by decide +kernel
theorem dX11_putOf_114 : decode cX11_putOf 114 = .ok (.iconst 1, 1) := by decide +kernel
theorem dX11_putOf_115 : decode cX11_putOf 115 = .ok (.if_icmp .ne 7, 3) := by decide +kernel
theorem dX11_putOf_118 : decode cX11_putOf 118 = .ok (.iconst 1, 1) := by decide +kernel
theorem dX11_putOf_119 : decode cX11_putOf 119 = .ok (.goto 4, 3) := by decide +kernel
theorem dX11_putOf_122 : decode cX11_putOf 122 = .ok (.iconst 0, 1) := by decide +kernel
theorem dX11_putOf_123 : decode cX11_putOf 123 = .ok (.bastore, 1) := by decide +kernel
theorem dX11_putOf_124 : decode cX11_putOf 124 = .ok (.iload_n 3, 1) := by decide +kernel
theorem dX11_putOf_125 : decode cX11_putOf 125 = .ok (.iconst 2, 1) := by decide +kernel
theorem dX11_putOf_126 : decode cX11_putOf 126 = .ok (.if_icmp .eq 14, 3) := by decide +kernel
theorem dX11_putOf_129 : decode cX11_putOf 129 = .ok (.iload_n 3, 1) := by decide +kernel
theorem dX11_putOf_130 : decode cX11_putOf 130 = .ok (.iconst 4, 1) := by decide +kernel
theorem dX11_putOf_131 : decode cX11_putOf 131 = .ok (.if_icmp .eq 9, 3) := by decide +kernel
theorem dX11_putOf_134 : decode cX11_putOf 134 = .ok (.iload_n 3, 1) := by decide +kernel
theorem dX11_putOf_135 : decode cX11_putOf 135 = .ok (.bipush 6, 2) := by decide +kernel
theorem dX11_putOf_137 : decode cX11_putOf 137 = .ok (.if_icmp .ne 12, 3) := by decide +kernel
theorem dX11_putOf_140 : decode cX11_putOf 140 = .ok (.aload_n 0, 1) := by decide +kernel
theorem dX11_putOf_141 : decode cX11_putOf 141 = .ok (.iload_n 1, 1) := by decide +kernel
theorem dX11_putOf_142 : decode cX11_putOf 142 = .ok (.iload_n 2, 1) := by decide +kernel
theorem dX11_putOf_143 : decode cX11_putOf 143 = .ok (.invokevirtual 77, 3) := by decide +kernel
theorem dX11_putOf_146 : decode cX11_putOf 146 = .ok (.goto 9, 3) := by decide +kernel
theorem dX11_putOf_149 : decode cX11_putOf 149 = .ok (.aload_n 0, 1) := by decide +kernel
theorem dX11_putOf_150 : decode cX11_putOf 150 = .ok (.iload_n 1, 1) := by decide +kernel
theorem dX11_putOf_151 : decode cX11_putOf 151 = .ok (.iload_n 2, 1) := by decide +kernel
theorem dX11_putOf_152 : decode cX11_putOf 152 = .ok (.invokevirtual 62, 3) := by decide +kernel
theorem dX11_putOf_155 : decode cX11_putOf 155 = .ok (.ireturn, 1) := by decide +kernel
theorem dX11_put_0 : decode cX11_put 0 = .ok (.aload_n 0, 1) := by decide +kernel
theorem dX11_put_1 : decode cX11_put 1 = .ok (.iconst 0, 1) := by decide +kernel
theorem dX11_put_2 : decode cX11_put 2 = .ok (.putfield 41, 3) := by decide +kernel
theorem dX11_put_5 : decode cX11_put 5 = .ok (.aload_n 0, 1) := by decide +kernel
theorem dX11_put_6 : decode cX11_put 6 = .ok (.iload_n 1, 1) := by decide +kernel
theorem dX11_put_7 : decode cX11_put 7 = .ok (.invokevirtual 80, 3) := by decide +kernel
theorem dX11_put_10 : decode cX11_put 10 = .ok (.ifCond .eq 11, 3) := by decide +kernel
theorem dX11_put_13 : decode cX11_put 13 = .ok (.aload_n 0, 1) := by decide +kernel
theorem dX11_put_14 : decode cX11_put 14 = .ok (.iload_n 2, 1) := by decide +kernel
theorem dX11_put_15 : decode cX11_put 15 = .ok (.invokevirtual 84, 3) := by decide +kernel
theorem dX11_put_18 : decode cX11_put 18 = .ok (.ifCond .ne 6, 3) := by decide +kernel
theorem dX11_put_21 : decode cX11_put 21 = .ok (.bipush (-101), 2) := by decide +kernel
theorem dX11_put_23 : decode cX11_put 23 = .ok (.ireturn, 1) := by decide +kernel
theorem dX11_put_24 : decode cX11_put 24 = .ok (.aload_n 0, 1) := by decide +kernel
theorem dX11_put_25 : decode cX11_put 25 = .ok (.getfield 20, 3) := by decide +kernel
theorem dX11_put_28 : decode cX11_put 28 = .ok (.iload_n 2, 1) := by decide +kernel
theorem dX11_put_29 : decode cX11_put 29 = .ok (.iaload, 1) := by decide +kernel
theorem dX11_put_30 : decode cX11_put 30 = .ok (.iconst (-1), 1) := by decide +kernel
theorem dX11_put_31 : decode cX11_put 31 = .ok (.if_icmp .eq 6, 3) := by decide +kernel
theorem dX11_put_34 : decode cX11_put 34 = .ok (.bipush (-103), 2) := by decide +kernel
theorem dX11_put_36 : decode cX11_put 36 = .ok (.ireturn, 1) := by decide +kernel
theorem dX11_put_37 : decode cX11_put 37 = .ok (.aload_n 0, 1) := by decide +kernel
theorem dX11_put_38 : decode cX11_put 38 = .ok (.iload_n 1, 1) := by decide +kernel
theorem dX11_put_39 : decode cX11_put 39 = .ok (.iload_n 2, 1) := by decide +kernel
theorem dX11_put_40 : decode cX11_put 40 = .ok (.invokevirtual 87, 3) := by decide +kernel
theorem dX11_put_43 : decode cX11_put 43 = .ok (.istore_n 3, 1) := by decide +kernel
theorem dX11_put_44 : decode cX11_put 44 = .ok (.aload_n 0, 1) := by decide +kernel
theorem dX11_put_45 : decode cX11_put 45 = .ok (.aload_n 0, 1) := by decide +kernel
theorem dX11_put_46 : decode cX11_put 46 = .ok (.getfield 66, 3) := by decide +kernel
theorem dX11_put_49 : decode cX11_put 49 = .ok (.ifCond .eq 7, 3) := by decide +kernel
theorem dX11_put_52 : decode cX11_put 52 = .ok (.iconst 1, 1) := by decide +kernel
theorem dX11_put_53 : decode cX11_put 53 = .ok (.goto 4, 3) := by decide +kernel
theorem dX11_put_56 : decode cX11_put 56 = .ok (.iconst 0, 1) := by decide +kernel
theorem dX11_put_57 : decode cX11_put 57 = .ok (.putfield 41, 3) := by decide +kernel
theorem dX11_put_60 : decode cX11_put 60 = .ok (.iload_n 3, 1) := by decide +kernel
theorem dX11_put_61 : decode cX11_put 61 = .ok (.ifCond .eq 7, 3) := by decide +kernel
theorem dX11_put_64 : decode cX11_put 64 = .ok (.iconst 1, 1) := by decide +kernel
theorem dX11_put_65 : decode cX11_put 65 = .ok (.goto 4, 3) := by decide +kernel
theorem dX11_put_68 : decode cX11_put 68 = .ok (.iconst 0, 1) := by decide +kernel
theorem dX11_put_69 : decode cX11_put 69 = .ok (.ireturn, 1) := by decide +kernel
theorem dX11_takePlain_0 : decode cX11_takePlain 0 = .ok (.aload_n 0, 1) := by decide +kernel
theorem dX11_takePlain_1 : decode cX11_takePlain 1 = .ok (.iconst 1, 1) := by decide +kernel
theorem dX11_takePlain_2 : decode cX11_takePlain 2 = .ok (.iconst 0, 1) := by decide +kernel
theorem dX11_takePlain_3 : decode cX11_takePlain 3 = .ok (.invokevirtual 58, 3) := by decide +kernel
theorem dX11_takePlain_6 : decode cX11_takePlain 6 = .ok (.aload_n 0, 1) := by decide +kernel
theorem dX11_takePlain_7 : decode cX11_takePlain 7 = .ok (.getfield 32, 3) := by decide +kernel
theorem dX11_takePlain_10 : decode cX11_takePlain 10 = .ok (.iload_n 1, 1) := by decide +kernel
theorem dX11_takePlain_11 : decode cX11_takePlain 11 = .ok (.iaload, 1) := by decide +kernel
theorem dX11_takePlain_12 : decode cX11_takePlain 12 = .ok (.ifCond .ne 5, 3) := by decide +kernel
theorem dX11_takePlain_15 : decode cX11_takePlain 15 = .ok (.iconst (-1), 1) := by decide +kernel
theorem dX11_takePlain_16 : decode cX11_takePlain 16 = .ok (.ireturn, 1) := by decide +kernel
theorem dX11_takePlain_17 : decode cX11_takePlain 17 = .ok (.aload_n 0, 1) := by decide +kernel
theorem dX11_takePlain_18 : decode cX11_takePlain 18 = .ok (.getfield 32, 3) := by decide +kernel
theorem dX11_takePlain_21 : decode cX11_takePlain 21 = .ok (.iload_n 1, 1) := by decide +kernel
theorem dX11_takePlain_22 : decode cX11_takePlain 22 = .ok (.dup2, 1) := by decide +kernel
theorem dX11_takePlain_23 : decode cX11_takePlain 23 = .ok (.iaload, 1) := by decide +kernel
theorem dX11_takePlain_24 : decode cX11_takePlain 24 = .ok (.iconst 1, 1) := by decide +kernel
theorem dX11_takePlain_25 : decode cX11_takePlain 25 = .ok (.isub, 1) := by decide +kernel
theorem dX11_takePlain_26 : decode cX11_takePlain 26 = .ok (.iastore, 1) := by decide +kernel
theorem dX11_takePlain_27 : decode cX11_takePlain 27 = .ok (.aload_n 0, 1) := by decide +kernel
theorem dX11_takePlain_28 : decode cX11_takePlain 28 = .ok (.getfield 35, 3) := by decide +kernel
theorem dX11_takePlain_31 : decode cX11_takePlain 31 = .ok (.bipush 12, 2) := by decide +kernel
theorem dX11_takePlain_33 : decode cX11_takePlain 33 = .ok (.iload_n 1, 1) := by decide +kernel
theorem dX11_takePlain_34 : decode cX11_takePlain 34 = .ok (.imul, 1) := by decide +kernel
theorem dX11_takePlain_35 : decode cX11_takePlain 35 = .ok (.aload_n 0, 1) := by decide +kernel
theorem dX11_takePlain_36 : decode cX11_takePlain 36 = .ok (.getfield 32, 3) := by decide +kernel
theorem dX11_takePlain_39 : decode cX11_takePlain 39 = .ok (.iload_n 1, 1) := by decide +kernel
theorem dX11_takePlain_40 : decode cX11_takePlain 40 = .ok (.iaload, 1) := by decide +kernel
theorem dX11_takePlain_41 : decode cX11_takePlain 41 = .ok (.iadd, 1) := by decide +kernel
theorem dX11_takePlain_42 : decode cX11_takePlain 42 = .ok (.iaload, 1) := by decide +kernel
theorem dX11_takePlain_43 : decode cX11_takePlain 43 = .ok (.istore_n 2, 1) := by decide +kernel
theorem dX11_takePlain_44 : decode cX11_takePlain 44 = .ok (.aload_n 0, 1) := by decide +kernel
theorem dX11_takePlain_45 : decode cX11_takePlain 45 = .ok (.getfield 20, 3) := by decide +kernel
theorem dX11_takePlain_48 : decode cX11_takePlain 48 = .ok (.iload_n 2, 1) := by decide +kernel
theorem dX11_takePlain_49 : decode cX11_takePlain 49 = .ok (.iconst (-1), 1) := by decide +kernel
theorem dX11_takePlain_50 : decode cX11_takePlain 50 = .ok (.iastore, 1) := by decide +kernel
theorem dX11_takePlain_51 : decode cX11_takePlain 51 = .ok (.iload_n 2, 1) := by decide +kernel
theorem dX11_takePlain_52 : decode cX11_takePlain 52 = .ok (.ireturn, 1) := by decide +kernel
theorem dX11_takeOf_0 : decode cX11_takeOf 0 = .ok (.aload_n 0, 1) := by decide +kernel
theorem dX11_takeOf_1 : decode cX11_takeOf 1 = .ok (.getfield 23, 3) := by decide +kernel
theorem dX11_takeOf_4 : decode cX11_takeOf 4 = .ok (.iload_n 1, 1) := by decide +kernel
theorem dX11_takeOf_5 : decode cX11_takeOf 5 = .ok (.iaload, 1) := by decide +kernel
theorem dX11_takeOf_6 : decode cX11_takeOf 6 = .ok (.istore_n 2, 1) := by decide +kernel
theorem dX11_takeOf_7 : decode cX11_takeOf 7 = .ok (.aload_n 0, 1) := by decide +kernel
theorem dX11_takeOf_8 : decode cX11_takeOf 8 = .ok (.iconst 0, 1) := by decide +kernel
theorem dX11_takeOf_9 : decode cX11_takeOf 9 = .ok (.putfield 66, 3) := by decide +kernel
theorem dX11_takeOf_12 : decode cX11_takeOf 12 = .ok (.iload_n 2, 1) := by decide +kernel
theorem dX11_takeOf_13 : decode cX11_takeOf 13 = .ok (.iconst 4, 1) := by decide +kernel
theorem dX11_takeOf_14 : decode cX11_takeOf 14 = .ok (.if_icmp .eq 9, 3) := by decide +kernel
theorem dX11_takeOf_17 : decode cX11_takeOf 17 = .ok (.iload_n 2, 1) := by decide +kernel
theorem dX11_takeOf_18 : decode cX11_takeOf 18 = .ok (.bipush 6, 2) := by decide +kernel
theorem dX11_takeOf_20 : decode cX11_takeOf 20 = .ok (.if_icmp .ne 7, 3) := by decide +kernel
theorem dX11_takeOf_23 : decode cX11_takeOf 23 = .ok (.iconst 1, 1) := by decide +kernel
theorem dX11_takeOf_24 : decode cX11_takeOf 24 = .ok (.goto 4, 3) := by decide +kernel
theorem dX11_takeOf_27 : decode cX11_takeOf 27 = .ok (.iconst 0, 1) := by decide +kernel
theorem dX11_takeOf_28 : decode cX11_takeOf 28 = .ok (.istore_n 3, 1) := by decide +kernel
theorem dX11_takeOf_29 : decode cX11_takeOf 29 = .ok (.iload_n 3, 1) := by decide +kernel
theorem dX11_takeOf_30 : decode cX11_takeOf 30 = .ok (.ifCond .ne 9, 3) := by decide +kernel
theorem dX11_takeOf_33 : decode cX11_takeOf 33 = .ok (.iload_n 2, 1) := by decide +kernel
theorem dX11_takeOf_34 : decode cX11_takeOf 34 = .ok (.bipush 7, 2) := by decide +kernel
theorem dX11_takeOf_36 : decode cX11_takeOf 36 = .ok (.if_icmp .ne 18, 3) := by decide +kernel
theorem dX11_takeOf_39 : decode cX11_takeOf 39 = .ok (.aload_n 0, 1) := by decide +kernel
theorem dX11_takeOf_40 : decode cX11_takeOf 40 = .ok (.iconst 1, 1) := by decide +kernel
theorem dX11_takeOf_41 : decode cX11_takeOf 41 = .ok (.iload_n 3, 1) := by decide +kernel
theorem dX11_takeOf_42 : decode cX11_takeOf 42 = .ok (.ifCond .eq 7, 3) := by decide +kernel
theorem dX11_takeOf_45 : decode cX11_takeOf 45 = .ok (.iconst 4, 1) := by decide +kernel
theorem dX11_takeOf_46 : decode cX11_takeOf 46 = .ok (.goto 5, 3) := by decide +kernel
theorem dX11_takeOf_49 : decode cX11_takeOf 49 = .ok (.bipush 7, 2) := by decide +kernel
theorem dX11_takeOf_51 : decode cX11_takeOf 51 = .ok (.invokevirtual 58, 3) := by decide +kernel
theorem dX11_takeOf_54 : decode cX11_takeOf 54 = .ok (.aload_n 0, 1) := by decide +kernel
theorem dX11_takeOf_55 : decode cX11_takeOf 55 = .ok (.iload_n 1, 1) := by decide +kernel
theorem dX11_takeOf_56 : decode cX11_takeOf 56 = .ok (.invokevirtual 90, 3) := by decide +kernel
theorem dX11_takeOf_59 : decode cX11_takeOf 59 = .ok (.istore 4, 2) := by decide +kernel
theorem dX11_takeOf_61 : decode cX11_takeOf 61 = .ok (.iload_n 3, 1) := by decide +kernel
theorem dX11_takeOf_62 : decode cX11_takeOf 62 = .ok (.ifCond .ne 12, 3) := by decide +kernel
theorem dX11_takeOf_65 : decode cX11_takeOf 65 = .ok (.iload_n 2, 1) := by decide +kernel
theorem dX11_takeOf_66 : decode cX11_takeOf 66 = .ok (.bipush 7, 2) := by decide +kernel
theorem dX11_takeOf_68 : decode cX11_takeOf 68 = .ok (.if_icmp .eq 6, 3) := by decide +kernel
theorem dX11_takeOf_71 : decode cX11_takeOf 71 = .ok (.iload 4, 2) := by decide +kernel
theorem dX11_takeOf_73 : decode cX11_takeOf 73 = .ok (.ireturn, 1) := by decide +kernel
theorem dX11_takeOf_74 : decode cX11_takeOf 74 = .ok (.iload 4, 2) := by decide +kernel
theorem dX11_takeOf_76 : decode cX11_takeOf 76 = .ok (.iconst (-1), 1) := by decide +kernel
theorem dX11_takeOf_77 : decode cX11_takeOf 77 = .ok (.if_icmp .ne 20, 3) := by decide +kernel
theorem dX11_takeOf_80 : decode cX11_takeOf 80 = .ok (.aload_n 0, 1) := by decide +kernel
theorem dX11_takeOf_81 : decode cX11_takeOf 81 = .ok (.dup, 1) := by decide +kernel
theorem dX11_takeOf_82 : decode cX11_takeOf 82 = .ok (.getfield 93, 3) := by decide +kernel
theorem dX11_takeOf_85 : decode cX11_takeOf 85 = .ok (.iconst 1, 1) := by decide +kernel
theorem dX11_takeOf_86 : decode cX11_takeOf 86 = .ok (.iadd, 1) := by decide +kernel
theorem dX11_takeOf_87 : decode cX11_takeOf 87 = .ok (.putfield 93, 3) := by decide +kernel
theorem dX11_takeOf_90 : decode cX11_takeOf 90 = .ok (.aload_n 0, 1) := by decide +kernel
theorem dX11_takeOf_91 : decode cX11_takeOf 91 = .ok (.iconst 1, 1) := by decide +kernel
theorem dX11_takeOf_92 : decode cX11_takeOf 92 = .ok (.putfield 66, 3) := by decide +kernel
theorem dX11_takeOf_95 : decode cX11_takeOf 95 = .ok (.iconst (-1), 1) := by decide +kernel
theorem dX11_takeOf_96 : decode cX11_takeOf 96 = .ok (.ireturn, 1) := by decide +kernel
theorem dX11_takeOf_97 : decode cX11_takeOf 97 = .ok (.iload_n 2, 1) := by decide +kernel
theorem dX11_takeOf_98 : decode cX11_takeOf 98 = .ok (.bipush 7, 2) := by decide +kernel
theorem dX11_takeOf_100 : decode cX11_takeOf 100 = .ok (.if_icmp .ne 37, 3) := by decide +kernel
theorem dX11_takeOf_103 : decode cX11_takeOf 103 = .ok (.aload_n 0, 1) := by decide +kernel
theorem dX11_takeOf_104 : decode cX11_takeOf 104 = .ok (.getfield 13, 3) := by decide +kernel
theorem dX11_takeOf_107 : decode cX11_takeOf 107 = .ok (.iload 4, 2) := by decide +kernel
theorem dX11_takeOf_109 : decode cX11_takeOf 109 = .ok (.aload_n 0, 1) := by decide +kernel
theorem dX11_takeOf_110 : decode cX11_takeOf 110 = .ok (.getfield 13, 3) := by decide +kernel
theorem dX11_takeOf_113 : decode cX11_takeOf 113 = .ok (.iload 4, 2) := by decide +kernel
theorem dX11_takeOf_115 : decode cX11_takeOf 115 = .ok (.iaload, 1) := by decide +kernel
theorem dX11_takeOf_116 : decode cX11_takeOf 116 = .ok (.iconst 1, 1) := by decide +kernel
theorem dX11_takeOf_117 : decode cX11_takeOf 117 = .ok (.if_icmp .le 15, 3) := by decide +kernel
theorem dX11_takeOf_120 : decode cX11_takeOf 120 = .ok (.aload_n 0, 1) := by decide +kernel
theorem dX11_takeOf_121 : decode cX11_takeOf 121 = .ok (.getfield 13, 3) := by decide +kernel
theorem dX11_takeOf_124 : decode cX11_takeOf 124 = .ok (.iload 4, 2) := by decide +kernel
theorem dX11_takeOf_126 : decode cX11_takeOf 126 = .ok (.iaload, 1) := by decide +kernel
theorem dX11_takeOf_127 : decode cX11_takeOf 127 = .ok (.iconst 1, 1) := by decide +kernel
theorem dX11_takeOf_128 : decode cX11_takeOf 128 = .ok (.isub, 1) := by decide +kernel
theorem dX11_takeOf_129 : decode cX11_takeOf 129 = .ok (.goto 4, 3) := by decide +kernel
theorem dX11_takeOf_132 : decode cX11_takeOf 132 = .ok (.iconst 1, 1) := by decide +kernel
theorem dX11_takeOf_133 : decode cX11_takeOf 133 = .ok (.iastore, 1) := by decide +kernel
theorem dX11_takeOf_134 : decode cX11_takeOf 134 = .ok (.iload 4, 2) := by decide +kernel
theorem dX11_takeOf_136 : decode cX11_takeOf 136 = .ok (.ireturn, 1) := by decide +kernel
theorem dX11_takeOf_137 : decode cX11_takeOf 137 = .ok (.aload_n 0, 1) := by decide +kernel
theorem dX11_takeOf_138 : decode cX11_takeOf 138 = .ok (.getfield 16, 3) := by decide +kernel
theorem dX11_takeOf_141 : decode cX11_takeOf 141 = .ok (.iload 4, 2) := by decide +kernel
theorem dX11_takeOf_143 : decode cX11_takeOf 143 = .ok (.baload, 1) := by decide +kernel
theorem dX11_takeOf_144 : decode cX11_takeOf 144 = .ok (.ifCond .ne 6, 3) := by decide +kernel
theorem dX11_takeOf_147 : decode cX11_takeOf 147 = .ok (.iload 4, 2) := by decide +kernel
theorem dX11_takeOf_149 : decode cX11_takeOf 149 = .ok (.ireturn, 1) := by decide +kernel
theorem dX11_takeOf_150 : decode cX11_takeOf 150 = .ok (.aload_n 0, 1) := by decide +kernel
theorem dX11_takeOf_151 : decode cX11_takeOf 151 = .ok (.getfield 16, 3) := by decide +kernel
theorem dX11_takeOf_154 : decode cX11_takeOf 154 = .ok (.iload 4, 2) := by decide +kernel
theorem dX11_takeOf_156 : decode cX11_takeOf 156 = .ok (.iconst 0, 1) := by decide +kernel
theorem dX11_takeOf_157 : decode cX11_takeOf 157 = .ok (.bastore, 1) := by decide +kernel
theorem dX11_takeOf_158 : decode cX11_takeOf 158 = .ok (.aload_n 0, 1) := by decide +kernel
theorem dX11_takeOf_159 : decode cX11_takeOf 159 = .ok (.iload_n 1, 1) := by decide +kernel
theorem dX11_takeOf_160 : decode cX11_takeOf 160 = .ok (.iload 4, 2) := by decide +kernel
theorem dX11_takeOf_162 : decode cX11_takeOf 162 = .ok (.invokevirtual 87, 3) := by decide +kernel
theorem dX11_takeOf_165 : decode cX11_takeOf 165 = .ok (.istore 5, 2) := by decide +kernel
theorem dX11_takeOf_167 : decode cX11_takeOf 167 = .ok (.aload_n 0, 1) := by decide +kernel
theorem dX11_takeOf_168 : decode cX11_takeOf 168 = .ok (.iload_n 1, 1) := by decide +kernel
theorem dX11_takeOf_169 : decode cX11_takeOf 169 = .ok (.invokevirtual 90, 3) := by decide +kernel
theorem dX11_takeOf_172 : decode cX11_takeOf 172 = .ok (.ireturn, 1) := by decide +kernel
theorem dX11_take_0 : decode cX11_take 0 = .ok (.aload_n 0, 1) := by decide +kernel
theorem dX11_take_1 : decode cX11_take 1 = .ok (.iconst 0, 1) := by decide +kernel
theorem dX11_take_2 : decode cX11_take 2 = .ok (.putfield 41, 3) := by decide +kernel
theorem dX11_take_5 : decode cX11_take 5 = .ok (.aload_n 0, 1) := by decide +kernel
theorem dX11_take_6 : decode cX11_take 6 = .ok (.iload_n 1, 1) := by decide +kernel
theorem dX11_take_7 : decode cX11_take 7 = .ok (.invokevirtual 80, 3) := by decide +kernel
theorem dX11_take_10 : decode cX11_take 10 = .ok (.ifCond .ne 6, 3) := by decide +kernel
theorem dX11_take_13 : decode cX11_take 13 = .ok (.bipush (-101), 2) := by decide +kernel
theorem dX11_take_15 : decode cX11_take 15 = .ok (.ireturn, 1) := by decide +kernel
theorem dX11_take_16 : decode cX11_take 16 = .ok (.aload_n 0, 1) := by decide +kernel
theorem dX11_take_17 : decode cX11_take 17 = .ok (.iload_n 1, 1) := by decide +kernel
theorem dX11_take_18 : decode cX11_take 18 = .ok (.invokevirtual 96, 3) := by decide +kernel
theorem dX11_take_21 : decode cX11_take 21 = .ok (.istore_n 2, 1) := by decide +kernel
theorem dX11_take_22 : decode cX11_take 22 = .ok (.aload_n 0, 1) := by decide +kernel
theorem dX11_take_23 : decode cX11_take 23 = .ok (.aload_n 0, 1) := by decide +kernel
theorem dX11_take_24 : decode cX11_take 24 = .ok (.getfield 66, 3) := by decide +kernel
theorem dX11_take_27 : decode cX11_take 27 = .ok (.ifCond .eq 7, 3) := by decide +kernel
theorem dX11_take_30 : decode cX11_take 30 = .ok (.iconst 1, 1) := by decide +kernel
theorem dX11_take_31 : decode cX11_take 31 = .ok (.goto 4, 3) := by decide +kernel
theorem dX11_take_34 : decode cX11_take 34 = .ok (.iconst 0, 1) := by decide +kernel
theorem dX11_take_35 : decode cX11_take 35 = .ok (.putfield 41, 3) := by decide +kernel
theorem dX11_take_38 : decode cX11_take 38 = .ok (.iload_n 2, 1) := by decide +kernel
theorem dX11_take_39 : decode cX11_take 39 = .ok (.ireturn, 1) := by decide +kernel
theorem dX11_load_0 : decode cX11_load 0 = .ok (.aload_n 0, 1) := by decide +kernel
theorem dX11_load_1 : decode cX11_load 1 = .ok (.iconst 0, 1) := by decide +kernel
theorem dX11_load_2 : decode cX11_load 2 = .ok (.putfield 41, 3) := by decide +kernel
theorem dX11_load_5 : decode cX11_load 5 = .ok (.aload_n 0, 1) := by decide +kernel
theorem dX11_load_6 : decode cX11_load 6 = .ok (.iload_n 1, 1) := by decide +kernel
theorem dX11_load_7 : decode cX11_load 7 = .ok (.invokevirtual 80, 3) := by decide +kernel
theorem dX11_load_10 : decode cX11_load 10 = .ok (.ifCond .eq 11, 3) := by decide +kernel
theorem dX11_load_13 : decode cX11_load 13 = .ok (.aload_n 0, 1) := by decide +kernel
theorem dX11_load_14 : decode cX11_load 14 = .ok (.iload_n 1, 1) := by decide +kernel
theorem dX11_load_15 : decode cX11_load 15 = .ok (.invokevirtual 70, 3) := by decide +kernel
theorem dX11_load_18 : decode cX11_load 18 = .ok (.goto 5, 3) := by decide +kernel
theorem dX11_load_21 : decode cX11_load 21 = .ok (.bipush (-101), 2) := by decide +kernel
theorem dX11_load_23 : decode cX11_load 23 = .ok (.ireturn, 1) := by decide +kernel
theorem dX11_lowest_0 : decode cX11_lowest 0 = .ok (.aload_n 0, 1) := by decide +kernel
theorem dX11_lowest_1 : decode cX11_lowest 1 = .ok (.iconst 3, 1) := by decide +kernel
theorem dX11_lowest_2 : decode cX11_lowest 2 = .ok (.iconst 0, 1) := by decide +kernel
theorem dX11_lowest_3 : decode cX11_lowest 3 = .ok (.invokevirtual 58, 3) := by decide +kernel
theorem dX11_lowest_6 : decode cX11_lowest 6 = .ok (.iconst 0, 1) := by decide +kernel
theorem dX11_lowest_7 : decode cX11_lowest 7 = .ok (.istore_n 3, 1) := by decide +kernel
theorem dX11_lowest_8 : decode cX11_lowest 8 = .ok (.iload_n 3, 1) := by decide +kernel
theorem dX11_lowest_9 : decode cX11_lowest 9 = .ok (.aload_n 0, 1) := by decide +kernel
theorem dX11_lowest_10 : decode cX11_lowest 10 = .ok (.getfield 32, 3) := by decide +kernel
theorem dX11_lowest_13 : decode cX11_lowest 13 = .ok (.iload_n 1, 1) := by decide +kernel
theorem dX11_lowest_14 : decode cX11_lowest 14 = .ok (.iaload, 1) := by decide +kernel
theorem dX11_lowest_15 : decode cX11_lowest 15 = .ok (.if_icmp .ge 31, 3) := by decide +kernel
theorem dX11_lowest_18 : decode cX11_lowest 18 = .ok (.aload_n 0, 1) := by decide +kernel
theorem dX11_lowest_19 : decode cX11_lowest 19 = .ok (.getfield 7, 3) := by decide +kernel
theorem dX11_lowest_22 : decode cX11_lowest 22 = .ok (.aload_n 0, 1) := by decide +kernel
theorem dX11_lowest_23 : decode cX11_lowest 23 = .ok (.getfield 35, 3) := by decide +kernel
theorem dX11_lowest_26 : decode cX11_lowest 26 = .ok (.bipush 12, 2) := by decide +kernel
theorem dX11_lowest_28 : decode cX11_lowest 28 = .ok (.iload_n 1, 1) := by decide +kernel
theorem dX11_lowest_29 : decode cX11_lowest 29 = .ok (.imul, 1) := by decide +kernel
theorem dX11_lowest_30 : decode cX11_lowest 30 = .ok (.iload_n 3, 1) := by decide +kernel
theorem dX11_lowest_31 : decode cX11_lowest 31 = .ok (.iadd, 1) := by decide +kernel
theorem dX11_lowest_32 : decode cX11_lowest 32 = .ok (.iaload, 1) := by decide +kernel
theorem dX11_lowest_33 : decode cX11_lowest 33 = .ok (.iaload, 1) := by decide +kernel
theorem dX11_lowest_34 : decode cX11_lowest 34 = .ok (.iload_n 2, 1) := by decide +kernel
theorem dX11_lowest_35 : decode cX11_lowest 35 = .ok (.if_icmp .lt 5, 3) := by decide +kernel
theorem dX11_lowest_38 : decode cX11_lowest 38 = .ok (.iload_n 3, 1) := by decide +kernel
theorem dX11_lowest_39 : decode cX11_lowest 39 = .ok (.ireturn, 1) := by decide +kernel
theorem dX11_lowest_40 : decode cX11_lowest 40 = .ok (.iinc 3 1, 3) := by decide +kernel
theorem dX11_lowest_43 : decode cX11_lowest 43 = .ok (.goto (-35), 3) := by decide +kernel
theorem dX11_lowest_46 : decode cX11_lowest 46 = .ok (.iconst (-1), 1) := by decide +kernel
theorem dX11_lowest_47 : decode cX11_lowest 47 = .ok (.ireturn, 1) := by decide +kernel
theorem dX11_search_0 : decode cX11_search 0 = .ok (.aload_n 0, 1) := by decide +kernel
theorem dX11_search_1 : decode cX11_search 1 = .ok (.iconst 0, 1) := by decide +kernel
theorem dX11_search_2 : decode cX11_search 2 = .ok (.putfield 41, 3) := by decide +kernel
theorem dX11_search_5 : decode cX11_search 5 = .ok (.aload_n 0, 1) := by decide +kernel
theorem dX11_search_6 : decode cX11_search 6 = .ok (.iload_n 1, 1) := by decide +kernel
theorem dX11_search_7 : decode cX11_search 7 = .ok (.invokevirtual 80, 3) := by decide +kernel
theorem dX11_search_10 : decode cX11_search 10 = .ok (.ifCond .ne 6, 3) := by decide +kernel
theorem dX11_search_13 : decode cX11_search 13 = .ok (.bipush (-101), 2) := by decide +kernel
theorem dX11_search_15 : decode cX11_search 15 = .ok (.ireturn, 1) := by decide +kernel
theorem dX11_search_16 : decode cX11_search 16 = .ok (.iload_n 2, 1) := by decide +kernel
theorem dX11_search_17 : decode cX11_search 17 = .ok (.iconst 1, 1) := by decide +kernel
theorem dX11_search_18 : decode cX11_search 18 = .ok (.sipush 1000, 3) := by decide +kernel
theorem dX11_search_21 : decode cX11_search 21 = .ok (.invokestatic 48, 3) := by decide +kernel
theorem dX11_search_24 : decode cX11_search 24 = .ok (.ifCond .ne 6, 3) := by decide +kernel
theorem dX11_search_27 : decode cX11_search 27 = .ok (.bipush (-102), 2) := by decide +kernel
theorem dX11_search_29 : decode cX11_search 29 = .ok (.ireturn, 1) := by decide +kernel
theorem dX11_search_30 : decode cX11_search 30 = .ok (.aload_n 0, 1) := by decide +kernel
theorem dX11_search_31 : decode cX11_search 31 = .ok (.getfield 23, 3) := by decide +kernel
theorem dX11_search_34 : decode cX11_search 34 = .ok (.iload_n 1, 1) := by decide +kernel
theorem dX11_search_35 : decode cX11_search 35 = .ok (.iaload, 1) := by decide +kernel
theorem dX11_search_36 : decode cX11_search 36 = .ok (.istore_n 3, 1) := by decide +kernel
theorem dX11_search_37 : decode cX11_search 37 = .ok (.iload_n 3, 1) := by decide +kernel
theorem dX11_search_38 : decode cX11_search 38 = .ok (.iconst 5, 1) := by decide +kernel
theorem dX11_search_39 : decode cX11_search 39 = .ok (.if_icmp .eq 9, 3) := by decide +kernel
theorem dX11_search_42 : decode cX11_search 42 = .ok (.iload_n 3, 1) := by decide +kernel
theorem dX11_search_43 : decode cX11_search 43 = .ok (.bipush 7, 2) := by decide +kernel
theorem dX11_search_45 : decode cX11_search 45 = .ok (.if_icmp .ne 37, 3) := by decide +kernel
theorem dX11_search_48 : decode cX11_search 48 = .ok (.aload_n 0, 1) := by decide +kernel
theorem dX11_search_49 : decode cX11_search 49 = .ok (.iconst 3, 1) := by decide +kernel
theorem dX11_search_50 : decode cX11_search 50 = .ok (.iconst 5, 1) := by decide +kernel
theorem dX11_search_51 : decode cX11_search 51 = .ok (.invokevirtual 58, 3) := by decide +kernel
theorem dX11_search_54 : decode cX11_search 54 = .ok (.aload_n 0, 1) := by decide +kernel
theorem dX11_search_55 : decode cX11_search 55 = .ok (.iload_n 1, 1) := by decide +kernel
theorem dX11_search_56 : decode cX11_search 56 = .ok (.iload_n 2, 1) := by decide +kernel
theorem dX11_search_57 : decode cX11_search 57 = .ok (.invokevirtual 99, 3) := by decide +kernel
theorem dX11_search_60 : decode cX11_search 60 = .ok (.istore 4, 2) := by decide +kernel
theorem dX11_search_62 : decode cX11_search 62 = .ok (.iload 4, 2) := by decide +kernel
theorem dX11_search_64 : decode cX11_search 64 = .ok (.iconst (-1), 1) := by decide +kernel
theorem dX11_search_65 : decode cX11_search 65 = .ok (.if_icmp .ne 14, 3) := by decide +kernel
theorem dX11_search_68 : decode cX11_search 68 = .ok (.aload_n 0, 1) := by decide +kernel
theorem dX11_search_69 : decode cX11_search 69 = .ok (.iload_n 1, 1) := by decide +kernel
theorem dX11_search_70 : decode cX11_search 70 = .ok (.iload_n 2, 1) := by decide +kernel
theorem dX11_search_71 : decode cX11_search 71 = .ok (.iconst 2, 1) := by decide +kernel
theorem dX11_search_72 : decode cX11_search 72 = .ok (.idiv, 1) := by decide +kernel
theorem dX11_search_73 : decode cX11_search 73 = .ok (.invokevirtual 99, 3) := by decide +kernel
theorem dX11_search_76 : decode cX11_search 76 = .ok (.goto 5, 3) := by decide +kernel
theorem dX11_search_79 : decode cX11_search 79 = .ok (.iload 4, 2) := by decide +kernel
theorem dX11_search_81 : decode cX11_search 81 = .ok (.ireturn, 1) := by decide +kernel
theorem dX11_search_82 : decode cX11_search 82 = .ok (.iload_n 3, 1) := by decide +kernel
theorem dX11_search_83 : decode cX11_search 83 = .ok (.iconst 4, 1) := by decide +kernel
theorem dX11_search_84 : decode cX11_search 84 = .ok (.if_icmp .eq 9, 3) := by decide +kernel
theorem dX11_search_87 : decode cX11_search 87 = .ok (.iload_n 3, 1) := by decide +kernel
theorem dX11_search_88 : decode cX11_search 88 = .ok (.bipush 6, 2) := by decide +kernel
theorem dX11_search_90 : decode cX11_search 90 = .ok (.if_icmp .ne 50, 3) := by decide +kernel
theorem dX11_search_93 : decode cX11_search 93 = .ok (.aload_n 0, 1) := by decide +kernel
theorem dX11_search_94 : decode cX11_search 94 = .ok (.iconst 3, 1) := by decide +kernel
theorem dX11_search_95 : decode cX11_search 95 = .ok (.iconst 4, 1) := by decide +kernel
theorem dX11_search_96 : decode cX11_search 96 = .ok (.invokevirtual 58, 3) := by decide +kernel
theorem dX11_search_99 : decode cX11_search 99 = .ok (.aload_n 0, 1) := by decide +kernel
theorem dX11_search_100 : decode cX11_search 100 = .ok (.iload_n 1, 1) := by decide +kernel
theorem dX11_search_101 : decode cX11_search 101 = .ok (.iload_n 2, 1) := by decide +kernel
theorem dX11_search_102 : decode cX11_search 102 = .ok (.invokevirtual 99, 3) := by decide +kernel
theorem dX11_search_105 : decode cX11_search 105 = .ok (.istore 4, 2) := by decide +kernel
theorem dX11_search_107 : decode cX11_search 107 = .ok (.iload 4, 2) := by decide +kernel
theorem dX11_search_109 : decode cX11_search 109 = .ok (.iconst (-1), 1) := by decide +kernel
theorem dX11_search_110 : decode cX11_search 110 = .ok (.if_icmp .eq 23, 3) := by decide +kernel
theorem dX11_search_113 : decode cX11_search 113 = .ok (.aload_n 0, 1) := by decide +kernel
theorem dX11_search_114 : decode cX11_search 114 = .ok (.getfield 16, 3) := by decide +kernel
theorem dX11_search_117 : decode cX11_search 117 = .ok (.aload_n 0, 1) := by decide +kernel
theorem dX11_search_118 : decode cX11_search 118 = .ok (.getfield 35, 3) := by decide +kernel
theorem dX11_search_121 : decode cX11_search 121 = .ok (.bipush 12, 2) := by decide +kernel
theorem dX11_search_123 : decode cX11_search 123 = .ok (.iload_n 1, 1) := by decide +kernel
theorem dX11_search_124 : decode cX11_search 124 = .ok (.imul, 1) := by decide +kernel
theorem dX11_search_125 : decode cX11_search 125 = .ok (.iload 4, 2) := by decide +kernel
theorem dX11_search_127 : decode cX11_search 127 = .ok (.iadd, 1) := by decide +kernel
theorem dX11_search_128 : decode cX11_search 128 = .ok (.iaload, 1) := by decide +kernel
theorem dX11_search_129 : decode cX11_search 129 = .ok (.baload, 1) := by decide +kernel
theorem dX11_search_130 : decode cX11_search 130 = .ok (.ifCond .eq 7, 3) := by decide +kernel
theorem dX11_search_133 : decode cX11_search 133 = .ok (.iconst (-1), 1) := by decide +kernel
theorem dX11_search_134 : decode cX11_search 134 = .ok (.goto 5, 3) := by decide +kernel
theorem dX11_search_137 : decode cX11_search 137 = .ok (.iload 4, 2) := by decide +kernel
theorem dX11_search_139 : decode cX11_search 139 = .ok (.ireturn, 1) := by decide +kernel
theorem dX11_search_140 : decode cX11_search 140 = .ok (.aload_n 0, 1) := by decide +kernel
theorem dX11_search_141 : decode cX11_search 141 = .ok (.iload_n 1, 1) := by decide +kernel
theorem dX11_search_142 : decode cX11_search 142 = .ok (.iload_n 2, 1) := by decide +kernel
theorem dX11_search_143 : decode cX11_search 143 = .ok (.invokevirtual 99, 3) := by decide +kernel
theorem dX11_search_146 : decode cX11_search 146 = .ok (.ireturn, 1) := by decide +kernel
theorem dX11_freeStrict_0 : decode cX11_freeStrict 0 = .ok (.aload_n 0, 1) := by decide +kernel
theorem dX11_freeStrict_1 : decode cX11_freeStrict 1 = .ok (.iconst 4, 1) := by decide +kernel
theorem dX11_freeStrict_2 : decode cX11_freeStrict 2 = .ok (.iconst 3, 1) := by decide +kernel
theorem dX11_freeStrict_3 : decode cX11_freeStrict 3 = .ok (.invokevirtual 58, 3) := by decide +kernel
theorem dX11_freeStrict_6 : decode cX11_freeStrict 6 = .ok (.aload_n 0, 1) := by decide +kernel
theorem dX11_freeStrict_7 : decode cX11_freeStrict 7 = .ok (.iload_n 1, 1) := by decide +kernel
theorem dX11_freeStrict_8 : decode cX11_freeStrict 8 = .ok (.invokevirtual 70, 3) := by decide +kernel
theorem dX11_freeStrict_11 : decode cX11_freeStrict 11 = .ok (.aload_n 0, 1) := by decide +kernel
theorem dX11_freeStrict_12 : decode cX11_freeStrict 12 = .ok (.getfield 29, 3) := by decide +kernel
theorem dX11_freeStrict_15 : decode cX11_freeStrict 15 = .ok (.iload_n 1, 1) := by decide +kernel
theorem dX11_freeStrict_16 : decode cX11_freeStrict 16 = .ok (.iaload, 1) := by decide +kernel
theorem dX11_freeStrict_17 : decode cX11_freeStrict 17 = .ok (.if_icmp .lt 5, 3) := by decide +kernel
theorem dX11_freeStrict_20 : decode cX11_freeStrict 20 = .ok (.iconst 0, 1) := by decide +kernel
theorem dX11_freeStrict_21 : decode cX11_freeStrict 21 = .ok (.ireturn, 1) := by decide +kernel
theorem dX11_freeStrict_22 : decode cX11_freeStrict 22 = .ok (.aload_n 0, 1) := by decide +kernel
theorem dX11_freeStrict_23 : decode cX11_freeStrict 23 = .ok (.iconst 4, 1) := by decide +kernel
theorem dX11_freeStrict_24 : decode cX11_freeStrict 24 = .ok (.iconst 0, 1) := by decide +kernel
theorem dX11_freeStrict_25 : decode cX11_freeStrict 25 = .ok (.invokevirtual 58, 3) := by decide +kernel
theorem dX11_freeStrict_28 : decode cX11_freeStrict 28 = .ok (.aload_n 0, 1) := by decide +kernel
theorem dX11_freeStrict_29 : decode cX11_freeStrict 29 = .ok (.getfield 26, 3) := by decide +kernel
theorem dX11_freeStrict_32 : decode cX11_freeStrict 32 = .ok (.iload_n 1, 1) := by decide +kernel
theorem dX11_freeStrict_33 : decode cX11_freeStrict 33 = .ok (.iaload, 1) := by decide +kernel
theorem dX11_freeStrict_34 : decode cX11_freeStrict 34 = .ok (.aload_n 0, 1) := by decide +kernel
theorem dX11_freeStrict_35 : decode cX11_freeStrict 35 = .ok (.getfield 32, 3) := by decide +kernel
theorem dX11_freeStrict_38 : decode cX11_freeStrict 38 = .ok (.iload_n 1, 1) := by decide +kernel
theorem dX11_freeStrict_39 : decode cX11_freeStrict 39 = .ok (.iaload, 1) := by decide +kernel
theorem dX11_freeStrict_40 : decode cX11_freeStrict 40 = .ok (.isub, 1) := by decide +kernel
theorem dX11_freeStrict_41 : decode cX11_freeStrict 41 = .ok (.ireturn, 1) := by decide +kernel
theorem dX11_freeOf_0 : decode cX11_freeOf 0 = .ok (.aload_n 0, 1) := by decide +kernel
theorem dX11_freeOf_1 : decode cX11_freeOf 1 = .ok (.getfield 23, 3) := by decide +kernel
theorem dX11_freeOf_4 : decode cX11_freeOf 4 = .ok (.iload_n 1, 1) := by decide +kernel
theorem dX11_freeOf_5 : decode cX11_freeOf 5 = .ok (.iaload, 1) := by decide +kernel
theorem dX11_freeOf_6 : decode cX11_freeOf 6 = .ok (.istore_n 2, 1) := by decide +kernel
theorem dX11_freeOf_7 : decode cX11_freeOf 7 = .ok (.iload_n 2, 1) := by decide +kernel
theorem dX11_freeOf_8 : decode cX11_freeOf 8 = .ok (.bipush 7, 2) := by decide +kernel
theorem dX11_freeOf_10 : decode cX11_freeOf 10 = .ok (.if_icmp .ne 28, 3) := by decide +kernel
theorem dX11_freeOf_13 : decode cX11_freeOf 13 = .ok (.aload_n 0, 1) := by decide +kernel
theorem dX11_freeOf_14 : decode cX11_freeOf 14 = .ok (.iconst 4, 1) := by decide +kernel
theorem dX11_freeOf_15 : decode cX11_freeOf 15 = .ok (.bipush 7, 2) := by decide +kernel
theorem dX11_freeOf_17 : decode cX11_freeOf 17 = .ok (.invokevirtual 58, 3) := by decide +kernel
theorem dX11_freeOf_20 : decode cX11_freeOf 20 = .ok (.aload_n 0, 1) := by decide +kernel
theorem dX11_freeOf_21 : decode cX11_freeOf 21 = .ok (.iload_n 1, 1) := by decide +kernel
theorem dX11_freeOf_22 : decode cX11_freeOf 22 = .ok (.invokevirtual 103, 3) := by decide +kernel
theorem dX11_freeOf_25 : decode cX11_freeOf 25 = .ok (.iconst 1, 1) := by decide +kernel
theorem dX11_freeOf_26 : decode cX11_freeOf 26 = .ok (.isub, 1) := by decide +kernel
theorem dX11_freeOf_27 : decode cX11_freeOf 27 = .ok (.istore_n 3, 1) := by decide +kernel
theorem dX11_freeOf_28 : decode cX11_freeOf 28 = .ok (.iload_n 3, 1) := by decide +kernel
theorem dX11_freeOf_29 : decode cX11_freeOf 29 = .ok (.ifCond .ge 7, 3) := by decide +kernel
theorem dX11_freeOf_32 : decode cX11_freeOf 32 = .ok (.iconst 0, 1) := by decide +kernel
theorem dX11_freeOf_33 : decode cX11_freeOf 33 = .ok (.goto 4, 3) := by decide +kernel
theorem dX11_freeOf_36 : decode cX11_freeOf 36 = .ok (.iload_n 3, 1) := by decide +kernel
theorem dX11_freeOf_37 : decode cX11_freeOf 37 = .ok (.ireturn, 1) := by decide +kernel
theorem dX11_freeOf_38 : decode cX11_freeOf 38 = .ok (.iload_n 2, 1) := by decide +kernel
theorem dX11_freeOf_39 : decode cX11_freeOf 39 = .ok (.iconst 3, 1) := by decide +kernel
theorem dX11_freeOf_40 : decode cX11_freeOf 40 = .ok (.if_icmp .eq 8, 3) := by decide +kernel
theorem dX11_freeOf_43 : decode cX11_freeOf 43 = .ok (.iload_n 2, 1) := by decide +kernel
theorem dX11_freeOf_44 : decode cX11_freeOf 44 = .ok (.iconst 5, 1) := by decide +kernel
theorem dX11_freeOf_45 : decode cX11_freeOf 45 = .ok (.if_icmp .ne 9, 3) := by decide +kernel
theorem dX11_freeOf_48 : decode cX11_freeOf 48 = .ok (.aload_n 0, 1) := by decide +kernel
theorem dX11_freeOf_49 : decode cX11_freeOf 49 = .ok (.iload_n 1, 1) := by decide +kernel
theorem dX11_freeOf_50 : decode cX11_freeOf 50 = .ok (.invokevirtual 103, 3) := by decide +kernel
theorem dX11_freeOf_53 : decode cX11_freeOf 53 = .ok (.ireturn, 1) := by decide +kernel
theorem dX11_freeOf_54 : decode cX11_freeOf 54 = .ok (.aload_n 0, 1) := by decide +kernel
theorem dX11_freeOf_55 : decode cX11_freeOf 55 = .ok (.iconst 4, 1) := by decide +kernel
theorem dX11_freeOf_56 : decode cX11_freeOf 56 = .ok (.iconst 0, 1) := by decide +kernel
theorem dX11_freeOf_57 : decode cX11_freeOf 57 = .ok (.invokevirtual 58, 3) := by decide +kernel
theorem dX11_freeOf_60 : decode cX11_freeOf 60 = .ok (.aload_n 0, 1) := by decide +kernel
theorem dX11_freeOf_61 : decode cX11_freeOf 61 = .ok (.getfield 26, 3) := by decide +kernel
theorem dX11_freeOf_64 : decode cX11_freeOf 64 = .ok (.iload_n 1, 1) := by decide +kernel
theorem dX11_freeOf_65 : decode cX11_freeOf 65 = .ok (.iaload, 1) := by decide +kernel
theorem dX11_freeOf_66 : decode cX11_freeOf 66 = .ok (.aload_n 0, 1) := by decide +kernel
theorem dX11_freeOf_67 : decode cX11_freeOf 67 = .ok (.getfield 32, 3) := by decide +kernel
theorem dX11_freeOf_70 : decode cX11_freeOf 70 = .ok (.iload_n 1, 1) := by decide +kernel
theorem dX11_freeOf_71 : decode cX11_freeOf 71 = .ok (.iaload, 1) := by decide +kernel
theorem dX11_freeOf_72 : decode cX11_freeOf 72 = .ok (.isub, 1) := by decide +kernel
theorem dX11_freeOf_73 : decode cX11_freeOf 73 = .ok (.ireturn, 1) := by decide +kernel
theorem dX11_free_0 : decode cX11_free 0 = .ok (.aload_n 0, 1) := by decide +kernel
theorem dX11_free_1 : decode cX11_free 1 = .ok (.iconst 0, 1) := by decide +kernel
theorem dX11_free_2 : decode cX11_free 2 = .ok (.putfield 41, 3) := by decide +kernel
theorem dX11_free_5 : decode cX11_free 5 = .ok (.aload_n 0, 1) := by decide +kernel
theorem dX11_free_6 : decode cX11_free 6 = .ok (.iload_n 1, 1) := by decide +kernel
theorem dX11_free_7 : decode cX11_free 7 = .ok (.invokevirtual 80, 3) := by decide +kernel
theorem dX11_free_10 : decode cX11_free 10 = .ok (.ifCond .eq 11, 3) := by decide +kernel
theorem dX11_free_13 : decode cX11_free 13 = .ok (.aload_n 0, 1) := by decide +kernel
theorem dX11_free_14 : decode cX11_free 14 = .ok (.iload_n 1, 1) := by decide +kernel
theorem dX11_free_15 : decode cX11_free 15 = .ok (.invokevirtual 106, 3) := by decide +kernel
theorem dX11_free_18 : decode cX11_free 18 = .ok (.goto 5, 3) := by decide +kernel
theorem dX11_free_21 : decode cX11_free 21 = .ok (.bipush (-101), 2) := by decide +kernel
theorem dX11_free_23 : decode cX11_free 23 = .ok (.ireturn, 1) := by decide +kernel
theorem dX11_full_0 : decode cX11_full 0 = .ok (.aload_n 0, 1) := by decide +kernel
theorem dX11_full_1 : decode cX11_full 1 = .ok (.iconst 0, 1) := by decide +kernel
theorem dX11_full_2 : decode cX11_full 2 = .ok (.putfield 41, 3) := by decide +kernel
theorem dX11_full_5 : decode cX11_full 5 = .ok (.aload_n 0, 1) := by decide +kernel
theorem dX11_full_6 : decode cX11_full 6 = .ok (.iload_n 1, 1) := by decide +kernel
theorem dX11_full_7 : decode cX11_full 7 = .ok (.invokevirtual 80, 3) := by decide +kernel
theorem dX11_full_10 : decode cX11_full 10 = .ok (.ifCond .ne 6, 3) := by decide +kernel
theorem dX11_full_13 : decode cX11_full 13 = .ok (.bipush (-101), 2) := by decide +kernel
theorem dX11_full_15 : decode cX11_full 15 = .ok (.ireturn, 1) := by decide +kernel
theorem dX11_full_16 : decode cX11_full 16 = .ok (.aload_n 0, 1) := by decide +kernel
theorem dX11_full_17 : decode cX11_full 17 = .ok (.getfield 23, 3) := by decide +kernel
theorem dX11_full_20 : decode cX11_full 20 = .ok (.iload_n 1, 1) := by decide +kernel
theorem dX11_full_21 : decode cX11_full 21 = .ok (.iaload, 1) := by decide +kernel
theorem dX11_full_22 : decode cX11_full 22 = .ok (.ifCond .ne 26, 3) := by decide +kernel
theorem dX11_full_25 : decode cX11_full 25 = .ok (.aload_n 0, 1) := by decide +kernel
theorem dX11_full_26 : decode cX11_full 26 = .ok (.getfield 32, 3) := by decide +kernel
theorem dX11_full_29 : decode cX11_full 29 = .ok (.iload_n 1, 1) := by decide +kernel
theorem dX11_full_30 : decode cX11_full 30 = .ok (.iaload, 1) := by decide +kernel
theorem dX11_full_31 : decode cX11_full 31 = .ok (.aload_n 0, 1) := by decide +kernel
theorem dX11_full_32 : decode cX11_full 32 = .ok (.getfield 26, 3) := by decide +kernel
theorem dX11_full_35 : decode cX11_full 35 = .ok (.iload_n 1, 1) := by decide +kernel
theorem dX11_full_36 : decode cX11_full 36 = .ok (.iaload, 1) := by decide +kernel
theorem dX11_full_37 : decode cX11_full 37 = .ok (.if_icmp .ne 7, 3) := by decide +kernel
theorem dX11_full_40 : decode cX11_full 40 = .ok (.iconst 1, 1) := by decide +kernel
theorem dX11_full_41 : decode cX11_full 41 = .ok (.goto 20, 3) := by decide +kernel
theorem dX11_full_44 : decode cX11_full 44 = .ok (.iconst 0, 1) := by decide +kernel
theorem dX11_full_45 : decode cX11_full 45 = .ok (.goto 16, 3) := by decide +kernel
theorem dX11_full_48 : decode cX11_full 48 = .ok (.aload_n 0, 1) := by decide +kernel
theorem dX11_full_49 : decode cX11_full 49 = .ok (.iload_n 1, 1) := by decide +kernel
theorem dX11_full_50 : decode cX11_full 50 = .ok (.invokevirtual 106, 3) := by decide +kernel
theorem dX11_full_53 : decode cX11_full 53 = .ok (.ifCond .ne 7, 3) := by decide +kernel
theorem dX11_full_56 : decode cX11_full 56 = .ok (.iconst 1, 1) := by decide +kernel
theorem dX11_full_57 : decode cX11_full 57 = .ok (.goto 4, 3) := by decide +kernel
theorem dX11_full_60 : decode cX11_full 60 = .ok (.iconst 0, 1) := by decide +kernel
theorem dX11_full_61 : decode cX11_full 61 = .ok (.istore_n 2, 1) := by decide +kernel
theorem dX11_full_62 : decode cX11_full 62 = .ok (.iload_n 2, 1) := by decide +kernel
theorem dX11_full_63 : decode cX11_full 63 = .ok (.ifCond .eq 7, 3) := by decide +kernel
theorem dX11_full_66 : decode cX11_full 66 = .ok (.iconst 1, 1) := by decide +kernel
theorem dX11_full_67 : decode cX11_full 67 = .ok (.goto 4, 3) := by decide +kernel
theorem dX11_full_70 : decode cX11_full 70 = .ok (.iconst 0, 1) := by decide +kernel
theorem dX11_full_71 : decode cX11_full 71 = .ok (.ireturn, 1) := by decide +kernel
theorem dX11_move_0 : decode cX11_move 0 = .ok (.aload_n 0, 1) := by decide +kernel
theorem dX11_move_1 : decode cX11_move 1 = .ok (.iconst 0, 1) := by decide +kernel
theorem dX11_move_2 : decode cX11_move 2 = .ok (.putfield 41, 3) := by decide +kernel
theorem dX11_move_5 : decode cX11_move 5 = .ok (.aload_n 0, 1) := by decide +kernel
theorem dX11_move_6 : decode cX11_move 6 = .ok (.iload_n 1, 1) := by decide +kernel
theorem dX11_move_7 : decode cX11_move 7 = .ok (.invokevirtual 80, 3) := by decide +kernel
theorem dX11_move_10 : decode cX11_move 10 = .ok (.ifCond .eq 11, 3) := by decide +kernel
theorem dX11_move_13 : decode cX11_move 13 = .ok (.aload_n 0, 1) := by decide +kernel
theorem dX11_move_14 : decode cX11_move 14 = .ok (.iload_n 2, 1) := by decide +kernel
theorem dX11_move_15 : decode cX11_move 15 = .ok (.invokevirtual 80, 3) := by decide +kernel
theorem dX11_move_18 : decode cX11_move 18 = .ok (.ifCond .ne 6, 3) := by decide +kernel
theorem dX11_move_21 : decode cX11_move 21 = .ok (.bipush (-101), 2) := by decide +kernel
theorem dX11_move_23 : decode cX11_move 23 = .ok (.ireturn, 1) := by decide +kernel
theorem dX11_move_24 : decode cX11_move 24 = .ok (.aload_n 0, 1) := by decide +kernel
theorem dX11_move_25 : decode cX11_move 25 = .ok (.iload_n 1, 1) := by decide +kernel
theorem dX11_move_26 : decode cX11_move 26 = .ok (.invokevirtual 96, 3) := by decide +kernel
theorem dX11_move_29 : decode cX11_move 29 = .ok (.istore_n 3, 1) := by decide +kernel
theorem dX11_move_30 : decode cX11_move 30 = .ok (.iload_n 3, 1) := by decide +kernel
theorem dX11_move_31 : decode cX11_move 31 = .ok (.iconst (-1), 1) := by decide +kernel
theorem dX11_move_32 : decode cX11_move 32 = .ok (.if_icmp .ne 5, 3) := by decide +kernel
theorem dX11_move_35 : decode cX11_move 35 = .ok (.iconst (-1), 1) := by decide +kernel
theorem dX11_move_36 : decode cX11_move 36 = .ok (.ireturn, 1) := by decide +kernel
theorem dX11_move_37 : decode cX11_move 37 = .ok (.aload_n 0, 1) := by decide +kernel
theorem dX11_move_38 : decode cX11_move 38 = .ok (.iload_n 2, 1) := by decide +kernel
theorem dX11_move_39 : decode cX11_move 39 = .ok (.iload_n 3, 1) := by decide +kernel
theorem dX11_move_40 : decode cX11_move 40 = .ok (.invokevirtual 87, 3) := by decide +kernel
theorem dX11_move_43 : decode cX11_move 43 = .ok (.ifCond .eq 7, 3) := by decide +kernel
theorem dX11_move_46 : decode cX11_move 46 = .ok (.iload_n 3, 1) := by decide +kernel
theorem dX11_move_47 : decode cX11_move 47 = .ok (.goto 7, 3) := by decide +kernel
theorem dX11_move_50 : decode cX11_move 50 = .ok (.bipush (-2), 2) := by decide +kernel
theorem dX11_move_52 : decode cX11_move 52 = .ok (.iload_n 3, 1) := by decide +kernel
theorem dX11_move_53 : decode cX11_move 53 = .ok (.isub, 1) := by decide +kernel
theorem dX11_move_54 : decode cX11_move 54 = .ok (.ireturn, 1) := by decide +kernel
theorem dX11_at_0 : decode cX11_at 0 = .ok (.aload_n 0, 1) := by decide +kernel
theorem dX11_at_1 : decode cX11_at 1 = .ok (.iconst 0, 1) := by decide +kernel
theorem dX11_at_2 : decode cX11_at 2 = .ok (.putfield 41, 3) := by decide +kernel
theorem dX11_at_5 : decode cX11_at 5 = .ok (.aload_n 0, 1) := by decide +kernel
theorem dX11_at_6 : decode cX11_at 6 = .ok (.iload_n 1, 1) := by decide +kernel
theorem dX11_at_7 : decode cX11_at 7 = .ok (.invokevirtual 80, 3) := by decide +kernel
theorem dX11_at_10 : decode cX11_at 10 = .ok (.ifCond .eq 33, 3) := by decide +kernel
theorem dX11_at_13 : decode cX11_at 13 = .ok (.iload_n 2, 1) := by decide +kernel
theorem dX11_at_14 : decode cX11_at 14 = .ok (.iconst 0, 1) := by decide +kernel
theorem dX11_at_15 : decode cX11_at 15 = .ok (.aload_n 0, 1) := by decide +kernel
theorem dX11_at_16 : decode cX11_at 16 = .ok (.getfield 32, 3) := by decide +kernel
theorem dX11_at_19 : decode cX11_at 19 = .ok (.iload_n 1, 1) := by decide +kernel
theorem dX11_at_20 : decode cX11_at 20 = .ok (.iaload, 1) := by decide +kernel
theorem dX11_at_21 : decode cX11_at 21 = .ok (.iconst 1, 1) := by decide +kernel
theorem dX11_at_22 : decode cX11_at 22 = .ok (.isub, 1) := by decide +kernel
theorem dX11_at_23 : decode cX11_at 23 = .ok (.invokestatic 48, 3) := by decide +kernel
theorem dX11_at_26 : decode cX11_at 26 = .ok (.ifCond .eq 17, 3) := by decide +kernel
theorem dX11_at_29 : decode cX11_at 29 = .ok (.aload_n 0, 1) := by decide +kernel
theorem dX11_at_30 : decode cX11_at 30 = .ok (.getfield 35, 3) := by decide +kernel
theorem dX11_at_33 : decode cX11_at 33 = .ok (.bipush 12, 2) := by decide +kernel
theorem dX11_at_35 : decode cX11_at 35 = .ok (.iload_n 1, 1) := by decide +kernel
theorem dX11_at_36 : decode cX11_at 36 = .ok (.imul, 1) := by decide +kernel
theorem dX11_at_37 : decode cX11_at 37 = .ok (.iload_n 2, 1) := by decide +kernel
theorem dX11_at_38 : decode cX11_at 38 = .ok (.iadd, 1) := by decide +kernel
theorem dX11_at_39 : decode cX11_at 39 = .ok (.iaload, 1) := by decide +kernel
theorem dX11_at_40 : decode cX11_at 40 = .ok (.goto 5, 3) := by decide +kernel
theorem dX11_at_43 : decode cX11_at 43 = .ok (.bipush (-101), 2) := by decide +kernel
theorem dX11_at_45 : decode cX11_at 45 = .ok (.ireturn, 1) := by decide +kernel
theorem dX11_of_0 : decode cX11_of 0 = .ok (.aload_n 0, 1) := by decide +kernel
theorem dX11_of_1 : decode cX11_of 1 = .ok (.iconst 0, 1) := by decide +kernel
theorem dX11_of_2 : decode cX11_of 2 = .ok (.putfield 41, 3) := by decide +kernel
theorem dX11_of_5 : decode cX11_of 5 = .ok (.aload_n 0, 1) := by decide +kernel
theorem dX11_of_6 : decode cX11_of 6 = .ok (.iload_n 1, 1) := by decide +kernel
theorem dX11_of_7 : decode cX11_of 7 = .ok (.invokevirtual 84, 3) := by decide +kernel
theorem dX11_of_10 : decode cX11_of 10 = .ok (.ifCond .ne 6, 3) := by decide +kernel
theorem dX11_of_13 : decode cX11_of 13 = .ok (.bipush (-101), 2) := by decide +kernel
theorem dX11_of_15 : decode cX11_of 15 = .ok (.ireturn, 1) := by decide +kernel
theorem dX11_of_16 : decode cX11_of 16 = .ok (.iload_n 2, 1) := by decide +kernel
theorem dX11_of_17 : decode cX11_of 17 = .ok (.tableswitch 67 0 3 #[31, 38, 45, 60], 31) := by decide +kernel
theorem dX11_of_48 : decode cX11_of 48 = .ok (.aload_n 0, 1) := by decide +kernel
theorem dX11_of_49 : decode cX11_of 49 = .ok (.getfield 7, 3) := by decide +kernel
theorem dX11_of_52 : decode cX11_of 52 = .ok (.iload_n 1, 1) := by decide +kernel
theorem dX11_of_53 : decode cX11_of 53 = .ok (.iaload, 1) := by decide +kernel
theorem dX11_of_54 : decode cX11_of 54 = .ok (.ireturn, 1) := by decide +kernel
theorem dX11_of_55 : decode cX11_of 55 = .ok (.aload_n 0, 1) := by decide +kernel
theorem dX11_of_56 : decode cX11_of 56 = .ok (.getfield 13, 3) := by decide +kernel
theorem dX11_of_59 : decode cX11_of 59 = .ok (.iload_n 1, 1) := by decide +kernel
theorem dX11_of_60 : decode cX11_of 60 = .ok (.iaload, 1) := by decide +kernel
theorem dX11_of_61 : decode cX11_of 61 = .ok (.ireturn, 1) := by decide +kernel
theorem dX11_of_62 : decode cX11_of 62 = .ok (.aload_n 0, 1) := by decide +kernel
theorem dX11_of_63 : decode cX11_of 63 = .ok (.getfield 16, 3) := by decide +kernel
theorem dX11_of_66 : decode cX11_of 66 = .ok (.iload_n 1, 1) := by decide +kernel
theorem dX11_of_67 : decode cX11_of 67 = .ok (.baload, 1) := by decide +kernel
theorem dX11_of_68 : decode cX11_of 68 = .ok (.ifCond .eq 7, 3) := by decide +kernel
theorem dX11_of_71 : decode cX11_of 71 = .ok (.iconst 1, 1) := by decide +kernel
theorem dX11_of_72 : decode cX11_of 72 = .ok (.goto 4, 3) := by decide +kernel
theorem dX11_of_75 : decode cX11_of 75 = .ok (.iconst 0, 1) := by decide +kernel
theorem dX11_of_76 : decode cX11_of 76 = .ok (.ireturn, 1) := by decide +kernel
theorem dX11_of_77 : decode cX11_of 77 = .ok (.aload_n 0, 1) := by decide +kernel
theorem dX11_of_78 : decode cX11_of 78 = .ok (.getfield 20, 3) := by decide +kernel
theorem dX11_of_81 : decode cX11_of 81 = .ok (.iload_n 1, 1) := by decide +kernel
theorem dX11_of_82 : decode cX11_of 82 = .ok (.iaload, 1) := by decide +kernel
theorem dX11_of_83 : decode cX11_of 83 = .ok (.ireturn, 1) := by decide +kernel
theorem dX11_of_84 : decode cX11_of 84 = .ok (.bipush (-102), 2) := by decide +kernel
theorem dX11_of_86 : decode cX11_of 86 = .ok (.ireturn, 1) := by decide +kernel
theorem dX11_trace_0 : decode cX11_trace 0 = .ok (.aload_n 0, 1) := by decide +kernel
theorem dX11_trace_1 : decode cX11_trace 1 = .ok (.iconst 0, 1) := by decide +kernel
theorem dX11_trace_2 : decode cX11_trace 2 = .ok (.putfield 41, 3) := by decide +kernel
theorem dX11_trace_5 : decode cX11_trace 5 = .ok (.aload_n 0, 1) := by decide +kernel
theorem dX11_trace_6 : decode cX11_trace 6 = .ok (.getfield 55, 3) := by decide +kernel
theorem dX11_trace_9 : decode cX11_trace 9 = .ok (.sipush 200, 3) := by decide +kernel
theorem dX11_trace_12 : decode cX11_trace 12 = .ok (.if_icmp .ge 10, 3) := by decide +kernel
theorem dX11_trace_15 : decode cX11_trace 15 = .ok (.aload_n 0, 1) := by decide +kernel
theorem dX11_trace_16 : decode cX11_trace 16 = .ok (.getfield 55, 3) := by decide +kernel
theorem dX11_trace_19 : decode cX11_trace 19 = .ok (.goto 6, 3) := by decide +kernel
theorem dX11_trace_22 : decode cX11_trace 22 = .ok (.sipush 200, 3) := by decide +kernel
theorem dX11_trace_25 : decode cX11_trace 25 = .ok (.istore_n 2, 1) := by decide +kernel
theorem dX11_trace_26 : decode cX11_trace 26 = .ok (.iload_n 1, 1) := by decide +kernel
theorem dX11_trace_27 : decode cX11_trace 27 = .ok (.iconst 0, 1) := by decide +kernel
theorem dX11_trace_28 : decode cX11_trace 28 = .ok (.iload_n 2, 1) := by decide +kernel
theorem dX11_trace_29 : decode cX11_trace 29 = .ok (.iconst 1, 1) := by decide +kernel
theorem dX11_trace_30 : decode cX11_trace 30 = .ok (.isub, 1) := by decide +kernel
theorem dX11_trace_31 : decode cX11_trace 31 = .ok (.invokestatic 48, 3) := by decide +kernel
theorem dX11_trace_34 : decode cX11_trace 34 = .ok (.ifCond .eq 23, 3) := by decide +kernel
theorem dX11_trace_37 : decode cX11_trace 37 = .ok (.aload_n 0, 1) := by decide +kernel
theorem dX11_trace_38 : decode cX11_trace 38 = .ok (.getfield 38, 3) := by decide +kernel
theorem dX11_trace_41 : decode cX11_trace 41 = .ok (.aload_n 0, 1) := by decide +kernel
theorem dX11_trace_42 : decode cX11_trace 42 = .ok (.getfield 55, 3) := by decide +kernel
theorem dX11_trace_45 : decode cX11_trace 45 = .ok (.iconst 1, 1) := by decide +kernel
theorem dX11_trace_46 : decode cX11_trace 46 = .ok (.isub, 1) := by decide +kernel
theorem dX11_trace_47 : decode cX11_trace 47 = .ok (.iload_n 1, 1) := by decide +kernel
theorem dX11_trace_48 : decode cX11_trace 48 = .ok (.isub, 1) := by decide +kernel
theorem dX11_trace_49 : decode cX11_trace 49 = .ok (.sipush 200, 3) := by decide +kernel
theorem dX11_trace_52 : decode cX11_trace 52 = .ok (.irem, 1) := by decide +kernel
theorem dX11_trace_53 : decode cX11_trace 53 = .ok (.iaload, 1) := by decide +kernel
theorem dX11_trace_54 : decode cX11_trace 54 = .ok (.goto 5, 3) := by decide +kernel
theorem dX11_trace_57 : decode cX11_trace 57 = .ok (.bipush (-101), 2) := by decide +kernel
theorem dX11_trace_59 : decode cX11_trace 59 = .ok (.ireturn, 1) := by decide +kernel
theorem dX11_count_0 : decode cX11_count 0 = .ok (.aload_n 0, 1) := by decide +kernel
theorem dX11_count_1 : decode cX11_count 1 = .ok (.iconst 0, 1) := by decide +kernel
theorem dX11_count_2 : decode cX11_count 2 = .ok (.putfield 41, 3) := by decide +kernel
theorem dX11_count_5 : decode cX11_count 5 = .ok (.iload_n 1, 1) := by decide +kernel
theorem dX11_count_6 : decode cX11_count 6 = .ok (.tableswitch 59 0 4 #[34, 39, 44, 49, 54], 34) := by decide +kernel
theorem dX11_count_40 : decode cX11_count 40 = .ok (.aload_n 0, 1) := by decide +kernel
theorem dX11_count_41 : decode cX11_count 41 = .ok (.getfield 45, 3) := by decide +kernel
theorem dX11_count_44 : decode cX11_count 44 = .ok (.ireturn, 1) := by decide +kernel
theorem dX11_count_45 : decode cX11_count 45 = .ok (.aload_n 0, 1) := by decide +kernel
theorem dX11_count_46 : decode cX11_count 46 = .ok (.getfield 52, 3) := by decide +kernel
theorem dX11_count_49 : decode cX11_count 49 = .ok (.ireturn, 1) := by decide +kernel
theorem dX11_count_50 : decode cX11_count 50 = .ok (.aload_n 0, 1) := by decide +kernel
theorem dX11_count_51 : decode cX11_count 51 = .ok (.getfield 55, 3) := by decide +kernel
theorem dX11_count_54 : decode cX11_count 54 = .ok (.ireturn, 1) := by decide +kernel
theorem dX11_count_55 : decode cX11_count 55 = .ok (.aload_n 0, 1) := by decide +kernel
theorem dX11_count_56 : decode cX11_count 56 = .ok (.getfield 74, 3) := by decide +kernel
theorem dX11_count_59 : decode cX11_count 59 = .ok (.ireturn, 1) := by decide +kernel
theorem dX11_count_60 : decode cX11_count 60 = .ok (.aload_n 0, 1) := by decide +kernel
theorem dX11_count_61 : decode cX11_count 61 = .ok (.getfield 93, 3) := by decide +kernel
theorem dX11_count_64 : decode cX11_count 64 = .ok (.ireturn, 1) := by decide +kernel
theorem dX11_count_65 : decode cX11_count 65 = .ok (.bipush (-102), 2) := by decide +kernel
theorem dX11_count_67 : decode cX11_count 67 = .ok (.ireturn, 1) := by decide +kernel
end
section
/-! contracts over a world w (a list of cells), with the tables' good words GW as their words -/
abbrev wd (y : MethodName) (b : ByteArray) (n : Nat) (r : Option FieldType) : List Cond := Cond.code y b n r :: GW
theorem wd_good {y y' : MethodName} {b b' : ByteArray} {n n' : Nat} {r r' : Option FieldType} (h : Cond.code y' b' n' r' ∈ GW) : GoodIn (wd y b n r) (wd y' b' n' r') := by
  intro w hw
  have h1 : w ∈ GW := by
    rcases List.mem_cons.mp hw with e | e
    · rw [e]; exact h
    · exact e
  exact ⟨List.mem_cons_of_mem _ h1, good_of_word (gw_good w h1)⟩
/-- what holds of the tables inside a method: every good word -/
abbrev Tb (args : Array Value) (s : State) : Prop := ∀ w ∈ GW, w.before args s = true
theorem Tb.of {y : MethodName} {b : ByteArray} {n : Nat} {r : Option FieldType} {args : Array Value} {s : State} (h : ∀ w ∈ wd y b n r, w.before args s = true) : Tb args s := fun w hw => h w (List.mem_cons_of_mem _ hw)
def ctP (D : va_G) (tys : List (ClassId × FieldType)) (w : va_W) (sz : Nat) : State → Prop := fun U => U.heap.size = sz ∧ va_P D vwCl w U.heap ∧ va_K D vwCl tys U ∧ va_D (fun _ => True) w
def ctB (D : va_G) (tys : List (ClassId × FieldType)) (A : Nat → Prop) : va_W → State → Prop := fun w' t => va_P D vwCl w' t.heap ∧ va_K D vwCl tys t ∧ va_D A w'
/-- a method that answers an int (or a boolean) -/
def ctI (l : Launch) (D : va_G) (tys : List (ClassId × FieldType)) (y : MethodName) (ws : List Cond) (rm : Room) (av : List Value) (w : va_W) (post : Int32 → va_W → Prop) : Prop :=
  ∀ sz : Nat, Met l y ws rm (va_Pc av (ctP D tys w sz)) (va_Qi post (ctB D tys (va_A w sz)) (va_A w sz)) rm.cells rm.slots (va_A w sz)
/-- a method that answers nothing -/
def ctV (l : Launch) (D : va_G) (tys : List (ClassId × FieldType)) (y : MethodName) (ws : List Cond) (rm : Room) (av : List Value) (w : va_W) (post : va_W → Prop) : Prop :=
  ∀ sz : Nat, Met l y ws rm (va_Pc av (ctP D tys w sz)) (va_Qv post (ctB D tys (va_A w sz)) (va_A w sz)) rm.cells rm.slots (va_A w sz)
/-- a method that answers a reference or null -/
def ctQ (l : Launch) (D : va_G) (tys : List (ClassId × FieldType)) (y : MethodName) (ws : List Cond) (rm : Room) (av : List Value) (w : va_W) (post : Option Nat → va_W → Prop) : Prop :=
  ∀ sz : Nat, Met l y ws rm (va_Pc av (ctP D tys w sz)) (va_Qq post (ctB D tys (va_A w sz)) (va_A w sz)) rm.cells rm.slots (va_A w sz)
theorem va_P.subm {D : va_G} {cl : List vw_C} {ws ws' : va_W} {H : Heap} (h : va_P D cl ws H) (is : List Nat) (hs : is.map (fun i => ws[i]?) = ws'.map some) : va_P D cl ws' H := by
  intro k q hk
  obtain ⟨i, -, hi⟩ := va_in_of is hs hk
  exact h i q hi
section ZA
variable {p : Program} {l : Launch} {e : Env} {R : Room} {s : State} {m : MethodId} {args : Array Value} {below : List Frame} {meth : Method} {c : Code} {H : Heap} {locs : List Loc} {cells slots : Nat} {Q : State → Prop}
variable {D : va_G} {tys : List (ClassId × FieldType)} {A : Nat → Prop} {H0 : Heap} {ws wc wr wn w1 : va_W}
theorem z_blind {av : List Value} {sz : Nat} : FrameBlind (va_Pc av (ctP D tys wc sz)) := fun a U g mk q => by
  obtain ⟨q0, q1, qP, qK, qD⟩ := q
  exact ⟨q0, q1, qP, va_K.moved (u := U) (U := U.calling g mk a) (Vm.Alike.refl U.vm) qK, qD⟩
theorem z_preS {As : List Value} {B : Nat → Prop} (hP : va_P D vwCl wc H) (hD : va_D B wc) (hK : va_K D vwCl tys s) : PreS s H (va_Pc As (ctP D tys wc H.size)) As :=
  ⟨z_blind, fun U hU hW => ⟨rfl, by rw [hU], by rw [hU]; exact hP, va_K.moved hW.alike hK, hD.weaken (fun _ _ _ _ => trivial)⟩⟩
theorem z_preV {As : List Value} {B : Nat → Prop} {b q0 ci : Nat} {q : vw_C} {fs : List Value} (hP : va_P D vwCl wc H) (hD : va_D B wc) (hK : va_K D vwCl tys s) (hc : vwCl[ci]? = some q) (he : wc[q0]? = some (b, .inr (ci, fs))) :
    PreV s H q.1 b (va_Pc (.ref b :: As) (ctP D tys wc H.size)) As :=
  ⟨z_blind, va_recv hK hP hc he, (z_preS (As := .ref b :: As) hP hD hK).2⟩
variable {pc : Nat} {ls : Array Slot} {rest st0 : List Value} {a : Array Value} {mc ms : Nat}
/-- behind a call that answers an int: the callee's cells wc, the rest wr -/
theorem z_i {post : Int32 → va_W → Prop} (hr : va_Run p l e R s m args below meth c H locs cells slots mc ms (F0 m pc ls st0) rest (va_Qi post (ctB D tys (va_A wc H.size)) (va_A wc H.size) a) (va_A wc H.size))
    (hP : va_P D vwCl ws H) (hD : va_D A ws) (hS : va_S A H0 H locs) (hA : ∀ q, H0.size ≤ q → A q) (isC isR : List Nat) (hC : isC.map (fun i => ws[i]?) = wc.map some) (hR : isR.map (fun i => ws[i]?) = wr.map some) (hn : va_nd isR = true) (hdis : ∀ i ∈ isR, i ∉ isC)
    (kk : ∀ (r : Int32) (w1 : va_W) (H1 : Heap) (locs1 : List Loc), post r w1 → va_P D vwCl (wr ++ w1) H1 → va_D A (wr ++ w1) → va_S A H0 H1 locs1 → W p l e R s m args below meth c H1 locs1 (cells + mc) (slots + ms) Q (F0 m (pc + 3) ls (.int r :: rest))) :
    W p l e R s m args below meth c H locs cells slots Q (F0 m pc ls st0) := by
  have hF := va_free (wc := wc) hD hS hA isC hC
  refine va_calli hr hS (fun q _ h => hF q h) hF (fun r u t H1 locs1 ht hvm hw hB hz1 hk1 hS1 => ?_)
  obtain ⟨hP1, hK1, hD1⟩ := hB
  rw [ht] at hP1
  obtain ⟨hP2, hD2⟩ := va_join (wr := wr) (w1 := u) hP hD isC isR hC hR hn hdis hk1 hF hP1 hD1
  exact kk r u H1 locs1 hw hP2 hD2 hS1
theorem z_v {post : va_W → Prop} (hr : va_Run p l e R s m args below meth c H locs cells slots mc ms (F0 m pc ls st0) rest (va_Qv post (ctB D tys (va_A wc H.size)) (va_A wc H.size) a) (va_A wc H.size))
    (hP : va_P D vwCl ws H) (hD : va_D A ws) (hS : va_S A H0 H locs) (hA : ∀ q, H0.size ≤ q → A q) (isC isR : List Nat) (hC : isC.map (fun i => ws[i]?) = wc.map some) (hR : isR.map (fun i => ws[i]?) = wr.map some) (hn : va_nd isR = true) (hdis : ∀ i ∈ isR, i ∉ isC)
    (kk : ∀ (w1 : va_W) (H1 : Heap) (locs1 : List Loc), post w1 → va_P D vwCl (wr ++ w1) H1 → va_D A (wr ++ w1) → va_S A H0 H1 locs1 → W p l e R s m args below meth c H1 locs1 (cells + mc) (slots + ms) Q (F0 m (pc + 3) ls rest)) :
    W p l e R s m args below meth c H locs cells slots Q (F0 m pc ls st0) := by
  have hF := va_free (wc := wc) hD hS hA isC hC
  refine va_callv hr hS (fun q _ h => hF q h) hF (fun u t H1 locs1 ht hvm hw hB hz1 hk1 hS1 => ?_)
  obtain ⟨hP1, hK1, hD1⟩ := hB
  rw [ht] at hP1
  obtain ⟨hP2, hD2⟩ := va_join (wr := wr) (w1 := u) hP hD isC isR hC hR hn hdis hk1 hF hP1 hD1
  exact kk u H1 locs1 hw hP2 hD2 hS1
theorem z_q {post : Option Nat → va_W → Prop} (hr : va_Run p l e R s m args below meth c H locs cells slots mc ms (F0 m pc ls st0) rest (va_Qq post (ctB D tys (va_A wc H.size)) (va_A wc H.size) a) (va_A wc H.size))
    (hP : va_P D vwCl ws H) (hD : va_D A ws) (hS : va_S A H0 H locs) (hA : ∀ q, H0.size ≤ q → A q) (isC isR : List Nat) (hC : isC.map (fun i => ws[i]?) = wc.map some) (hR : isR.map (fun i => ws[i]?) = wr.map some) (hn : va_nd isR = true) (hdis : ∀ i ∈ isR, i ∉ isC)
    (kk : ∀ (r : Option Nat) (w1 : va_W) (H1 : Heap) (locs1 : List Loc), post r w1 → va_P D vwCl (wr ++ w1) H1 → va_D A (wr ++ w1) → va_S A H0 H1 locs1 → W p l e R s m args below meth c H1 locs1 (cells + mc) (slots + ms) Q (F0 m (pc + 3) ls (va_rf r :: rest))) :
    W p l e R s m args below meth c H locs cells slots Q (F0 m pc ls st0) := by
  have hF := va_free (wc := wc) hD hS hA isC hC
  refine va_callq hr hS (fun q _ h => hF q h) hF (fun r u t H1 locs1 ht hvm hw hB hz1 hk1 hS1 => ?_)
  obtain ⟨hP1, hK1, hD1⟩ := hB
  rw [ht] at hP1
  obtain ⟨hP2, hD2⟩ := va_join (wr := wr) (w1 := u) hP hD isC isR hC hR hn hdis hk1 hF hP1 hD1
  exact kk r u H1 locs1 hw hP2 hD2 hS1
/-- the same where the answer and the callee's new cells are given, and what then stands is put into an order -/
theorem z_ie {r0 : Int32} (hr : va_Run p l e R s m args below meth c H locs cells slots 0 0 (F0 m pc ls st0) rest (va_Qi (fun r w => r = r0 ∧ w = w1) (ctB D tys (va_A wc H.size)) (va_A wc H.size) a) (va_A wc H.size))
    (hP : va_P D vwCl ws H) (hD : va_D A ws) (hS : va_S A H0 H locs) (hA : ∀ q, H0.size ≤ q → A q) (wr wn : va_W) (isC isR isN : List Nat) (hC : isC.map (fun i => ws[i]?) = wc.map some) (hR : isR.map (fun i => ws[i]?) = wr.map some) (hn : va_nd isR = true) (hdis : ∀ i ∈ isR, i ∉ isC) (hN : isN.map (fun i => (wr ++ w1)[i]?) = wn.map some) (hnN : va_nd isN = true)
    (kk : ∀ (H : Heap) (locs : List Loc), va_P D vwCl wn H → va_D A wn → va_S A H0 H locs → W p l e R s m args below meth c H locs cells slots Q (F0 m (pc + 3) ls (.int r0 :: rest))) :
    W p l e R s m args below meth c H locs cells slots Q (F0 m pc ls st0) :=
  z_i hr hP hD hS hA isC isR hC hR hn hdis (fun r w H1 locs1 hw hP2 hD2 hS2 => by
    obtain ⟨rfl, rfl⟩ := hw
    exact kk H1 locs1 (hP2.subm isN hN) (hD2.sub isN hnN hN) hS2)
theorem z_ve (hr : va_Run p l e R s m args below meth c H locs cells slots 0 0 (F0 m pc ls st0) rest (va_Qv (fun w => w = w1) (ctB D tys (va_A wc H.size)) (va_A wc H.size) a) (va_A wc H.size))
    (hP : va_P D vwCl ws H) (hD : va_D A ws) (hS : va_S A H0 H locs) (hA : ∀ q, H0.size ≤ q → A q) (wr wn : va_W) (isC isR isN : List Nat) (hC : isC.map (fun i => ws[i]?) = wc.map some) (hR : isR.map (fun i => ws[i]?) = wr.map some) (hn : va_nd isR = true) (hdis : ∀ i ∈ isR, i ∉ isC) (hN : isN.map (fun i => (wr ++ w1)[i]?) = wn.map some) (hnN : va_nd isN = true)
    (kk : ∀ (H : Heap) (locs : List Loc), va_P D vwCl wn H → va_D A wn → va_S A H0 H locs → W p l e R s m args below meth c H locs cells slots Q (F0 m (pc + 3) ls rest)) :
    W p l e R s m args below meth c H locs cells slots Q (F0 m pc ls st0) :=
  z_v hr hP hD hS hA isC isR hC hR hn hdis (fun w H1 locs1 hw hP2 hD2 hS2 => by
    subst hw
    exact kk H1 locs1 (hP2.subm isN hN) (hD2.sub isN hnN hN) hS2)
end ZA
section ZB
variable {p : Program} {l : Launch} {e : Env} {R : Room} {s : State} {m : MethodId} {args : Array Value} {below : List Frame} {meth : Method} {c : Code} {H : Heap} {locs : List Loc} {cells slots : Nat}
variable {y x y0 : MethodName} {bytes b0 cc : ByteArray} {maxL n0 nL n index : Nat} {ret r0 : Option FieldType} {rm : Room} {own C : String}
theorem z_B (n : Nat) (hts : ∀ w ∈ wd y0 b0 n0 r0, w.before args s = true) (hc : Cond.code y bytes maxL ret ∈ GW) (hini : Cond.initialized y.cls ∈ GW) (hl : Cond.methodLink own index y ∈ GW)
    (hd : y.cls ≠ "java/lang/invoke/MethodHandle" ∧ y.cls ≠ "java/lang/invoke/VarHandle" ∧ (parseMethodDescriptor y.desc).map (fun d => d.parameters.length) = some n) (hR : rm.frames + 1 ≤ R.frames ∧ 8 + (maxL + 11) + rm.locals ≤ R.locals) :
    CallB R s args own index y bytes maxL ret (wd y bytes maxL ret) rm rm.cells rm.slots n :=
  callB_of n hts (wd_good hc) rfl rfl rfl (hts _ (List.mem_cons_of_mem _ hini)) (hts _ (List.mem_cons_of_mem _ hl)) hd hR
/-- an own method called on its own class's object -/
theorem z_V (n : Nat) (hts : ∀ w ∈ wd y0 b0 n0 r0, w.before args s = true) (hc : Cond.code y bytes maxL ret ∈ GW) (hini : Cond.initialized y.cls ∈ GW) (hl : Cond.methodLink own index y ∈ GW) (hi : Cond.instanceMethod y ∈ GW) (hs : Cond.selects C y y ∈ GW)
    (hd : y.cls ≠ "java/lang/invoke/MethodHandle" ∧ y.cls ≠ "java/lang/invoke/VarHandle" ∧ (parseMethodDescriptor y.desc).map (fun d => d.parameters.length) = some n) (hR : rm.frames + 1 ≤ R.frames ∧ 8 + (maxL + 11) + rm.locals ≤ R.locals) :
    CallW R s args own C index y bytes maxL ret (wd y bytes maxL ret) rm rm.cells rm.slots n :=
  ⟨z_B n hts hc hini hl hd hR, hts _ (List.mem_cons_of_mem _ hi), hts _ (List.mem_cons_of_mem _ hs)⟩
end ZB
end
section
/-! the worlds of the class: the yard's timbers, its trace, a pile -/
abbrev FN : Type := Nat → Int32
/-- int[] and boolean[]; Timbers and its four arrays; Trace and its ring -/
abbrev GA : Type := ClassId × ClassId × Nat × Nat × Nat × Nat × Nat × Nat × Nat
abbrev GA.cI (g : GA) : ClassId := g.1
abbrev GA.cZ (g : GA) : ClassId := g.2.1
abbrev GA.tm (g : GA) : Nat := g.2.2.1
abbrev GA.al (g : GA) : Nat := g.2.2.2.1
abbrev GA.aw (g : GA) : Nat := g.2.2.2.2.1
abbrev GA.az (g : GA) : Nat := g.2.2.2.2.2.1
abbrev GA.ap (g : GA) : Nat := g.2.2.2.2.2.2.1
abbrev GA.dn (g : GA) : Nat := g.2.2.2.2.2.2.2.1
abbrev GA.rg (g : GA) : Nat := g.2.2.2.2.2.2.2.2
/-- Timbers: size, lengths, weights, wets, pile numbers -/
abbrev TT : Type := Int32 × FN × FN × FN × FN
/-- Trace: ring, next, kept, rules, heavies, nothings -/
abbrev DD : Type := FN × Int32 × Int32 × Int32 × Int32 × Int32
/-- a pile: number, cap, limit, row, height -/
abbrev PP : Type := Int32 × Int32 × Int32 × FN × Int32
abbrev tyA (g : GA) : List (ClassId × FieldType) := [(g.cI, .int), (g.cZ, .boolean)]
abbrev wT (g : GA) (T : TT) : va_W := [(g.tm, .inr (8, [.ref g.al, .ref g.aw, .ref g.az, .ref g.ap, .int T.1])), (g.al, .inl (g.cI, 60, .inl T.2.1)), (g.aw, .inl (g.cI, 60, .inl T.2.2.1)), (g.az, .inl (g.cZ, 60, .inl T.2.2.2.1)), (g.ap, .inl (g.cI, 60, .inl T.2.2.2.2))]
abbrev wD (g : GA) (X : DD) : va_W := [(g.dn, .inr (9, [.ref g.rg, .int X.2.1, .int X.2.2.1, .int X.2.2.2.1, .int X.2.2.2.2.1, .int X.2.2.2.2.2])), (g.rg, .inl (g.cI, 200, .inl X.1))]
abbrev wP (g : GA) (ci h rw : Nat) (P : PP) : va_W := [(h, .inr (ci, [.ref g.tm, .ref g.dn, .int P.1, .int P.2.1, .int P.2.2.1, .ref rw, .int P.2.2.2.2])), (rw, .inl (g.cI, 12, .inl P.2.2.2.1))]
abbrev wA (g : GA) (ci h rw : Nat) (P : PP) (T : TT) (X : DD) : va_W := [(h, .inr (ci, [.ref g.tm, .ref g.dn, .int P.1, .int P.2.1, .int P.2.2.1, .ref rw, .int P.2.2.2.2])), (rw, .inl (g.cI, 12, .inl P.2.2.2.1)),
  (g.tm, .inr (8, [.ref g.al, .ref g.aw, .ref g.az, .ref g.ap, .int T.1])), (g.al, .inl (g.cI, 60, .inl T.2.1)), (g.aw, .inl (g.cI, 60, .inl T.2.2.1)), (g.az, .inl (g.cZ, 60, .inl T.2.2.2.1)), (g.ap, .inl (g.cI, 60, .inl T.2.2.2.2)),
  (g.dn, .inr (9, [.ref g.rg, .int X.2.1, .int X.2.2.1, .int X.2.2.2.1, .int X.2.2.2.2.1, .int X.2.2.2.2.2])), (g.rg, .inl (g.cI, 200, .inl X.1))]
theorem in_lt {i v : Int32} {n : Nat} (hv : v.toInt = n) (h0 : ¬ i < 0) (h1 : i < v) : vp_in i n := by
  rw [vp_in_iff]
  rw [Int32.lt_iff_toInt_lt] at h0 h1
  rw [Int32.toInt_zero] at h0
  omega
theorem in_nle {i v : Int32} {n : Nat} (hv : v.toInt = n) (h0 : ¬ i < 0) (h1 : ¬ v ≤ i) : vp_in i n := by
  rw [vp_in_iff]
  rw [Int32.lt_iff_toInt_lt, Int32.toInt_zero] at h0
  rw [Int32.le_iff_toInt_le] at h1
  omega
theorem g_max : (.code Lib.Math.max.name Lib.Math.max.code 2 (some .int) : Cond) ∈ GW := gw_of (i := 404) (by decide +kernel) rfl
theorem g_maxs : (.static Lib.Math.max.name : Cond) ∈ GW := gw_of (i := 403) (by decide +kernel) rfl
theorem g_min : (.code Lib.Math.min.name Lib.Math.min.code 2 (some .int) : Cond) ∈ GW := gw_of (i := 300) (by decide +kernel) rfl
theorem g_mins : (.static Lib.Math.min.name : Cond) ∈ GW := gw_of (i := 299) (by decide +kernel) rfl
theorem in_X7 : ∀ w ∈ u_ws RX7 TX7 5, w ∈ GW := List.forall_mem_cons.mpr ⟨g_38, List.forall_mem_cons.mpr ⟨g_40, List.forall_mem_cons.mpr ⟨g_42, List.forall_mem_cons.mpr ⟨g_44, List.forall_mem_cons.mpr ⟨g_46, fun _ h => absurd h List.not_mem_nil⟩⟩⟩⟩⟩
theorem in_X8 : ∀ w ∈ u_ws RX8 TX8 6, w ∈ GW := List.forall_mem_cons.mpr ⟨g_63, List.forall_mem_cons.mpr ⟨g_65, List.forall_mem_cons.mpr ⟨g_67, List.forall_mem_cons.mpr ⟨g_69, List.forall_mem_cons.mpr ⟨g_71, List.forall_mem_cons.mpr ⟨g_73, fun _ h => absurd h List.not_mem_nil⟩⟩⟩⟩⟩⟩
theorem in_X10 : ∀ w ∈ u_ws RX10 TX10 4, w ∈ GW := List.forall_mem_cons.mpr ⟨g_82, List.forall_mem_cons.mpr ⟨g_84, List.forall_mem_cons.mpr ⟨g_86, List.forall_mem_cons.mpr ⟨g_88, fun _ h => absurd h List.not_mem_nil⟩⟩⟩⟩
theorem in_X11 : ∀ w ∈ u_ws RX11 TX11 17, w ∈ GW := List.forall_mem_cons.mpr ⟨g_703, List.forall_mem_cons.mpr ⟨g_705, List.forall_mem_cons.mpr ⟨g_707, List.forall_mem_cons.mpr ⟨g_709, List.forall_mem_cons.mpr ⟨g_711, List.forall_mem_cons.mpr ⟨g_713, List.forall_mem_cons.mpr ⟨g_715, List.forall_mem_cons.mpr ⟨g_717, List.forall_mem_cons.mpr ⟨g_719, List.forall_mem_cons.mpr ⟨g_721, List.forall_mem_cons.mpr ⟨g_723, List.forall_mem_cons.mpr ⟨g_725, List.forall_mem_cons.mpr ⟨g_727, List.forall_mem_cons.mpr ⟨g_729, List.forall_mem_cons.mpr ⟨g_731, List.forall_mem_cons.mpr ⟨g_733, List.forall_mem_cons.mpr ⟨g_735, fun _ h => absurd h List.not_mem_nil⟩⟩⟩⟩⟩⟩⟩⟩⟩⟩⟩⟩⟩⟩⟩⟩⟩
theorem in_X4 : ∀ w ∈ u_ws RX4 TX4 7, w ∈ GW := List.forall_mem_cons.mpr ⟨g_251, List.forall_mem_cons.mpr ⟨g_252, List.forall_mem_cons.mpr ⟨g_253, List.forall_mem_cons.mpr ⟨g_254, List.forall_mem_cons.mpr ⟨g_255, List.forall_mem_cons.mpr ⟨g_256, List.forall_mem_cons.mpr ⟨g_257, fun _ h => absurd h List.not_mem_nil⟩⟩⟩⟩⟩⟩⟩
theorem in_X2 : ∀ w ∈ u_ws RX2 TX4 7, w ∈ GW := List.forall_mem_cons.mpr ⟨g_150, List.forall_mem_cons.mpr ⟨g_152, List.forall_mem_cons.mpr ⟨g_154, List.forall_mem_cons.mpr ⟨g_156, List.forall_mem_cons.mpr ⟨g_158, List.forall_mem_cons.mpr ⟨g_160, List.forall_mem_cons.mpr ⟨g_162, fun _ h => absurd h List.not_mem_nil⟩⟩⟩⟩⟩⟩⟩
theorem in_X5 : ∀ w ∈ u_ws RX5 TX4 7, w ∈ GW := List.forall_mem_cons.mpr ⟨g_171, List.forall_mem_cons.mpr ⟨g_172, List.forall_mem_cons.mpr ⟨g_173, List.forall_mem_cons.mpr ⟨g_174, List.forall_mem_cons.mpr ⟨g_175, List.forall_mem_cons.mpr ⟨g_176, List.forall_mem_cons.mpr ⟨g_177, fun _ h => absurd h List.not_mem_nil⟩⟩⟩⟩⟩⟩⟩
theorem in_X6 : ∀ w ∈ u_ws RX6 TX4 7, w ∈ GW := List.forall_mem_cons.mpr ⟨g_185, List.forall_mem_cons.mpr ⟨g_186, List.forall_mem_cons.mpr ⟨g_187, List.forall_mem_cons.mpr ⟨g_188, List.forall_mem_cons.mpr ⟨g_189, List.forall_mem_cons.mpr ⟨g_190, List.forall_mem_cons.mpr ⟨g_191, fun _ h => absurd h List.not_mem_nil⟩⟩⟩⟩⟩⟩⟩
theorem in_X0 : ∀ w ∈ u_ws RX0 TX4 7, w ∈ GW := List.forall_mem_cons.mpr ⟨g_199, List.forall_mem_cons.mpr ⟨g_200, List.forall_mem_cons.mpr ⟨g_201, List.forall_mem_cons.mpr ⟨g_202, List.forall_mem_cons.mpr ⟨g_203, List.forall_mem_cons.mpr ⟨g_204, List.forall_mem_cons.mpr ⟨g_205, fun _ h => absurd h List.not_mem_nil⟩⟩⟩⟩⟩⟩⟩
theorem in_X9 : ∀ w ∈ u_ws RX9 TX4 7, w ∈ GW := List.forall_mem_cons.mpr ⟨g_213, List.forall_mem_cons.mpr ⟨g_214, List.forall_mem_cons.mpr ⟨g_215, List.forall_mem_cons.mpr ⟨g_216, List.forall_mem_cons.mpr ⟨g_217, List.forall_mem_cons.mpr ⟨g_218, List.forall_mem_cons.mpr ⟨g_219, fun _ h => absurd h List.not_mem_nil⟩⟩⟩⟩⟩⟩⟩
theorem in_X3 : ∀ w ∈ u_ws RX3 TX4 7, w ∈ GW := List.forall_mem_cons.mpr ⟨g_227, List.forall_mem_cons.mpr ⟨g_228, List.forall_mem_cons.mpr ⟨g_229, List.forall_mem_cons.mpr ⟨g_230, List.forall_mem_cons.mpr ⟨g_231, List.forall_mem_cons.mpr ⟨g_232, List.forall_mem_cons.mpr ⟨g_233, fun _ h => absurd h List.not_mem_nil⟩⟩⟩⟩⟩⟩⟩
theorem in_X1 : ∀ w ∈ u_ws RX1 TX4 7, w ∈ GW := List.forall_mem_cons.mpr ⟨g_241, List.forall_mem_cons.mpr ⟨g_242, List.forall_mem_cons.mpr ⟨g_243, List.forall_mem_cons.mpr ⟨g_244, List.forall_mem_cons.mpr ⟨g_245, List.forall_mem_cons.mpr ⟨g_246, List.forall_mem_cons.mpr ⟨g_247, fun _ h => absurd h List.not_mem_nil⟩⟩⟩⟩⟩⟩⟩
end
section
def fX7_hasR (T : TT) (i : Int32) : Int32 := (if i < 0 then 0 else (if T.1 ≤ i then 0 else (if 60 ≤ i then 0 else 1)))
set_option maxHeartbeats 4000000 in
set_option maxRecDepth 100000 in
theorem c_X7_has (l : Launch) (D : va_G) (g : GA) (T : TT) (i : Int32) : ctI l D (tyA g) yX7_has (wd yX7_has cX7_has 2 (Option.some Jvm.ClassFile.FieldType.boolean)) { frames := 0, cells := 0, slots := 0, locals := 0 } [.ref g.tm, .int i] (wT g T) (fun r w => r = fX7_hasR T i ∧ w = wT g T) := by
  intro sz
  refine Met.ofW (cc := cX7_has) (maxL := 2) (ret := (Option.some Jvm.ClassFile.FieldType.boolean)) (by decide) rfl ?_
  intro p e s m args below meth c s₁ B hml hv
  obtain ⟨rfl, hsz, hP, hK, hD0⟩ := hv
  have hx := B.exec
  have hb := B.bytes
  have hr := B.returns
  have hts := atoms_spec (ws := (wd yX7_has cX7_has 2 (Option.some Jvm.ClassFile.FieldType.boolean))) B.pre
  have hg := Tb.of hts
  have hown : s.vm.findClass RX7 = some m.cls := findClass_of_methodNamed B.named
  have hlocks := B.notSynchronized
  subst hsz
  have hD := hD0.self (sz := s.heap.size)
  generalize hAe : va_A (wT g T) s.heap.size = A at hD ⊢
  have hA : ∀ q : Nat, s.heap.size ≤ q → A q := fun q h => by rw [← hAe]; exact Or.inr h
  have hS : va_S A s.heap s.heap [] := va_S.rf
  have hP : va_P D vwCl (wT g T) s.heap := hP
  have hl := lv_entry ([.ref g.tm, .int i]) (n := 2) (Nat.le_of_ble_eq_true rfl)
  rw [lg_entry_eq]
  generalize (lg_sl ([.ref g.tm, .int i]) ++ List.replicate (2 - (lg_sl ([.ref g.tm, .int i])).length) Slot.unset).toArray = ls at hl ⊢
  have hl : lv_has ls 2 [(0, .ref g.tm), (1, .int i)] := hl
  refine lv_iload_n hx hb dX7_has_0 rfl (lv_at hl 1 rfl) ?_
  refine lv_if_lt (tgt := 22) hx hb dX7_has_1 (by decide) (fun c_1 => ?_) (fun c_1 => ?_)
  · -- i < 0
    refine lv_iconst (v := 0) hx hb dX7_has_22 (by decide) ?_
    exact W.zret (v := 0) (ty := .boolean) hx hb hr rfl (fun t9 ht hW => ⟨⟨0, wT g T, rfl, ⟨by simp only [fX7_hasR, if_pos c_1], rfl⟩, by rw [ht]; exact hP, va_K.moved hW.alike hK, hD⟩, hS.F ht⟩) hS.2.2 dX7_has_23
  · -- not i < 0
    refine lv_iload_n hx hb dX7_has_4 rfl (lv_at hl 1 rfl) ?_
    refine lv_aload_n hx hb dX7_has_5 rfl (lv_at hl 0 rfl) ?_
    refine va_get (D := D) (ci := 8) (v := .int T.1) (C := RX7) (T := TX7) (N := 5) hx hb hg in_X7 hown hK hP 0 rfl rfl 4 (by decide) (hg _ g_37) (fun _ h9 => h9) rfl dX7_has_6 ?_
    refine lv_icmp_ge (tgt := 22) hx hb dX7_has_9 (by decide) (fun c_2 => ?_) (fun c_2 => ?_)
    · -- T.1 ≤ i
      refine lv_iconst (v := 0) hx hb dX7_has_22 (by decide) ?_
      exact W.zret (v := 0) (ty := .boolean) hx hb hr rfl (fun t9 ht hW => ⟨⟨0, wT g T, rfl, ⟨by simp only [fX7_hasR, if_neg c_1, if_pos c_2], rfl⟩, by rw [ht]; exact hP, va_K.moved hW.alike hK, hD⟩, hS.F ht⟩) hS.2.2 dX7_has_23
    · -- not T.1 ≤ i
      refine lv_iload_n hx hb dX7_has_12 rfl (lv_at hl 1 rfl) ?_
      refine lv_bipush (v := 60) hx hb dX7_has_13 (by decide) ?_
      refine lv_icmp_ge (tgt := 22) hx hb dX7_has_15 (by decide) (fun c_3 => ?_) (fun c_3 => ?_)
      · -- 60 ≤ i
        refine lv_iconst (v := 0) hx hb dX7_has_22 (by decide) ?_
        exact W.zret (v := 0) (ty := .boolean) hx hb hr rfl (fun t9 ht hW => ⟨⟨0, wT g T, rfl, ⟨by simp only [fX7_hasR, if_neg c_1, if_neg c_2, if_pos c_3], rfl⟩, by rw [ht]; exact hP, va_K.moved hW.alike hK, hD⟩, hS.F ht⟩) hS.2.2 dX7_has_23
      · -- not 60 ≤ i
        refine lv_iconst (v := 1) hx hb dX7_has_18 (by decide) ?_
        refine lv_goto (tgt := 23) hx hb dX7_has_19 (by decide) ?_
        exact W.zret (v := 1) (ty := .boolean) hx hb hr rfl (fun t9 ht hW => ⟨⟨1, wT g T, rfl, ⟨by simp only [fX7_hasR, if_neg c_1, if_neg c_2, if_neg c_3], rfl⟩, by rw [ht]; exact hP, va_K.moved hW.alike hK, hD⟩, hS.F ht⟩) hS.2.2 dX7_has_23

theorem hasin {T : TT} {i : Int32} (h : ¬ (fX7_hasR T i) = 0) : vp_in i 60 := by
  unfold fX7_hasR at h
  by_cases h1 : i < 0
  · rw [if_pos h1] at h; exact absurd rfl h
  · rw [if_neg h1] at h
    by_cases h2 : T.1 ≤ i
    · rw [if_pos h2] at h; exact absurd rfl h
    · rw [if_neg h2] at h
      by_cases h3 : 60 ≤ i
      · rw [if_pos h3] at h; exact absurd rfl h
      · exact in_nle (v := 60) (by decide) h1 h3

def fX7_howManyR (T : TT)  : Int32 := T.1
set_option maxHeartbeats 4000000 in
set_option maxRecDepth 100000 in
theorem c_X7_howMany (l : Launch) (D : va_G) (g : GA) (T : TT)  : ctI l D (tyA g) yX7_howMany (wd yX7_howMany cX7_howMany 1 (Option.some Jvm.ClassFile.FieldType.int)) { frames := 0, cells := 0, slots := 0, locals := 0 } [.ref g.tm] (wT g T) (fun r w => r = fX7_howManyR T ∧ w = wT g T) := by
  intro sz
  refine Met.ofW (cc := cX7_howMany) (maxL := 1) (ret := (Option.some Jvm.ClassFile.FieldType.int)) (by decide) rfl ?_
  intro p e s m args below meth c s₁ B hml hv
  obtain ⟨rfl, hsz, hP, hK, hD0⟩ := hv
  have hx := B.exec
  have hb := B.bytes
  have hr := B.returns
  have hts := atoms_spec (ws := (wd yX7_howMany cX7_howMany 1 (Option.some Jvm.ClassFile.FieldType.int))) B.pre
  have hg := Tb.of hts
  have hown : s.vm.findClass RX7 = some m.cls := findClass_of_methodNamed B.named
  have hlocks := B.notSynchronized
  subst hsz
  have hD := hD0.self (sz := s.heap.size)
  generalize hAe : va_A (wT g T) s.heap.size = A at hD ⊢
  have hA : ∀ q : Nat, s.heap.size ≤ q → A q := fun q h => by rw [← hAe]; exact Or.inr h
  have hS : va_S A s.heap s.heap [] := va_S.rf
  have hP : va_P D vwCl (wT g T) s.heap := hP
  have hl := lv_entry ([.ref g.tm]) (n := 1) (Nat.le_of_ble_eq_true rfl)
  rw [lg_entry_eq]
  generalize (lg_sl ([.ref g.tm]) ++ List.replicate (1 - (lg_sl ([.ref g.tm])).length) Slot.unset).toArray = ls at hl ⊢
  have hl : lv_has ls 1 [(0, .ref g.tm)] := hl
  refine lv_aload_n hx hb dX7_howMany_0 rfl (lv_at hl 0 rfl) ?_
  refine va_get (D := D) (ci := 8) (v := .int T.1) (C := RX7) (T := TX7) (N := 5) hx hb hg in_X7 hown hK hP 0 rfl rfl 4 (by decide) (hg _ g_37) (fun _ h9 => h9) rfl dX7_howMany_1 ?_
  exact W.iret (v := T.1) hx hb hr (fun t9 ht hW => ⟨⟨T.1, wT g T, rfl, ⟨rfl, rfl⟩, by rw [ht]; exact hP, va_K.moved hW.alike hK, hD⟩, hS.F ht⟩) hS.2.2 dX7_howMany_4

def fX7_lengthOfR (T : TT) (i : Int32) : Int32 := (if (fX7_hasR T i) = 0 then 0 else (T.2.1 i.toNatClampNeg))
set_option maxHeartbeats 4000000 in
set_option maxRecDepth 100000 in
theorem c_X7_lengthOf (l : Launch) (D : va_G) (g : GA) (T : TT) (i : Int32) : ctI l D (tyA g) yX7_lengthOf (wd yX7_lengthOf cX7_lengthOf 2 (Option.some Jvm.ClassFile.FieldType.int)) { frames := 1, cells := 0, slots := 0, locals := 21 } [.ref g.tm, .int i] (wT g T) (fun r w => r = fX7_lengthOfR T i ∧ w = wT g T) := by
  intro sz
  refine Met.ofW (cc := cX7_lengthOf) (maxL := 2) (ret := (Option.some Jvm.ClassFile.FieldType.int)) (by decide) rfl ?_
  intro p e s m args below meth c s₁ B hml hv
  obtain ⟨rfl, hsz, hP, hK, hD0⟩ := hv
  have hx := B.exec
  have hb := B.bytes
  have hr := B.returns
  have hts := atoms_spec (ws := (wd yX7_lengthOf cX7_lengthOf 2 (Option.some Jvm.ClassFile.FieldType.int))) B.pre
  have hg := Tb.of hts
  have hown : s.vm.findClass RX7 = some m.cls := findClass_of_methodNamed B.named
  have hlocks := B.notSynchronized
  subst hsz
  have hD := hD0.self (sz := s.heap.size)
  generalize hAe : va_A (wT g T) s.heap.size = A at hD ⊢
  have hA : ∀ q : Nat, s.heap.size ≤ q → A q := fun q h => by rw [← hAe]; exact Or.inr h
  have hS : va_S A s.heap s.heap [] := va_S.rf
  have hP : va_P D vwCl (wT g T) s.heap := hP
  have hl := lv_entry ([.ref g.tm, .int i]) (n := 2) (Nat.le_of_ble_eq_true rfl)
  rw [lg_entry_eq]
  generalize (lg_sl ([.ref g.tm, .int i]) ++ List.replicate (2 - (lg_sl ([.ref g.tm, .int i])).length) Slot.unset).toArray = ls at hl ⊢
  have hl : lv_has ls 2 [(0, .ref g.tm), (1, .int i)] := hl
  refine lv_aload_n hx hb dX7_lengthOf_0 rfl (lv_at hl 0 rfl) ?_
  refine lv_iload_n hx hb dX7_lengthOf_1 rfl (lv_at hl 1 rfl) ?_
  refine z_ie (va_runV (As := [.int i]) (rest := []) ⟨hx, hb, hml, hown, hts⟩ (c_X7_has l D g T i _) (z_V 1 hts g_311 g_2 g_308 g_309 g_310 ⟨by decide, by decide, by decide +kernel⟩ ⟨Nat.le_of_ble_eq_true rfl, Nat.le_of_ble_eq_true rfl⟩) (z_preV (ci := 8) (q0 := 0) (hP.subm [0, 1, 2, 3, 4] rfl) (hD.sub [0, 1, 2, 3, 4] (by decide) rfl) hK rfl rfl) rfl rfl hl.1 rfl (lv_room (Nat.le_of_ble_eq_true rfl)) dX7_lengthOf_2 ⟨Nat.le_of_ble_eq_true rfl, Nat.le_of_ble_eq_true rfl⟩) hP hD hS hA (([] : va_W)) (wT g T) [0, 1, 2, 3, 4] [] [0, 1, 2, 3, 4] rfl rfl (by decide) (by decide) rfl (by decide) (fun H locs hP hD hS => ?_)
  refine lv_if_eq (tgt := 17) hx hb dX7_lengthOf_5 (by decide) (fun c_1 => ?_) (fun c_1 => ?_)
  · -- (fX7_hasR T i) = 0
    refine lv_iconst (v := 0) hx hb dX7_lengthOf_17 (by decide) ?_
    exact W.iret (v := 0) hx hb hr (fun t9 ht hW => ⟨⟨0, wT g T, rfl, ⟨by simp only [fX7_lengthOfR, if_pos c_1], rfl⟩, by rw [ht]; exact hP, va_K.moved hW.alike hK, hD⟩, hS.F ht⟩) hS.2.2 dX7_lengthOf_18
  · -- not (fX7_hasR T i) = 0
    refine lv_aload_n hx hb dX7_lengthOf_8 rfl (lv_at hl 0 rfl) ?_
    refine va_get (D := D) (ci := 8) (v := .ref g.al) (C := RX7) (T := TX7) (N := 5) hx hb hg in_X7 hown hK hP 0 rfl rfl 0 (by decide) (hg _ g_33) (fun _ h9 => h9) rfl dX7_lengthOf_9 ?_
    refine lv_iload_n hx hb dX7_lengthOf_12 rfl (lv_at hl 1 rfl) ?_
    refine va_iald hx hb hK hP 1 0 rfl rfl (hasin (T := T) c_1) dX7_lengthOf_13 ?_
    refine lv_goto (tgt := 18) hx hb dX7_lengthOf_14 (by decide) ?_
    exact W.iret (v := (T.2.1 i.toNatClampNeg)) hx hb hr (fun t9 ht hW => ⟨⟨(T.2.1 i.toNatClampNeg), wT g T, rfl, ⟨by simp only [fX7_lengthOfR, if_neg c_1], rfl⟩, by rw [ht]; exact hP, va_K.moved hW.alike hK, hD⟩, hS.F ht⟩) hS.2.2 dX7_lengthOf_18

def fX7_weightOfR (T : TT) (i : Int32) : Int32 := (if (fX7_hasR T i) = 0 then 0 else (T.2.2.1 i.toNatClampNeg))
set_option maxHeartbeats 4000000 in
set_option maxRecDepth 100000 in
theorem c_X7_weightOf (l : Launch) (D : va_G) (g : GA) (T : TT) (i : Int32) : ctI l D (tyA g) yX7_weightOf (wd yX7_weightOf cX7_weightOf 2 (Option.some Jvm.ClassFile.FieldType.int)) { frames := 1, cells := 0, slots := 0, locals := 21 } [.ref g.tm, .int i] (wT g T) (fun r w => r = fX7_weightOfR T i ∧ w = wT g T) := by
  intro sz
  refine Met.ofW (cc := cX7_weightOf) (maxL := 2) (ret := (Option.some Jvm.ClassFile.FieldType.int)) (by decide) rfl ?_
  intro p e s m args below meth c s₁ B hml hv
  obtain ⟨rfl, hsz, hP, hK, hD0⟩ := hv
  have hx := B.exec
  have hb := B.bytes
  have hr := B.returns
  have hts := atoms_spec (ws := (wd yX7_weightOf cX7_weightOf 2 (Option.some Jvm.ClassFile.FieldType.int))) B.pre
  have hg := Tb.of hts
  have hown : s.vm.findClass RX7 = some m.cls := findClass_of_methodNamed B.named
  have hlocks := B.notSynchronized
  subst hsz
  have hD := hD0.self (sz := s.heap.size)
  generalize hAe : va_A (wT g T) s.heap.size = A at hD ⊢
  have hA : ∀ q : Nat, s.heap.size ≤ q → A q := fun q h => by rw [← hAe]; exact Or.inr h
  have hS : va_S A s.heap s.heap [] := va_S.rf
  have hP : va_P D vwCl (wT g T) s.heap := hP
  have hl := lv_entry ([.ref g.tm, .int i]) (n := 2) (Nat.le_of_ble_eq_true rfl)
  rw [lg_entry_eq]
  generalize (lg_sl ([.ref g.tm, .int i]) ++ List.replicate (2 - (lg_sl ([.ref g.tm, .int i])).length) Slot.unset).toArray = ls at hl ⊢
  have hl : lv_has ls 2 [(0, .ref g.tm), (1, .int i)] := hl
  refine lv_aload_n hx hb dX7_weightOf_0 rfl (lv_at hl 0 rfl) ?_
  refine lv_iload_n hx hb dX7_weightOf_1 rfl (lv_at hl 1 rfl) ?_
  refine z_ie (va_runV (As := [.int i]) (rest := []) ⟨hx, hb, hml, hown, hts⟩ (c_X7_has l D g T i _) (z_V 1 hts g_311 g_2 g_308 g_309 g_310 ⟨by decide, by decide, by decide +kernel⟩ ⟨Nat.le_of_ble_eq_true rfl, Nat.le_of_ble_eq_true rfl⟩) (z_preV (ci := 8) (q0 := 0) (hP.subm [0, 1, 2, 3, 4] rfl) (hD.sub [0, 1, 2, 3, 4] (by decide) rfl) hK rfl rfl) rfl rfl hl.1 rfl (lv_room (Nat.le_of_ble_eq_true rfl)) dX7_weightOf_2 ⟨Nat.le_of_ble_eq_true rfl, Nat.le_of_ble_eq_true rfl⟩) hP hD hS hA (([] : va_W)) (wT g T) [0, 1, 2, 3, 4] [] [0, 1, 2, 3, 4] rfl rfl (by decide) (by decide) rfl (by decide) (fun H locs hP hD hS => ?_)
  refine lv_if_eq (tgt := 17) hx hb dX7_weightOf_5 (by decide) (fun c_1 => ?_) (fun c_1 => ?_)
  · -- (fX7_hasR T i) = 0
    refine lv_iconst (v := 0) hx hb dX7_weightOf_17 (by decide) ?_
    exact W.iret (v := 0) hx hb hr (fun t9 ht hW => ⟨⟨0, wT g T, rfl, ⟨by simp only [fX7_weightOfR, if_pos c_1], rfl⟩, by rw [ht]; exact hP, va_K.moved hW.alike hK, hD⟩, hS.F ht⟩) hS.2.2 dX7_weightOf_18
  · -- not (fX7_hasR T i) = 0
    refine lv_aload_n hx hb dX7_weightOf_8 rfl (lv_at hl 0 rfl) ?_
    refine va_get (D := D) (ci := 8) (v := .ref g.aw) (C := RX7) (T := TX7) (N := 5) hx hb hg in_X7 hown hK hP 0 rfl rfl 1 (by decide) (hg _ g_34) (fun _ h9 => h9) rfl dX7_weightOf_9 ?_
    refine lv_iload_n hx hb dX7_weightOf_12 rfl (lv_at hl 1 rfl) ?_
    refine va_iald hx hb hK hP 2 0 rfl rfl (hasin (T := T) c_1) dX7_weightOf_13 ?_
    refine lv_goto (tgt := 18) hx hb dX7_weightOf_14 (by decide) ?_
    exact W.iret (v := (T.2.2.1 i.toNatClampNeg)) hx hb hr (fun t9 ht hW => ⟨⟨(T.2.2.1 i.toNatClampNeg), wT g T, rfl, ⟨by simp only [fX7_weightOfR, if_neg c_1], rfl⟩, by rw [ht]; exact hP, va_K.moved hW.alike hK, hD⟩, hS.F ht⟩) hS.2.2 dX7_weightOf_18

def fX7_pileOfR (T : TT) (i : Int32) : Int32 := (if (fX7_hasR T i) = 0 then (-1) else (T.2.2.2.2 i.toNatClampNeg))
set_option maxHeartbeats 4000000 in
set_option maxRecDepth 100000 in
theorem c_X7_pileOf (l : Launch) (D : va_G) (g : GA) (T : TT) (i : Int32) : ctI l D (tyA g) yX7_pileOf (wd yX7_pileOf cX7_pileOf 2 (Option.some Jvm.ClassFile.FieldType.int)) { frames := 1, cells := 0, slots := 0, locals := 21 } [.ref g.tm, .int i] (wT g T) (fun r w => r = fX7_pileOfR T i ∧ w = wT g T) := by
  intro sz
  refine Met.ofW (cc := cX7_pileOf) (maxL := 2) (ret := (Option.some Jvm.ClassFile.FieldType.int)) (by decide) rfl ?_
  intro p e s m args below meth c s₁ B hml hv
  obtain ⟨rfl, hsz, hP, hK, hD0⟩ := hv
  have hx := B.exec
  have hb := B.bytes
  have hr := B.returns
  have hts := atoms_spec (ws := (wd yX7_pileOf cX7_pileOf 2 (Option.some Jvm.ClassFile.FieldType.int))) B.pre
  have hg := Tb.of hts
  have hown : s.vm.findClass RX7 = some m.cls := findClass_of_methodNamed B.named
  have hlocks := B.notSynchronized
  subst hsz
  have hD := hD0.self (sz := s.heap.size)
  generalize hAe : va_A (wT g T) s.heap.size = A at hD ⊢
  have hA : ∀ q : Nat, s.heap.size ≤ q → A q := fun q h => by rw [← hAe]; exact Or.inr h
  have hS : va_S A s.heap s.heap [] := va_S.rf
  have hP : va_P D vwCl (wT g T) s.heap := hP
  have hl := lv_entry ([.ref g.tm, .int i]) (n := 2) (Nat.le_of_ble_eq_true rfl)
  rw [lg_entry_eq]
  generalize (lg_sl ([.ref g.tm, .int i]) ++ List.replicate (2 - (lg_sl ([.ref g.tm, .int i])).length) Slot.unset).toArray = ls at hl ⊢
  have hl : lv_has ls 2 [(0, .ref g.tm), (1, .int i)] := hl
  refine lv_aload_n hx hb dX7_pileOf_0 rfl (lv_at hl 0 rfl) ?_
  refine lv_iload_n hx hb dX7_pileOf_1 rfl (lv_at hl 1 rfl) ?_
  refine z_ie (va_runV (As := [.int i]) (rest := []) ⟨hx, hb, hml, hown, hts⟩ (c_X7_has l D g T i _) (z_V 1 hts g_311 g_2 g_308 g_309 g_310 ⟨by decide, by decide, by decide +kernel⟩ ⟨Nat.le_of_ble_eq_true rfl, Nat.le_of_ble_eq_true rfl⟩) (z_preV (ci := 8) (q0 := 0) (hP.subm [0, 1, 2, 3, 4] rfl) (hD.sub [0, 1, 2, 3, 4] (by decide) rfl) hK rfl rfl) rfl rfl hl.1 rfl (lv_room (Nat.le_of_ble_eq_true rfl)) dX7_pileOf_2 ⟨Nat.le_of_ble_eq_true rfl, Nat.le_of_ble_eq_true rfl⟩) hP hD hS hA (([] : va_W)) (wT g T) [0, 1, 2, 3, 4] [] [0, 1, 2, 3, 4] rfl rfl (by decide) (by decide) rfl (by decide) (fun H locs hP hD hS => ?_)
  refine lv_if_eq (tgt := 17) hx hb dX7_pileOf_5 (by decide) (fun c_1 => ?_) (fun c_1 => ?_)
  · -- (fX7_hasR T i) = 0
    refine lv_iconst (v := (-1)) hx hb dX7_pileOf_17 (by decide) ?_
    exact W.iret (v := (-1)) hx hb hr (fun t9 ht hW => ⟨⟨(-1), wT g T, rfl, ⟨by simp only [fX7_pileOfR, if_pos c_1], rfl⟩, by rw [ht]; exact hP, va_K.moved hW.alike hK, hD⟩, hS.F ht⟩) hS.2.2 dX7_pileOf_18
  · -- not (fX7_hasR T i) = 0
    refine lv_aload_n hx hb dX7_pileOf_8 rfl (lv_at hl 0 rfl) ?_
    refine va_get (D := D) (ci := 8) (v := .ref g.ap) (C := RX7) (T := TX7) (N := 5) hx hb hg in_X7 hown hK hP 0 rfl rfl 3 (by decide) (hg _ g_36) (fun _ h9 => h9) rfl dX7_pileOf_9 ?_
    refine lv_iload_n hx hb dX7_pileOf_12 rfl (lv_at hl 1 rfl) ?_
    refine va_iald hx hb hK hP 4 0 rfl rfl (hasin (T := T) c_1) dX7_pileOf_13 ?_
    refine lv_goto (tgt := 18) hx hb dX7_pileOf_14 (by decide) ?_
    exact W.iret (v := (T.2.2.2.2 i.toNatClampNeg)) hx hb hr (fun t9 ht hW => ⟨⟨(T.2.2.2.2 i.toNatClampNeg), wT g T, rfl, ⟨by simp only [fX7_pileOfR, if_neg c_1], rfl⟩, by rw [ht]; exact hP, va_K.moved hW.alike hK, hD⟩, hS.F ht⟩) hS.2.2 dX7_pileOf_18

def fX7_isWetR (T : TT) (i : Int32) : Int32 := (if (fX7_hasR T i) = 0 then 0 else (if (T.2.2.2.1 i.toNatClampNeg) = 0 then 0 else 1))
set_option maxHeartbeats 4000000 in
set_option maxRecDepth 100000 in
theorem c_X7_isWet (l : Launch) (D : va_G) (g : GA) (T : TT) (i : Int32) : ctI l D (tyA g) yX7_isWet (wd yX7_isWet cX7_isWet 2 (Option.some Jvm.ClassFile.FieldType.boolean)) { frames := 1, cells := 0, slots := 0, locals := 21 } [.ref g.tm, .int i] (wT g T) (fun r w => r = fX7_isWetR T i ∧ w = wT g T) := by
  intro sz
  refine Met.ofW (cc := cX7_isWet) (maxL := 2) (ret := (Option.some Jvm.ClassFile.FieldType.boolean)) (by decide) rfl ?_
  intro p e s m args below meth c s₁ B hml hv
  obtain ⟨rfl, hsz, hP, hK, hD0⟩ := hv
  have hx := B.exec
  have hb := B.bytes
  have hr := B.returns
  have hts := atoms_spec (ws := (wd yX7_isWet cX7_isWet 2 (Option.some Jvm.ClassFile.FieldType.boolean))) B.pre
  have hg := Tb.of hts
  have hown : s.vm.findClass RX7 = some m.cls := findClass_of_methodNamed B.named
  have hlocks := B.notSynchronized
  subst hsz
  have hD := hD0.self (sz := s.heap.size)
  generalize hAe : va_A (wT g T) s.heap.size = A at hD ⊢
  have hA : ∀ q : Nat, s.heap.size ≤ q → A q := fun q h => by rw [← hAe]; exact Or.inr h
  have hS : va_S A s.heap s.heap [] := va_S.rf
  have hP : va_P D vwCl (wT g T) s.heap := hP
  have hl := lv_entry ([.ref g.tm, .int i]) (n := 2) (Nat.le_of_ble_eq_true rfl)
  rw [lg_entry_eq]
  generalize (lg_sl ([.ref g.tm, .int i]) ++ List.replicate (2 - (lg_sl ([.ref g.tm, .int i])).length) Slot.unset).toArray = ls at hl ⊢
  have hl : lv_has ls 2 [(0, .ref g.tm), (1, .int i)] := hl
  refine lv_aload_n hx hb dX7_isWet_0 rfl (lv_at hl 0 rfl) ?_
  refine lv_iload_n hx hb dX7_isWet_1 rfl (lv_at hl 1 rfl) ?_
  refine z_ie (va_runV (As := [.int i]) (rest := []) ⟨hx, hb, hml, hown, hts⟩ (c_X7_has l D g T i _) (z_V 1 hts g_311 g_2 g_308 g_309 g_310 ⟨by decide, by decide, by decide +kernel⟩ ⟨Nat.le_of_ble_eq_true rfl, Nat.le_of_ble_eq_true rfl⟩) (z_preV (ci := 8) (q0 := 0) (hP.subm [0, 1, 2, 3, 4] rfl) (hD.sub [0, 1, 2, 3, 4] (by decide) rfl) hK rfl rfl) rfl rfl hl.1 rfl (lv_room (Nat.le_of_ble_eq_true rfl)) dX7_isWet_2 ⟨Nat.le_of_ble_eq_true rfl, Nat.le_of_ble_eq_true rfl⟩) hP hD hS hA (([] : va_W)) (wT g T) [0, 1, 2, 3, 4] [] [0, 1, 2, 3, 4] rfl rfl (by decide) (by decide) rfl (by decide) (fun H locs hP hD hS => ?_)
  refine lv_if_eq (tgt := 21) hx hb dX7_isWet_5 (by decide) (fun c_1 => ?_) (fun c_1 => ?_)
  · -- (fX7_hasR T i) = 0
    refine lv_iconst (v := 0) hx hb dX7_isWet_21 (by decide) ?_
    exact W.zret (v := 0) (ty := .boolean) hx hb hr rfl (fun t9 ht hW => ⟨⟨0, wT g T, rfl, ⟨by simp only [fX7_isWetR, if_pos c_1], rfl⟩, by rw [ht]; exact hP, va_K.moved hW.alike hK, hD⟩, hS.F ht⟩) hS.2.2 dX7_isWet_22
  · -- not (fX7_hasR T i) = 0
    refine lv_aload_n hx hb dX7_isWet_8 rfl (lv_at hl 0 rfl) ?_
    refine va_get (D := D) (ci := 8) (v := .ref g.az) (C := RX7) (T := TX7) (N := 5) hx hb hg in_X7 hown hK hP 0 rfl rfl 2 (by decide) (hg _ g_35) (fun _ h9 => h9) rfl dX7_isWet_9 ?_
    refine lv_iload_n hx hb dX7_isWet_12 rfl (lv_at hl 1 rfl) ?_
    refine va_zald hx hb hK hP 3 1 rfl rfl (hasin (T := T) c_1) dX7_isWet_13 ?_
    refine lv_if_eq (tgt := 21) hx hb dX7_isWet_14 (by decide) (fun c_2 => ?_) (fun c_2 => ?_)
    · -- (T.2.2.2.1 i.toNatClampNeg) = 0
      refine lv_iconst (v := 0) hx hb dX7_isWet_21 (by decide) ?_
      exact W.zret (v := 0) (ty := .boolean) hx hb hr rfl (fun t9 ht hW => ⟨⟨0, wT g T, rfl, ⟨by simp only [fX7_isWetR, if_neg c_1, if_pos c_2], rfl⟩, by rw [ht]; exact hP, va_K.moved hW.alike hK, hD⟩, hS.F ht⟩) hS.2.2 dX7_isWet_22
    · -- not (T.2.2.2.1 i.toNatClampNeg) = 0
      refine lv_iconst (v := 1) hx hb dX7_isWet_17 (by decide) ?_
      refine lv_goto (tgt := 22) hx hb dX7_isWet_18 (by decide) ?_
      exact W.zret (v := 1) (ty := .boolean) hx hb hr rfl (fun t9 ht hW => ⟨⟨1, wT g T, rfl, ⟨by simp only [fX7_isWetR, if_neg c_1, if_neg c_2], rfl⟩, by rw [ht]; exact hP, va_K.moved hW.alike hK, hD⟩, hS.F ht⟩) hS.2.2 dX7_isWet_22

def fX7_setWetS (T : TT) (i : Int32) (z : Int32) : TT := (if (fX7_hasR T i) = 0 then T else (T.1, T.2.1, T.2.2.1, upd T.2.2.2.1 i.toNatClampNeg (vp_nar .boolean z), T.2.2.2.2))
set_option maxHeartbeats 4000000 in
set_option maxRecDepth 100000 in
theorem c_X7_setWet (l : Launch) (D : va_G) (g : GA) (T : TT) (i : Int32) (z : Int32) : ctV l D (tyA g) yX7_setWet (wd yX7_setWet cX7_setWet 3 (Option.none : Option Jvm.ClassFile.FieldType)) { frames := 1, cells := 0, slots := 0, locals := 21 } [.ref g.tm, .int i, .int z] (wT g T) (fun w => w = wT g (fX7_setWetS T i z)) := by
  intro sz
  refine Met.ofW (cc := cX7_setWet) (maxL := 3) (ret := (Option.none : Option Jvm.ClassFile.FieldType)) (by decide) rfl ?_
  intro p e s m args below meth c s₁ B hml hv
  obtain ⟨rfl, hsz, hP, hK, hD0⟩ := hv
  have hx := B.exec
  have hb := B.bytes
  have hr := B.returns
  have hts := atoms_spec (ws := (wd yX7_setWet cX7_setWet 3 (Option.none : Option Jvm.ClassFile.FieldType))) B.pre
  have hg := Tb.of hts
  have hown : s.vm.findClass RX7 = some m.cls := findClass_of_methodNamed B.named
  have hlocks := B.notSynchronized
  subst hsz
  have hD := hD0.self (sz := s.heap.size)
  generalize hAe : va_A (wT g T) s.heap.size = A at hD ⊢
  have hA : ∀ q : Nat, s.heap.size ≤ q → A q := fun q h => by rw [← hAe]; exact Or.inr h
  have hS : va_S A s.heap s.heap [] := va_S.rf
  have hP : va_P D vwCl (wT g T) s.heap := hP
  have hl := lv_entry ([.ref g.tm, .int i, .int z]) (n := 3) (Nat.le_of_ble_eq_true rfl)
  rw [lg_entry_eq]
  generalize (lg_sl ([.ref g.tm, .int i, .int z]) ++ List.replicate (3 - (lg_sl ([.ref g.tm, .int i, .int z])).length) Slot.unset).toArray = ls at hl ⊢
  have hl : lv_has ls 3 [(0, .ref g.tm), (1, .int i), (2, .int z)] := hl
  refine lv_aload_n hx hb dX7_setWet_0 rfl (lv_at hl 0 rfl) ?_
  refine lv_iload_n hx hb dX7_setWet_1 rfl (lv_at hl 1 rfl) ?_
  refine z_ie (va_runV (As := [.int i]) (rest := []) ⟨hx, hb, hml, hown, hts⟩ (c_X7_has l D g T i _) (z_V 1 hts g_311 g_2 g_308 g_309 g_310 ⟨by decide, by decide, by decide +kernel⟩ ⟨Nat.le_of_ble_eq_true rfl, Nat.le_of_ble_eq_true rfl⟩) (z_preV (ci := 8) (q0 := 0) (hP.subm [0, 1, 2, 3, 4] rfl) (hD.sub [0, 1, 2, 3, 4] (by decide) rfl) hK rfl rfl) rfl rfl hl.1 rfl (lv_room (Nat.le_of_ble_eq_true rfl)) dX7_setWet_2 ⟨Nat.le_of_ble_eq_true rfl, Nat.le_of_ble_eq_true rfl⟩) hP hD hS hA (([] : va_W)) (wT g T) [0, 1, 2, 3, 4] [] [0, 1, 2, 3, 4] rfl rfl (by decide) (by decide) rfl (by decide) (fun H locs hP hD hS => ?_)
  refine lv_if_eq (tgt := 15) hx hb dX7_setWet_5 (by decide) (fun c_1 => ?_) (fun c_1 => ?_)
  · -- (fX7_hasR T i) = 0
    exact W.vret hx hb hr (fun t9 ht hW => ⟨⟨wT g T, rfl, by simp only [fX7_setWetS, if_pos c_1], by rw [ht]; exact hP, va_K.moved hW.alike hK, hD⟩, hS.F ht⟩) hS.2.2 dX7_setWet_15
  · -- not (fX7_hasR T i) = 0
    refine lv_aload_n hx hb dX7_setWet_8 rfl (lv_at hl 0 rfl) ?_
    refine va_get (D := D) (ci := 8) (v := .ref g.az) (C := RX7) (T := TX7) (N := 5) hx hb hg in_X7 hown hK hP 0 rfl rfl 2 (by decide) (hg _ g_35) (fun _ h9 => h9) rfl dX7_setWet_9 ?_
    refine lv_iload_n hx hb dX7_setWet_12 rfl (lv_at hl 1 rfl) ?_
    refine lv_iload_n hx hb dX7_setWet_13 rfl (lv_at hl 2 rfl) ?_
    refine va_zast hx hb hK hP hD hS 3 1 rfl rfl (hasin (T := T) c_1) dX7_setWet_14 (fun H locs hP hD hS => ?_)
    have hP : va_P D vwCl (wT g (T.1, T.2.1, T.2.2.1, upd T.2.2.2.1 i.toNatClampNeg (vp_nar .boolean z), T.2.2.2.2)) H := hP
    have hD : va_D A (wT g (T.1, T.2.1, T.2.2.1, upd T.2.2.2.1 i.toNatClampNeg (vp_nar .boolean z), T.2.2.2.2)) := hD
    exact W.vret hx hb hr (fun t9 ht hW => ⟨⟨wT g (T.1, T.2.1, T.2.2.1, upd T.2.2.2.1 i.toNatClampNeg (vp_nar .boolean z), T.2.2.2.2), rfl, by simp only [fX7_setWetS, if_neg c_1], by rw [ht]; exact hP, va_K.moved hW.alike hK, hD⟩, hS.F ht⟩) hS.2.2 dX7_setWet_15

def fX7_setPileS (T : TT) (i : Int32) (z : Int32) : TT := (if (fX7_hasR T i) = 0 then T else (T.1, T.2.1, T.2.2.1, T.2.2.2.1, upd T.2.2.2.2 i.toNatClampNeg z))
set_option maxHeartbeats 4000000 in
set_option maxRecDepth 100000 in
theorem c_X7_setPile (l : Launch) (D : va_G) (g : GA) (T : TT) (i : Int32) (z : Int32) : ctV l D (tyA g) yX7_setPile (wd yX7_setPile cX7_setPile 3 (Option.none : Option Jvm.ClassFile.FieldType)) { frames := 1, cells := 0, slots := 0, locals := 21 } [.ref g.tm, .int i, .int z] (wT g T) (fun w => w = wT g (fX7_setPileS T i z)) := by
  intro sz
  refine Met.ofW (cc := cX7_setPile) (maxL := 3) (ret := (Option.none : Option Jvm.ClassFile.FieldType)) (by decide) rfl ?_
  intro p e s m args below meth c s₁ B hml hv
  obtain ⟨rfl, hsz, hP, hK, hD0⟩ := hv
  have hx := B.exec
  have hb := B.bytes
  have hr := B.returns
  have hts := atoms_spec (ws := (wd yX7_setPile cX7_setPile 3 (Option.none : Option Jvm.ClassFile.FieldType))) B.pre
  have hg := Tb.of hts
  have hown : s.vm.findClass RX7 = some m.cls := findClass_of_methodNamed B.named
  have hlocks := B.notSynchronized
  subst hsz
  have hD := hD0.self (sz := s.heap.size)
  generalize hAe : va_A (wT g T) s.heap.size = A at hD ⊢
  have hA : ∀ q : Nat, s.heap.size ≤ q → A q := fun q h => by rw [← hAe]; exact Or.inr h
  have hS : va_S A s.heap s.heap [] := va_S.rf
  have hP : va_P D vwCl (wT g T) s.heap := hP
  have hl := lv_entry ([.ref g.tm, .int i, .int z]) (n := 3) (Nat.le_of_ble_eq_true rfl)
  rw [lg_entry_eq]
  generalize (lg_sl ([.ref g.tm, .int i, .int z]) ++ List.replicate (3 - (lg_sl ([.ref g.tm, .int i, .int z])).length) Slot.unset).toArray = ls at hl ⊢
  have hl : lv_has ls 3 [(0, .ref g.tm), (1, .int i), (2, .int z)] := hl
  refine lv_aload_n hx hb dX7_setPile_0 rfl (lv_at hl 0 rfl) ?_
  refine lv_iload_n hx hb dX7_setPile_1 rfl (lv_at hl 1 rfl) ?_
  refine z_ie (va_runV (As := [.int i]) (rest := []) ⟨hx, hb, hml, hown, hts⟩ (c_X7_has l D g T i _) (z_V 1 hts g_311 g_2 g_308 g_309 g_310 ⟨by decide, by decide, by decide +kernel⟩ ⟨Nat.le_of_ble_eq_true rfl, Nat.le_of_ble_eq_true rfl⟩) (z_preV (ci := 8) (q0 := 0) (hP.subm [0, 1, 2, 3, 4] rfl) (hD.sub [0, 1, 2, 3, 4] (by decide) rfl) hK rfl rfl) rfl rfl hl.1 rfl (lv_room (Nat.le_of_ble_eq_true rfl)) dX7_setPile_2 ⟨Nat.le_of_ble_eq_true rfl, Nat.le_of_ble_eq_true rfl⟩) hP hD hS hA (([] : va_W)) (wT g T) [0, 1, 2, 3, 4] [] [0, 1, 2, 3, 4] rfl rfl (by decide) (by decide) rfl (by decide) (fun H locs hP hD hS => ?_)
  refine lv_if_eq (tgt := 15) hx hb dX7_setPile_5 (by decide) (fun c_1 => ?_) (fun c_1 => ?_)
  · -- (fX7_hasR T i) = 0
    exact W.vret hx hb hr (fun t9 ht hW => ⟨⟨wT g T, rfl, by simp only [fX7_setPileS, if_pos c_1], by rw [ht]; exact hP, va_K.moved hW.alike hK, hD⟩, hS.F ht⟩) hS.2.2 dX7_setPile_15
  · -- not (fX7_hasR T i) = 0
    refine lv_aload_n hx hb dX7_setPile_8 rfl (lv_at hl 0 rfl) ?_
    refine va_get (D := D) (ci := 8) (v := .ref g.ap) (C := RX7) (T := TX7) (N := 5) hx hb hg in_X7 hown hK hP 0 rfl rfl 3 (by decide) (hg _ g_36) (fun _ h9 => h9) rfl dX7_setPile_9 ?_
    refine lv_iload_n hx hb dX7_setPile_12 rfl (lv_at hl 1 rfl) ?_
    refine lv_iload_n hx hb dX7_setPile_13 rfl (lv_at hl 2 rfl) ?_
    refine va_iast hx hb hK hP hD hS 4 0 rfl rfl (hasin (T := T) c_1) dX7_setPile_14 (fun H locs hP hD hS => ?_)
    have hP : va_P D vwCl (wT g (T.1, T.2.1, T.2.2.1, T.2.2.2.1, upd T.2.2.2.2 i.toNatClampNeg z)) H := hP
    have hD : va_D A (wT g (T.1, T.2.1, T.2.2.1, T.2.2.2.1, upd T.2.2.2.2 i.toNatClampNeg z)) := hD
    exact W.vret hx hb hr (fun t9 ht hW => ⟨⟨wT g (T.1, T.2.1, T.2.2.1, T.2.2.2.1, upd T.2.2.2.2 i.toNatClampNeg z), rfl, by simp only [fX7_setPileS, if_neg c_1], by rw [ht]; exact hP, va_K.moved hW.alike hK, hD⟩, hS.F ht⟩) hS.2.2 dX7_setPile_15

def fX7_lightenS (T : TT) (i : Int32) : TT := (if (fX7_hasR T i) = 0 then T else (T.1, T.2.1, upd T.2.2.1 i.toNatClampNeg (if 1 < ((T.2.2.1 i.toNatClampNeg) - 1) then ((T.2.2.1 i.toNatClampNeg) - 1) else 1), T.2.2.2.1, T.2.2.2.2))
set_option maxHeartbeats 4000000 in
set_option maxRecDepth 100000 in
theorem c_X7_lighten (l : Launch) (D : va_G) (g : GA) (T : TT) (i : Int32) : ctV l D (tyA g) yX7_lighten (wd yX7_lighten cX7_lighten 2 (Option.none : Option Jvm.ClassFile.FieldType)) { frames := 1, cells := 0, slots := 0, locals := 21 } [.ref g.tm, .int i] (wT g T) (fun w => w = wT g (fX7_lightenS T i)) := by
  intro sz
  refine Met.ofW (cc := cX7_lighten) (maxL := 2) (ret := (Option.none : Option Jvm.ClassFile.FieldType)) (by decide) rfl ?_
  intro p e s m args below meth c s₁ B hml hv
  obtain ⟨rfl, hsz, hP, hK, hD0⟩ := hv
  have hx := B.exec
  have hb := B.bytes
  have hr := B.returns
  have hts := atoms_spec (ws := (wd yX7_lighten cX7_lighten 2 (Option.none : Option Jvm.ClassFile.FieldType))) B.pre
  have hg := Tb.of hts
  have hown : s.vm.findClass RX7 = some m.cls := findClass_of_methodNamed B.named
  have hlocks := B.notSynchronized
  subst hsz
  have hD := hD0.self (sz := s.heap.size)
  generalize hAe : va_A (wT g T) s.heap.size = A at hD ⊢
  have hA : ∀ q : Nat, s.heap.size ≤ q → A q := fun q h => by rw [← hAe]; exact Or.inr h
  have hS : va_S A s.heap s.heap [] := va_S.rf
  have hP : va_P D vwCl (wT g T) s.heap := hP
  have hl := lv_entry ([.ref g.tm, .int i]) (n := 2) (Nat.le_of_ble_eq_true rfl)
  rw [lg_entry_eq]
  generalize (lg_sl ([.ref g.tm, .int i]) ++ List.replicate (2 - (lg_sl ([.ref g.tm, .int i])).length) Slot.unset).toArray = ls at hl ⊢
  have hl : lv_has ls 2 [(0, .ref g.tm), (1, .int i)] := hl
  refine lv_aload_n hx hb dX7_lighten_0 rfl (lv_at hl 0 rfl) ?_
  refine lv_iload_n hx hb dX7_lighten_1 rfl (lv_at hl 1 rfl) ?_
  refine z_ie (va_runV (As := [.int i]) (rest := []) ⟨hx, hb, hml, hown, hts⟩ (c_X7_has l D g T i _) (z_V 1 hts g_311 g_2 g_308 g_309 g_310 ⟨by decide, by decide, by decide +kernel⟩ ⟨Nat.le_of_ble_eq_true rfl, Nat.le_of_ble_eq_true rfl⟩) (z_preV (ci := 8) (q0 := 0) (hP.subm [0, 1, 2, 3, 4] rfl) (hD.sub [0, 1, 2, 3, 4] (by decide) rfl) hK rfl rfl) rfl rfl hl.1 rfl (lv_room (Nat.le_of_ble_eq_true rfl)) dX7_lighten_2 ⟨Nat.le_of_ble_eq_true rfl, Nat.le_of_ble_eq_true rfl⟩) hP hD hS hA (([] : va_W)) (wT g T) [0, 1, 2, 3, 4] [] [0, 1, 2, 3, 4] rfl rfl (by decide) (by decide) rfl (by decide) (fun H locs hP hD hS => ?_)
  refine lv_if_eq (tgt := 26) hx hb dX7_lighten_5 (by decide) (fun c_1 => ?_) (fun c_1 => ?_)
  · -- (fX7_hasR T i) = 0
    exact W.vret hx hb hr (fun t9 ht hW => ⟨⟨wT g T, rfl, by simp only [fX7_lightenS, if_pos c_1], by rw [ht]; exact hP, va_K.moved hW.alike hK, hD⟩, hS.F ht⟩) hS.2.2 dX7_lighten_26
  · -- not (fX7_hasR T i) = 0
    refine lv_aload_n hx hb dX7_lighten_8 rfl (lv_at hl 0 rfl) ?_
    refine va_get (D := D) (ci := 8) (v := .ref g.aw) (C := RX7) (T := TX7) (N := 5) hx hb hg in_X7 hown hK hP 0 rfl rfl 1 (by decide) (hg _ g_34) (fun _ h9 => h9) rfl dX7_lighten_9 ?_
    refine lv_iload_n hx hb dX7_lighten_12 rfl (lv_at hl 1 rfl) ?_
    refine lv_iconst (v := 1) hx hb dX7_lighten_13 (by decide) ?_
    refine lv_aload_n hx hb dX7_lighten_14 rfl (lv_at hl 0 rfl) ?_
    refine va_get (D := D) (ci := 8) (v := .ref g.aw) (C := RX7) (T := TX7) (N := 5) hx hb hg in_X7 hown hK hP 0 rfl rfl 1 (by decide) (hg _ g_34) (fun _ h9 => h9) rfl dX7_lighten_15 ?_
    refine lv_iload_n hx hb dX7_lighten_18 rfl (lv_at hl 1 rfl) ?_
    refine va_iald hx hb hK hP 2 0 rfl rfl (hasin (T := T) c_1) dX7_lighten_19 ?_
    refine lv_iconst (v := 1) hx hb dX7_lighten_20 (by decide) ?_
    refine lv_isub hx hb dX7_lighten_21 ?_
    refine va_mmax hx hb (hml.trans hl.1.symm) hown (hg _ g_495) (hg _ g_maxs) (hg _ g_13) (hg _ g_max) (Nat.le_of_ble_eq_true rfl) (Nat.le_of_ble_eq_true rfl) (Nat.le_of_ble_eq_true rfl) (Nat.le_of_ble_eq_true rfl) dX7_lighten_22 ?_
    refine va_iast hx hb hK hP hD hS 2 0 rfl rfl (hasin (T := T) c_1) dX7_lighten_25 (fun H locs hP hD hS => ?_)
    have hP : va_P D vwCl (wT g (T.1, T.2.1, upd T.2.2.1 i.toNatClampNeg (if 1 < ((T.2.2.1 i.toNatClampNeg) - 1) then ((T.2.2.1 i.toNatClampNeg) - 1) else 1), T.2.2.2.1, T.2.2.2.2)) H := hP
    have hD : va_D A (wT g (T.1, T.2.1, upd T.2.2.1 i.toNatClampNeg (if 1 < ((T.2.2.1 i.toNatClampNeg) - 1) then ((T.2.2.1 i.toNatClampNeg) - 1) else 1), T.2.2.2.1, T.2.2.2.2)) := hD
    exact W.vret hx hb hr (fun t9 ht hW => ⟨⟨wT g (T.1, T.2.1, upd T.2.2.1 i.toNatClampNeg (if 1 < ((T.2.2.1 i.toNatClampNeg) - 1) then ((T.2.2.1 i.toNatClampNeg) - 1) else 1), T.2.2.2.1, T.2.2.2.2), rfl, by simp only [fX7_lightenS, if_neg c_1], by rw [ht]; exact hP, va_K.moved hW.alike hK, hD⟩, hS.F ht⟩) hS.2.2 dX7_lighten_26

def fX7_addR (T : TT) (a : Int32) (b : Int32) (z : Int32) : Int32 := (if T.1 < 0 then (-104) else (if T.1 < 60 then T.1 else (-104)))
def fX7_addS (T : TT) (a : Int32) (b : Int32) (z : Int32) : TT := (if T.1 < 0 then T else (if T.1 < 60 then ((T.1 + 1), upd T.2.1 T.1.toNatClampNeg a, upd T.2.2.1 T.1.toNatClampNeg b, upd T.2.2.2.1 T.1.toNatClampNeg (vp_nar .boolean z), upd T.2.2.2.2 T.1.toNatClampNeg (-1)) else T))
set_option maxHeartbeats 4000000 in
set_option maxRecDepth 100000 in
theorem c_X7_add (l : Launch) (D : va_G) (g : GA) (T : TT) (a : Int32) (b : Int32) (z : Int32) : ctI l D (tyA g) yX7_add (wd yX7_add cX7_add 5 (Option.some Jvm.ClassFile.FieldType.int)) { frames := 0, cells := 0, slots := 0, locals := 0 } [.ref g.tm, .int a, .int b, .int z] (wT g T) (fun r w => r = fX7_addR T a b z ∧ w = wT g (fX7_addS T a b z)) := by
  intro sz
  refine Met.ofW (cc := cX7_add) (maxL := 5) (ret := (Option.some Jvm.ClassFile.FieldType.int)) (by decide) rfl ?_
  intro p e s m args below meth c s₁ B hml hv
  obtain ⟨rfl, hsz, hP, hK, hD0⟩ := hv
  have hx := B.exec
  have hb := B.bytes
  have hr := B.returns
  have hts := atoms_spec (ws := (wd yX7_add cX7_add 5 (Option.some Jvm.ClassFile.FieldType.int))) B.pre
  have hg := Tb.of hts
  have hown : s.vm.findClass RX7 = some m.cls := findClass_of_methodNamed B.named
  have hlocks := B.notSynchronized
  subst hsz
  have hD := hD0.self (sz := s.heap.size)
  generalize hAe : va_A (wT g T) s.heap.size = A at hD ⊢
  have hA : ∀ q : Nat, s.heap.size ≤ q → A q := fun q h => by rw [← hAe]; exact Or.inr h
  have hS : va_S A s.heap s.heap [] := va_S.rf
  have hP : va_P D vwCl (wT g T) s.heap := hP
  have hl := lv_entry ([.ref g.tm, .int a, .int b, .int z]) (n := 5) (Nat.le_of_ble_eq_true rfl)
  rw [lg_entry_eq]
  generalize (lg_sl ([.ref g.tm, .int a, .int b, .int z]) ++ List.replicate (5 - (lg_sl ([.ref g.tm, .int a, .int b, .int z])).length) Slot.unset).toArray = ls at hl ⊢
  have hl : lv_has ls 5 [(0, .ref g.tm), (1, .int a), (2, .int b), (3, .int z)] := hl
  refine lv_aload_n hx hb dX7_add_0 rfl (lv_at hl 0 rfl) ?_
  refine va_get (D := D) (ci := 8) (v := .int T.1) (C := RX7) (T := TX7) (N := 5) hx hb hg in_X7 hown hK hP 0 rfl rfl 4 (by decide) (hg _ g_37) (fun _ h9 => h9) rfl dX7_add_1 ?_
  refine lv_if_lt (tgt := 16) hx hb dX7_add_4 (by decide) (fun c_1 => ?_) (fun c_1 => ?_)
  · -- T.1 < 0
    refine lv_bipush (v := (-104)) hx hb dX7_add_16 (by decide) ?_
    exact W.iret (v := (-104)) hx hb hr (fun t9 ht hW => ⟨⟨(-104), wT g T, rfl, ⟨by simp only [fX7_addR, if_pos c_1], by simp only [fX7_addS, if_pos c_1]⟩, by rw [ht]; exact hP, va_K.moved hW.alike hK, hD⟩, hS.F ht⟩) hS.2.2 dX7_add_18
  · -- not T.1 < 0
    refine lv_aload_n hx hb dX7_add_7 rfl (lv_at hl 0 rfl) ?_
    refine va_get (D := D) (ci := 8) (v := .int T.1) (C := RX7) (T := TX7) (N := 5) hx hb hg in_X7 hown hK hP 0 rfl rfl 4 (by decide) (hg _ g_37) (fun _ h9 => h9) rfl dX7_add_8 ?_
    refine lv_bipush (v := 60) hx hb dX7_add_11 (by decide) ?_
    refine lv_icmp_lt (tgt := 19) hx hb dX7_add_13 (by decide) (fun c_2 => ?_) (fun c_2 => ?_)
    · -- T.1 < 60
      refine lv_aload_n hx hb dX7_add_19 rfl (lv_at hl 0 rfl) ?_
      refine va_get (D := D) (ci := 8) (v := .int T.1) (C := RX7) (T := TX7) (N := 5) hx hb hg in_X7 hown hK hP 0 rfl rfl 4 (by decide) (hg _ g_37) (fun _ h9 => h9) rfl dX7_add_20 ?_
      refine lv_istore (lv' := [(4, .int T.1), (0, .ref g.tm), (1, .int a), (2, .int b), (3, .int z)]) hx hb dX7_add_23 hl (by decide) rfl (fun ls hl => ?_)
      refine lv_aload_n hx hb dX7_add_25 rfl (lv_at hl 1 rfl) ?_
      refine va_get (D := D) (ci := 8) (v := .ref g.al) (C := RX7) (T := TX7) (N := 5) hx hb hg in_X7 hown hK hP 0 rfl rfl 0 (by decide) (hg _ g_33) (fun _ h9 => h9) rfl dX7_add_26 ?_
      refine lv_iload hx hb dX7_add_29 (lv_at hl 0 rfl) ?_
      refine lv_iload_n hx hb dX7_add_31 rfl (lv_at hl 2 rfl) ?_
      refine va_iast hx hb hK hP hD hS 1 0 rfl rfl (in_lt (v := 60) (by decide) c_1 c_2) dX7_add_32 (fun H locs hP hD hS => ?_)
      have hP : va_P D vwCl (wT g (T.1, upd T.2.1 T.1.toNatClampNeg a, T.2.2.1, T.2.2.2.1, T.2.2.2.2)) H := hP
      have hD : va_D A (wT g (T.1, upd T.2.1 T.1.toNatClampNeg a, T.2.2.1, T.2.2.2.1, T.2.2.2.2)) := hD
      refine lv_aload_n hx hb dX7_add_33 rfl (lv_at hl 1 rfl) ?_
      refine va_get (D := D) (ci := 8) (v := .ref g.aw) (C := RX7) (T := TX7) (N := 5) hx hb hg in_X7 hown hK hP 0 rfl rfl 1 (by decide) (hg _ g_34) (fun _ h9 => h9) rfl dX7_add_34 ?_
      refine lv_iload hx hb dX7_add_37 (lv_at hl 0 rfl) ?_
      refine lv_iload_n hx hb dX7_add_39 rfl (lv_at hl 3 rfl) ?_
      refine va_iast hx hb hK hP hD hS 2 0 rfl rfl (in_lt (v := 60) (by decide) c_1 c_2) dX7_add_40 (fun H locs hP hD hS => ?_)
      have hP : va_P D vwCl (wT g (T.1, upd T.2.1 T.1.toNatClampNeg a, upd T.2.2.1 T.1.toNatClampNeg b, T.2.2.2.1, T.2.2.2.2)) H := hP
      have hD : va_D A (wT g (T.1, upd T.2.1 T.1.toNatClampNeg a, upd T.2.2.1 T.1.toNatClampNeg b, T.2.2.2.1, T.2.2.2.2)) := hD
      refine lv_aload_n hx hb dX7_add_41 rfl (lv_at hl 1 rfl) ?_
      refine va_get (D := D) (ci := 8) (v := .ref g.az) (C := RX7) (T := TX7) (N := 5) hx hb hg in_X7 hown hK hP 0 rfl rfl 2 (by decide) (hg _ g_35) (fun _ h9 => h9) rfl dX7_add_42 ?_
      refine lv_iload hx hb dX7_add_45 (lv_at hl 0 rfl) ?_
      refine lv_iload_n hx hb dX7_add_47 rfl (lv_at hl 4 rfl) ?_
      refine va_zast hx hb hK hP hD hS 3 1 rfl rfl (in_lt (v := 60) (by decide) c_1 c_2) dX7_add_48 (fun H locs hP hD hS => ?_)
      have hP : va_P D vwCl (wT g (T.1, upd T.2.1 T.1.toNatClampNeg a, upd T.2.2.1 T.1.toNatClampNeg b, upd T.2.2.2.1 T.1.toNatClampNeg (vp_nar .boolean z), T.2.2.2.2)) H := hP
      have hD : va_D A (wT g (T.1, upd T.2.1 T.1.toNatClampNeg a, upd T.2.2.1 T.1.toNatClampNeg b, upd T.2.2.2.1 T.1.toNatClampNeg (vp_nar .boolean z), T.2.2.2.2)) := hD
      refine lv_aload_n hx hb dX7_add_49 rfl (lv_at hl 1 rfl) ?_
      refine va_get (D := D) (ci := 8) (v := .ref g.ap) (C := RX7) (T := TX7) (N := 5) hx hb hg in_X7 hown hK hP 0 rfl rfl 3 (by decide) (hg _ g_36) (fun _ h9 => h9) rfl dX7_add_50 ?_
      refine lv_iload hx hb dX7_add_53 (lv_at hl 0 rfl) ?_
      refine lv_iconst (v := (-1)) hx hb dX7_add_55 (by decide) ?_
      refine va_iast hx hb hK hP hD hS 4 0 rfl rfl (in_lt (v := 60) (by decide) c_1 c_2) dX7_add_56 (fun H locs hP hD hS => ?_)
      have hP : va_P D vwCl (wT g (T.1, upd T.2.1 T.1.toNatClampNeg a, upd T.2.2.1 T.1.toNatClampNeg b, upd T.2.2.2.1 T.1.toNatClampNeg (vp_nar .boolean z), upd T.2.2.2.2 T.1.toNatClampNeg (-1))) H := hP
      have hD : va_D A (wT g (T.1, upd T.2.1 T.1.toNatClampNeg a, upd T.2.2.1 T.1.toNatClampNeg b, upd T.2.2.2.1 T.1.toNatClampNeg (vp_nar .boolean z), upd T.2.2.2.2 T.1.toNatClampNeg (-1))) := hD
      refine lv_aload_n hx hb dX7_add_57 rfl (lv_at hl 1 rfl) ?_
      refine lv_dup hx hb dX7_add_58 rfl ?_
      refine va_get (D := D) (ci := 8) (v := .int T.1) (C := RX7) (T := TX7) (N := 5) hx hb hg in_X7 hown hK hP 0 rfl rfl 4 (by decide) (hg _ g_37) (fun _ h9 => h9) rfl dX7_add_59 ?_
      refine lv_iconst (v := 1) hx hb dX7_add_62 (by decide) ?_
      refine lv_iadd hx hb dX7_add_63 ?_
      refine va_put (D := D) (ci := 8) (v := .int (T.1 + 1)) (ty := .int) (C := RX7) (T := TX7) (N := 5) hx hb hg in_X7 tyX7 tyX7_ok nmX7 hown hK hP hD hS 0 rfl rfl 4 (by decide) (hg _ g_37) (fun _ h9 => h9) rfl (by decide +kernel) rfl rfl (Nat.le_of_ble_eq_true rfl) dX7_add_64 (fun H locs hP hD hS => ?_)
      have hP : va_P D vwCl (wT g ((T.1 + 1), upd T.2.1 T.1.toNatClampNeg a, upd T.2.2.1 T.1.toNatClampNeg b, upd T.2.2.2.1 T.1.toNatClampNeg (vp_nar .boolean z), upd T.2.2.2.2 T.1.toNatClampNeg (-1))) H := hP
      have hD : va_D A (wT g ((T.1 + 1), upd T.2.1 T.1.toNatClampNeg a, upd T.2.2.1 T.1.toNatClampNeg b, upd T.2.2.2.1 T.1.toNatClampNeg (vp_nar .boolean z), upd T.2.2.2.2 T.1.toNatClampNeg (-1))) := hD
      refine lv_iload hx hb dX7_add_67 (lv_at hl 0 rfl) ?_
      exact W.iret (v := T.1) hx hb hr (fun t9 ht hW => ⟨⟨T.1, wT g ((T.1 + 1), upd T.2.1 T.1.toNatClampNeg a, upd T.2.2.1 T.1.toNatClampNeg b, upd T.2.2.2.1 T.1.toNatClampNeg (vp_nar .boolean z), upd T.2.2.2.2 T.1.toNatClampNeg (-1)), rfl, ⟨by simp only [fX7_addR, if_neg c_1, if_pos c_2], by simp only [fX7_addS, if_neg c_1, if_pos c_2]⟩, by rw [ht]; exact hP, va_K.moved hW.alike hK, hD⟩, hS.F ht⟩) hS.2.2 dX7_add_69
    · -- not T.1 < 60
      refine lv_bipush (v := (-104)) hx hb dX7_add_16 (by decide) ?_
      exact W.iret (v := (-104)) hx hb hr (fun t9 ht hW => ⟨⟨(-104), wT g T, rfl, ⟨by simp only [fX7_addR, if_neg c_1, if_neg c_2], by simp only [fX7_addS, if_neg c_1, if_neg c_2]⟩, by rw [ht]; exact hP, va_K.moved hW.alike hK, hD⟩, hS.F ht⟩) hS.2.2 dX7_add_18

def fX8_beginS (X : DD) (a : Int32) (k : Int32) : DD := (if X.2.1 < 0 then (upd X.1 (0 : Int32).toNatClampNeg ((10 * a) + k), (0 + 1), (if 200 < (X.2.2.1 + 1) then 200 else (X.2.2.1 + 1)), (X.2.2.2.1 + 1), X.2.2.2.2.1, X.2.2.2.2.2) else (if X.2.1 < 200 then (upd X.1 X.2.1.toNatClampNeg ((10 * a) + k), (X.2.1 + 1), (if 200 < (X.2.2.1 + 1) then 200 else (X.2.2.1 + 1)), (X.2.2.2.1 + 1), X.2.2.2.2.1, X.2.2.2.2.2) else (upd X.1 (0 : Int32).toNatClampNeg ((10 * a) + k), (0 + 1), (if 200 < (X.2.2.1 + 1) then 200 else (X.2.2.1 + 1)), (X.2.2.2.1 + 1), X.2.2.2.2.1, X.2.2.2.2.2)))
set_option maxHeartbeats 4000000 in
set_option maxRecDepth 100000 in
theorem c_X8_begin (l : Launch) (D : va_G) (g : GA) (X : DD) (a : Int32) (k : Int32) : ctV l D (tyA g) yX8_begin (wd yX8_begin cX8_begin 3 (Option.none : Option Jvm.ClassFile.FieldType)) { frames := 1, cells := 0, slots := 0, locals := 15 } [.ref g.dn, .int a, .int k] (wD g X) (fun w => w = wD g (fX8_beginS X a k)) := by
  intro sz
  refine Met.ofW (cc := cX8_begin) (maxL := 3) (ret := (Option.none : Option Jvm.ClassFile.FieldType)) (by decide) rfl ?_
  intro p e s m args below meth c s₁ B hml hv
  obtain ⟨rfl, hsz, hP, hK, hD0⟩ := hv
  have hx := B.exec
  have hb := B.bytes
  have hr := B.returns
  have hts := atoms_spec (ws := (wd yX8_begin cX8_begin 3 (Option.none : Option Jvm.ClassFile.FieldType))) B.pre
  have hg := Tb.of hts
  have hown : s.vm.findClass RX8 = some m.cls := findClass_of_methodNamed B.named
  have hlocks := B.notSynchronized
  subst hsz
  have hD := hD0.self (sz := s.heap.size)
  generalize hAe : va_A (wD g X) s.heap.size = A at hD ⊢
  have hA : ∀ q : Nat, s.heap.size ≤ q → A q := fun q h => by rw [← hAe]; exact Or.inr h
  have hS : va_S A s.heap s.heap [] := va_S.rf
  have hP : va_P D vwCl (wD g X) s.heap := hP
  have hl := lv_entry ([.ref g.dn, .int a, .int k]) (n := 3) (Nat.le_of_ble_eq_true rfl)
  rw [lg_entry_eq]
  generalize (lg_sl ([.ref g.dn, .int a, .int k]) ++ List.replicate (3 - (lg_sl ([.ref g.dn, .int a, .int k])).length) Slot.unset).toArray = ls at hl ⊢
  have hl : lv_has ls 3 [(0, .ref g.dn), (1, .int a), (2, .int k)] := hl
  refine lv_aload_n hx hb dX8_begin_0 rfl (lv_at hl 0 rfl) ?_
  refine va_get (D := D) (ci := 9) (v := .int X.2.1) (C := RX8) (T := TX8) (N := 6) hx hb hg in_X8 hown hK hP 0 rfl rfl 1 (by decide) (hg _ g_58) (fun _ h9 => h9) rfl dX8_begin_1 ?_
  refine lv_if_lt (tgt := 19) hx hb dX8_begin_4 (by decide) (fun c_1 => ?_) (fun c_1 => ?_)
  · -- X.2.1 < 0
    refine lv_aload_n hx hb dX8_begin_19 rfl (lv_at hl 0 rfl) ?_
    refine lv_iconst (v := 0) hx hb dX8_begin_20 (by decide) ?_
    refine va_put (D := D) (ci := 9) (v := .int 0) (ty := .int) (C := RX8) (T := TX8) (N := 6) hx hb hg in_X8 tyX8 tyX8_ok nmX8 hown hK hP hD hS 0 rfl rfl 1 (by decide) (hg _ g_58) (fun _ h9 => h9) rfl (by decide +kernel) rfl rfl (Nat.le_of_ble_eq_true rfl) dX8_begin_21 (fun H locs hP hD hS => ?_)
    have hP : va_P D vwCl (wD g (X.1, 0, X.2.2.1, X.2.2.2.1, X.2.2.2.2.1, X.2.2.2.2.2)) H := hP
    have hD : va_D A (wD g (X.1, 0, X.2.2.1, X.2.2.2.1, X.2.2.2.2.1, X.2.2.2.2.2)) := hD
    refine lv_aload_n hx hb dX8_begin_24 rfl (lv_at hl 0 rfl) ?_
    refine va_get (D := D) (ci := 9) (v := .ref g.rg) (C := RX8) (T := TX8) (N := 6) hx hb hg in_X8 hown hK hP 0 rfl rfl 0 (by decide) (hg _ g_57) (fun _ h9 => h9) rfl dX8_begin_25 ?_
    refine lv_aload_n hx hb dX8_begin_28 rfl (lv_at hl 0 rfl) ?_
    refine va_get (D := D) (ci := 9) (v := .int 0) (C := RX8) (T := TX8) (N := 6) hx hb hg in_X8 hown hK hP 0 rfl rfl 1 (by decide) (hg _ g_58) (fun _ h9 => h9) rfl dX8_begin_29 ?_
    refine lv_bipush (v := 10) hx hb dX8_begin_32 (by decide) ?_
    refine lv_iload_n hx hb dX8_begin_34 rfl (lv_at hl 1 rfl) ?_
    refine lv_imul hx hb dX8_begin_35 ?_
    refine lv_iload_n hx hb dX8_begin_36 rfl (lv_at hl 2 rfl) ?_
    refine lv_iadd hx hb dX8_begin_37 ?_
    refine va_iast hx hb hK hP hD hS 1 0 rfl rfl (by unfold vp_in; decide) dX8_begin_38 (fun H locs hP hD hS => ?_)
    have hP : va_P D vwCl (wD g (upd X.1 (0 : Int32).toNatClampNeg ((10 * a) + k), 0, X.2.2.1, X.2.2.2.1, X.2.2.2.2.1, X.2.2.2.2.2)) H := hP
    have hD : va_D A (wD g (upd X.1 (0 : Int32).toNatClampNeg ((10 * a) + k), 0, X.2.2.1, X.2.2.2.1, X.2.2.2.2.1, X.2.2.2.2.2)) := hD
    refine lv_aload_n hx hb dX8_begin_39 rfl (lv_at hl 0 rfl) ?_
    refine lv_dup hx hb dX8_begin_40 rfl ?_
    refine va_get (D := D) (ci := 9) (v := .int 0) (C := RX8) (T := TX8) (N := 6) hx hb hg in_X8 hown hK hP 0 rfl rfl 1 (by decide) (hg _ g_58) (fun _ h9 => h9) rfl dX8_begin_41 ?_
    refine lv_iconst (v := 1) hx hb dX8_begin_44 (by decide) ?_
    refine lv_iadd hx hb dX8_begin_45 ?_
    refine va_put (D := D) (ci := 9) (v := .int (0 + 1)) (ty := .int) (C := RX8) (T := TX8) (N := 6) hx hb hg in_X8 tyX8 tyX8_ok nmX8 hown hK hP hD hS 0 rfl rfl 1 (by decide) (hg _ g_58) (fun _ h9 => h9) rfl (by decide +kernel) rfl rfl (Nat.le_of_ble_eq_true rfl) dX8_begin_46 (fun H locs hP hD hS => ?_)
    have hP : va_P D vwCl (wD g (upd X.1 (0 : Int32).toNatClampNeg ((10 * a) + k), (0 + 1), X.2.2.1, X.2.2.2.1, X.2.2.2.2.1, X.2.2.2.2.2)) H := hP
    have hD : va_D A (wD g (upd X.1 (0 : Int32).toNatClampNeg ((10 * a) + k), (0 + 1), X.2.2.1, X.2.2.2.1, X.2.2.2.2.1, X.2.2.2.2.2)) := hD
    refine lv_aload_n hx hb dX8_begin_49 rfl (lv_at hl 0 rfl) ?_
    refine lv_aload_n hx hb dX8_begin_50 rfl (lv_at hl 0 rfl) ?_
    refine va_get (D := D) (ci := 9) (v := .int X.2.2.1) (C := RX8) (T := TX8) (N := 6) hx hb hg in_X8 hown hK hP 0 rfl rfl 2 (by decide) (hg _ g_59) (fun _ h9 => h9) rfl dX8_begin_51 ?_
    refine lv_iconst (v := 1) hx hb dX8_begin_54 (by decide) ?_
    refine lv_iadd hx hb dX8_begin_55 ?_
    refine lv_aload_n hx hb dX8_begin_56 rfl (lv_at hl 0 rfl) ?_
    refine va_get (D := D) (ci := 9) (v := .ref g.rg) (C := RX8) (T := TX8) (N := 6) hx hb hg in_X8 hown hK hP 0 rfl rfl 0 (by decide) (hg _ g_57) (fun _ h9 => h9) rfl dX8_begin_57 ?_
    refine va_alen hx hb hK hP 1 0 rfl rfl (v := 200) rfl dX8_begin_60 ?_
    refine va_mmin hx hb (hml.trans hl.1.symm) hown (hg _ g_279) (hg _ g_mins) (hg _ g_13) (hg _ g_min) (Nat.le_of_ble_eq_true rfl) (Nat.le_of_ble_eq_true rfl) (Nat.le_of_ble_eq_true rfl) (Nat.le_of_ble_eq_true rfl) dX8_begin_61 ?_
    refine va_put (D := D) (ci := 9) (v := .int (if 200 < (X.2.2.1 + 1) then 200 else (X.2.2.1 + 1))) (ty := .int) (C := RX8) (T := TX8) (N := 6) hx hb hg in_X8 tyX8 tyX8_ok nmX8 hown hK hP hD hS 0 rfl rfl 2 (by decide) (hg _ g_59) (fun _ h9 => h9) rfl (by decide +kernel) rfl rfl (Nat.le_of_ble_eq_true rfl) dX8_begin_64 (fun H locs hP hD hS => ?_)
    have hP : va_P D vwCl (wD g (upd X.1 (0 : Int32).toNatClampNeg ((10 * a) + k), (0 + 1), (if 200 < (X.2.2.1 + 1) then 200 else (X.2.2.1 + 1)), X.2.2.2.1, X.2.2.2.2.1, X.2.2.2.2.2)) H := hP
    have hD : va_D A (wD g (upd X.1 (0 : Int32).toNatClampNeg ((10 * a) + k), (0 + 1), (if 200 < (X.2.2.1 + 1) then 200 else (X.2.2.1 + 1)), X.2.2.2.1, X.2.2.2.2.1, X.2.2.2.2.2)) := hD
    refine lv_aload_n hx hb dX8_begin_67 rfl (lv_at hl 0 rfl) ?_
    refine lv_dup hx hb dX8_begin_68 rfl ?_
    refine va_get (D := D) (ci := 9) (v := .int X.2.2.2.1) (C := RX8) (T := TX8) (N := 6) hx hb hg in_X8 hown hK hP 0 rfl rfl 3 (by decide) (hg _ g_60) (fun _ h9 => h9) rfl dX8_begin_69 ?_
    refine lv_iconst (v := 1) hx hb dX8_begin_72 (by decide) ?_
    refine lv_iadd hx hb dX8_begin_73 ?_
    refine va_put (D := D) (ci := 9) (v := .int (X.2.2.2.1 + 1)) (ty := .int) (C := RX8) (T := TX8) (N := 6) hx hb hg in_X8 tyX8 tyX8_ok nmX8 hown hK hP hD hS 0 rfl rfl 3 (by decide) (hg _ g_60) (fun _ h9 => h9) rfl (by decide +kernel) rfl rfl (Nat.le_of_ble_eq_true rfl) dX8_begin_74 (fun H locs hP hD hS => ?_)
    have hP : va_P D vwCl (wD g (upd X.1 (0 : Int32).toNatClampNeg ((10 * a) + k), (0 + 1), (if 200 < (X.2.2.1 + 1) then 200 else (X.2.2.1 + 1)), (X.2.2.2.1 + 1), X.2.2.2.2.1, X.2.2.2.2.2)) H := hP
    have hD : va_D A (wD g (upd X.1 (0 : Int32).toNatClampNeg ((10 * a) + k), (0 + 1), (if 200 < (X.2.2.1 + 1) then 200 else (X.2.2.1 + 1)), (X.2.2.2.1 + 1), X.2.2.2.2.1, X.2.2.2.2.2)) := hD
    exact W.vret hx hb hr (fun t9 ht hW => ⟨⟨wD g (upd X.1 (0 : Int32).toNatClampNeg ((10 * a) + k), (0 + 1), (if 200 < (X.2.2.1 + 1) then 200 else (X.2.2.1 + 1)), (X.2.2.2.1 + 1), X.2.2.2.2.1, X.2.2.2.2.2), rfl, by simp only [fX8_beginS, if_pos c_1], by rw [ht]; exact hP, va_K.moved hW.alike hK, hD⟩, hS.F ht⟩) hS.2.2 dX8_begin_77
  · -- not X.2.1 < 0
    refine lv_aload_n hx hb dX8_begin_7 rfl (lv_at hl 0 rfl) ?_
    refine va_get (D := D) (ci := 9) (v := .int X.2.1) (C := RX8) (T := TX8) (N := 6) hx hb hg in_X8 hown hK hP 0 rfl rfl 1 (by decide) (hg _ g_58) (fun _ h9 => h9) rfl dX8_begin_8 ?_
    refine lv_aload_n hx hb dX8_begin_11 rfl (lv_at hl 0 rfl) ?_
    refine va_get (D := D) (ci := 9) (v := .ref g.rg) (C := RX8) (T := TX8) (N := 6) hx hb hg in_X8 hown hK hP 0 rfl rfl 0 (by decide) (hg _ g_57) (fun _ h9 => h9) rfl dX8_begin_12 ?_
    refine va_alen hx hb hK hP 1 0 rfl rfl (v := 200) rfl dX8_begin_15 ?_
    refine lv_icmp_lt (tgt := 24) hx hb dX8_begin_16 (by decide) (fun c_2 => ?_) (fun c_2 => ?_)
    · -- X.2.1 < 200
      refine lv_aload_n hx hb dX8_begin_24 rfl (lv_at hl 0 rfl) ?_
      refine va_get (D := D) (ci := 9) (v := .ref g.rg) (C := RX8) (T := TX8) (N := 6) hx hb hg in_X8 hown hK hP 0 rfl rfl 0 (by decide) (hg _ g_57) (fun _ h9 => h9) rfl dX8_begin_25 ?_
      refine lv_aload_n hx hb dX8_begin_28 rfl (lv_at hl 0 rfl) ?_
      refine va_get (D := D) (ci := 9) (v := .int X.2.1) (C := RX8) (T := TX8) (N := 6) hx hb hg in_X8 hown hK hP 0 rfl rfl 1 (by decide) (hg _ g_58) (fun _ h9 => h9) rfl dX8_begin_29 ?_
      refine lv_bipush (v := 10) hx hb dX8_begin_32 (by decide) ?_
      refine lv_iload_n hx hb dX8_begin_34 rfl (lv_at hl 1 rfl) ?_
      refine lv_imul hx hb dX8_begin_35 ?_
      refine lv_iload_n hx hb dX8_begin_36 rfl (lv_at hl 2 rfl) ?_
      refine lv_iadd hx hb dX8_begin_37 ?_
      refine va_iast hx hb hK hP hD hS 1 0 rfl rfl (in_lt (v := 200) (by decide) c_1 c_2) dX8_begin_38 (fun H locs hP hD hS => ?_)
      have hP : va_P D vwCl (wD g (upd X.1 X.2.1.toNatClampNeg ((10 * a) + k), X.2.1, X.2.2.1, X.2.2.2.1, X.2.2.2.2.1, X.2.2.2.2.2)) H := hP
      have hD : va_D A (wD g (upd X.1 X.2.1.toNatClampNeg ((10 * a) + k), X.2.1, X.2.2.1, X.2.2.2.1, X.2.2.2.2.1, X.2.2.2.2.2)) := hD
      refine lv_aload_n hx hb dX8_begin_39 rfl (lv_at hl 0 rfl) ?_
      refine lv_dup hx hb dX8_begin_40 rfl ?_
      refine va_get (D := D) (ci := 9) (v := .int X.2.1) (C := RX8) (T := TX8) (N := 6) hx hb hg in_X8 hown hK hP 0 rfl rfl 1 (by decide) (hg _ g_58) (fun _ h9 => h9) rfl dX8_begin_41 ?_
      refine lv_iconst (v := 1) hx hb dX8_begin_44 (by decide) ?_
      refine lv_iadd hx hb dX8_begin_45 ?_
      refine va_put (D := D) (ci := 9) (v := .int (X.2.1 + 1)) (ty := .int) (C := RX8) (T := TX8) (N := 6) hx hb hg in_X8 tyX8 tyX8_ok nmX8 hown hK hP hD hS 0 rfl rfl 1 (by decide) (hg _ g_58) (fun _ h9 => h9) rfl (by decide +kernel) rfl rfl (Nat.le_of_ble_eq_true rfl) dX8_begin_46 (fun H locs hP hD hS => ?_)
      have hP : va_P D vwCl (wD g (upd X.1 X.2.1.toNatClampNeg ((10 * a) + k), (X.2.1 + 1), X.2.2.1, X.2.2.2.1, X.2.2.2.2.1, X.2.2.2.2.2)) H := hP
      have hD : va_D A (wD g (upd X.1 X.2.1.toNatClampNeg ((10 * a) + k), (X.2.1 + 1), X.2.2.1, X.2.2.2.1, X.2.2.2.2.1, X.2.2.2.2.2)) := hD
      refine lv_aload_n hx hb dX8_begin_49 rfl (lv_at hl 0 rfl) ?_
      refine lv_aload_n hx hb dX8_begin_50 rfl (lv_at hl 0 rfl) ?_
      refine va_get (D := D) (ci := 9) (v := .int X.2.2.1) (C := RX8) (T := TX8) (N := 6) hx hb hg in_X8 hown hK hP 0 rfl rfl 2 (by decide) (hg _ g_59) (fun _ h9 => h9) rfl dX8_begin_51 ?_
      refine lv_iconst (v := 1) hx hb dX8_begin_54 (by decide) ?_
      refine lv_iadd hx hb dX8_begin_55 ?_
      refine lv_aload_n hx hb dX8_begin_56 rfl (lv_at hl 0 rfl) ?_
      refine va_get (D := D) (ci := 9) (v := .ref g.rg) (C := RX8) (T := TX8) (N := 6) hx hb hg in_X8 hown hK hP 0 rfl rfl 0 (by decide) (hg _ g_57) (fun _ h9 => h9) rfl dX8_begin_57 ?_
      refine va_alen hx hb hK hP 1 0 rfl rfl (v := 200) rfl dX8_begin_60 ?_
      refine va_mmin hx hb (hml.trans hl.1.symm) hown (hg _ g_279) (hg _ g_mins) (hg _ g_13) (hg _ g_min) (Nat.le_of_ble_eq_true rfl) (Nat.le_of_ble_eq_true rfl) (Nat.le_of_ble_eq_true rfl) (Nat.le_of_ble_eq_true rfl) dX8_begin_61 ?_
      refine va_put (D := D) (ci := 9) (v := .int (if 200 < (X.2.2.1 + 1) then 200 else (X.2.2.1 + 1))) (ty := .int) (C := RX8) (T := TX8) (N := 6) hx hb hg in_X8 tyX8 tyX8_ok nmX8 hown hK hP hD hS 0 rfl rfl 2 (by decide) (hg _ g_59) (fun _ h9 => h9) rfl (by decide +kernel) rfl rfl (Nat.le_of_ble_eq_true rfl) dX8_begin_64 (fun H locs hP hD hS => ?_)
      have hP : va_P D vwCl (wD g (upd X.1 X.2.1.toNatClampNeg ((10 * a) + k), (X.2.1 + 1), (if 200 < (X.2.2.1 + 1) then 200 else (X.2.2.1 + 1)), X.2.2.2.1, X.2.2.2.2.1, X.2.2.2.2.2)) H := hP
      have hD : va_D A (wD g (upd X.1 X.2.1.toNatClampNeg ((10 * a) + k), (X.2.1 + 1), (if 200 < (X.2.2.1 + 1) then 200 else (X.2.2.1 + 1)), X.2.2.2.1, X.2.2.2.2.1, X.2.2.2.2.2)) := hD
      refine lv_aload_n hx hb dX8_begin_67 rfl (lv_at hl 0 rfl) ?_
      refine lv_dup hx hb dX8_begin_68 rfl ?_
      refine va_get (D := D) (ci := 9) (v := .int X.2.2.2.1) (C := RX8) (T := TX8) (N := 6) hx hb hg in_X8 hown hK hP 0 rfl rfl 3 (by decide) (hg _ g_60) (fun _ h9 => h9) rfl dX8_begin_69 ?_
      refine lv_iconst (v := 1) hx hb dX8_begin_72 (by decide) ?_
      refine lv_iadd hx hb dX8_begin_73 ?_
      refine va_put (D := D) (ci := 9) (v := .int (X.2.2.2.1 + 1)) (ty := .int) (C := RX8) (T := TX8) (N := 6) hx hb hg in_X8 tyX8 tyX8_ok nmX8 hown hK hP hD hS 0 rfl rfl 3 (by decide) (hg _ g_60) (fun _ h9 => h9) rfl (by decide +kernel) rfl rfl (Nat.le_of_ble_eq_true rfl) dX8_begin_74 (fun H locs hP hD hS => ?_)
      have hP : va_P D vwCl (wD g (upd X.1 X.2.1.toNatClampNeg ((10 * a) + k), (X.2.1 + 1), (if 200 < (X.2.2.1 + 1) then 200 else (X.2.2.1 + 1)), (X.2.2.2.1 + 1), X.2.2.2.2.1, X.2.2.2.2.2)) H := hP
      have hD : va_D A (wD g (upd X.1 X.2.1.toNatClampNeg ((10 * a) + k), (X.2.1 + 1), (if 200 < (X.2.2.1 + 1) then 200 else (X.2.2.1 + 1)), (X.2.2.2.1 + 1), X.2.2.2.2.1, X.2.2.2.2.2)) := hD
      exact W.vret hx hb hr (fun t9 ht hW => ⟨⟨wD g (upd X.1 X.2.1.toNatClampNeg ((10 * a) + k), (X.2.1 + 1), (if 200 < (X.2.2.1 + 1) then 200 else (X.2.2.1 + 1)), (X.2.2.2.1 + 1), X.2.2.2.2.1, X.2.2.2.2.2), rfl, by simp only [fX8_beginS, if_neg c_1, if_pos c_2], by rw [ht]; exact hP, va_K.moved hW.alike hK, hD⟩, hS.F ht⟩) hS.2.2 dX8_begin_77
    · -- not X.2.1 < 200
      refine lv_aload_n hx hb dX8_begin_19 rfl (lv_at hl 0 rfl) ?_
      refine lv_iconst (v := 0) hx hb dX8_begin_20 (by decide) ?_
      refine va_put (D := D) (ci := 9) (v := .int 0) (ty := .int) (C := RX8) (T := TX8) (N := 6) hx hb hg in_X8 tyX8 tyX8_ok nmX8 hown hK hP hD hS 0 rfl rfl 1 (by decide) (hg _ g_58) (fun _ h9 => h9) rfl (by decide +kernel) rfl rfl (Nat.le_of_ble_eq_true rfl) dX8_begin_21 (fun H locs hP hD hS => ?_)
      have hP : va_P D vwCl (wD g (X.1, 0, X.2.2.1, X.2.2.2.1, X.2.2.2.2.1, X.2.2.2.2.2)) H := hP
      have hD : va_D A (wD g (X.1, 0, X.2.2.1, X.2.2.2.1, X.2.2.2.2.1, X.2.2.2.2.2)) := hD
      refine lv_aload_n hx hb dX8_begin_24 rfl (lv_at hl 0 rfl) ?_
      refine va_get (D := D) (ci := 9) (v := .ref g.rg) (C := RX8) (T := TX8) (N := 6) hx hb hg in_X8 hown hK hP 0 rfl rfl 0 (by decide) (hg _ g_57) (fun _ h9 => h9) rfl dX8_begin_25 ?_
      refine lv_aload_n hx hb dX8_begin_28 rfl (lv_at hl 0 rfl) ?_
      refine va_get (D := D) (ci := 9) (v := .int 0) (C := RX8) (T := TX8) (N := 6) hx hb hg in_X8 hown hK hP 0 rfl rfl 1 (by decide) (hg _ g_58) (fun _ h9 => h9) rfl dX8_begin_29 ?_
      refine lv_bipush (v := 10) hx hb dX8_begin_32 (by decide) ?_
      refine lv_iload_n hx hb dX8_begin_34 rfl (lv_at hl 1 rfl) ?_
      refine lv_imul hx hb dX8_begin_35 ?_
      refine lv_iload_n hx hb dX8_begin_36 rfl (lv_at hl 2 rfl) ?_
      refine lv_iadd hx hb dX8_begin_37 ?_
      refine va_iast hx hb hK hP hD hS 1 0 rfl rfl (by unfold vp_in; decide) dX8_begin_38 (fun H locs hP hD hS => ?_)
      have hP : va_P D vwCl (wD g (upd X.1 (0 : Int32).toNatClampNeg ((10 * a) + k), 0, X.2.2.1, X.2.2.2.1, X.2.2.2.2.1, X.2.2.2.2.2)) H := hP
      have hD : va_D A (wD g (upd X.1 (0 : Int32).toNatClampNeg ((10 * a) + k), 0, X.2.2.1, X.2.2.2.1, X.2.2.2.2.1, X.2.2.2.2.2)) := hD
      refine lv_aload_n hx hb dX8_begin_39 rfl (lv_at hl 0 rfl) ?_
      refine lv_dup hx hb dX8_begin_40 rfl ?_
      refine va_get (D := D) (ci := 9) (v := .int 0) (C := RX8) (T := TX8) (N := 6) hx hb hg in_X8 hown hK hP 0 rfl rfl 1 (by decide) (hg _ g_58) (fun _ h9 => h9) rfl dX8_begin_41 ?_
      refine lv_iconst (v := 1) hx hb dX8_begin_44 (by decide) ?_
      refine lv_iadd hx hb dX8_begin_45 ?_
      refine va_put (D := D) (ci := 9) (v := .int (0 + 1)) (ty := .int) (C := RX8) (T := TX8) (N := 6) hx hb hg in_X8 tyX8 tyX8_ok nmX8 hown hK hP hD hS 0 rfl rfl 1 (by decide) (hg _ g_58) (fun _ h9 => h9) rfl (by decide +kernel) rfl rfl (Nat.le_of_ble_eq_true rfl) dX8_begin_46 (fun H locs hP hD hS => ?_)
      have hP : va_P D vwCl (wD g (upd X.1 (0 : Int32).toNatClampNeg ((10 * a) + k), (0 + 1), X.2.2.1, X.2.2.2.1, X.2.2.2.2.1, X.2.2.2.2.2)) H := hP
      have hD : va_D A (wD g (upd X.1 (0 : Int32).toNatClampNeg ((10 * a) + k), (0 + 1), X.2.2.1, X.2.2.2.1, X.2.2.2.2.1, X.2.2.2.2.2)) := hD
      refine lv_aload_n hx hb dX8_begin_49 rfl (lv_at hl 0 rfl) ?_
      refine lv_aload_n hx hb dX8_begin_50 rfl (lv_at hl 0 rfl) ?_
      refine va_get (D := D) (ci := 9) (v := .int X.2.2.1) (C := RX8) (T := TX8) (N := 6) hx hb hg in_X8 hown hK hP 0 rfl rfl 2 (by decide) (hg _ g_59) (fun _ h9 => h9) rfl dX8_begin_51 ?_
      refine lv_iconst (v := 1) hx hb dX8_begin_54 (by decide) ?_
      refine lv_iadd hx hb dX8_begin_55 ?_
      refine lv_aload_n hx hb dX8_begin_56 rfl (lv_at hl 0 rfl) ?_
      refine va_get (D := D) (ci := 9) (v := .ref g.rg) (C := RX8) (T := TX8) (N := 6) hx hb hg in_X8 hown hK hP 0 rfl rfl 0 (by decide) (hg _ g_57) (fun _ h9 => h9) rfl dX8_begin_57 ?_
      refine va_alen hx hb hK hP 1 0 rfl rfl (v := 200) rfl dX8_begin_60 ?_
      refine va_mmin hx hb (hml.trans hl.1.symm) hown (hg _ g_279) (hg _ g_mins) (hg _ g_13) (hg _ g_min) (Nat.le_of_ble_eq_true rfl) (Nat.le_of_ble_eq_true rfl) (Nat.le_of_ble_eq_true rfl) (Nat.le_of_ble_eq_true rfl) dX8_begin_61 ?_
      refine va_put (D := D) (ci := 9) (v := .int (if 200 < (X.2.2.1 + 1) then 200 else (X.2.2.1 + 1))) (ty := .int) (C := RX8) (T := TX8) (N := 6) hx hb hg in_X8 tyX8 tyX8_ok nmX8 hown hK hP hD hS 0 rfl rfl 2 (by decide) (hg _ g_59) (fun _ h9 => h9) rfl (by decide +kernel) rfl rfl (Nat.le_of_ble_eq_true rfl) dX8_begin_64 (fun H locs hP hD hS => ?_)
      have hP : va_P D vwCl (wD g (upd X.1 (0 : Int32).toNatClampNeg ((10 * a) + k), (0 + 1), (if 200 < (X.2.2.1 + 1) then 200 else (X.2.2.1 + 1)), X.2.2.2.1, X.2.2.2.2.1, X.2.2.2.2.2)) H := hP
      have hD : va_D A (wD g (upd X.1 (0 : Int32).toNatClampNeg ((10 * a) + k), (0 + 1), (if 200 < (X.2.2.1 + 1) then 200 else (X.2.2.1 + 1)), X.2.2.2.1, X.2.2.2.2.1, X.2.2.2.2.2)) := hD
      refine lv_aload_n hx hb dX8_begin_67 rfl (lv_at hl 0 rfl) ?_
      refine lv_dup hx hb dX8_begin_68 rfl ?_
      refine va_get (D := D) (ci := 9) (v := .int X.2.2.2.1) (C := RX8) (T := TX8) (N := 6) hx hb hg in_X8 hown hK hP 0 rfl rfl 3 (by decide) (hg _ g_60) (fun _ h9 => h9) rfl dX8_begin_69 ?_
      refine lv_iconst (v := 1) hx hb dX8_begin_72 (by decide) ?_
      refine lv_iadd hx hb dX8_begin_73 ?_
      refine va_put (D := D) (ci := 9) (v := .int (X.2.2.2.1 + 1)) (ty := .int) (C := RX8) (T := TX8) (N := 6) hx hb hg in_X8 tyX8 tyX8_ok nmX8 hown hK hP hD hS 0 rfl rfl 3 (by decide) (hg _ g_60) (fun _ h9 => h9) rfl (by decide +kernel) rfl rfl (Nat.le_of_ble_eq_true rfl) dX8_begin_74 (fun H locs hP hD hS => ?_)
      have hP : va_P D vwCl (wD g (upd X.1 (0 : Int32).toNatClampNeg ((10 * a) + k), (0 + 1), (if 200 < (X.2.2.1 + 1) then 200 else (X.2.2.1 + 1)), (X.2.2.2.1 + 1), X.2.2.2.2.1, X.2.2.2.2.2)) H := hP
      have hD : va_D A (wD g (upd X.1 (0 : Int32).toNatClampNeg ((10 * a) + k), (0 + 1), (if 200 < (X.2.2.1 + 1) then 200 else (X.2.2.1 + 1)), (X.2.2.2.1 + 1), X.2.2.2.2.1, X.2.2.2.2.2)) := hD
      exact W.vret hx hb hr (fun t9 ht hW => ⟨⟨wD g (upd X.1 (0 : Int32).toNatClampNeg ((10 * a) + k), (0 + 1), (if 200 < (X.2.2.1 + 1) then 200 else (X.2.2.1 + 1)), (X.2.2.2.1 + 1), X.2.2.2.2.1, X.2.2.2.2.2), rfl, by simp only [fX8_beginS, if_neg c_1, if_neg c_2], by rw [ht]; exact hP, va_K.moved hW.alike hK, hD⟩, hS.F ht⟩) hS.2.2 dX8_begin_77

def fX8_latestR (X : DD) (i : Int32) : Int32 := (if i < 0 then (-101) else (if i < X.2.2.1 then (if 0 ≤ ((X.2.1 - 1) - i) then (if ((X.2.1 - 1) - i) < 0 then (-101) else (if 200 ≤ ((X.2.1 - 1) - i) then (-101) else (X.1 ((X.2.1 - 1) - i).toNatClampNeg))) else (if (((X.2.1 - 1) - i) + 200) < 0 then (-101) else (if 200 ≤ (((X.2.1 - 1) - i) + 200) then (-101) else (X.1 (((X.2.1 - 1) - i) + 200).toNatClampNeg)))) else (-101)))
set_option maxHeartbeats 4000000 in
set_option maxRecDepth 100000 in
theorem c_X8_latest (l : Launch) (D : va_G) (g : GA) (X : DD) (i : Int32) : ctI l D (tyA g) yX8_latest (wd yX8_latest cX8_latest 3 (Option.some Jvm.ClassFile.FieldType.int)) { frames := 0, cells := 0, slots := 0, locals := 0 } [.ref g.dn, .int i] (wD g X) (fun r w => r = fX8_latestR X i ∧ w = wD g X) := by
  intro sz
  refine Met.ofW (cc := cX8_latest) (maxL := 3) (ret := (Option.some Jvm.ClassFile.FieldType.int)) (by decide) rfl ?_
  intro p e s m args below meth c s₁ B hml hv
  obtain ⟨rfl, hsz, hP, hK, hD0⟩ := hv
  have hx := B.exec
  have hb := B.bytes
  have hr := B.returns
  have hts := atoms_spec (ws := (wd yX8_latest cX8_latest 3 (Option.some Jvm.ClassFile.FieldType.int))) B.pre
  have hg := Tb.of hts
  have hown : s.vm.findClass RX8 = some m.cls := findClass_of_methodNamed B.named
  have hlocks := B.notSynchronized
  subst hsz
  have hD := hD0.self (sz := s.heap.size)
  generalize hAe : va_A (wD g X) s.heap.size = A at hD ⊢
  have hA : ∀ q : Nat, s.heap.size ≤ q → A q := fun q h => by rw [← hAe]; exact Or.inr h
  have hS : va_S A s.heap s.heap [] := va_S.rf
  have hP : va_P D vwCl (wD g X) s.heap := hP
  have hl := lv_entry ([.ref g.dn, .int i]) (n := 3) (Nat.le_of_ble_eq_true rfl)
  rw [lg_entry_eq]
  generalize (lg_sl ([.ref g.dn, .int i]) ++ List.replicate (3 - (lg_sl ([.ref g.dn, .int i])).length) Slot.unset).toArray = ls at hl ⊢
  have hl : lv_has ls 3 [(0, .ref g.dn), (1, .int i)] := hl
  refine lv_iload_n hx hb dX8_latest_0 rfl (lv_at hl 1 rfl) ?_
  refine lv_if_lt (tgt := 12) hx hb dX8_latest_1 (by decide) (fun c_1 => ?_) (fun c_1 => ?_)
  · -- i < 0
    refine lv_bipush (v := (-101)) hx hb dX8_latest_12 (by decide) ?_
    exact W.iret (v := (-101)) hx hb hr (fun t9 ht hW => ⟨⟨(-101), wD g X, rfl, ⟨by simp only [fX8_latestR, if_pos c_1], rfl⟩, by rw [ht]; exact hP, va_K.moved hW.alike hK, hD⟩, hS.F ht⟩) hS.2.2 dX8_latest_14
  · -- not i < 0
    refine lv_iload_n hx hb dX8_latest_4 rfl (lv_at hl 1 rfl) ?_
    refine lv_aload_n hx hb dX8_latest_5 rfl (lv_at hl 0 rfl) ?_
    refine va_get (D := D) (ci := 9) (v := .int X.2.2.1) (C := RX8) (T := TX8) (N := 6) hx hb hg in_X8 hown hK hP 0 rfl rfl 2 (by decide) (hg _ g_59) (fun _ h9 => h9) rfl dX8_latest_6 ?_
    refine lv_icmp_lt (tgt := 15) hx hb dX8_latest_9 (by decide) (fun c_2 => ?_) (fun c_2 => ?_)
    · -- i < X.2.2.1
      refine lv_aload_n hx hb dX8_latest_15 rfl (lv_at hl 0 rfl) ?_
      refine va_get (D := D) (ci := 9) (v := .int X.2.1) (C := RX8) (T := TX8) (N := 6) hx hb hg in_X8 hown hK hP 0 rfl rfl 1 (by decide) (hg _ g_58) (fun _ h9 => h9) rfl dX8_latest_16 ?_
      refine lv_iconst (v := 1) hx hb dX8_latest_19 (by decide) ?_
      refine lv_isub hx hb dX8_latest_20 ?_
      refine lv_iload_n hx hb dX8_latest_21 rfl (lv_at hl 1 rfl) ?_
      refine lv_isub hx hb dX8_latest_22 ?_
      refine lv_istore_n (lv' := [(2, .int ((X.2.1 - 1) - i)), (0, .ref g.dn), (1, .int i)]) hx hb dX8_latest_23 rfl hl (by decide) rfl (fun ls hl => ?_)
      refine lv_iload_n hx hb dX8_latest_24 rfl (lv_at hl 0 rfl) ?_
      refine lv_if_ge (tgt := 36) hx hb dX8_latest_25 (by decide) (fun c_3 => ?_) (fun c_3 => ?_)
      · -- 0 ≤ ((X.2.1 - 1) - i)
        refine lv_iload_n hx hb dX8_latest_36 rfl (lv_at hl 0 rfl) ?_
        refine lv_if_lt (tgt := 58) hx hb dX8_latest_37 (by decide) (fun c_4 => ?_) (fun c_4 => ?_)
        · -- ((X.2.1 - 1) - i) < 0
          refine lv_bipush (v := (-101)) hx hb dX8_latest_58 (by decide) ?_
          exact W.iret (v := (-101)) hx hb hr (fun t9 ht hW => ⟨⟨(-101), wD g X, rfl, ⟨by simp only [fX8_latestR, if_neg c_1, if_pos c_2, if_pos c_3, if_pos c_4], rfl⟩, by rw [ht]; exact hP, va_K.moved hW.alike hK, hD⟩, hS.F ht⟩) hS.2.2 dX8_latest_60
        · -- not ((X.2.1 - 1) - i) < 0
          refine lv_iload_n hx hb dX8_latest_40 rfl (lv_at hl 0 rfl) ?_
          refine lv_aload_n hx hb dX8_latest_41 rfl (lv_at hl 1 rfl) ?_
          refine va_get (D := D) (ci := 9) (v := .ref g.rg) (C := RX8) (T := TX8) (N := 6) hx hb hg in_X8 hown hK hP 0 rfl rfl 0 (by decide) (hg _ g_57) (fun _ h9 => h9) rfl dX8_latest_42 ?_
          refine va_alen hx hb hK hP 1 0 rfl rfl (v := 200) rfl dX8_latest_45 ?_
          refine lv_icmp_ge (tgt := 58) hx hb dX8_latest_46 (by decide) (fun c_5 => ?_) (fun c_5 => ?_)
          · -- 200 ≤ ((X.2.1 - 1) - i)
            refine lv_bipush (v := (-101)) hx hb dX8_latest_58 (by decide) ?_
            exact W.iret (v := (-101)) hx hb hr (fun t9 ht hW => ⟨⟨(-101), wD g X, rfl, ⟨by simp only [fX8_latestR, if_neg c_1, if_pos c_2, if_pos c_3, if_neg c_4, if_pos c_5], rfl⟩, by rw [ht]; exact hP, va_K.moved hW.alike hK, hD⟩, hS.F ht⟩) hS.2.2 dX8_latest_60
          · -- not 200 ≤ ((X.2.1 - 1) - i)
            refine lv_aload_n hx hb dX8_latest_49 rfl (lv_at hl 1 rfl) ?_
            refine va_get (D := D) (ci := 9) (v := .ref g.rg) (C := RX8) (T := TX8) (N := 6) hx hb hg in_X8 hown hK hP 0 rfl rfl 0 (by decide) (hg _ g_57) (fun _ h9 => h9) rfl dX8_latest_50 ?_
            refine lv_iload_n hx hb dX8_latest_53 rfl (lv_at hl 0 rfl) ?_
            refine va_iald hx hb hK hP 1 0 rfl rfl (in_nle (v := 200) (by decide) c_4 c_5) dX8_latest_54 ?_
            refine lv_goto (tgt := 60) hx hb dX8_latest_55 (by decide) ?_
            exact W.iret (v := (X.1 ((X.2.1 - 1) - i).toNatClampNeg)) hx hb hr (fun t9 ht hW => ⟨⟨(X.1 ((X.2.1 - 1) - i).toNatClampNeg), wD g X, rfl, ⟨by simp only [fX8_latestR, if_neg c_1, if_pos c_2, if_pos c_3, if_neg c_4, if_neg c_5], rfl⟩, by rw [ht]; exact hP, va_K.moved hW.alike hK, hD⟩, hS.F ht⟩) hS.2.2 dX8_latest_60
      · -- not 0 ≤ ((X.2.1 - 1) - i)
        refine lv_iload_n hx hb dX8_latest_28 rfl (lv_at hl 0 rfl) ?_
        refine lv_aload_n hx hb dX8_latest_29 rfl (lv_at hl 1 rfl) ?_
        refine va_get (D := D) (ci := 9) (v := .ref g.rg) (C := RX8) (T := TX8) (N := 6) hx hb hg in_X8 hown hK hP 0 rfl rfl 0 (by decide) (hg _ g_57) (fun _ h9 => h9) rfl dX8_latest_30 ?_
        refine va_alen hx hb hK hP 1 0 rfl rfl (v := 200) rfl dX8_latest_33 ?_
        refine lv_iadd hx hb dX8_latest_34 ?_
        refine lv_istore_n (lv' := [(2, .int (((X.2.1 - 1) - i) + 200)), (0, .ref g.dn), (1, .int i)]) hx hb dX8_latest_35 rfl hl (by decide) rfl (fun ls hl => ?_)
        refine lv_iload_n hx hb dX8_latest_36 rfl (lv_at hl 0 rfl) ?_
        refine lv_if_lt (tgt := 58) hx hb dX8_latest_37 (by decide) (fun c_6 => ?_) (fun c_6 => ?_)
        · -- (((X.2.1 - 1) - i) + 200) < 0
          refine lv_bipush (v := (-101)) hx hb dX8_latest_58 (by decide) ?_
          exact W.iret (v := (-101)) hx hb hr (fun t9 ht hW => ⟨⟨(-101), wD g X, rfl, ⟨by simp only [fX8_latestR, if_neg c_1, if_pos c_2, if_neg c_3, if_pos c_6], rfl⟩, by rw [ht]; exact hP, va_K.moved hW.alike hK, hD⟩, hS.F ht⟩) hS.2.2 dX8_latest_60
        · -- not (((X.2.1 - 1) - i) + 200) < 0
          refine lv_iload_n hx hb dX8_latest_40 rfl (lv_at hl 0 rfl) ?_
          refine lv_aload_n hx hb dX8_latest_41 rfl (lv_at hl 1 rfl) ?_
          refine va_get (D := D) (ci := 9) (v := .ref g.rg) (C := RX8) (T := TX8) (N := 6) hx hb hg in_X8 hown hK hP 0 rfl rfl 0 (by decide) (hg _ g_57) (fun _ h9 => h9) rfl dX8_latest_42 ?_
          refine va_alen hx hb hK hP 1 0 rfl rfl (v := 200) rfl dX8_latest_45 ?_
          refine lv_icmp_ge (tgt := 58) hx hb dX8_latest_46 (by decide) (fun c_7 => ?_) (fun c_7 => ?_)
          · -- 200 ≤ (((X.2.1 - 1) - i) + 200)
            refine lv_bipush (v := (-101)) hx hb dX8_latest_58 (by decide) ?_
            exact W.iret (v := (-101)) hx hb hr (fun t9 ht hW => ⟨⟨(-101), wD g X, rfl, ⟨by simp only [fX8_latestR, if_neg c_1, if_pos c_2, if_neg c_3, if_neg c_6, if_pos c_7], rfl⟩, by rw [ht]; exact hP, va_K.moved hW.alike hK, hD⟩, hS.F ht⟩) hS.2.2 dX8_latest_60
          · -- not 200 ≤ (((X.2.1 - 1) - i) + 200)
            refine lv_aload_n hx hb dX8_latest_49 rfl (lv_at hl 1 rfl) ?_
            refine va_get (D := D) (ci := 9) (v := .ref g.rg) (C := RX8) (T := TX8) (N := 6) hx hb hg in_X8 hown hK hP 0 rfl rfl 0 (by decide) (hg _ g_57) (fun _ h9 => h9) rfl dX8_latest_50 ?_
            refine lv_iload_n hx hb dX8_latest_53 rfl (lv_at hl 0 rfl) ?_
            refine va_iald hx hb hK hP 1 0 rfl rfl (in_nle (v := 200) (by decide) c_6 c_7) dX8_latest_54 ?_
            refine lv_goto (tgt := 60) hx hb dX8_latest_55 (by decide) ?_
            exact W.iret (v := (X.1 (((X.2.1 - 1) - i) + 200).toNatClampNeg)) hx hb hr (fun t9 ht hW => ⟨⟨(X.1 (((X.2.1 - 1) - i) + 200).toNatClampNeg), wD g X, rfl, ⟨by simp only [fX8_latestR, if_neg c_1, if_pos c_2, if_neg c_3, if_neg c_6, if_neg c_7], rfl⟩, by rw [ht]; exact hP, va_K.moved hW.alike hK, hD⟩, hS.F ht⟩) hS.2.2 dX8_latest_60
    · -- not i < X.2.2.1
      refine lv_bipush (v := (-101)) hx hb dX8_latest_12 (by decide) ?_
      exact W.iret (v := (-101)) hx hb hr (fun t9 ht hW => ⟨⟨(-101), wD g X, rfl, ⟨by simp only [fX8_latestR, if_neg c_1, if_neg c_2], rfl⟩, by rw [ht]; exact hP, va_K.moved hW.alike hK, hD⟩, hS.F ht⟩) hS.2.2 dX8_latest_14

def fX8_countHeavyS (X : DD)  : DD := (X.1, X.2.1, X.2.2.1, X.2.2.2.1, (X.2.2.2.2.1 + 1), X.2.2.2.2.2)
set_option maxHeartbeats 4000000 in
set_option maxRecDepth 100000 in
theorem c_X8_countHeavy (l : Launch) (D : va_G) (g : GA) (X : DD)  : ctV l D (tyA g) yX8_countHeavy (wd yX8_countHeavy cX8_countHeavy 1 (Option.none : Option Jvm.ClassFile.FieldType)) { frames := 0, cells := 0, slots := 0, locals := 0 } [.ref g.dn] (wD g X) (fun w => w = wD g (fX8_countHeavyS X)) := by
  intro sz
  refine Met.ofW (cc := cX8_countHeavy) (maxL := 1) (ret := (Option.none : Option Jvm.ClassFile.FieldType)) (by decide) rfl ?_
  intro p e s m args below meth c s₁ B hml hv
  obtain ⟨rfl, hsz, hP, hK, hD0⟩ := hv
  have hx := B.exec
  have hb := B.bytes
  have hr := B.returns
  have hts := atoms_spec (ws := (wd yX8_countHeavy cX8_countHeavy 1 (Option.none : Option Jvm.ClassFile.FieldType))) B.pre
  have hg := Tb.of hts
  have hown : s.vm.findClass RX8 = some m.cls := findClass_of_methodNamed B.named
  have hlocks := B.notSynchronized
  subst hsz
  have hD := hD0.self (sz := s.heap.size)
  generalize hAe : va_A (wD g X) s.heap.size = A at hD ⊢
  have hA : ∀ q : Nat, s.heap.size ≤ q → A q := fun q h => by rw [← hAe]; exact Or.inr h
  have hS : va_S A s.heap s.heap [] := va_S.rf
  have hP : va_P D vwCl (wD g X) s.heap := hP
  have hl := lv_entry ([.ref g.dn]) (n := 1) (Nat.le_of_ble_eq_true rfl)
  rw [lg_entry_eq]
  generalize (lg_sl ([.ref g.dn]) ++ List.replicate (1 - (lg_sl ([.ref g.dn])).length) Slot.unset).toArray = ls at hl ⊢
  have hl : lv_has ls 1 [(0, .ref g.dn)] := hl
  refine lv_aload_n hx hb dX8_countHeavy_0 rfl (lv_at hl 0 rfl) ?_
  refine lv_dup hx hb dX8_countHeavy_1 rfl ?_
  refine va_get (D := D) (ci := 9) (v := .int X.2.2.2.2.1) (C := RX8) (T := TX8) (N := 6) hx hb hg in_X8 hown hK hP 0 rfl rfl 4 (by decide) (hg _ g_61) (fun _ h9 => h9) rfl dX8_countHeavy_2 ?_
  refine lv_iconst (v := 1) hx hb dX8_countHeavy_5 (by decide) ?_
  refine lv_iadd hx hb dX8_countHeavy_6 ?_
  refine va_put (D := D) (ci := 9) (v := .int (X.2.2.2.2.1 + 1)) (ty := .int) (C := RX8) (T := TX8) (N := 6) hx hb hg in_X8 tyX8 tyX8_ok nmX8 hown hK hP hD hS 0 rfl rfl 4 (by decide) (hg _ g_61) (fun _ h9 => h9) rfl (by decide +kernel) rfl rfl (Nat.le_of_ble_eq_true rfl) dX8_countHeavy_7 (fun H locs hP hD hS => ?_)
  have hP : va_P D vwCl (wD g (X.1, X.2.1, X.2.2.1, X.2.2.2.1, (X.2.2.2.2.1 + 1), X.2.2.2.2.2)) H := hP
  have hD : va_D A (wD g (X.1, X.2.1, X.2.2.1, X.2.2.2.1, (X.2.2.2.2.1 + 1), X.2.2.2.2.2)) := hD
  exact W.vret hx hb hr (fun t9 ht hW => ⟨⟨wD g (X.1, X.2.1, X.2.2.1, X.2.2.2.1, (X.2.2.2.2.1 + 1), X.2.2.2.2.2), rfl, rfl, by rw [ht]; exact hP, va_K.moved hW.alike hK, hD⟩, hS.F ht⟩) hS.2.2 dX8_countHeavy_10

def fX8_countNothingS (X : DD)  : DD := (X.1, X.2.1, X.2.2.1, X.2.2.2.1, X.2.2.2.2.1, (X.2.2.2.2.2 + 1))
set_option maxHeartbeats 4000000 in
set_option maxRecDepth 100000 in
theorem c_X8_countNothing (l : Launch) (D : va_G) (g : GA) (X : DD)  : ctV l D (tyA g) yX8_countNothing (wd yX8_countNothing cX8_countNothing 1 (Option.none : Option Jvm.ClassFile.FieldType)) { frames := 0, cells := 0, slots := 0, locals := 0 } [.ref g.dn] (wD g X) (fun w => w = wD g (fX8_countNothingS X)) := by
  intro sz
  refine Met.ofW (cc := cX8_countNothing) (maxL := 1) (ret := (Option.none : Option Jvm.ClassFile.FieldType)) (by decide) rfl ?_
  intro p e s m args below meth c s₁ B hml hv
  obtain ⟨rfl, hsz, hP, hK, hD0⟩ := hv
  have hx := B.exec
  have hb := B.bytes
  have hr := B.returns
  have hts := atoms_spec (ws := (wd yX8_countNothing cX8_countNothing 1 (Option.none : Option Jvm.ClassFile.FieldType))) B.pre
  have hg := Tb.of hts
  have hown : s.vm.findClass RX8 = some m.cls := findClass_of_methodNamed B.named
  have hlocks := B.notSynchronized
  subst hsz
  have hD := hD0.self (sz := s.heap.size)
  generalize hAe : va_A (wD g X) s.heap.size = A at hD ⊢
  have hA : ∀ q : Nat, s.heap.size ≤ q → A q := fun q h => by rw [← hAe]; exact Or.inr h
  have hS : va_S A s.heap s.heap [] := va_S.rf
  have hP : va_P D vwCl (wD g X) s.heap := hP
  have hl := lv_entry ([.ref g.dn]) (n := 1) (Nat.le_of_ble_eq_true rfl)
  rw [lg_entry_eq]
  generalize (lg_sl ([.ref g.dn]) ++ List.replicate (1 - (lg_sl ([.ref g.dn])).length) Slot.unset).toArray = ls at hl ⊢
  have hl : lv_has ls 1 [(0, .ref g.dn)] := hl
  refine lv_aload_n hx hb dX8_countNothing_0 rfl (lv_at hl 0 rfl) ?_
  refine lv_dup hx hb dX8_countNothing_1 rfl ?_
  refine va_get (D := D) (ci := 9) (v := .int X.2.2.2.2.2) (C := RX8) (T := TX8) (N := 6) hx hb hg in_X8 hown hK hP 0 rfl rfl 5 (by decide) (hg _ g_62) (fun _ h9 => h9) rfl dX8_countNothing_2 ?_
  refine lv_iconst (v := 1) hx hb dX8_countNothing_5 (by decide) ?_
  refine lv_iadd hx hb dX8_countNothing_6 ?_
  refine va_put (D := D) (ci := 9) (v := .int (X.2.2.2.2.2 + 1)) (ty := .int) (C := RX8) (T := TX8) (N := 6) hx hb hg in_X8 tyX8 tyX8_ok nmX8 hown hK hP hD hS 0 rfl rfl 5 (by decide) (hg _ g_62) (fun _ h9 => h9) rfl (by decide +kernel) rfl rfl (Nat.le_of_ble_eq_true rfl) dX8_countNothing_7 (fun H locs hP hD hS => ?_)
  have hP : va_P D vwCl (wD g (X.1, X.2.1, X.2.2.1, X.2.2.2.1, X.2.2.2.2.1, (X.2.2.2.2.2 + 1))) H := hP
  have hD : va_D A (wD g (X.1, X.2.1, X.2.2.1, X.2.2.2.1, X.2.2.2.2.1, (X.2.2.2.2.2 + 1))) := hD
  exact W.vret hx hb hr (fun t9 ht hW => ⟨⟨wD g (X.1, X.2.1, X.2.2.1, X.2.2.2.1, X.2.2.2.2.1, (X.2.2.2.2.2 + 1)), rfl, rfl, by rw [ht]; exact hP, va_K.moved hW.alike hK, hD⟩, hS.F ht⟩) hS.2.2 dX8_countNothing_10

def fX8_rulesEverR (X : DD)  : Int32 := X.2.2.2.1
set_option maxHeartbeats 4000000 in
set_option maxRecDepth 100000 in
theorem c_X8_rulesEver (l : Launch) (D : va_G) (g : GA) (X : DD)  : ctI l D (tyA g) yX8_rulesEver (wd yX8_rulesEver cX8_rulesEver 1 (Option.some Jvm.ClassFile.FieldType.int)) { frames := 0, cells := 0, slots := 0, locals := 0 } [.ref g.dn] (wD g X) (fun r w => r = fX8_rulesEverR X ∧ w = wD g X) := by
  intro sz
  refine Met.ofW (cc := cX8_rulesEver) (maxL := 1) (ret := (Option.some Jvm.ClassFile.FieldType.int)) (by decide) rfl ?_
  intro p e s m args below meth c s₁ B hml hv
  obtain ⟨rfl, hsz, hP, hK, hD0⟩ := hv
  have hx := B.exec
  have hb := B.bytes
  have hr := B.returns
  have hts := atoms_spec (ws := (wd yX8_rulesEver cX8_rulesEver 1 (Option.some Jvm.ClassFile.FieldType.int))) B.pre
  have hg := Tb.of hts
  have hown : s.vm.findClass RX8 = some m.cls := findClass_of_methodNamed B.named
  have hlocks := B.notSynchronized
  subst hsz
  have hD := hD0.self (sz := s.heap.size)
  generalize hAe : va_A (wD g X) s.heap.size = A at hD ⊢
  have hA : ∀ q : Nat, s.heap.size ≤ q → A q := fun q h => by rw [← hAe]; exact Or.inr h
  have hS : va_S A s.heap s.heap [] := va_S.rf
  have hP : va_P D vwCl (wD g X) s.heap := hP
  have hl := lv_entry ([.ref g.dn]) (n := 1) (Nat.le_of_ble_eq_true rfl)
  rw [lg_entry_eq]
  generalize (lg_sl ([.ref g.dn]) ++ List.replicate (1 - (lg_sl ([.ref g.dn])).length) Slot.unset).toArray = ls at hl ⊢
  have hl : lv_has ls 1 [(0, .ref g.dn)] := hl
  refine lv_aload_n hx hb dX8_rulesEver_0 rfl (lv_at hl 0 rfl) ?_
  refine va_get (D := D) (ci := 9) (v := .int X.2.2.2.1) (C := RX8) (T := TX8) (N := 6) hx hb hg in_X8 hown hK hP 0 rfl rfl 3 (by decide) (hg _ g_60) (fun _ h9 => h9) rfl dX8_rulesEver_1 ?_
  exact W.iret (v := X.2.2.2.1) hx hb hr (fun t9 ht hW => ⟨⟨X.2.2.2.1, wD g X, rfl, ⟨rfl, rfl⟩, by rw [ht]; exact hP, va_K.moved hW.alike hK, hD⟩, hS.F ht⟩) hS.2.2 dX8_rulesEver_4

def fX8_heavyEverR (X : DD)  : Int32 := X.2.2.2.2.1
set_option maxHeartbeats 4000000 in
set_option maxRecDepth 100000 in
theorem c_X8_heavyEver (l : Launch) (D : va_G) (g : GA) (X : DD)  : ctI l D (tyA g) yX8_heavyEver (wd yX8_heavyEver cX8_heavyEver 1 (Option.some Jvm.ClassFile.FieldType.int)) { frames := 0, cells := 0, slots := 0, locals := 0 } [.ref g.dn] (wD g X) (fun r w => r = fX8_heavyEverR X ∧ w = wD g X) := by
  intro sz
  refine Met.ofW (cc := cX8_heavyEver) (maxL := 1) (ret := (Option.some Jvm.ClassFile.FieldType.int)) (by decide) rfl ?_
  intro p e s m args below meth c s₁ B hml hv
  obtain ⟨rfl, hsz, hP, hK, hD0⟩ := hv
  have hx := B.exec
  have hb := B.bytes
  have hr := B.returns
  have hts := atoms_spec (ws := (wd yX8_heavyEver cX8_heavyEver 1 (Option.some Jvm.ClassFile.FieldType.int))) B.pre
  have hg := Tb.of hts
  have hown : s.vm.findClass RX8 = some m.cls := findClass_of_methodNamed B.named
  have hlocks := B.notSynchronized
  subst hsz
  have hD := hD0.self (sz := s.heap.size)
  generalize hAe : va_A (wD g X) s.heap.size = A at hD ⊢
  have hA : ∀ q : Nat, s.heap.size ≤ q → A q := fun q h => by rw [← hAe]; exact Or.inr h
  have hS : va_S A s.heap s.heap [] := va_S.rf
  have hP : va_P D vwCl (wD g X) s.heap := hP
  have hl := lv_entry ([.ref g.dn]) (n := 1) (Nat.le_of_ble_eq_true rfl)
  rw [lg_entry_eq]
  generalize (lg_sl ([.ref g.dn]) ++ List.replicate (1 - (lg_sl ([.ref g.dn])).length) Slot.unset).toArray = ls at hl ⊢
  have hl : lv_has ls 1 [(0, .ref g.dn)] := hl
  refine lv_aload_n hx hb dX8_heavyEver_0 rfl (lv_at hl 0 rfl) ?_
  refine va_get (D := D) (ci := 9) (v := .int X.2.2.2.2.1) (C := RX8) (T := TX8) (N := 6) hx hb hg in_X8 hown hK hP 0 rfl rfl 4 (by decide) (hg _ g_61) (fun _ h9 => h9) rfl dX8_heavyEver_1 ?_
  exact W.iret (v := X.2.2.2.2.1) hx hb hr (fun t9 ht hW => ⟨⟨X.2.2.2.2.1, wD g X, rfl, ⟨rfl, rfl⟩, by rw [ht]; exact hP, va_K.moved hW.alike hK, hD⟩, hS.F ht⟩) hS.2.2 dX8_heavyEver_4

def fX8_nothingEverR (X : DD)  : Int32 := X.2.2.2.2.2
set_option maxHeartbeats 4000000 in
set_option maxRecDepth 100000 in
theorem c_X8_nothingEver (l : Launch) (D : va_G) (g : GA) (X : DD)  : ctI l D (tyA g) yX8_nothingEver (wd yX8_nothingEver cX8_nothingEver 1 (Option.some Jvm.ClassFile.FieldType.int)) { frames := 0, cells := 0, slots := 0, locals := 0 } [.ref g.dn] (wD g X) (fun r w => r = fX8_nothingEverR X ∧ w = wD g X) := by
  intro sz
  refine Met.ofW (cc := cX8_nothingEver) (maxL := 1) (ret := (Option.some Jvm.ClassFile.FieldType.int)) (by decide) rfl ?_
  intro p e s m args below meth c s₁ B hml hv
  obtain ⟨rfl, hsz, hP, hK, hD0⟩ := hv
  have hx := B.exec
  have hb := B.bytes
  have hr := B.returns
  have hts := atoms_spec (ws := (wd yX8_nothingEver cX8_nothingEver 1 (Option.some Jvm.ClassFile.FieldType.int))) B.pre
  have hg := Tb.of hts
  have hown : s.vm.findClass RX8 = some m.cls := findClass_of_methodNamed B.named
  have hlocks := B.notSynchronized
  subst hsz
  have hD := hD0.self (sz := s.heap.size)
  generalize hAe : va_A (wD g X) s.heap.size = A at hD ⊢
  have hA : ∀ q : Nat, s.heap.size ≤ q → A q := fun q h => by rw [← hAe]; exact Or.inr h
  have hS : va_S A s.heap s.heap [] := va_S.rf
  have hP : va_P D vwCl (wD g X) s.heap := hP
  have hl := lv_entry ([.ref g.dn]) (n := 1) (Nat.le_of_ble_eq_true rfl)
  rw [lg_entry_eq]
  generalize (lg_sl ([.ref g.dn]) ++ List.replicate (1 - (lg_sl ([.ref g.dn])).length) Slot.unset).toArray = ls at hl ⊢
  have hl : lv_has ls 1 [(0, .ref g.dn)] := hl
  refine lv_aload_n hx hb dX8_nothingEver_0 rfl (lv_at hl 0 rfl) ?_
  refine va_get (D := D) (ci := 9) (v := .int X.2.2.2.2.2) (C := RX8) (T := TX8) (N := 6) hx hb hg in_X8 hown hK hP 0 rfl rfl 5 (by decide) (hg _ g_62) (fun _ h9 => h9) rfl dX8_nothingEver_1 ?_
  exact W.iret (v := X.2.2.2.2.2) hx hb hr (fun t9 ht hW => ⟨⟨X.2.2.2.2.2, wD g X, rfl, ⟨rfl, rfl⟩, by rw [ht]; exact hP, va_K.moved hW.alike hK, hD⟩, hS.F ht⟩) hS.2.2 dX8_nothingEver_4
end
section
/-! calls on a pile: its class is one of eight -/
def vn (ci : Nat) : String := ((vwCl[ci]?).map (fun q => q.1)).getD ""
def pkAll (ci : Nat) : Prop := ci = 1 ∨ ci = 2 ∨ ci = 3 ∨ ci = 4 ∨ ci = 5 ∨ ci = 6 ∨ ci = 7 ∨ ci = 10
def pkMa (ci : Nat) : Prop := ci = 1 ∨ ci = 2 ∨ ci = 3 ∨ ci = 4 ∨ ci = 6 ∨ ci = 7 ∨ ci = 10
def pkSo (ci : Nat) : Prop := ci = 1 ∨ ci = 4 ∨ ci = 6
def pkSt (ci : Nat) : Prop := ci = 2 ∨ ci = 7 ∨ ci = 10
def pkDr (ci : Nat) : Prop := ci = 1 ∨ ci = 4
def pkTw (ci : Nat) : Prop := ci = 2 ∨ ci = 10
def pkOp (ci : Nat) : Prop := ci = 4
def pkLe (ci : Nat) : Prop := ci = 2
theorem pkMa_pkAll {ci : Nat} (h : pkMa ci) : pkAll ci := by
  rcases h with rfl | rfl | rfl | rfl | rfl | rfl | rfl <;> simp [pkAll]
theorem pkSo_pkMa {ci : Nat} (h : pkSo ci) : pkMa ci := by
  rcases h with rfl | rfl | rfl <;> simp [pkMa]
theorem pkSo_pkAll {ci : Nat} (h : pkSo ci) : pkAll ci := by
  rcases h with rfl | rfl | rfl <;> simp [pkAll]
theorem pkSt_pkMa {ci : Nat} (h : pkSt ci) : pkMa ci := by
  rcases h with rfl | rfl | rfl <;> simp [pkMa]
theorem pkSt_pkAll {ci : Nat} (h : pkSt ci) : pkAll ci := by
  rcases h with rfl | rfl | rfl <;> simp [pkAll]
theorem pkDr_pkMa {ci : Nat} (h : pkDr ci) : pkMa ci := by
  rcases h with rfl | rfl <;> simp [pkMa]
theorem pkDr_pkSo {ci : Nat} (h : pkDr ci) : pkSo ci := by
  rcases h with rfl | rfl <;> simp [pkSo]
theorem pkDr_pkAll {ci : Nat} (h : pkDr ci) : pkAll ci := by
  rcases h with rfl | rfl <;> simp [pkAll]
theorem pkTw_pkMa {ci : Nat} (h : pkTw ci) : pkMa ci := by
  rcases h with rfl | rfl <;> simp [pkMa]
theorem pkTw_pkSt {ci : Nat} (h : pkTw ci) : pkSt ci := by
  rcases h with rfl | rfl <;> simp [pkSt]
theorem pkTw_pkAll {ci : Nat} (h : pkTw ci) : pkAll ci := by
  rcases h with rfl | rfl <;> simp [pkAll]
theorem pkOp_pkMa {ci : Nat} (h : pkOp ci) : pkMa ci := by
  rcases h with rfl <;> simp [pkMa]
theorem pkOp_pkSo {ci : Nat} (h : pkOp ci) : pkSo ci := by
  rcases h with rfl <;> simp [pkSo]
theorem pkOp_pkDr {ci : Nat} (h : pkOp ci) : pkDr ci := by
  rcases h with rfl <;> simp [pkDr]
theorem pkOp_pkAll {ci : Nat} (h : pkOp ci) : pkAll ci := by
  rcases h with rfl <;> simp [pkAll]
theorem pkLe_pkMa {ci : Nat} (h : pkLe ci) : pkMa ci := by
  rcases h with rfl <;> simp [pkMa]
theorem pkLe_pkSt {ci : Nat} (h : pkLe ci) : pkSt ci := by
  rcases h with rfl <;> simp [pkSt]
theorem pkLe_pkTw {ci : Nat} (h : pkLe ci) : pkTw ci := by
  rcases h with rfl <;> simp [pkTw]
theorem pkLe_pkAll {ci : Nat} (h : pkLe ci) : pkAll ci := by
  rcases h with rfl <;> simp [pkAll]
theorem pq_cl {ci : Nat} (h : pkAll ci) : vwCl[ci]? = some (vn ci, TX4, 7) := by
  rcases h with rfl | rfl | rfl | rfl | rfl | rfl | rfl | rfl <;> rfl
theorem pq_in {ci : Nat} (h : pkAll ci) : ∀ w ∈ u_ws (vn ci) TX4 7, w ∈ GW := by
  rcases h with rfl | rfl | rfl | rfl | rfl | rfl | rfl | rfl
  · exact in_X0
  · exact in_X1
  · exact in_X2
  · exact in_X3
  · exact in_X4
  · exact in_X5
  · exact in_X6
  · exact in_X9
theorem two_lt {n a b : Nat} (h1 : a < n) (h2 : b < n) (h : a ≠ b) : ∃ k, n = k + 2 := ⟨n - 2, by omega⟩
theorem three_lt {n a b c : Nat} (h1 : a < n) (h2 : b < n) (h3 : c < n) (h : a ≠ b) (h' : a ≠ c) (h'' : b ≠ c) : ∃ k, n = k + 3 := ⟨n - 3, by omega⟩
section ZC
variable {p : Program} {l : Launch} {e : Env} {R : Room} {s : State} {m : MethodId} {args : Array Value} {below : List Frame} {meth : Method} {c : Code} {H : Heap} {locs : List Loc} {cells slots : Nat}
variable {y x y0 : MethodName} {bytes b0 b1 cc : ByteArray} {maxL n0 n1 nL n index : Nat} {ret r0 r1 : Option FieldType} {rm : Room} {own C owner : String}
theorem z_St (n : Nat) (hts : ∀ w ∈ wd y0 b0 n0 r0, w.before args s = true) (hc : Cond.code y bytes maxL ret ∈ GW) (hini : Cond.initialized y.cls ∈ GW) (hl : Cond.methodLink own index y ∈ GW) (hs : Cond.static y ∈ GW)
    (hd : y.cls ≠ "java/lang/invoke/MethodHandle" ∧ y.cls ≠ "java/lang/invoke/VarHandle" ∧ (parseMethodDescriptor y.desc).map (fun d => d.parameters.length) = some n) (hR : rm.frames + 1 ≤ R.frames ∧ 8 + (maxL + 11) + rm.locals ≤ R.locals) :
    CallB R s args own index y bytes maxL ret (wd y bytes maxL ret) rm rm.cells rm.slots n ∧ (Cond.static y).before args s = true :=
  ⟨z_B n hts hc hini hl hd hR, hts _ (List.mem_cons_of_mem _ hs)⟩
/-- a method named through a class that may only inherit it; the receiver's class selects y -/
theorem z_U (n : Nat) (hts : ∀ w ∈ wd y0 b0 n0 r0, w.before args s = true) (hc : Cond.code y bytes maxL ret ∈ GW) (hini : Cond.initialized y.cls ∈ GW) (hl : Cond.methodLink own index x ∈ GW) (hsm : Cond.sameMethod x.cls owner x.name x.desc ∈ GW)
    (hdi : Cond.instanceMethod ⟨owner, x.name, x.desc⟩ ∈ GW) (hdc : Cond.code ⟨owner, x.name, x.desc⟩ b1 n1 r1 ∈ GW) (hs : Cond.selects C x y ∈ GW) (hi : Cond.instanceMethod y ∈ GW)
    (hd : owner ≠ "java/lang/invoke/MethodHandle" ∧ owner ≠ "java/lang/invoke/VarHandle" ∧ (parseMethodDescriptor x.desc).map (fun d => d.parameters.length) = some n) (hR : rm.frames + 1 ≤ R.frames ∧ 8 + (maxL + 11) + rm.locals ≤ R.locals) :
    va_CU R s args own C owner index x y bytes maxL ret (wd y bytes maxL ret) rm rm.cells rm.slots n := by
  have hg := Tb.of hts
  refine ⟨⟨rfl, rfl, hR.1, hR.2, pay_in hts (wd_good hc), List.mem_cons_self⟩, hg _ hc, hg _ hini, ⟨hd.1, hd.2.1⟩, fun sig h => ?_, hg _ hl, hg _ hsm, va_Decl.of (hg _ hdi) (hg _ hdc), hg _ hs, hg _ hi⟩
  have h2 := hd.2.2
  rw [h] at h2
  exact (Option.some.inj h2).symm
/-- super.m(..), where m may be inherited by the superclass x.cls from owner -/
abbrev z_CSU (R : Room) (s : State) (args : Array Value) (own owner : String) (index : Nat) (x y : MethodName) (bytes : ByteArray) (maxL : Nat) (ret : Option FieldType) (ws : List Cond) (rm : Room) (n : Nat) : Prop :=
  y = ⟨owner, x.name, x.desc⟩ ∧ (rm.frames + 1 ≤ R.frames ∧ 8 + (maxL + 11) + rm.locals ≤ R.locals ∧ (∀ w ∈ ws, ∀ (a' : Array Value) (U : State), s.WarmedH U.vm → w.before a' U = true) ∧ Cond.code y bytes maxL ret ∈ ws) ∧
  (Cond.methodLink own index x).before args s = true ∧ (Cond.sameMethod x.cls owner x.name x.desc).before args s = true ∧ (Cond.superclass own x.cls).before args s = true ∧ (Cond.instanceMethod y).before args s = true ∧ (Cond.initialized y.cls).before args s = true ∧ (Cond.code y bytes maxL ret).before args s = true ∧ x.name ≠ "<init>" ∧ (∀ sig, parseMethodDescriptor x.desc = some sig → n = sig.parameters.length)
theorem z_SU (n : Nat) (hts : ∀ w ∈ wd y0 b0 n0 r0, w.before args s = true) (hc : Cond.code ⟨owner, x.name, x.desc⟩ bytes maxL ret ∈ GW) (hini : Cond.initialized owner ∈ GW) (hl : Cond.methodLink own index x ∈ GW) (hsm : Cond.sameMethod x.cls owner x.name x.desc ∈ GW)
    (hsup : Cond.superclass own x.cls ∈ GW) (hi : Cond.instanceMethod ⟨owner, x.name, x.desc⟩ ∈ GW) (hno : x.name ≠ "<init>")
    (hd : owner ≠ "java/lang/invoke/MethodHandle" ∧ owner ≠ "java/lang/invoke/VarHandle" ∧ (parseMethodDescriptor x.desc).map (fun d => d.parameters.length) = some n) (hR : rm.frames + 1 ≤ R.frames ∧ 8 + (maxL + 11) + rm.locals ≤ R.locals) :
    z_CSU R s args own owner index x ⟨owner, x.name, x.desc⟩ bytes maxL ret (wd ⟨owner, x.name, x.desc⟩ bytes maxL ret) rm n := by
  have hg := Tb.of hts
  refine ⟨rfl, ⟨hR.1, hR.2, pay_in hts (wd_good hc), List.mem_cons_self⟩, hg _ hl, hg _ hsm, hg _ hsup, hg _ hi, hg _ hini, hg _ hc, hno, fun sig h => ?_⟩
  have h2 := hd.2.2
  rw [h] at h2
  exact (Option.some.inj h2).symm
def z_Sub (s : State) (a b : String) : Prop := ∀ ca cb : ClassId, s.vm.findClass a = some ca → s.vm.findClass b = some cb → s.vm.isSubclass ca cb = true
theorem z_runSU {Pc : Array Value → State → Prop} {Qc : Array Value → State → Outcome → State → Prop} {free : Addr → Prop} {Ts : List Cond} {cC : ClassId} {b : Addr} {As rest : List Value} {g : JFrame} {ws : List Cond}
    (hat : ClassAt s C cC) (S : CallFix p m c cc nL s args Ts own) (hM : Met l y ws rm Pc Qc rm.cells rm.slots free) (cw : z_CSU R s args own owner index x y bytes maxL ret ws rm n) (hsub : z_Sub s x.cls owner) (hp : PreV s H C b Pc As)
    (hg : g.method = m) (hn : As.length = n) (hsize : g.locals.size = nL) (hstack : g.stack = As.reverse ++ .ref b :: rest) (hW : 2 * g.monitorRoom + (rest.map fun v => v.category).sum ≤ 8) (hdg : decode cc g.pc = .ok (.invokespecial index, 3)) (hf : cells + rm.cells ≤ R.cells ∧ slots + rm.slots ≤ R.slots) :
    va_Run p l e R s m args below meth c H locs cells slots rm.cells rm.slots g rest (Qc (Value.ref b :: As).toArray) (free) := by
  obtain ⟨hy, ⟨hfr, hlo, hws, hcw⟩, hl1, hl2, hl3, hl4, hini, hcode, hno, hlen⟩ := cw
  have hK : Back l R p e below s args y 3 8 (PreOf R rm.cells rm.slots Pc) (PostOf Qc rm.cells rm.slots free) := back_of (bytes := bytes) (maxL := maxL) (ret := ret) hM hp.1 rfl rfl hfr hlo hws hcw (fun a' U hW => word_at hW (Or.inl (by first | rfl | simp [Cond.onTables, Cond.keeps, Cond.steady])) hini)
  obtain ⟨hx, hb, hml, ho, -⟩ := S
  obtain ⟨-, ⟨cellB, hcB, hoB, hclB⟩, hPc⟩ := hp
  obtain ⟨hfc, kB, hkB, -⟩ := hat
  cases hfc.symm.trans hclB
  intro T hT X
  obtain ⟨mk, methM, hnamed, hmethM, hstM, habM⟩ := Cond.instanceMethod_spec hl4
  obtain ⟨methM', cM, hmethM', -, -, -, -, -, -, hsigM⟩ := Cond.code_spec hnamed hcode
  cases hmethM.symm.trans hmethM'
  obtain ⟨ps, dk, kp, hps, hdk, hkp, hsuper, -, -, hnid⟩ := Cond.superclass_spec ho hl3
  have hn' : s.methodNamed? ⟨owner, x.name, x.desc⟩ = some mk := by rw [← hy]; exact hnamed
  have hmk : s.vm.findClass owner = some mk.cls := findClass_of_methodNamed hn'
  have hsubc : s.vm.isSubclass ps mk.cls = true := hsub _ _ hps hmk
  have hdesc : parseMethodDescriptor x.desc = some methM.sig := by rw [hy] at hsigM; exact hsigM
  obtain ⟨vm₁, X₁, hstep₁⟩ := X.invokespecialUp hx ho hl1 hl2 hn' hmethM hstM habM hno hdk hnid hps hsuper hsubc (a := b) (cell := cellB) (by rw [hT]; exact hcB)
    (fun z h => by rw [h] at hoB; cases hoB) hkB (g := g) hg (argsL := As) (rest := rest) (hn.trans (hlen _ hdesc)) hstack (by rw [hb]; exact hdg)
  obtain ⟨v, ⟨U', l2, c2, s2⟩, X', ⟨g', mk', t, L, e1, e2, hq, h1, hL, h2, h3⟩, hsteps⟩ := hK m meth c ⟨T.setVm vm₁, locs, cells, slots⟩ { g with stack := rest } (.invokespecial index) mk (Value.ref b :: As).toArray X₁ hg (hsize.trans hml.symm) (by rw [hb]; exact hdg) hW (X₁.named hnamed) ⟨hf.1, hf.2, hPc (T.setVm vm₁) hT X₁.warmed⟩
  dsimp only [Pt.U, Pt.locs, Pt.cells, Pt.slots] at X' e1 e2 h1 h2 h3 hsteps
  subst h1; subst h2; subst h3
  exact ⟨v, (T.setVm vm₁).calling g' mk' (Value.ref b :: As).toArray, t, U', L, hT, X', hL, e1, e2, hq, fun target h => hstep₁ _ (by rw [doInvoke_state]; exact hsteps.trans h)⟩
/-- a loop at pc, by a measure n -/
theorem z_loop {Q : State → Prop} {σ : Type} {pc : Nat} (Inv : Nat → σ → Heap → List Loc → Array Slot → Prop) (h0 : ∀ x H locs ls, ¬ Inv 0 x H locs ls)
    (step : ∀ n x H locs ls, Inv (n + 1) x H locs ls → (∀ x' H' locs' ls', Inv n x' H' locs' ls' → W p l e R s m args below meth c H' locs' cells slots Q (F0 m pc ls' [])) → W p l e R s m args below meth c H locs cells slots Q (F0 m pc ls [])) :
    ∀ n x H locs ls, Inv n x H locs ls → W p l e R s m args below meth c H locs cells slots Q (F0 m pc ls []) := by
  intro n
  induction n with
  | zero => intro x H locs ls h; exact absurd h (h0 x H locs ls)
  | succ n ih => intro x H locs ls h; exact step n x H locs ls h (fun x' H' locs' ls' h' => ih x' H' locs' ls' h')
/-- the chain of superclasses, out of the tables' words -/
theorem sb1 {a b : String} (h1 : (Cond.superclass a b).before args s = true) : z_Sub s a b := by
  intro ca cb ha hb
  obtain ⟨p1, k1, -, hp1, hk1, -, hs1, -⟩ := Cond.superclass_spec ha h1
  cases hb.symm.trans hp1
  have hz : ∃ n, s.vm.classes.size = n + 1 := ⟨s.vm.classes.size - 1, by have := (Array.getElem?_eq_some_iff.mp hk1).1; omega⟩
  obtain ⟨n, hz⟩ := hz
  simp [Vm.isSubclass, hz, Vm.isSubclassAux, hk1, hs1]
theorem z_ne {a b : String} {ca cb : ClassId} (h : a ≠ b) (ha : s.vm.findClass a = some ca) (hb : s.vm.findClass b = some cb) : ca ≠ cb := by
  intro e
  subst e
  obtain ⟨k, hk, hn⟩ := Vm.findClass_spec ha
  obtain ⟨k2, hk2, hn2⟩ := Vm.findClass_spec hb
  cases hk.symm.trans hk2
  exact h (hn.symm.trans hn2)
theorem sb2 {a b d : String} (hab : a ≠ b) (h1 : (Cond.superclass a b).before args s = true) (h2 : (Cond.superclass b d).before args s = true) : z_Sub s a d := by
  intro ca cd ha hd
  obtain ⟨p1, k1, k1', hp1, hk1, hk1', hs1, -⟩ := Cond.superclass_spec ha h1
  obtain ⟨p2, k2, -, hp2, hk2, -, hs2, -⟩ := Cond.superclass_spec hp1 h2
  cases hd.symm.trans hp2
  have hne : ¬ (ca : Nat) = p1 := z_ne hab ha hp1
  have l1 := (Array.getElem?_eq_some_iff.mp hk1).1
  have l2 := (Array.getElem?_eq_some_iff.mp hk2).1
  obtain ⟨n, hz⟩ := two_lt l1 l2 hne
  simp [Vm.isSubclass, hz, Vm.isSubclassAux, hk1, hs1, hk2, hs2]
theorem sb3 {a b d f : String} (hab : a ≠ b) (had : a ≠ d) (hbd : b ≠ d) (h1 : (Cond.superclass a b).before args s = true) (h2 : (Cond.superclass b d).before args s = true) (h3 : (Cond.superclass d f).before args s = true) : z_Sub s a f := by
  intro ca cf ha hf
  obtain ⟨p1, k1, k1', hp1, hk1, hk1', hs1, -⟩ := Cond.superclass_spec ha h1
  obtain ⟨p2, k2, -, hp2, hk2, -, hs2, -⟩ := Cond.superclass_spec hp1 h2
  obtain ⟨p3, k3, -, hp3, hk3, -, hs3, -⟩ := Cond.superclass_spec hp2 h3
  cases hf.symm.trans hp3
  have n1 : ¬ (ca : Nat) = p1 := z_ne hab ha hp1
  have n2 : ¬ (ca : Nat) = p2 := z_ne had ha hp2
  have n3 : ¬ (p1 : Nat) = p2 := z_ne hbd hp1 hp2
  have l1 := (Array.getElem?_eq_some_iff.mp hk1).1
  have l2 := (Array.getElem?_eq_some_iff.mp hk2).1
  have l3 := (Array.getElem?_eq_some_iff.mp hk3).1
  obtain ⟨n, hz⟩ := three_lt l1 l2 l3 n1 n2 n3
  simp [Vm.isSubclass, hz, Vm.isSubclassAux, hk1, hs1, hk2, hs2, hk3, hs3]
end ZC
theorem lp_up {a b : Int32} {n : Nat} (h : ¬ b ≤ a) (hn : (b.toInt - a.toInt).toNat < n + 1) : (b.toInt - (a + 1).toInt).toNat < n := by
  rw [Int32.le_iff_toInt_le] at h
  have h1 := Int32.toInt_lt b
  have h2 := Int32.le_toInt a
  have e : (a + 1).toInt = a.toInt + 1 := by
    rw [Int32.toInt_add, show (1 : Int32).toInt = 1 from rfl]
    exact Int.bmod_eq_of_le (by omega) (by omega)
  rw [e]
  omega
theorem lp_st (b : Int32) : (b.toInt - (0 : Int32).toInt).toNat < b.toNatClampNeg + 1 := by
  rw [Int32.toInt_zero]
  show (b.toInt - 0).toNat < b.toInt.toNat + 1
  omega
theorem sb_Drying_Plain {args : Array Value} {s : State} (hg : Tb args s) : z_Sub s RX0 RX4 := sb3 (by decide) (by decide) (by decide) (hg _ g_206) (hg _ g_178) (hg _ g_164)
theorem sb_Drying_Sorted {args : Array Value} {s : State} (hg : Tb args s) : z_Sub s RX0 RX5 := sb1  (hg _ g_206)
theorem sb_Marked_Plain {args : Array Value} {s : State} (hg : Tb args s) : z_Sub s RX2 RX4 := sb1  (hg _ g_164)
theorem sb_Sorted_Plain {args : Array Value} {s : State} (hg : Tb args s) : z_Sub s RX5 RX4 := sb2 (by decide) (hg _ g_178) (hg _ g_164)
theorem sb_Strict_Plain {args : Array Value} {s : State} (hg : Tb args s) : z_Sub s RX6 RX4 := sb2 (by decide) (hg _ g_192) (hg _ g_164)
theorem sb_Twofold_Plain {args : Array Value} {s : State} (hg : Tb args s) : z_Sub s RX9 RX4 := sb3 (by decide) (by decide) (by decide) (hg _ g_220) (hg _ g_192) (hg _ g_164)
theorem sb_Twofold_Strict {args : Array Value} {s : State} (hg : Tb args s) : z_Sub s RX9 RX6 := sb1  (hg _ g_220)
theorem sl_Plain_timberAt {ci : Nat} (h : pkAll ci) : Cond.selects (vn ci) ⟨"PileHeirs$Plain", "timberAt", "(I)I"⟩ yX4_timberAt ∈ GW := by
  rcases h with rfl | rfl | rfl | rfl | rfl | rfl | rfl | rfl
  · exact g_847
  · exact g_848
  · exact g_849
  · exact g_850
  · exact g_851
  · exact g_852
  · exact g_853
  · exact g_854
theorem sl_Sorted_timberAt {ci : Nat} (h : pkSo ci) : Cond.selects (vn ci) ⟨"PileHeirs$Sorted", "timberAt", "(I)I"⟩ yX4_timberAt ∈ GW := by
  rcases h with rfl | rfl | rfl
  · exact g_474
  · exact g_475
  · exact g_476
theorem sl_Drying_timberAt {ci : Nat} (h : pkDr ci) : Cond.selects (vn ci) ⟨"PileHeirs$Drying", "timberAt", "(I)I"⟩ yX4_timberAt ∈ GW := by
  rcases h with rfl | rfl
  · exact g_339
  · exact g_340
theorem sl_Open_timberAt {ci : Nat} (h : pkOp ci) : Cond.selects (vn ci) ⟨"PileHeirs$Open", "timberAt", "(I)I"⟩ yX4_timberAt ∈ GW := by
  rcases h with rfl
  · exact g_301
theorem sl_Sorted_howMany {ci : Nat} (h : pkSo ci) : Cond.selects (vn ci) ⟨"PileHeirs$Sorted", "howMany", "()I"⟩ yX4_howMany ∈ GW := by
  rcases h with rfl | rfl | rfl
  · exact g_469
  · exact g_470
  · exact g_471
theorem sl_Open_howMany {ci : Nat} (h : pkOp ci) : Cond.selects (vn ci) ⟨"PileHeirs$Open", "howMany", "()I"⟩ yX4_howMany ∈ GW := by
  rcases h with rfl
  · exact g_295
theorem sl_Sorted_swapWithUnder {ci : Nat} (h : pkSo ci) : Cond.selects (vn ci) ⟨"PileHeirs$Sorted", "swapWithUnder", "(I)V"⟩ yX4_swapWithUnder ∈ GW := by
  rcases h with rfl | rfl | rfl
  · exact g_480
  · exact g_481
  · exact g_482
theorem sl_Sorted_sinkTopmost {ci : Nat} (h : pkSo ci) : Cond.selects (vn ci) ⟨"PileHeirs$Sorted", "sinkTopmost", "(I)V"⟩ yX5_sinkTopmost ∈ GW := by
  rcases h with rfl | rfl | rfl
  · exact gx_0
  · exact gx_1
  · exact gp_2
end
section
theorem tk_in {h : Int32} (h1 : ¬ h < 1) (h2 : h ≤ 12) : vp_in (h - 1) 12 := by
  rw [Int32.lt_iff_toInt_lt] at h1
  rw [Int32.le_iff_toInt_le] at h2
  rw [show (1 : Int32).toInt = 1 from rfl] at h1
  rw [show (12 : Int32).toInt = 12 from rfl] at h2
  have e : (h - 1).toInt = h.toInt - 1 := by
    rw [Int32.toInt_sub, show (1 : Int32).toInt = 1 from rfl]
    exact Int.bmod_eq_of_le (by omega) (by omega)
  rw [vp_in_iff, e]
  omega
theorem sw_in0 {h : Int32} (h1 : ¬ h < 1) (h2 : ¬ 12 ≤ h) : vp_in h 12 := by
  rw [Int32.lt_iff_toInt_lt, show (1 : Int32).toInt = 1 from rfl] at h1
  rw [Int32.le_iff_toInt_le, show (12 : Int32).toInt = 12 from rfl] at h2
  rw [vp_in_iff]
  omega
theorem sw_in1 {h : Int32} (h1 : ¬ h < 1) (h2 : ¬ 12 ≤ h) : vp_in (h - 1) 12 := by
  refine tk_in h1 ?_
  rw [Int32.le_iff_toInt_le] at h2 ⊢
  omega
def fX4_howManyR (P : PP) (T : TT) (X : DD)  : Int32 := P.2.2.2.2
set_option maxHeartbeats 4000000 in
set_option maxRecDepth 100000 in
theorem c_X4_howMany (l : Launch) (D : va_G) (g : GA) (ci h rw : Nat) (hci : pkAll ci) (P : PP) (T : TT) (X : DD)  : ctI l D (tyA g) yX4_howMany (wd yX4_howMany cX4_howMany 1 (Option.some Jvm.ClassFile.FieldType.int)) { frames := 0, cells := 0, slots := 0, locals := 0 } [.ref h] (wA g ci h rw P T X) (fun r w => r = fX4_howManyR P T X ∧ w = wA g ci h rw P T X) := by
  intro sz
  refine Met.ofW (cc := cX4_howMany) (maxL := 1) (ret := (Option.some Jvm.ClassFile.FieldType.int)) (by decide) rfl ?_
  intro p e s m args below meth c s₁ B hml hv
  obtain ⟨rfl, hsz, hP, hK, hD0⟩ := hv
  have hx := B.exec
  have hb := B.bytes
  have hr := B.returns
  have hts := atoms_spec (ws := (wd yX4_howMany cX4_howMany 1 (Option.some Jvm.ClassFile.FieldType.int))) B.pre
  have hg := Tb.of hts
  have hown : s.vm.findClass RX4 = some m.cls := findClass_of_methodNamed B.named
  have hlocks := B.notSynchronized
  subst hsz
  have hD := hD0.self (sz := s.heap.size)
  generalize hAe : va_A (wA g ci h rw P T X) s.heap.size = A at hD ⊢
  have hA : ∀ q : Nat, s.heap.size ≤ q → A q := fun q h => by rw [← hAe]; exact Or.inr h
  have hS : va_S A s.heap s.heap [] := va_S.rf
  have hP : va_P D vwCl (wA g ci h rw P T X) s.heap := hP
  have hl := lv_entry ([.ref h]) (n := 1) (Nat.le_of_ble_eq_true rfl)
  rw [lg_entry_eq]
  generalize (lg_sl ([.ref h]) ++ List.replicate (1 - (lg_sl ([.ref h])).length) Slot.unset).toArray = ls at hl ⊢
  have hl : lv_has ls 1 [(0, .ref h)] := hl
  have hca : pkAll ci := hci
  refine lv_aload_n hx hb dX4_howMany_0 rfl (lv_at hl 0 rfl) ?_
  refine va_get (D := D) (ci := ci) (v := .int P.2.2.2.2) (C := vn ci) (T := TX4) (N := 7) hx hb hg (pq_in hca) hown hK hP 0 rfl (pq_cl hca) 6 (by decide) (hg _ g_149) (fun _ h9 => h9) rfl dX4_howMany_1 ?_
  exact W.iret (v := P.2.2.2.2) hx hb hr (fun t9 ht hW => ⟨⟨P.2.2.2.2, wA g ci h rw P T X, rfl, ⟨rfl, rfl⟩, by rw [ht]; exact hP, va_K.moved hW.alike hK, hD⟩, hS.F ht⟩) hS.2.2 dX4_howMany_4

def fX4_timberAtR (P : PP) (T : TT) (X : DD) (i : Int32) : Int32 := (if i < 0 then (-1) else (if P.2.2.2.2 ≤ i then (-1) else (if 12 ≤ i then (-1) else (P.2.2.2.1 i.toNatClampNeg))))
set_option maxHeartbeats 4000000 in
set_option maxRecDepth 100000 in
theorem c_X4_timberAt (l : Launch) (D : va_G) (g : GA) (ci h rw : Nat) (hci : pkAll ci) (P : PP) (T : TT) (X : DD) (i : Int32) : ctI l D (tyA g) yX4_timberAt (wd yX4_timberAt cX4_timberAt 2 (Option.some Jvm.ClassFile.FieldType.int)) { frames := 0, cells := 0, slots := 0, locals := 0 } [.ref h, .int i] (wA g ci h rw P T X) (fun r w => r = fX4_timberAtR P T X i ∧ w = wA g ci h rw P T X) := by
  intro sz
  refine Met.ofW (cc := cX4_timberAt) (maxL := 2) (ret := (Option.some Jvm.ClassFile.FieldType.int)) (by decide) rfl ?_
  intro p e s m args below meth c s₁ B hml hv
  obtain ⟨rfl, hsz, hP, hK, hD0⟩ := hv
  have hx := B.exec
  have hb := B.bytes
  have hr := B.returns
  have hts := atoms_spec (ws := (wd yX4_timberAt cX4_timberAt 2 (Option.some Jvm.ClassFile.FieldType.int))) B.pre
  have hg := Tb.of hts
  have hown : s.vm.findClass RX4 = some m.cls := findClass_of_methodNamed B.named
  have hlocks := B.notSynchronized
  subst hsz
  have hD := hD0.self (sz := s.heap.size)
  generalize hAe : va_A (wA g ci h rw P T X) s.heap.size = A at hD ⊢
  have hA : ∀ q : Nat, s.heap.size ≤ q → A q := fun q h => by rw [← hAe]; exact Or.inr h
  have hS : va_S A s.heap s.heap [] := va_S.rf
  have hP : va_P D vwCl (wA g ci h rw P T X) s.heap := hP
  have hl := lv_entry ([.ref h, .int i]) (n := 2) (Nat.le_of_ble_eq_true rfl)
  rw [lg_entry_eq]
  generalize (lg_sl ([.ref h, .int i]) ++ List.replicate (2 - (lg_sl ([.ref h, .int i])).length) Slot.unset).toArray = ls at hl ⊢
  have hl : lv_has ls 2 [(0, .ref h), (1, .int i)] := hl
  have hca : pkAll ci := hci
  refine lv_iload_n hx hb dX4_timberAt_0 rfl (lv_at hl 1 rfl) ?_
  refine lv_if_lt (tgt := 30) hx hb dX4_timberAt_1 (by decide) (fun c_1 => ?_) (fun c_1 => ?_)
  · -- i < 0
    refine lv_iconst (v := (-1)) hx hb dX4_timberAt_30 (by decide) ?_
    exact W.iret (v := (-1)) hx hb hr (fun t9 ht hW => ⟨⟨(-1), wA g ci h rw P T X, rfl, ⟨by simp only [fX4_timberAtR, if_pos c_1], rfl⟩, by rw [ht]; exact hP, va_K.moved hW.alike hK, hD⟩, hS.F ht⟩) hS.2.2 dX4_timberAt_31
  · -- not i < 0
    refine lv_iload_n hx hb dX4_timberAt_4 rfl (lv_at hl 1 rfl) ?_
    refine lv_aload_n hx hb dX4_timberAt_5 rfl (lv_at hl 0 rfl) ?_
    refine va_get (D := D) (ci := ci) (v := .int P.2.2.2.2) (C := vn ci) (T := TX4) (N := 7) hx hb hg (pq_in hca) hown hK hP 0 rfl (pq_cl hca) 6 (by decide) (hg _ g_149) (fun _ h9 => h9) rfl dX4_timberAt_6 ?_
    refine lv_icmp_ge (tgt := 30) hx hb dX4_timberAt_9 (by decide) (fun c_2 => ?_) (fun c_2 => ?_)
    · -- P.2.2.2.2 ≤ i
      refine lv_iconst (v := (-1)) hx hb dX4_timberAt_30 (by decide) ?_
      exact W.iret (v := (-1)) hx hb hr (fun t9 ht hW => ⟨⟨(-1), wA g ci h rw P T X, rfl, ⟨by simp only [fX4_timberAtR, if_neg c_1, if_pos c_2], rfl⟩, by rw [ht]; exact hP, va_K.moved hW.alike hK, hD⟩, hS.F ht⟩) hS.2.2 dX4_timberAt_31
    · -- not P.2.2.2.2 ≤ i
      refine lv_iload_n hx hb dX4_timberAt_12 rfl (lv_at hl 1 rfl) ?_
      refine lv_aload_n hx hb dX4_timberAt_13 rfl (lv_at hl 0 rfl) ?_
      refine va_get (D := D) (ci := ci) (v := .ref rw) (C := vn ci) (T := TX4) (N := 7) hx hb hg (pq_in hca) hown hK hP 0 rfl (pq_cl hca) 5 (by decide) (hg _ g_148) (fun _ h9 => h9) rfl dX4_timberAt_14 ?_
      refine va_alen hx hb hK hP 1 0 rfl rfl (v := 12) rfl dX4_timberAt_17 ?_
      refine lv_icmp_ge (tgt := 30) hx hb dX4_timberAt_18 (by decide) (fun c_3 => ?_) (fun c_3 => ?_)
      · -- 12 ≤ i
        refine lv_iconst (v := (-1)) hx hb dX4_timberAt_30 (by decide) ?_
        exact W.iret (v := (-1)) hx hb hr (fun t9 ht hW => ⟨⟨(-1), wA g ci h rw P T X, rfl, ⟨by simp only [fX4_timberAtR, if_neg c_1, if_neg c_2, if_pos c_3], rfl⟩, by rw [ht]; exact hP, va_K.moved hW.alike hK, hD⟩, hS.F ht⟩) hS.2.2 dX4_timberAt_31
      · -- not 12 ≤ i
        refine lv_aload_n hx hb dX4_timberAt_21 rfl (lv_at hl 0 rfl) ?_
        refine va_get (D := D) (ci := ci) (v := .ref rw) (C := vn ci) (T := TX4) (N := 7) hx hb hg (pq_in hca) hown hK hP 0 rfl (pq_cl hca) 5 (by decide) (hg _ g_148) (fun _ h9 => h9) rfl dX4_timberAt_22 ?_
        refine lv_iload_n hx hb dX4_timberAt_25 rfl (lv_at hl 1 rfl) ?_
        refine va_iald hx hb hK hP 1 0 rfl rfl (in_nle (v := 12) (by decide) c_1 c_3) dX4_timberAt_26 ?_
        refine lv_goto (tgt := 31) hx hb dX4_timberAt_27 (by decide) ?_
        exact W.iret (v := (P.2.2.2.1 i.toNatClampNeg)) hx hb hr (fun t9 ht hW => ⟨⟨(P.2.2.2.1 i.toNatClampNeg), wA g ci h rw P T X, rfl, ⟨by simp only [fX4_timberAtR, if_neg c_1, if_neg c_2, if_neg c_3], rfl⟩, by rw [ht]; exact hP, va_K.moved hW.alike hK, hD⟩, hS.F ht⟩) hS.2.2 dX4_timberAt_31

def fX4_isFullR (P : PP) (T : TT) (X : DD)  : Int32 := (if P.2.2.2.2 < P.2.1 then 0 else 1)
set_option maxHeartbeats 4000000 in
set_option maxRecDepth 100000 in
theorem c_X4_isFull (l : Launch) (D : va_G) (g : GA) (ci h rw : Nat) (hci : pkAll ci) (P : PP) (T : TT) (X : DD)  : ctI l D (tyA g) yX4_isFull (wd yX4_isFull cX4_isFull 1 (Option.some Jvm.ClassFile.FieldType.boolean)) { frames := 0, cells := 0, slots := 0, locals := 0 } [.ref h] (wA g ci h rw P T X) (fun r w => r = fX4_isFullR P T X ∧ w = wA g ci h rw P T X) := by
  intro sz
  refine Met.ofW (cc := cX4_isFull) (maxL := 1) (ret := (Option.some Jvm.ClassFile.FieldType.boolean)) (by decide) rfl ?_
  intro p e s m args below meth c s₁ B hml hv
  obtain ⟨rfl, hsz, hP, hK, hD0⟩ := hv
  have hx := B.exec
  have hb := B.bytes
  have hr := B.returns
  have hts := atoms_spec (ws := (wd yX4_isFull cX4_isFull 1 (Option.some Jvm.ClassFile.FieldType.boolean))) B.pre
  have hg := Tb.of hts
  have hown : s.vm.findClass RX4 = some m.cls := findClass_of_methodNamed B.named
  have hlocks := B.notSynchronized
  subst hsz
  have hD := hD0.self (sz := s.heap.size)
  generalize hAe : va_A (wA g ci h rw P T X) s.heap.size = A at hD ⊢
  have hA : ∀ q : Nat, s.heap.size ≤ q → A q := fun q h => by rw [← hAe]; exact Or.inr h
  have hS : va_S A s.heap s.heap [] := va_S.rf
  have hP : va_P D vwCl (wA g ci h rw P T X) s.heap := hP
  have hl := lv_entry ([.ref h]) (n := 1) (Nat.le_of_ble_eq_true rfl)
  rw [lg_entry_eq]
  generalize (lg_sl ([.ref h]) ++ List.replicate (1 - (lg_sl ([.ref h])).length) Slot.unset).toArray = ls at hl ⊢
  have hl : lv_has ls 1 [(0, .ref h)] := hl
  have hca : pkAll ci := hci
  refine lv_aload_n hx hb dX4_isFull_0 rfl (lv_at hl 0 rfl) ?_
  refine va_get (D := D) (ci := ci) (v := .int P.2.2.2.2) (C := vn ci) (T := TX4) (N := 7) hx hb hg (pq_in hca) hown hK hP 0 rfl (pq_cl hca) 6 (by decide) (hg _ g_149) (fun _ h9 => h9) rfl dX4_isFull_1 ?_
  refine lv_aload_n hx hb dX4_isFull_4 rfl (lv_at hl 0 rfl) ?_
  refine va_get (D := D) (ci := ci) (v := .int P.2.1) (C := vn ci) (T := TX4) (N := 7) hx hb hg (pq_in hca) hown hK hP 0 rfl (pq_cl hca) 3 (by decide) (hg _ g_144) (fun _ h9 => h9) rfl dX4_isFull_5 ?_
  refine lv_icmp_lt (tgt := 15) hx hb dX4_isFull_8 (by decide) (fun c_1 => ?_) (fun c_1 => ?_)
  · -- P.2.2.2.2 < P.2.1
    refine lv_iconst (v := 0) hx hb dX4_isFull_15 (by decide) ?_
    exact W.zret (v := 0) (ty := .boolean) hx hb hr rfl (fun t9 ht hW => ⟨⟨0, wA g ci h rw P T X, rfl, ⟨by simp only [fX4_isFullR, if_pos c_1], rfl⟩, by rw [ht]; exact hP, va_K.moved hW.alike hK, hD⟩, hS.F ht⟩) hS.2.2 dX4_isFull_16
  · -- not P.2.2.2.2 < P.2.1
    refine lv_iconst (v := 1) hx hb dX4_isFull_11 (by decide) ?_
    refine lv_goto (tgt := 16) hx hb dX4_isFull_12 (by decide) ?_
    exact W.zret (v := 1) (ty := .boolean) hx hb hr rfl (fun t9 ht hW => ⟨⟨1, wA g ci h rw P T X, rfl, ⟨by simp only [fX4_isFullR, if_neg c_1], rfl⟩, by rw [ht]; exact hP, va_K.moved hW.alike hK, hD⟩, hS.F ht⟩) hS.2.2 dX4_isFull_16

def fX4_putActR (P : PP) (T : TT) (X : DD) (t : Int32) : Int32 := (if P.2.2.2.2 < 0 then 0 else (if P.2.1 ≤ P.2.2.2.2 then 0 else (if P.2.2.2.2 < 12 then 1 else 0)))
def fX4_putActS (P : PP) (T : TT) (X : DD) (t : Int32) : PP × TT × DD := ((if P.2.2.2.2 < 0 then P else (if P.2.1 ≤ P.2.2.2.2 then P else (if P.2.2.2.2 < 12 then (P.1, P.2.1, P.2.2.1, upd P.2.2.2.1 P.2.2.2.2.toNatClampNeg t, (P.2.2.2.2 + 1)) else P))), (if P.2.2.2.2 < 0 then T else (if P.2.1 ≤ P.2.2.2.2 then T else (if P.2.2.2.2 < 12 then fX7_setPileS T t P.1 else T))), fX8_beginS X 0 0)
set_option maxHeartbeats 4000000 in
set_option maxRecDepth 100000 in
theorem c_X4_putAct (l : Launch) (D : va_G) (g : GA) (ci h rw : Nat) (hci : pkAll ci) (P : PP) (T : TT) (X : DD) (t : Int32) : ctI l D (tyA g) yX4_putAct (wd yX4_putAct cX4_putAct 2 (Option.some Jvm.ClassFile.FieldType.int)) { frames := 2, cells := 0, slots := 0, locals := 43 } [.ref h, .int t] (wA g ci h rw P T X) (fun r w => r = fX4_putActR P T X t ∧ w = wA g ci h rw (fX4_putActS P T X t).1 (fX4_putActS P T X t).2.1 (fX4_putActS P T X t).2.2) := by
  intro sz
  refine Met.ofW (cc := cX4_putAct) (maxL := 2) (ret := (Option.some Jvm.ClassFile.FieldType.int)) (by decide) rfl ?_
  intro p e s m args below meth c s₁ B hml hv
  obtain ⟨rfl, hsz, hP, hK, hD0⟩ := hv
  have hx := B.exec
  have hb := B.bytes
  have hr := B.returns
  have hts := atoms_spec (ws := (wd yX4_putAct cX4_putAct 2 (Option.some Jvm.ClassFile.FieldType.int))) B.pre
  have hg := Tb.of hts
  have hown : s.vm.findClass RX4 = some m.cls := findClass_of_methodNamed B.named
  have hlocks := B.notSynchronized
  subst hsz
  have hD := hD0.self (sz := s.heap.size)
  generalize hAe : va_A (wA g ci h rw P T X) s.heap.size = A at hD ⊢
  have hA : ∀ q : Nat, s.heap.size ≤ q → A q := fun q h => by rw [← hAe]; exact Or.inr h
  have hS : va_S A s.heap s.heap [] := va_S.rf
  have hP : va_P D vwCl (wA g ci h rw P T X) s.heap := hP
  have hl := lv_entry ([.ref h, .int t]) (n := 2) (Nat.le_of_ble_eq_true rfl)
  rw [lg_entry_eq]
  generalize (lg_sl ([.ref h, .int t]) ++ List.replicate (2 - (lg_sl ([.ref h, .int t])).length) Slot.unset).toArray = ls at hl ⊢
  have hl : lv_has ls 2 [(0, .ref h), (1, .int t)] := hl
  have hca : pkAll ci := hci
  refine lv_aload_n hx hb dX4_putAct_0 rfl (lv_at hl 0 rfl) ?_
  refine va_get (D := D) (ci := ci) (v := .ref g.dn) (C := vn ci) (T := TX4) (N := 7) hx hb hg (pq_in hca) hown hK hP 0 rfl (pq_cl hca) 1 (by decide) (hg _ g_130) (fun _ h9 => h9) rfl dX4_putAct_1 ?_
  refine lv_iconst (v := 0) hx hb dX4_putAct_4 (by decide) ?_
  refine lv_iconst (v := 0) hx hb dX4_putAct_5 (by decide) ?_
  refine z_ve (va_runV (As := [.int 0, .int 0]) (rest := []) ⟨hx, hb, hml, hown, hts⟩ (c_X8_begin l D g X 0 0 _) (z_V 2 hts g_278 g_3 g_316 g_276 g_277 ⟨by decide, by decide, by decide +kernel⟩ ⟨Nat.le_of_ble_eq_true rfl, Nat.le_of_ble_eq_true rfl⟩) (z_preV (ci := 9) (q0 := 0) (hP.subm [7, 8] rfl) (hD.sub [7, 8] (by decide) rfl) hK rfl rfl) rfl rfl hl.1 rfl (lv_room (Nat.le_of_ble_eq_true rfl)) dX4_putAct_6 ⟨Nat.le_of_ble_eq_true rfl, Nat.le_of_ble_eq_true rfl⟩) hP hD hS hA (wP g ci h rw P ++ wT g T) (wA g ci h rw P T (fX8_beginS X 0 0)) [7, 8] [0, 1, 2, 3, 4, 5, 6] [0, 1, 2, 3, 4, 5, 6, 7, 8] rfl rfl (by decide) (by decide) rfl (by decide) (fun H locs hP hD hS => ?_)
  refine lv_aload_n hx hb dX4_putAct_9 rfl (lv_at hl 0 rfl) ?_
  refine va_get (D := D) (ci := ci) (v := .int P.2.2.2.2) (C := vn ci) (T := TX4) (N := 7) hx hb hg (pq_in hca) hown hK hP 0 rfl (pq_cl hca) 6 (by decide) (hg _ g_149) (fun _ h9 => h9) rfl dX4_putAct_10 ?_
  refine lv_if_lt (tgt := 39) hx hb dX4_putAct_13 (by decide) (fun c_1 => ?_) (fun c_1 => ?_)
  · -- P.2.2.2.2 < 0
    refine lv_iconst (v := 0) hx hb dX4_putAct_39 (by decide) ?_
    exact W.iret (v := 0) hx hb hr (fun t9 ht hW => ⟨⟨0, wA g ci h rw P T (fX8_beginS X 0 0), rfl, ⟨by simp only [fX4_putActR, if_pos c_1], by simp only [fX4_putActS, if_pos c_1]⟩, by rw [ht]; exact hP, va_K.moved hW.alike hK, hD⟩, hS.F ht⟩) hS.2.2 dX4_putAct_40
  · -- not P.2.2.2.2 < 0
    refine lv_aload_n hx hb dX4_putAct_16 rfl (lv_at hl 0 rfl) ?_
    refine va_get (D := D) (ci := ci) (v := .int P.2.2.2.2) (C := vn ci) (T := TX4) (N := 7) hx hb hg (pq_in hca) hown hK hP 0 rfl (pq_cl hca) 6 (by decide) (hg _ g_149) (fun _ h9 => h9) rfl dX4_putAct_17 ?_
    refine lv_aload_n hx hb dX4_putAct_20 rfl (lv_at hl 0 rfl) ?_
    refine va_get (D := D) (ci := ci) (v := .int P.2.1) (C := vn ci) (T := TX4) (N := 7) hx hb hg (pq_in hca) hown hK hP 0 rfl (pq_cl hca) 3 (by decide) (hg _ g_144) (fun _ h9 => h9) rfl dX4_putAct_21 ?_
    refine lv_icmp_ge (tgt := 39) hx hb dX4_putAct_24 (by decide) (fun c_2 => ?_) (fun c_2 => ?_)
    · -- P.2.1 ≤ P.2.2.2.2
      refine lv_iconst (v := 0) hx hb dX4_putAct_39 (by decide) ?_
      exact W.iret (v := 0) hx hb hr (fun t9 ht hW => ⟨⟨0, wA g ci h rw P T (fX8_beginS X 0 0), rfl, ⟨by simp only [fX4_putActR, if_neg c_1, if_pos c_2], by simp only [fX4_putActS, if_neg c_1, if_pos c_2]⟩, by rw [ht]; exact hP, va_K.moved hW.alike hK, hD⟩, hS.F ht⟩) hS.2.2 dX4_putAct_40
    · -- not P.2.1 ≤ P.2.2.2.2
      refine lv_aload_n hx hb dX4_putAct_27 rfl (lv_at hl 0 rfl) ?_
      refine va_get (D := D) (ci := ci) (v := .int P.2.2.2.2) (C := vn ci) (T := TX4) (N := 7) hx hb hg (pq_in hca) hown hK hP 0 rfl (pq_cl hca) 6 (by decide) (hg _ g_149) (fun _ h9 => h9) rfl dX4_putAct_28 ?_
      refine lv_aload_n hx hb dX4_putAct_31 rfl (lv_at hl 0 rfl) ?_
      refine va_get (D := D) (ci := ci) (v := .ref rw) (C := vn ci) (T := TX4) (N := 7) hx hb hg (pq_in hca) hown hK hP 0 rfl (pq_cl hca) 5 (by decide) (hg _ g_148) (fun _ h9 => h9) rfl dX4_putAct_32 ?_
      refine va_alen hx hb hK hP 1 0 rfl rfl (v := 12) rfl dX4_putAct_35 ?_
      refine lv_icmp_lt (tgt := 41) hx hb dX4_putAct_36 (by decide) (fun c_3 => ?_) (fun c_3 => ?_)
      · -- P.2.2.2.2 < 12
        refine lv_aload_n hx hb dX4_putAct_41 rfl (lv_at hl 0 rfl) ?_
        refine va_get (D := D) (ci := ci) (v := .ref rw) (C := vn ci) (T := TX4) (N := 7) hx hb hg (pq_in hca) hown hK hP 0 rfl (pq_cl hca) 5 (by decide) (hg _ g_148) (fun _ h9 => h9) rfl dX4_putAct_42 ?_
        refine lv_aload_n hx hb dX4_putAct_45 rfl (lv_at hl 0 rfl) ?_
        refine va_get (D := D) (ci := ci) (v := .int P.2.2.2.2) (C := vn ci) (T := TX4) (N := 7) hx hb hg (pq_in hca) hown hK hP 0 rfl (pq_cl hca) 6 (by decide) (hg _ g_149) (fun _ h9 => h9) rfl dX4_putAct_46 ?_
        refine lv_iload_n hx hb dX4_putAct_49 rfl (lv_at hl 1 rfl) ?_
        refine va_iast hx hb hK hP hD hS 1 0 rfl rfl (in_lt (v := 12) (by decide) c_1 c_3) dX4_putAct_50 (fun H locs hP hD hS => ?_)
        have hP : va_P D vwCl (wA g ci h rw (P.1, P.2.1, P.2.2.1, upd P.2.2.2.1 P.2.2.2.2.toNatClampNeg t, P.2.2.2.2) T (fX8_beginS X 0 0)) H := hP
        have hD : va_D A (wA g ci h rw (P.1, P.2.1, P.2.2.1, upd P.2.2.2.1 P.2.2.2.2.toNatClampNeg t, P.2.2.2.2) T (fX8_beginS X 0 0)) := hD
        refine lv_aload_n hx hb dX4_putAct_51 rfl (lv_at hl 0 rfl) ?_
        refine lv_dup hx hb dX4_putAct_52 rfl ?_
        refine va_get (D := D) (ci := ci) (v := .int P.2.2.2.2) (C := vn ci) (T := TX4) (N := 7) hx hb hg (pq_in hca) hown hK hP 0 rfl (pq_cl hca) 6 (by decide) (hg _ g_149) (fun _ h9 => h9) rfl dX4_putAct_53 ?_
        refine lv_iconst (v := 1) hx hb dX4_putAct_56 (by decide) ?_
        refine lv_iadd hx hb dX4_putAct_57 ?_
        refine va_put (D := D) (ci := ci) (v := .int (P.2.2.2.2 + 1)) (ty := .int) (C := vn ci) (T := TX4) (N := 7) hx hb hg (pq_in hca) tyX4 tyX4_ok nmX4 hown hK hP hD hS 0 rfl (pq_cl hca) 6 (by decide) (hg _ g_149) (fun _ h9 => h9) rfl (by decide +kernel) rfl rfl (Nat.le_of_ble_eq_true rfl) dX4_putAct_58 (fun H locs hP hD hS => ?_)
        have hP : va_P D vwCl (wA g ci h rw (P.1, P.2.1, P.2.2.1, upd P.2.2.2.1 P.2.2.2.2.toNatClampNeg t, (P.2.2.2.2 + 1)) T (fX8_beginS X 0 0)) H := hP
        have hD : va_D A (wA g ci h rw (P.1, P.2.1, P.2.2.1, upd P.2.2.2.1 P.2.2.2.2.toNatClampNeg t, (P.2.2.2.2 + 1)) T (fX8_beginS X 0 0)) := hD
        refine lv_aload_n hx hb dX4_putAct_61 rfl (lv_at hl 0 rfl) ?_
        refine va_get (D := D) (ci := ci) (v := .ref g.tm) (C := vn ci) (T := TX4) (N := 7) hx hb hg (pq_in hca) hown hK hP 0 rfl (pq_cl hca) 0 (by decide) (hg _ g_119) (fun _ h9 => h9) rfl dX4_putAct_62 ?_
        refine lv_iload_n hx hb dX4_putAct_65 rfl (lv_at hl 1 rfl) ?_
        refine lv_aload_n hx hb dX4_putAct_66 rfl (lv_at hl 0 rfl) ?_
        refine va_get (D := D) (ci := ci) (v := .int P.1) (C := vn ci) (T := TX4) (N := 7) hx hb hg (pq_in hca) hown hK hP 0 rfl (pq_cl hca) 2 (by decide) (hg _ g_143) (fun _ h9 => h9) rfl dX4_putAct_67 ?_
        refine z_ve (va_runV (As := [.int t, .int P.1]) (rest := []) ⟨hx, hb, hml, hown, hts⟩ (c_X7_setPile l D g T t P.1 _) (z_V 2 hts g_461 g_2 g_458 g_459 g_460 ⟨by decide, by decide, by decide +kernel⟩ ⟨Nat.le_of_ble_eq_true rfl, Nat.le_of_ble_eq_true rfl⟩) (z_preV (ci := 8) (q0 := 0) (hP.subm [2, 3, 4, 5, 6] rfl) (hD.sub [2, 3, 4, 5, 6] (by decide) rfl) hK rfl rfl) rfl rfl hl.1 rfl (lv_room (Nat.le_of_ble_eq_true rfl)) dX4_putAct_70 ⟨Nat.le_of_ble_eq_true rfl, Nat.le_of_ble_eq_true rfl⟩) hP hD hS hA (wP g ci h rw (P.1, P.2.1, P.2.2.1, upd P.2.2.2.1 P.2.2.2.2.toNatClampNeg t, (P.2.2.2.2 + 1)) ++ wD g (fX8_beginS X 0 0)) (wA g ci h rw (P.1, P.2.1, P.2.2.1, upd P.2.2.2.1 P.2.2.2.2.toNatClampNeg t, (P.2.2.2.2 + 1)) (fX7_setPileS T t P.1) (fX8_beginS X 0 0)) [2, 3, 4, 5, 6] [0, 1, 7, 8] [0, 1, 4, 5, 6, 7, 8, 2, 3] rfl rfl (by decide) (by decide) rfl (by decide) (fun H locs hP hD hS => ?_)
        refine lv_iconst (v := 1) hx hb dX4_putAct_73 (by decide) ?_
        exact W.iret (v := 1) hx hb hr (fun t9 ht hW => ⟨⟨1, wA g ci h rw (P.1, P.2.1, P.2.2.1, upd P.2.2.2.1 P.2.2.2.2.toNatClampNeg t, (P.2.2.2.2 + 1)) (fX7_setPileS T t P.1) (fX8_beginS X 0 0), rfl, ⟨by simp only [fX4_putActR, if_neg c_1, if_neg c_2, if_pos c_3], by simp only [fX4_putActS, if_neg c_1, if_neg c_2, if_pos c_3]⟩, by rw [ht]; exact hP, va_K.moved hW.alike hK, hD⟩, hS.F ht⟩) hS.2.2 dX4_putAct_74
      · -- not P.2.2.2.2 < 12
        refine lv_iconst (v := 0) hx hb dX4_putAct_39 (by decide) ?_
        exact W.iret (v := 0) hx hb hr (fun t9 ht hW => ⟨⟨0, wA g ci h rw P T (fX8_beginS X 0 0), rfl, ⟨by simp only [fX4_putActR, if_neg c_1, if_neg c_2, if_neg c_3], by simp only [fX4_putActS, if_neg c_1, if_neg c_2, if_neg c_3]⟩, by rw [ht]; exact hP, va_K.moved hW.alike hK, hD⟩, hS.F ht⟩) hS.2.2 dX4_putAct_40

def fX4_takeActR (P : PP) (T : TT) (X : DD)  : Int32 := (if P.2.2.2.2 < 1 then (-1) else (if P.2.2.2.2 ≤ 12 then (P.2.2.2.1 (P.2.2.2.2 - 1).toNatClampNeg) else (-1)))
def fX4_takeActS (P : PP) (T : TT) (X : DD)  : PP × TT × DD := ((if P.2.2.2.2 < 1 then P else (if P.2.2.2.2 ≤ 12 then (P.1, P.2.1, P.2.2.1, P.2.2.2.1, (P.2.2.2.2 - 1)) else P)), (if P.2.2.2.2 < 1 then T else (if P.2.2.2.2 ≤ 12 then fX7_setPileS T (P.2.2.2.1 (P.2.2.2.2 - 1).toNatClampNeg) (-1) else T)), fX8_beginS X 1 0)
set_option maxHeartbeats 4000000 in
set_option maxRecDepth 100000 in
theorem c_X4_takeAct (l : Launch) (D : va_G) (g : GA) (ci h rw : Nat) (hci : pkAll ci) (P : PP) (T : TT) (X : DD)  : ctI l D (tyA g) yX4_takeAct (wd yX4_takeAct cX4_takeAct 2 (Option.some Jvm.ClassFile.FieldType.int)) { frames := 2, cells := 0, slots := 0, locals := 43 } [.ref h] (wA g ci h rw P T X) (fun r w => r = fX4_takeActR P T X ∧ w = wA g ci h rw (fX4_takeActS P T X).1 (fX4_takeActS P T X).2.1 (fX4_takeActS P T X).2.2) := by
  intro sz
  refine Met.ofW (cc := cX4_takeAct) (maxL := 2) (ret := (Option.some Jvm.ClassFile.FieldType.int)) (by decide) rfl ?_
  intro p e s m args below meth c s₁ B hml hv
  obtain ⟨rfl, hsz, hP, hK, hD0⟩ := hv
  have hx := B.exec
  have hb := B.bytes
  have hr := B.returns
  have hts := atoms_spec (ws := (wd yX4_takeAct cX4_takeAct 2 (Option.some Jvm.ClassFile.FieldType.int))) B.pre
  have hg := Tb.of hts
  have hown : s.vm.findClass RX4 = some m.cls := findClass_of_methodNamed B.named
  have hlocks := B.notSynchronized
  subst hsz
  have hD := hD0.self (sz := s.heap.size)
  generalize hAe : va_A (wA g ci h rw P T X) s.heap.size = A at hD ⊢
  have hA : ∀ q : Nat, s.heap.size ≤ q → A q := fun q h => by rw [← hAe]; exact Or.inr h
  have hS : va_S A s.heap s.heap [] := va_S.rf
  have hP : va_P D vwCl (wA g ci h rw P T X) s.heap := hP
  have hl := lv_entry ([.ref h]) (n := 2) (Nat.le_of_ble_eq_true rfl)
  rw [lg_entry_eq]
  generalize (lg_sl ([.ref h]) ++ List.replicate (2 - (lg_sl ([.ref h])).length) Slot.unset).toArray = ls at hl ⊢
  have hl : lv_has ls 2 [(0, .ref h)] := hl
  have hca : pkAll ci := hci
  refine lv_aload_n hx hb dX4_takeAct_0 rfl (lv_at hl 0 rfl) ?_
  refine va_get (D := D) (ci := ci) (v := .ref g.dn) (C := vn ci) (T := TX4) (N := 7) hx hb hg (pq_in hca) hown hK hP 0 rfl (pq_cl hca) 1 (by decide) (hg _ g_130) (fun _ h9 => h9) rfl dX4_takeAct_1 ?_
  refine lv_iconst (v := 1) hx hb dX4_takeAct_4 (by decide) ?_
  refine lv_iconst (v := 0) hx hb dX4_takeAct_5 (by decide) ?_
  refine z_ve (va_runV (As := [.int 1, .int 0]) (rest := []) ⟨hx, hb, hml, hown, hts⟩ (c_X8_begin l D g X 1 0 _) (z_V 2 hts g_278 g_3 g_316 g_276 g_277 ⟨by decide, by decide, by decide +kernel⟩ ⟨Nat.le_of_ble_eq_true rfl, Nat.le_of_ble_eq_true rfl⟩) (z_preV (ci := 9) (q0 := 0) (hP.subm [7, 8] rfl) (hD.sub [7, 8] (by decide) rfl) hK rfl rfl) rfl rfl hl.1 rfl (lv_room (Nat.le_of_ble_eq_true rfl)) dX4_takeAct_6 ⟨Nat.le_of_ble_eq_true rfl, Nat.le_of_ble_eq_true rfl⟩) hP hD hS hA (wP g ci h rw P ++ wT g T) (wA g ci h rw P T (fX8_beginS X 1 0)) [7, 8] [0, 1, 2, 3, 4, 5, 6] [0, 1, 2, 3, 4, 5, 6, 7, 8] rfl rfl (by decide) (by decide) rfl (by decide) (fun H locs hP hD hS => ?_)
  refine lv_aload_n hx hb dX4_takeAct_9 rfl (lv_at hl 0 rfl) ?_
  refine va_get (D := D) (ci := ci) (v := .int P.2.2.2.2) (C := vn ci) (T := TX4) (N := 7) hx hb hg (pq_in hca) hown hK hP 0 rfl (pq_cl hca) 6 (by decide) (hg _ g_149) (fun _ h9 => h9) rfl dX4_takeAct_10 ?_
  refine lv_iconst (v := 1) hx hb dX4_takeAct_13 (by decide) ?_
  refine lv_icmp_lt (tgt := 29) hx hb dX4_takeAct_14 (by decide) (fun c_1 => ?_) (fun c_1 => ?_)
  · -- P.2.2.2.2 < 1
    refine lv_iconst (v := (-1)) hx hb dX4_takeAct_29 (by decide) ?_
    exact W.iret (v := (-1)) hx hb hr (fun t9 ht hW => ⟨⟨(-1), wA g ci h rw P T (fX8_beginS X 1 0), rfl, ⟨by simp only [fX4_takeActR, if_pos c_1], by simp only [fX4_takeActS, if_pos c_1]⟩, by rw [ht]; exact hP, va_K.moved hW.alike hK, hD⟩, hS.F ht⟩) hS.2.2 dX4_takeAct_30
  · -- not P.2.2.2.2 < 1
    refine lv_aload_n hx hb dX4_takeAct_17 rfl (lv_at hl 0 rfl) ?_
    refine va_get (D := D) (ci := ci) (v := .int P.2.2.2.2) (C := vn ci) (T := TX4) (N := 7) hx hb hg (pq_in hca) hown hK hP 0 rfl (pq_cl hca) 6 (by decide) (hg _ g_149) (fun _ h9 => h9) rfl dX4_takeAct_18 ?_
    refine lv_aload_n hx hb dX4_takeAct_21 rfl (lv_at hl 0 rfl) ?_
    refine va_get (D := D) (ci := ci) (v := .ref rw) (C := vn ci) (T := TX4) (N := 7) hx hb hg (pq_in hca) hown hK hP 0 rfl (pq_cl hca) 5 (by decide) (hg _ g_148) (fun _ h9 => h9) rfl dX4_takeAct_22 ?_
    refine va_alen hx hb hK hP 1 0 rfl rfl (v := 12) rfl dX4_takeAct_25 ?_
    refine lv_icmp_le (tgt := 31) hx hb dX4_takeAct_26 (by decide) (fun c_2 => ?_) (fun c_2 => ?_)
    · -- P.2.2.2.2 ≤ 12
      refine lv_aload_n hx hb dX4_takeAct_31 rfl (lv_at hl 0 rfl) ?_
      refine lv_dup hx hb dX4_takeAct_32 rfl ?_
      refine va_get (D := D) (ci := ci) (v := .int P.2.2.2.2) (C := vn ci) (T := TX4) (N := 7) hx hb hg (pq_in hca) hown hK hP 0 rfl (pq_cl hca) 6 (by decide) (hg _ g_149) (fun _ h9 => h9) rfl dX4_takeAct_33 ?_
      refine lv_iconst (v := 1) hx hb dX4_takeAct_36 (by decide) ?_
      refine lv_isub hx hb dX4_takeAct_37 ?_
      refine va_put (D := D) (ci := ci) (v := .int (P.2.2.2.2 - 1)) (ty := .int) (C := vn ci) (T := TX4) (N := 7) hx hb hg (pq_in hca) tyX4 tyX4_ok nmX4 hown hK hP hD hS 0 rfl (pq_cl hca) 6 (by decide) (hg _ g_149) (fun _ h9 => h9) rfl (by decide +kernel) rfl rfl (Nat.le_of_ble_eq_true rfl) dX4_takeAct_38 (fun H locs hP hD hS => ?_)
      have hP : va_P D vwCl (wA g ci h rw (P.1, P.2.1, P.2.2.1, P.2.2.2.1, (P.2.2.2.2 - 1)) T (fX8_beginS X 1 0)) H := hP
      have hD : va_D A (wA g ci h rw (P.1, P.2.1, P.2.2.1, P.2.2.2.1, (P.2.2.2.2 - 1)) T (fX8_beginS X 1 0)) := hD
      refine lv_aload_n hx hb dX4_takeAct_41 rfl (lv_at hl 0 rfl) ?_
      refine va_get (D := D) (ci := ci) (v := .ref rw) (C := vn ci) (T := TX4) (N := 7) hx hb hg (pq_in hca) hown hK hP 0 rfl (pq_cl hca) 5 (by decide) (hg _ g_148) (fun _ h9 => h9) rfl dX4_takeAct_42 ?_
      refine lv_aload_n hx hb dX4_takeAct_45 rfl (lv_at hl 0 rfl) ?_
      refine va_get (D := D) (ci := ci) (v := .int (P.2.2.2.2 - 1)) (C := vn ci) (T := TX4) (N := 7) hx hb hg (pq_in hca) hown hK hP 0 rfl (pq_cl hca) 6 (by decide) (hg _ g_149) (fun _ h9 => h9) rfl dX4_takeAct_46 ?_
      refine va_iald hx hb hK hP 1 0 rfl rfl (tk_in c_1 c_2) dX4_takeAct_49 ?_
      refine lv_istore_n (lv' := [(1, .int (P.2.2.2.1 (P.2.2.2.2 - 1).toNatClampNeg)), (0, .ref h)]) hx hb dX4_takeAct_50 rfl hl (by decide) rfl (fun ls hl => ?_)
      refine lv_aload_n hx hb dX4_takeAct_51 rfl (lv_at hl 1 rfl) ?_
      refine va_get (D := D) (ci := ci) (v := .ref g.tm) (C := vn ci) (T := TX4) (N := 7) hx hb hg (pq_in hca) hown hK hP 0 rfl (pq_cl hca) 0 (by decide) (hg _ g_119) (fun _ h9 => h9) rfl dX4_takeAct_52 ?_
      refine lv_iload_n hx hb dX4_takeAct_55 rfl (lv_at hl 0 rfl) ?_
      refine lv_iconst (v := (-1)) hx hb dX4_takeAct_56 (by decide) ?_
      refine z_ve (va_runV (As := [.int (P.2.2.2.1 (P.2.2.2.2 - 1).toNatClampNeg), .int (-1)]) (rest := []) ⟨hx, hb, hml, hown, hts⟩ (c_X7_setPile l D g T (P.2.2.2.1 (P.2.2.2.2 - 1).toNatClampNeg) (-1) _) (z_V 2 hts g_461 g_2 g_458 g_459 g_460 ⟨by decide, by decide, by decide +kernel⟩ ⟨Nat.le_of_ble_eq_true rfl, Nat.le_of_ble_eq_true rfl⟩) (z_preV (ci := 8) (q0 := 0) (hP.subm [2, 3, 4, 5, 6] rfl) (hD.sub [2, 3, 4, 5, 6] (by decide) rfl) hK rfl rfl) rfl rfl hl.1 rfl (lv_room (Nat.le_of_ble_eq_true rfl)) dX4_takeAct_57 ⟨Nat.le_of_ble_eq_true rfl, Nat.le_of_ble_eq_true rfl⟩) hP hD hS hA (wP g ci h rw (P.1, P.2.1, P.2.2.1, P.2.2.2.1, (P.2.2.2.2 - 1)) ++ wD g (fX8_beginS X 1 0)) (wA g ci h rw (P.1, P.2.1, P.2.2.1, P.2.2.2.1, (P.2.2.2.2 - 1)) (fX7_setPileS T (P.2.2.2.1 (P.2.2.2.2 - 1).toNatClampNeg) (-1)) (fX8_beginS X 1 0)) [2, 3, 4, 5, 6] [0, 1, 7, 8] [0, 1, 4, 5, 6, 7, 8, 2, 3] rfl rfl (by decide) (by decide) rfl (by decide) (fun H locs hP hD hS => ?_)
      refine lv_iload_n hx hb dX4_takeAct_60 rfl (lv_at hl 0 rfl) ?_
      exact W.iret (v := (P.2.2.2.1 (P.2.2.2.2 - 1).toNatClampNeg)) hx hb hr (fun t9 ht hW => ⟨⟨(P.2.2.2.1 (P.2.2.2.2 - 1).toNatClampNeg), wA g ci h rw (P.1, P.2.1, P.2.2.1, P.2.2.2.1, (P.2.2.2.2 - 1)) (fX7_setPileS T (P.2.2.2.1 (P.2.2.2.2 - 1).toNatClampNeg) (-1)) (fX8_beginS X 1 0), rfl, ⟨by simp only [fX4_takeActR, if_neg c_1, if_pos c_2], by simp only [fX4_takeActS, if_neg c_1, if_pos c_2]⟩, by rw [ht]; exact hP, va_K.moved hW.alike hK, hD⟩, hS.F ht⟩) hS.2.2 dX4_takeAct_61
    · -- not P.2.2.2.2 ≤ 12
      refine lv_iconst (v := (-1)) hx hb dX4_takeAct_29 (by decide) ?_
      exact W.iret (v := (-1)) hx hb hr (fun t9 ht hW => ⟨⟨(-1), wA g ci h rw P T (fX8_beginS X 1 0), rfl, ⟨by simp only [fX4_takeActR, if_neg c_1, if_neg c_2], by simp only [fX4_takeActS, if_neg c_1, if_neg c_2]⟩, by rw [ht]; exact hP, va_K.moved hW.alike hK, hD⟩, hS.F ht⟩) hS.2.2 dX4_takeAct_30

def fX4_freeActR (P : PP) (T : TT) (X : DD)  : Int32 := (P.2.1 - P.2.2.2.2)
def fX4_freeActS (P : PP) (T : TT) (X : DD)  : PP × TT × DD := (P, T, fX8_beginS X 4 0)
set_option maxHeartbeats 4000000 in
set_option maxRecDepth 100000 in
theorem c_X4_freeAct (l : Launch) (D : va_G) (g : GA) (ci h rw : Nat) (hci : pkAll ci) (P : PP) (T : TT) (X : DD)  : ctI l D (tyA g) yX4_freeAct (wd yX4_freeAct cX4_freeAct 1 (Option.some Jvm.ClassFile.FieldType.int)) { frames := 2, cells := 0, slots := 0, locals := 37 } [.ref h] (wA g ci h rw P T X) (fun r w => r = fX4_freeActR P T X ∧ w = wA g ci h rw (fX4_freeActS P T X).1 (fX4_freeActS P T X).2.1 (fX4_freeActS P T X).2.2) := by
  intro sz
  refine Met.ofW (cc := cX4_freeAct) (maxL := 1) (ret := (Option.some Jvm.ClassFile.FieldType.int)) (by decide) rfl ?_
  intro p e s m args below meth c s₁ B hml hv
  obtain ⟨rfl, hsz, hP, hK, hD0⟩ := hv
  have hx := B.exec
  have hb := B.bytes
  have hr := B.returns
  have hts := atoms_spec (ws := (wd yX4_freeAct cX4_freeAct 1 (Option.some Jvm.ClassFile.FieldType.int))) B.pre
  have hg := Tb.of hts
  have hown : s.vm.findClass RX4 = some m.cls := findClass_of_methodNamed B.named
  have hlocks := B.notSynchronized
  subst hsz
  have hD := hD0.self (sz := s.heap.size)
  generalize hAe : va_A (wA g ci h rw P T X) s.heap.size = A at hD ⊢
  have hA : ∀ q : Nat, s.heap.size ≤ q → A q := fun q h => by rw [← hAe]; exact Or.inr h
  have hS : va_S A s.heap s.heap [] := va_S.rf
  have hP : va_P D vwCl (wA g ci h rw P T X) s.heap := hP
  have hl := lv_entry ([.ref h]) (n := 1) (Nat.le_of_ble_eq_true rfl)
  rw [lg_entry_eq]
  generalize (lg_sl ([.ref h]) ++ List.replicate (1 - (lg_sl ([.ref h])).length) Slot.unset).toArray = ls at hl ⊢
  have hl : lv_has ls 1 [(0, .ref h)] := hl
  have hca : pkAll ci := hci
  refine lv_aload_n hx hb dX4_freeAct_0 rfl (lv_at hl 0 rfl) ?_
  refine va_get (D := D) (ci := ci) (v := .ref g.dn) (C := vn ci) (T := TX4) (N := 7) hx hb hg (pq_in hca) hown hK hP 0 rfl (pq_cl hca) 1 (by decide) (hg _ g_130) (fun _ h9 => h9) rfl dX4_freeAct_1 ?_
  refine lv_iconst (v := 4) hx hb dX4_freeAct_4 (by decide) ?_
  refine lv_iconst (v := 0) hx hb dX4_freeAct_5 (by decide) ?_
  refine z_ve (va_runV (As := [.int 4, .int 0]) (rest := []) ⟨hx, hb, hml, hown, hts⟩ (c_X8_begin l D g X 4 0 _) (z_V 2 hts g_278 g_3 g_316 g_276 g_277 ⟨by decide, by decide, by decide +kernel⟩ ⟨Nat.le_of_ble_eq_true rfl, Nat.le_of_ble_eq_true rfl⟩) (z_preV (ci := 9) (q0 := 0) (hP.subm [7, 8] rfl) (hD.sub [7, 8] (by decide) rfl) hK rfl rfl) rfl rfl hl.1 rfl (lv_room (Nat.le_of_ble_eq_true rfl)) dX4_freeAct_6 ⟨Nat.le_of_ble_eq_true rfl, Nat.le_of_ble_eq_true rfl⟩) hP hD hS hA (wP g ci h rw P ++ wT g T) (wA g ci h rw P T (fX8_beginS X 4 0)) [7, 8] [0, 1, 2, 3, 4, 5, 6] [0, 1, 2, 3, 4, 5, 6, 7, 8] rfl rfl (by decide) (by decide) rfl (by decide) (fun H locs hP hD hS => ?_)
  refine lv_aload_n hx hb dX4_freeAct_9 rfl (lv_at hl 0 rfl) ?_
  refine va_get (D := D) (ci := ci) (v := .int P.2.1) (C := vn ci) (T := TX4) (N := 7) hx hb hg (pq_in hca) hown hK hP 0 rfl (pq_cl hca) 3 (by decide) (hg _ g_144) (fun _ h9 => h9) rfl dX4_freeAct_10 ?_
  refine lv_aload_n hx hb dX4_freeAct_13 rfl (lv_at hl 0 rfl) ?_
  refine va_get (D := D) (ci := ci) (v := .int P.2.2.2.2) (C := vn ci) (T := TX4) (N := 7) hx hb hg (pq_in hca) hown hK hP 0 rfl (pq_cl hca) 6 (by decide) (hg _ g_149) (fun _ h9 => h9) rfl dX4_freeAct_14 ?_
  refine lv_isub hx hb dX4_freeAct_17 ?_
  exact W.iret (v := (P.2.1 - P.2.2.2.2)) hx hb hr (fun t9 ht hW => ⟨⟨(P.2.1 - P.2.2.2.2), wA g ci h rw P T (fX8_beginS X 4 0), rfl, ⟨rfl, rfl⟩, by rw [ht]; exact hP, va_K.moved hW.alike hK, hD⟩, hS.F ht⟩) hS.2.2 dX4_freeAct_18

def fX4_swapWithUnderS (P : PP) (T : TT) (X : DD) (i : Int32) : PP × TT × DD := ((if i < 1 then P else (if P.2.2.2.2 ≤ i then P else (if 12 ≤ i then P else (P.1, P.2.1, P.2.2.1, upd (upd P.2.2.2.1 (i - 1).toNatClampNeg (P.2.2.2.1 i.toNatClampNeg)) i.toNatClampNeg (P.2.2.2.1 (i - 1).toNatClampNeg), P.2.2.2.2)))), T, X)
set_option maxHeartbeats 4000000 in
set_option maxRecDepth 100000 in
theorem c_X4_swapWithUnder (l : Launch) (D : va_G) (g : GA) (ci h rw : Nat) (hci : pkAll ci) (P : PP) (T : TT) (X : DD) (i : Int32) : ctV l D (tyA g) yX4_swapWithUnder (wd yX4_swapWithUnder cX4_swapWithUnder 3 (Option.none : Option Jvm.ClassFile.FieldType)) { frames := 0, cells := 0, slots := 0, locals := 0 } [.ref h, .int i] (wA g ci h rw P T X) (fun w => w = wA g ci h rw (fX4_swapWithUnderS P T X i).1 (fX4_swapWithUnderS P T X i).2.1 (fX4_swapWithUnderS P T X i).2.2) := by
  intro sz
  refine Met.ofW (cc := cX4_swapWithUnder) (maxL := 3) (ret := (Option.none : Option Jvm.ClassFile.FieldType)) (by decide) rfl ?_
  intro p e s m args below meth c s₁ B hml hv
  obtain ⟨rfl, hsz, hP, hK, hD0⟩ := hv
  have hx := B.exec
  have hb := B.bytes
  have hr := B.returns
  have hts := atoms_spec (ws := (wd yX4_swapWithUnder cX4_swapWithUnder 3 (Option.none : Option Jvm.ClassFile.FieldType))) B.pre
  have hg := Tb.of hts
  have hown : s.vm.findClass RX4 = some m.cls := findClass_of_methodNamed B.named
  have hlocks := B.notSynchronized
  subst hsz
  have hD := hD0.self (sz := s.heap.size)
  generalize hAe : va_A (wA g ci h rw P T X) s.heap.size = A at hD ⊢
  have hA : ∀ q : Nat, s.heap.size ≤ q → A q := fun q h => by rw [← hAe]; exact Or.inr h
  have hS : va_S A s.heap s.heap [] := va_S.rf
  have hP : va_P D vwCl (wA g ci h rw P T X) s.heap := hP
  have hl := lv_entry ([.ref h, .int i]) (n := 3) (Nat.le_of_ble_eq_true rfl)
  rw [lg_entry_eq]
  generalize (lg_sl ([.ref h, .int i]) ++ List.replicate (3 - (lg_sl ([.ref h, .int i])).length) Slot.unset).toArray = ls at hl ⊢
  have hl : lv_has ls 3 [(0, .ref h), (1, .int i)] := hl
  have hca : pkAll ci := hci
  refine lv_iload_n hx hb dX4_swapWithUnder_0 rfl (lv_at hl 1 rfl) ?_
  refine lv_iconst (v := 1) hx hb dX4_swapWithUnder_1 (by decide) ?_
  refine lv_icmp_lt (tgt := 52) hx hb dX4_swapWithUnder_2 (by decide) (fun c_1 => ?_) (fun c_1 => ?_)
  · -- i < 1
    exact W.vret hx hb hr (fun t9 ht hW => ⟨⟨wA g ci h rw P T X, rfl, by simp only [fX4_swapWithUnderS, if_pos c_1], by rw [ht]; exact hP, va_K.moved hW.alike hK, hD⟩, hS.F ht⟩) hS.2.2 dX4_swapWithUnder_52
  · -- not i < 1
    refine lv_iload_n hx hb dX4_swapWithUnder_5 rfl (lv_at hl 1 rfl) ?_
    refine lv_aload_n hx hb dX4_swapWithUnder_6 rfl (lv_at hl 0 rfl) ?_
    refine va_get (D := D) (ci := ci) (v := .int P.2.2.2.2) (C := vn ci) (T := TX4) (N := 7) hx hb hg (pq_in hca) hown hK hP 0 rfl (pq_cl hca) 6 (by decide) (hg _ g_149) (fun _ h9 => h9) rfl dX4_swapWithUnder_7 ?_
    refine lv_icmp_ge (tgt := 52) hx hb dX4_swapWithUnder_10 (by decide) (fun c_2 => ?_) (fun c_2 => ?_)
    · -- P.2.2.2.2 ≤ i
      exact W.vret hx hb hr (fun t9 ht hW => ⟨⟨wA g ci h rw P T X, rfl, by simp only [fX4_swapWithUnderS, if_neg c_1, if_pos c_2], by rw [ht]; exact hP, va_K.moved hW.alike hK, hD⟩, hS.F ht⟩) hS.2.2 dX4_swapWithUnder_52
    · -- not P.2.2.2.2 ≤ i
      refine lv_iload_n hx hb dX4_swapWithUnder_13 rfl (lv_at hl 1 rfl) ?_
      refine lv_aload_n hx hb dX4_swapWithUnder_14 rfl (lv_at hl 0 rfl) ?_
      refine va_get (D := D) (ci := ci) (v := .ref rw) (C := vn ci) (T := TX4) (N := 7) hx hb hg (pq_in hca) hown hK hP 0 rfl (pq_cl hca) 5 (by decide) (hg _ g_148) (fun _ h9 => h9) rfl dX4_swapWithUnder_15 ?_
      refine va_alen hx hb hK hP 1 0 rfl rfl (v := 12) rfl dX4_swapWithUnder_18 ?_
      refine lv_icmp_ge (tgt := 52) hx hb dX4_swapWithUnder_19 (by decide) (fun c_3 => ?_) (fun c_3 => ?_)
      · -- 12 ≤ i
        exact W.vret hx hb hr (fun t9 ht hW => ⟨⟨wA g ci h rw P T X, rfl, by simp only [fX4_swapWithUnderS, if_neg c_1, if_neg c_2, if_pos c_3], by rw [ht]; exact hP, va_K.moved hW.alike hK, hD⟩, hS.F ht⟩) hS.2.2 dX4_swapWithUnder_52
      · -- not 12 ≤ i
        refine lv_aload_n hx hb dX4_swapWithUnder_22 rfl (lv_at hl 0 rfl) ?_
        refine va_get (D := D) (ci := ci) (v := .ref rw) (C := vn ci) (T := TX4) (N := 7) hx hb hg (pq_in hca) hown hK hP 0 rfl (pq_cl hca) 5 (by decide) (hg _ g_148) (fun _ h9 => h9) rfl dX4_swapWithUnder_23 ?_
        refine lv_iload_n hx hb dX4_swapWithUnder_26 rfl (lv_at hl 1 rfl) ?_
        refine lv_iconst (v := 1) hx hb dX4_swapWithUnder_27 (by decide) ?_
        refine lv_isub hx hb dX4_swapWithUnder_28 ?_
        refine va_iald hx hb hK hP 1 0 rfl rfl (sw_in1 c_1 c_3) dX4_swapWithUnder_29 ?_
        refine lv_istore_n (lv' := [(2, .int (P.2.2.2.1 (i - 1).toNatClampNeg)), (0, .ref h), (1, .int i)]) hx hb dX4_swapWithUnder_30 rfl hl (by decide) rfl (fun ls hl => ?_)
        refine lv_aload_n hx hb dX4_swapWithUnder_31 rfl (lv_at hl 1 rfl) ?_
        refine va_get (D := D) (ci := ci) (v := .ref rw) (C := vn ci) (T := TX4) (N := 7) hx hb hg (pq_in hca) hown hK hP 0 rfl (pq_cl hca) 5 (by decide) (hg _ g_148) (fun _ h9 => h9) rfl dX4_swapWithUnder_32 ?_
        refine lv_iload_n hx hb dX4_swapWithUnder_35 rfl (lv_at hl 2 rfl) ?_
        refine lv_iconst (v := 1) hx hb dX4_swapWithUnder_36 (by decide) ?_
        refine lv_isub hx hb dX4_swapWithUnder_37 ?_
        refine lv_aload_n hx hb dX4_swapWithUnder_38 rfl (lv_at hl 1 rfl) ?_
        refine va_get (D := D) (ci := ci) (v := .ref rw) (C := vn ci) (T := TX4) (N := 7) hx hb hg (pq_in hca) hown hK hP 0 rfl (pq_cl hca) 5 (by decide) (hg _ g_148) (fun _ h9 => h9) rfl dX4_swapWithUnder_39 ?_
        refine lv_iload_n hx hb dX4_swapWithUnder_42 rfl (lv_at hl 2 rfl) ?_
        refine va_iald hx hb hK hP 1 0 rfl rfl (sw_in0 c_1 c_3) dX4_swapWithUnder_43 ?_
        refine va_iast hx hb hK hP hD hS 1 0 rfl rfl (sw_in1 c_1 c_3) dX4_swapWithUnder_44 (fun H locs hP hD hS => ?_)
        have hP : va_P D vwCl (wA g ci h rw (P.1, P.2.1, P.2.2.1, upd P.2.2.2.1 (i - 1).toNatClampNeg (P.2.2.2.1 i.toNatClampNeg), P.2.2.2.2) T X) H := hP
        have hD : va_D A (wA g ci h rw (P.1, P.2.1, P.2.2.1, upd P.2.2.2.1 (i - 1).toNatClampNeg (P.2.2.2.1 i.toNatClampNeg), P.2.2.2.2) T X) := hD
        refine lv_aload_n hx hb dX4_swapWithUnder_45 rfl (lv_at hl 1 rfl) ?_
        refine va_get (D := D) (ci := ci) (v := .ref rw) (C := vn ci) (T := TX4) (N := 7) hx hb hg (pq_in hca) hown hK hP 0 rfl (pq_cl hca) 5 (by decide) (hg _ g_148) (fun _ h9 => h9) rfl dX4_swapWithUnder_46 ?_
        refine lv_iload_n hx hb dX4_swapWithUnder_49 rfl (lv_at hl 2 rfl) ?_
        refine lv_iload_n hx hb dX4_swapWithUnder_50 rfl (lv_at hl 0 rfl) ?_
        refine va_iast hx hb hK hP hD hS 1 0 rfl rfl (sw_in0 c_1 c_3) dX4_swapWithUnder_51 (fun H locs hP hD hS => ?_)
        have hP : va_P D vwCl (wA g ci h rw (P.1, P.2.1, P.2.2.1, upd (upd P.2.2.2.1 (i - 1).toNatClampNeg (P.2.2.2.1 i.toNatClampNeg)) i.toNatClampNeg (P.2.2.2.1 (i - 1).toNatClampNeg), P.2.2.2.2) T X) H := hP
        have hD : va_D A (wA g ci h rw (P.1, P.2.1, P.2.2.1, upd (upd P.2.2.2.1 (i - 1).toNatClampNeg (P.2.2.2.1 i.toNatClampNeg)) i.toNatClampNeg (P.2.2.2.1 (i - 1).toNatClampNeg), P.2.2.2.2) T X) := hD
        exact W.vret hx hb hr (fun t9 ht hW => ⟨⟨wA g ci h rw (P.1, P.2.1, P.2.2.1, upd (upd P.2.2.2.1 (i - 1).toNatClampNeg (P.2.2.2.1 i.toNatClampNeg)) i.toNatClampNeg (P.2.2.2.1 (i - 1).toNatClampNeg), P.2.2.2.2) T X, rfl, by simp only [fX4_swapWithUnderS, if_neg c_1, if_neg c_2, if_neg c_3], by rw [ht]; exact hP, va_K.moved hW.alike hK, hD⟩, hS.F ht⟩) hS.2.2 dX4_swapWithUnder_52

def lX4_load (P : PP) (T : TT) (X : DD) : Nat → Int32 → Int32 → Int32
  | 0, sum, _ => sum
  | n + 1, sum, pl => if P.2.2.2.2 ≤ pl then sum else lX4_load P T X n (sum + fX7_weightOfR T (fX4_timberAtR P T X pl)) (pl + 1)
def fX4_loadActR (P : PP) (T : TT) (X : DD) : Int32 := lX4_load P T (fX8_beginS X 2 0) (P.2.2.2.2.toNatClampNeg + 1) 0 0
def fX4_loadActS (P : PP) (T : TT) (X : DD) : PP × TT × DD := (P, T, fX8_beginS X 2 0)
set_option maxHeartbeats 4000000 in
set_option maxRecDepth 100000 in
theorem c_X4_loadAct (l : Launch) (D : va_G) (g : GA) (ci h rw : Nat) (hci : pkAll ci) (P : PP) (T : TT) (X : DD)  : ctI l D (tyA g) yX4_loadAct (wd yX4_loadAct cX4_loadAct 3 (Option.some Jvm.ClassFile.FieldType.int)) { frames := 2, cells := 0, slots := 0, locals := 42 } [.ref h] (wA g ci h rw P T X) (fun r w => r = fX4_loadActR P T X ∧ w = wA g ci h rw (fX4_loadActS P T X).1 (fX4_loadActS P T X).2.1 (fX4_loadActS P T X).2.2) := by
  intro sz
  refine Met.ofW (cc := cX4_loadAct) (maxL := 3) (ret := (Option.some Jvm.ClassFile.FieldType.int)) (by decide) rfl ?_
  intro p e s m args below meth c s₁ B hml hv
  obtain ⟨rfl, hsz, hP, hK, hD0⟩ := hv
  have hx := B.exec
  have hb := B.bytes
  have hr := B.returns
  have hts := atoms_spec (ws := (wd yX4_loadAct cX4_loadAct 3 (Option.some Jvm.ClassFile.FieldType.int))) B.pre
  have hg := Tb.of hts
  have hown : s.vm.findClass RX4 = some m.cls := findClass_of_methodNamed B.named
  have hlocks := B.notSynchronized
  subst hsz
  have hD := hD0.self (sz := s.heap.size)
  generalize hAe : va_A (wA g ci h rw P T X) s.heap.size = A at hD ⊢
  have hA : ∀ q : Nat, s.heap.size ≤ q → A q := fun q h => by rw [← hAe]; exact Or.inr h
  have hS : va_S A s.heap s.heap [] := va_S.rf
  have hP : va_P D vwCl (wA g ci h rw P T X) s.heap := hP
  have hl := lv_entry ([.ref h]) (n := 3) (Nat.le_of_ble_eq_true rfl)
  rw [lg_entry_eq]
  generalize (lg_sl ([.ref h]) ++ List.replicate (3 - (lg_sl ([.ref h])).length) Slot.unset).toArray = ls at hl ⊢
  have hl : lv_has ls 3 [(0, .ref h)] := hl
  have hca : pkAll ci := hci
  refine lv_aload_n hx hb dX4_loadAct_0 rfl (lv_at hl 0 rfl) ?_
  refine va_get (D := D) (ci := ci) (v := .ref g.dn) (C := vn ci) (T := TX4) (N := 7) hx hb hg (pq_in hca) hown hK hP 0 rfl (pq_cl hca) 1 (by decide) (hg _ g_130) (fun _ h9 => h9) rfl dX4_loadAct_1 ?_
  refine lv_iconst (v := 2) hx hb dX4_loadAct_4 (by decide) ?_
  refine lv_iconst (v := 0) hx hb dX4_loadAct_5 (by decide) ?_
  refine z_ve (va_runV (As := [.int 2, .int 0]) (rest := []) ⟨hx, hb, hml, hown, hts⟩ (c_X8_begin l D g X 2 0 _) (z_V 2 hts g_278 g_3 g_316 g_276 g_277 ⟨by decide, by decide, by decide +kernel⟩ ⟨Nat.le_of_ble_eq_true rfl, Nat.le_of_ble_eq_true rfl⟩) (z_preV (ci := 9) (q0 := 0) (hP.subm [7, 8] rfl) (hD.sub [7, 8] (by decide) rfl) hK rfl rfl) rfl rfl hl.1 rfl (lv_room (Nat.le_of_ble_eq_true rfl)) dX4_loadAct_6 ⟨Nat.le_of_ble_eq_true rfl, Nat.le_of_ble_eq_true rfl⟩) hP hD hS hA (wP g ci h rw P ++ wT g T) (wA g ci h rw P T (fX8_beginS X 2 0)) [7, 8] [0, 1, 2, 3, 4, 5, 6] [0, 1, 2, 3, 4, 5, 6, 7, 8] rfl rfl (by decide) (by decide) rfl (by decide) (fun H locs hP hD hS => ?_)
  refine lv_iconst (v := 0) hx hb dX4_loadAct_9 (by decide) ?_
  refine lv_istore_n (lv' := [(1, .int 0), (0, .ref h)]) hx hb dX4_loadAct_10 rfl hl (by decide) rfl (fun ls hl => ?_)
  refine lv_iconst (v := 0) hx hb dX4_loadAct_11 (by decide) ?_
  refine lv_istore_n (lv' := [(2, .int 0), (1, .int 0), (0, .ref h)]) hx hb dX4_loadAct_12 rfl hl (by decide) rfl (fun ls hl => ?_)
  refine z_loop (pc := 13) (fun n (x : Int32 × Int32) H locs ls => ((P.2.2.2.2.toInt - x.2.toInt).toNat < n ∧ lX4_load P T (fX8_beginS X 2 0) n x.1 x.2 = fX4_loadActR P T X) ∧ va_P D vwCl (wA g ci h rw P T (fX8_beginS X 2 0)) H ∧ va_D A (wA g ci h rw P T (fX8_beginS X 2 0)) ∧ va_S A s.heap H locs ∧ lv_has ls 3 [(0, .ref h), (1, .int x.1), (2, .int x.2)]) (fun x H locs ls h => absurd h.1.1 (Nat.not_lt_zero _)) ?_ (P.2.2.2.2.toNatClampNeg + 1) (0, 0) _ _ _ ⟨⟨lp_st _, rfl⟩, hP, hD, hS, lv_sub hl [2, 1, 0] rfl⟩
  intro n x H locs ls hI ih
  obtain ⟨hI, hP, hD, hS, hl⟩ := hI
  refine lv_iload_n hx hb dX4_loadAct_13 rfl (lv_at hl 2 rfl) ?_
  refine lv_aload_n hx hb dX4_loadAct_14 rfl (lv_at hl 0 rfl) ?_
  refine va_get (D := D) (ci := ci) (v := .int P.2.2.2.2) (C := vn ci) (T := TX4) (N := 7) hx hb hg (pq_in hca) hown hK hP 0 rfl (pq_cl hca) 6 (by decide) (hg _ g_149) (fun _ h9 => h9) rfl dX4_loadAct_15 ?_
  refine lv_icmp_ge (tgt := 42) hx hb dX4_loadAct_18 (by decide) (fun c_1 => ?_) (fun c_1 => ?_)
  · -- P.2.2.2.2 ≤ x.2
    refine lv_iload_n hx hb dX4_loadAct_42 rfl (lv_at hl 1 rfl) ?_
    exact W.iret (v := x.1) hx hb hr (fun t9 ht hW => ⟨⟨x.1, wA g ci h rw P T (fX8_beginS X 2 0), rfl, ⟨by rw [← hI.2]; simp only [lX4_load, if_pos c_1], rfl⟩, by rw [ht]; exact hP, va_K.moved hW.alike hK, hD⟩, hS.F ht⟩) hS.2.2 dX4_loadAct_43
  · -- not P.2.2.2.2 ≤ x.2
    refine lv_iload_n hx hb dX4_loadAct_21 rfl (lv_at hl 1 rfl) ?_
    refine lv_aload_n hx hb dX4_loadAct_22 rfl (lv_at hl 0 rfl) ?_
    refine va_get (D := D) (ci := ci) (v := .ref g.tm) (C := vn ci) (T := TX4) (N := 7) hx hb hg (pq_in hca) hown hK hP 0 rfl (pq_cl hca) 0 (by decide) (hg _ g_119) (fun _ h9 => h9) rfl dX4_loadAct_23 ?_
    refine lv_aload_n hx hb dX4_loadAct_26 rfl (lv_at hl 0 rfl) ?_
    refine lv_iload_n hx hb dX4_loadAct_27 rfl (lv_at hl 2 rfl) ?_
    refine z_ie (va_runU (C := vn ci) (As := [.int x.2]) (rest := [.ref g.tm, .int x.1]) ⟨hx, hb, hml, hown, hts⟩ (c_X4_timberAt l D g ci h rw hca P T (fX8_beginS X 2 0) x.2 _) (z_U (x := ⟨"PileHeirs$Plain", "timberAt", "(I)I"⟩) (owner := RX4) 1 hts g_303 g_5 g_317 g_846 g_302 g_303 (sl_Plain_timberAt hca) g_302 ⟨by decide, by decide, by decide +kernel⟩ ⟨Nat.le_of_ble_eq_true rfl, Nat.le_of_ble_eq_true rfl⟩) (z_preV (ci := ci) (q0 := 0) (hP.subm [0, 1, 2, 3, 4, 5, 6, 7, 8] rfl) (hD.sub [0, 1, 2, 3, 4, 5, 6, 7, 8] (by decide) rfl) hK (pq_cl hca) rfl) rfl rfl hl.1 rfl (lv_room (Nat.le_of_ble_eq_true rfl)) dX4_loadAct_28 ⟨Nat.le_of_ble_eq_true rfl, Nat.le_of_ble_eq_true rfl⟩) hP hD hS hA (([] : va_W)) (wA g ci h rw P T (fX8_beginS X 2 0)) [0, 1, 2, 3, 4, 5, 6, 7, 8] [] [0, 1, 2, 3, 4, 5, 6, 7, 8] rfl rfl (by decide) (by decide) rfl (by decide) (fun H locs hP hD hS => ?_)
    refine z_ie (va_runV (As := [.int (fX4_timberAtR P T (fX8_beginS X 2 0) x.2)]) (rest := [.int x.1]) ⟨hx, hb, hml, hown, hts⟩ (c_X7_weightOf l D g T (fX4_timberAtR P T (fX8_beginS X 2 0) x.2) _) (z_V 1 hts g_321 g_2 g_318 g_319 g_320 ⟨by decide, by decide, by decide +kernel⟩ ⟨Nat.le_of_ble_eq_true rfl, Nat.le_of_ble_eq_true rfl⟩) (z_preV (ci := 8) (q0 := 0) (hP.subm [2, 3, 4, 5, 6] rfl) (hD.sub [2, 3, 4, 5, 6] (by decide) rfl) hK rfl rfl) rfl rfl hl.1 rfl (lv_room (Nat.le_of_ble_eq_true rfl)) dX4_loadAct_31 ⟨Nat.le_of_ble_eq_true rfl, Nat.le_of_ble_eq_true rfl⟩) hP hD hS hA (wP g ci h rw P ++ wD g (fX8_beginS X 2 0)) (wA g ci h rw P T (fX8_beginS X 2 0)) [2, 3, 4, 5, 6] [0, 1, 7, 8] [0, 1, 4, 5, 6, 7, 8, 2, 3] rfl rfl (by decide) (by decide) rfl (by decide) (fun H locs hP hD hS => ?_)
    refine lv_iadd hx hb dX4_loadAct_34 ?_
    refine lv_istore_n (lv' := [(1, .int (x.1 + (fX7_weightOfR T (fX4_timberAtR P T (fX8_beginS X 2 0) x.2)))), (0, .ref h), (2, .int x.2)]) hx hb dX4_loadAct_35 rfl hl (by decide) rfl (fun ls hl => ?_)
    refine lv_iinc (v := (x.2 + 1)) (lv' := [(2, .int (x.2 + 1)), (1, .int (x.1 + (fX7_weightOfR T (fX4_timberAtR P T (fX8_beginS X 2 0) x.2)))), (0, .ref h)]) hx hb dX4_loadAct_36 hl (k := 2) rfl rfl (by decide) rfl (fun ls hl => ?_)
    refine lv_goto (tgt := 13) hx hb dX4_loadAct_39 (by decide) ?_
    exact ih ((x.1 + (fX7_weightOfR T (fX4_timberAtR P T (fX8_beginS X 2 0) x.2))), (x.2 + 1)) _ _ _ ⟨⟨lp_up c_1 hI.1, by rw [← hI.2]; simp only [lX4_load, if_neg c_1]⟩, hP, hD, hS, lv_sub hl [2, 1, 0] rfl⟩

def lX4_search (P : PP) (T : TT) (X : DD) (i : Int32) : Nat → Int32 → Int32
  | 0, _ => -1
  | n + 1, pl => if P.2.2.2.2 ≤ pl then -1 else if fX7_lengthOfR T (fX4_timberAtR P T X pl) < i then lX4_search P T X i n (pl + 1) else pl
def fX4_searchActR (P : PP) (T : TT) (X : DD) (i : Int32) : Int32 := lX4_search P T (fX8_beginS X 3 0) i (P.2.2.2.2.toNatClampNeg + 1) 0
def fX4_searchActS (P : PP) (T : TT) (X : DD) (i : Int32) : PP × TT × DD := (P, T, fX8_beginS X 3 0)
set_option maxHeartbeats 4000000 in
set_option maxRecDepth 100000 in
theorem c_X4_searchAct (l : Launch) (D : va_G) (g : GA) (ci h rw : Nat) (hci : pkAll ci) (P : PP) (T : TT) (X : DD) (i : Int32) : ctI l D (tyA g) yX4_searchAct (wd yX4_searchAct cX4_searchAct 3 (Option.some Jvm.ClassFile.FieldType.int)) { frames := 2, cells := 0, slots := 0, locals := 42 } [.ref h, .int i] (wA g ci h rw P T X) (fun r w => r = fX4_searchActR P T X i ∧ w = wA g ci h rw (fX4_searchActS P T X i).1 (fX4_searchActS P T X i).2.1 (fX4_searchActS P T X i).2.2) := by
  intro sz
  refine Met.ofW (cc := cX4_searchAct) (maxL := 3) (ret := (Option.some Jvm.ClassFile.FieldType.int)) (by decide) rfl ?_
  intro p e s m args below meth c s₁ B hml hv
  obtain ⟨rfl, hsz, hP, hK, hD0⟩ := hv
  have hx := B.exec
  have hb := B.bytes
  have hr := B.returns
  have hts := atoms_spec (ws := (wd yX4_searchAct cX4_searchAct 3 (Option.some Jvm.ClassFile.FieldType.int))) B.pre
  have hg := Tb.of hts
  have hown : s.vm.findClass RX4 = some m.cls := findClass_of_methodNamed B.named
  have hlocks := B.notSynchronized
  subst hsz
  have hD := hD0.self (sz := s.heap.size)
  generalize hAe : va_A (wA g ci h rw P T X) s.heap.size = A at hD ⊢
  have hA : ∀ q : Nat, s.heap.size ≤ q → A q := fun q h => by rw [← hAe]; exact Or.inr h
  have hS : va_S A s.heap s.heap [] := va_S.rf
  have hP : va_P D vwCl (wA g ci h rw P T X) s.heap := hP
  have hl := lv_entry ([.ref h, .int i]) (n := 3) (Nat.le_of_ble_eq_true rfl)
  rw [lg_entry_eq]
  generalize (lg_sl ([.ref h, .int i]) ++ List.replicate (3 - (lg_sl ([.ref h, .int i])).length) Slot.unset).toArray = ls at hl ⊢
  have hl : lv_has ls 3 [(0, .ref h), (1, .int i)] := hl
  have hca : pkAll ci := hci
  refine lv_aload_n hx hb dX4_searchAct_0 rfl (lv_at hl 0 rfl) ?_
  refine va_get (D := D) (ci := ci) (v := .ref g.dn) (C := vn ci) (T := TX4) (N := 7) hx hb hg (pq_in hca) hown hK hP 0 rfl (pq_cl hca) 1 (by decide) (hg _ g_130) (fun _ h9 => h9) rfl dX4_searchAct_1 ?_
  refine lv_iconst (v := 3) hx hb dX4_searchAct_4 (by decide) ?_
  refine lv_iconst (v := 0) hx hb dX4_searchAct_5 (by decide) ?_
  refine z_ve (va_runV (As := [.int 3, .int 0]) (rest := []) ⟨hx, hb, hml, hown, hts⟩ (c_X8_begin l D g X 3 0 _) (z_V 2 hts g_278 g_3 g_316 g_276 g_277 ⟨by decide, by decide, by decide +kernel⟩ ⟨Nat.le_of_ble_eq_true rfl, Nat.le_of_ble_eq_true rfl⟩) (z_preV (ci := 9) (q0 := 0) (hP.subm [7, 8] rfl) (hD.sub [7, 8] (by decide) rfl) hK rfl rfl) rfl rfl hl.1 rfl (lv_room (Nat.le_of_ble_eq_true rfl)) dX4_searchAct_6 ⟨Nat.le_of_ble_eq_true rfl, Nat.le_of_ble_eq_true rfl⟩) hP hD hS hA (wP g ci h rw P ++ wT g T) (wA g ci h rw P T (fX8_beginS X 3 0)) [7, 8] [0, 1, 2, 3, 4, 5, 6] [0, 1, 2, 3, 4, 5, 6, 7, 8] rfl rfl (by decide) (by decide) rfl (by decide) (fun H locs hP hD hS => ?_)
  refine lv_iconst (v := 0) hx hb dX4_searchAct_9 (by decide) ?_
  refine lv_istore_n (lv' := [(2, .int 0), (0, .ref h), (1, .int i)]) hx hb dX4_searchAct_10 rfl hl (by decide) rfl (fun ls hl => ?_)
  refine z_loop (pc := 11) (fun n (x : Int32) H locs ls => ((P.2.2.2.2.toInt - x.toInt).toNat < n ∧ lX4_search P T (fX8_beginS X 3 0) i n x = fX4_searchActR P T X i) ∧ va_P D vwCl (wA g ci h rw P T (fX8_beginS X 3 0)) H ∧ va_D A (wA g ci h rw P T (fX8_beginS X 3 0)) ∧ va_S A s.heap H locs ∧ lv_has ls 3 [(0, .ref h), (1, .int i), (2, .int x)]) (fun x H locs ls h => absurd h.1.1 (Nat.not_lt_zero _)) ?_ (P.2.2.2.2.toNatClampNeg + 1) 0 _ _ _ ⟨⟨lp_st _, rfl⟩, hP, hD, hS, lv_sub hl [1, 2, 0] rfl⟩
  intro n x H locs ls hI ih
  obtain ⟨hI, hP, hD, hS, hl⟩ := hI
  refine lv_iload_n hx hb dX4_searchAct_11 rfl (lv_at hl 2 rfl) ?_
  refine lv_aload_n hx hb dX4_searchAct_12 rfl (lv_at hl 0 rfl) ?_
  refine va_get (D := D) (ci := ci) (v := .int P.2.2.2.2) (C := vn ci) (T := TX4) (N := 7) hx hb hg (pq_in hca) hown hK hP 0 rfl (pq_cl hca) 6 (by decide) (hg _ g_149) (fun _ h9 => h9) rfl dX4_searchAct_13 ?_
  refine lv_icmp_ge (tgt := 43) hx hb dX4_searchAct_16 (by decide) (fun c_1 => ?_) (fun c_1 => ?_)
  · -- P.2.2.2.2 ≤ x
    refine lv_iconst (v := (-1)) hx hb dX4_searchAct_43 (by decide) ?_
    exact W.iret (v := (-1)) hx hb hr (fun t9 ht hW => ⟨⟨(-1), wA g ci h rw P T (fX8_beginS X 3 0), rfl, ⟨by rw [← hI.2]; simp only [lX4_search, if_pos c_1], rfl⟩, by rw [ht]; exact hP, va_K.moved hW.alike hK, hD⟩, hS.F ht⟩) hS.2.2 dX4_searchAct_44
  · -- not P.2.2.2.2 ≤ x
    refine lv_aload_n hx hb dX4_searchAct_19 rfl (lv_at hl 0 rfl) ?_
    refine va_get (D := D) (ci := ci) (v := .ref g.tm) (C := vn ci) (T := TX4) (N := 7) hx hb hg (pq_in hca) hown hK hP 0 rfl (pq_cl hca) 0 (by decide) (hg _ g_119) (fun _ h9 => h9) rfl dX4_searchAct_20 ?_
    refine lv_aload_n hx hb dX4_searchAct_23 rfl (lv_at hl 0 rfl) ?_
    refine lv_iload_n hx hb dX4_searchAct_24 rfl (lv_at hl 2 rfl) ?_
    refine z_ie (va_runU (C := vn ci) (As := [.int x]) (rest := [.ref g.tm]) ⟨hx, hb, hml, hown, hts⟩ (c_X4_timberAt l D g ci h rw hca P T (fX8_beginS X 3 0) x _) (z_U (x := ⟨"PileHeirs$Plain", "timberAt", "(I)I"⟩) (owner := RX4) 1 hts g_303 g_5 g_317 g_846 g_302 g_303 (sl_Plain_timberAt hca) g_302 ⟨by decide, by decide, by decide +kernel⟩ ⟨Nat.le_of_ble_eq_true rfl, Nat.le_of_ble_eq_true rfl⟩) (z_preV (ci := ci) (q0 := 0) (hP.subm [0, 1, 2, 3, 4, 5, 6, 7, 8] rfl) (hD.sub [0, 1, 2, 3, 4, 5, 6, 7, 8] (by decide) rfl) hK (pq_cl hca) rfl) rfl rfl hl.1 rfl (lv_room (Nat.le_of_ble_eq_true rfl)) dX4_searchAct_25 ⟨Nat.le_of_ble_eq_true rfl, Nat.le_of_ble_eq_true rfl⟩) hP hD hS hA (([] : va_W)) (wA g ci h rw P T (fX8_beginS X 3 0)) [0, 1, 2, 3, 4, 5, 6, 7, 8] [] [0, 1, 2, 3, 4, 5, 6, 7, 8] rfl rfl (by decide) (by decide) rfl (by decide) (fun H locs hP hD hS => ?_)
    refine z_ie (va_runV (As := [.int (fX4_timberAtR P T (fX8_beginS X 3 0) x)]) (rest := []) ⟨hx, hb, hml, hown, hts⟩ (c_X7_lengthOf l D g T (fX4_timberAtR P T (fX8_beginS X 3 0) x) _) (z_V 1 hts g_356 g_2 g_353 g_354 g_355 ⟨by decide, by decide, by decide +kernel⟩ ⟨Nat.le_of_ble_eq_true rfl, Nat.le_of_ble_eq_true rfl⟩) (z_preV (ci := 8) (q0 := 0) (hP.subm [2, 3, 4, 5, 6] rfl) (hD.sub [2, 3, 4, 5, 6] (by decide) rfl) hK rfl rfl) rfl rfl hl.1 rfl (lv_room (Nat.le_of_ble_eq_true rfl)) dX4_searchAct_28 ⟨Nat.le_of_ble_eq_true rfl, Nat.le_of_ble_eq_true rfl⟩) hP hD hS hA (wP g ci h rw P ++ wD g (fX8_beginS X 3 0)) (wA g ci h rw P T (fX8_beginS X 3 0)) [2, 3, 4, 5, 6] [0, 1, 7, 8] [0, 1, 4, 5, 6, 7, 8, 2, 3] rfl rfl (by decide) (by decide) rfl (by decide) (fun H locs hP hD hS => ?_)
    refine lv_iload_n hx hb dX4_searchAct_31 rfl (lv_at hl 1 rfl) ?_
    refine lv_icmp_lt (tgt := 37) hx hb dX4_searchAct_32 (by decide) (fun c_2 => ?_) (fun c_2 => ?_)
    · -- (fX7_lengthOfR T (fX4_timberAtR P T (fX8_beginS X 3 0) x)) < i
      refine lv_iinc (v := (x + 1)) (lv' := [(2, .int (x + 1)), (0, .ref h), (1, .int i)]) hx hb dX4_searchAct_37 hl (k := 2) rfl rfl (by decide) rfl (fun ls hl => ?_)
      refine lv_goto (tgt := 11) hx hb dX4_searchAct_40 (by decide) ?_
      exact ih (x + 1) _ _ _ ⟨⟨lp_up c_1 hI.1, by rw [← hI.2]; simp only [lX4_search, if_neg c_1, if_pos c_2]⟩, hP, hD, hS, lv_sub hl [1, 2, 0] rfl⟩
    · -- not (fX7_lengthOfR T (fX4_timberAtR P T (fX8_beginS X 3 0) x)) < i
      refine lv_iload_n hx hb dX4_searchAct_35 rfl (lv_at hl 2 rfl) ?_
      exact W.iret (v := x) hx hb hr (fun t9 ht hW => ⟨⟨x, wA g ci h rw P T (fX8_beginS X 3 0), rfl, ⟨by rw [← hI.2]; simp only [lX4_search, if_neg c_1, if_neg c_2], rfl⟩, by rw [ht]; exact hP, va_K.moved hW.alike hK, hD⟩, hS.F ht⟩) hS.2.2 dX4_searchAct_36
end
section
theorem lp_dn {a : Int32} {n : Nat} (h : ¬ a ≤ 0) (hn : a.toInt.toNat < n + 1) : (a + (-1)).toInt.toNat < n := by
  rw [Int32.le_iff_toInt_le, Int32.toInt_zero] at h
  have h1 := Int32.toInt_lt a
  have e : (a + (-1)).toInt = a.toInt - 1 := by
    rw [Int32.toInt_add, show (-1 : Int32).toInt = -1 from rfl]
    exact Int.bmod_eq_of_le (by omega) (by omega)
  rw [e]
  omega
def lX5_sink (T : TT) (X : DD) (i : Int32) : Nat → PP → Int32 → PP
  | 0, P, _ => P
  | n + 1, P, pl => if pl ≤ 0 then P else if fX7_lengthOfR T (fX4_timberAtR P T X (pl - 1)) < i then lX5_sink T X i n (fX4_swapWithUnderS P T X pl).1 (pl + (-1)) else P
def fX5_sinkTopmostS (P : PP) (T : TT) (X : DD) (i : Int32) : PP × TT × DD := (lX5_sink T X i ((fX4_howManyR P T X - 1).toInt.toNat + 1) P (fX4_howManyR P T X - 1), T, X)
set_option maxHeartbeats 4000000 in
set_option maxRecDepth 100000 in
theorem c_X5_sinkTopmost (l : Launch) (D : va_G) (g : GA) (ci h rw : Nat) (hci : pkSo ci) (P : PP) (T : TT) (X : DD) (i : Int32) : ctV l D (tyA g) yX5_sinkTopmost (wd yX5_sinkTopmost cX5_sinkTopmost 3 (Option.none : Option Jvm.ClassFile.FieldType)) { frames := 2, cells := 0, slots := 0, locals := 42 } [.ref h, .int i] (wA g ci h rw P T X) (fun w => w = wA g ci h rw (fX5_sinkTopmostS P T X i).1 (fX5_sinkTopmostS P T X i).2.1 (fX5_sinkTopmostS P T X i).2.2) := by
  intro sz
  refine Met.ofW (cc := cX5_sinkTopmost) (maxL := 3) (ret := (Option.none : Option Jvm.ClassFile.FieldType)) (by decide) rfl ?_
  intro p e s m args below meth c s₁ B hml hv
  obtain ⟨rfl, hsz, hP, hK, hD0⟩ := hv
  have hx := B.exec
  have hb := B.bytes
  have hr := B.returns
  have hts := atoms_spec (ws := (wd yX5_sinkTopmost cX5_sinkTopmost 3 (Option.none : Option Jvm.ClassFile.FieldType))) B.pre
  have hg := Tb.of hts
  have hown : s.vm.findClass RX5 = some m.cls := findClass_of_methodNamed B.named
  have hlocks := B.notSynchronized
  subst hsz
  have hD := hD0.self (sz := s.heap.size)
  generalize hAe : va_A (wA g ci h rw P T X) s.heap.size = A at hD ⊢
  have hA : ∀ q : Nat, s.heap.size ≤ q → A q := fun q h => by rw [← hAe]; exact Or.inr h
  have hS : va_S A s.heap s.heap [] := va_S.rf
  have hP : va_P D vwCl (wA g ci h rw P T X) s.heap := hP
  have hl := lv_entry ([.ref h, .int i]) (n := 3) (Nat.le_of_ble_eq_true rfl)
  rw [lg_entry_eq]
  generalize (lg_sl ([.ref h, .int i]) ++ List.replicate (3 - (lg_sl ([.ref h, .int i])).length) Slot.unset).toArray = ls at hl ⊢
  have hl : lv_has ls 3 [(0, .ref h), (1, .int i)] := hl
  have hca : pkAll ci := pkSo_pkAll hci
  refine lv_aload_n hx hb dX5_sinkTopmost_0 rfl (lv_at hl 0 rfl) ?_
  refine z_ie (va_runU (C := vn ci) (As := []) (rest := []) ⟨hx, hb, hml, hown, hts⟩ (c_X4_howMany l D g ci h rw hca P T X _) (z_U (x := ⟨"PileHeirs$Sorted", "howMany", "()I"⟩) (owner := RX4) 0 hts g_297 g_5 g_467 g_468 g_296 g_297 (sl_Sorted_howMany hci) g_296 ⟨by decide, by decide, by decide +kernel⟩ ⟨Nat.le_of_ble_eq_true rfl, Nat.le_of_ble_eq_true rfl⟩) (z_preV (ci := ci) (q0 := 0) (hP.subm [0, 1, 2, 3, 4, 5, 6, 7, 8] rfl) (hD.sub [0, 1, 2, 3, 4, 5, 6, 7, 8] (by decide) rfl) hK (pq_cl hca) rfl) rfl rfl hl.1 rfl (lv_room (Nat.le_of_ble_eq_true rfl)) dX5_sinkTopmost_1 ⟨Nat.le_of_ble_eq_true rfl, Nat.le_of_ble_eq_true rfl⟩) hP hD hS hA (([] : va_W)) (wA g ci h rw P T X) [0, 1, 2, 3, 4, 5, 6, 7, 8] [] [0, 1, 2, 3, 4, 5, 6, 7, 8] rfl rfl (by decide) (by decide) rfl (by decide) (fun H locs hP hD hS => ?_)
  refine lv_iconst (v := 1) hx hb dX5_sinkTopmost_4 (by decide) ?_
  refine lv_isub hx hb dX5_sinkTopmost_5 ?_
  refine lv_istore_n (lv' := [(2, .int ((fX4_howManyR P T X) - 1)), (0, .ref h), (1, .int i)]) hx hb dX5_sinkTopmost_6 rfl hl (by decide) rfl (fun ls hl => ?_)
  refine z_loop (pc := 7) (fun n (x : PP × Int32) H locs ls => (x.2.toInt.toNat < n ∧ (lX5_sink T X i n x.1 x.2, T, X) = fX5_sinkTopmostS P T X i) ∧ va_P D vwCl (wA g ci h rw x.1 T X) H ∧ va_D A (wA g ci h rw x.1 T X) ∧ va_S A s.heap H locs ∧ lv_has ls 3 [(0, .ref h), (1, .int i), (2, .int x.2)]) (fun x H locs ls h => absurd h.1.1 (Nat.not_lt_zero _)) ?_ ((fX4_howManyR P T X - 1).toInt.toNat + 1) (P, fX4_howManyR P T X - 1) _ _ _ ⟨⟨Nat.lt_succ_self _, rfl⟩, hP, hD, hS, lv_sub hl [1, 2, 0] rfl⟩
  intro n x H locs ls hI ih
  obtain ⟨hI, hP, hD, hS, hl⟩ := hI
  refine lv_iload_n hx hb dX5_sinkTopmost_7 rfl (lv_at hl 2 rfl) ?_
  refine lv_if_le (tgt := 41) hx hb dX5_sinkTopmost_8 (by decide) (fun c_1 => ?_) (fun c_1 => ?_)
  · -- x.2 ≤ 0
    exact W.vret hx hb hr (fun t9 ht hW => ⟨⟨wA g ci h rw x.1 T X, rfl, (by rw [← hI.2]; simp only [lX5_sink, if_pos c_1]), by rw [ht]; exact hP, va_K.moved hW.alike hK, hD⟩, hS.F ht⟩) hS.2.2 dX5_sinkTopmost_41
  · -- not x.2 ≤ 0
    refine lv_aload_n hx hb dX5_sinkTopmost_11 rfl (lv_at hl 0 rfl) ?_
    refine va_get (D := D) (ci := ci) (v := .ref g.tm) (C := vn ci) (T := TX4) (N := 7) hx hb hg (pq_in hca) hown hK hP 0 rfl (pq_cl hca) 0 (by decide) (hg _ g_124) (u_same (hg _ g_125)) rfl dX5_sinkTopmost_12 ?_
    refine lv_aload_n hx hb dX5_sinkTopmost_15 rfl (lv_at hl 0 rfl) ?_
    refine lv_iload_n hx hb dX5_sinkTopmost_16 rfl (lv_at hl 2 rfl) ?_
    refine lv_iconst (v := 1) hx hb dX5_sinkTopmost_17 (by decide) ?_
    refine lv_isub hx hb dX5_sinkTopmost_18 ?_
    refine z_ie (va_runU (C := vn ci) (As := [.int (x.2 - 1)]) (rest := [.ref g.tm]) ⟨hx, hb, hml, hown, hts⟩ (c_X4_timberAt l D g ci h rw hca x.1 T X (x.2 - 1) _) (z_U (x := ⟨"PileHeirs$Sorted", "timberAt", "(I)I"⟩) (owner := RX4) 1 hts g_303 g_5 g_472 g_473 g_302 g_303 (sl_Sorted_timberAt hci) g_302 ⟨by decide, by decide, by decide +kernel⟩ ⟨Nat.le_of_ble_eq_true rfl, Nat.le_of_ble_eq_true rfl⟩) (z_preV (ci := ci) (q0 := 0) (hP.subm [0, 1, 2, 3, 4, 5, 6, 7, 8] rfl) (hD.sub [0, 1, 2, 3, 4, 5, 6, 7, 8] (by decide) rfl) hK (pq_cl hca) rfl) rfl rfl hl.1 rfl (lv_room (Nat.le_of_ble_eq_true rfl)) dX5_sinkTopmost_19 ⟨Nat.le_of_ble_eq_true rfl, Nat.le_of_ble_eq_true rfl⟩) hP hD hS hA (([] : va_W)) (wA g ci h rw x.1 T X) [0, 1, 2, 3, 4, 5, 6, 7, 8] [] [0, 1, 2, 3, 4, 5, 6, 7, 8] rfl rfl (by decide) (by decide) rfl (by decide) (fun H locs hP hD hS => ?_)
    refine z_ie (va_runV (As := [.int (fX4_timberAtR x.1 T X (x.2 - 1))]) (rest := []) ⟨hx, hb, hml, hown, hts⟩ (c_X7_lengthOf l D g T (fX4_timberAtR x.1 T X (x.2 - 1)) _) (z_V 1 hts g_356 g_2 g_462 g_354 g_355 ⟨by decide, by decide, by decide +kernel⟩ ⟨Nat.le_of_ble_eq_true rfl, Nat.le_of_ble_eq_true rfl⟩) (z_preV (ci := 8) (q0 := 0) (hP.subm [2, 3, 4, 5, 6] rfl) (hD.sub [2, 3, 4, 5, 6] (by decide) rfl) hK rfl rfl) rfl rfl hl.1 rfl (lv_room (Nat.le_of_ble_eq_true rfl)) dX5_sinkTopmost_22 ⟨Nat.le_of_ble_eq_true rfl, Nat.le_of_ble_eq_true rfl⟩) hP hD hS hA (wP g ci h rw x.1 ++ wD g X) (wA g ci h rw x.1 T X) [2, 3, 4, 5, 6] [0, 1, 7, 8] [0, 1, 4, 5, 6, 7, 8, 2, 3] rfl rfl (by decide) (by decide) rfl (by decide) (fun H locs hP hD hS => ?_)
    refine lv_iload_n hx hb dX5_sinkTopmost_25 rfl (lv_at hl 1 rfl) ?_
    refine lv_icmp_lt (tgt := 30) hx hb dX5_sinkTopmost_26 (by decide) (fun c_2 => ?_) (fun c_2 => ?_)
    · -- (fX7_lengthOfR T (fX4_timberAtR x.1 T X (x.2 - 1))) < i
      refine lv_aload_n hx hb dX5_sinkTopmost_30 rfl (lv_at hl 0 rfl) ?_
      refine lv_iload_n hx hb dX5_sinkTopmost_31 rfl (lv_at hl 2 rfl) ?_
      refine z_ve (va_runU (C := vn ci) (As := [.int x.2]) (rest := []) ⟨hx, hb, hml, hown, hts⟩ (c_X4_swapWithUnder l D g ci h rw hca x.1 T X x.2 _) (z_U (x := ⟨"PileHeirs$Sorted", "swapWithUnder", "(I)V"⟩) (owner := RX4) 1 hts g_484 g_5 g_477 g_478 g_483 g_484 (sl_Sorted_swapWithUnder hci) g_483 ⟨by decide, by decide, by decide +kernel⟩ ⟨Nat.le_of_ble_eq_true rfl, Nat.le_of_ble_eq_true rfl⟩) (z_preV (ci := ci) (q0 := 0) (hP.subm [0, 1, 2, 3, 4, 5, 6, 7, 8] rfl) (hD.sub [0, 1, 2, 3, 4, 5, 6, 7, 8] (by decide) rfl) hK (pq_cl hca) rfl) rfl rfl hl.1 rfl (lv_room (Nat.le_of_ble_eq_true rfl)) dX5_sinkTopmost_32 ⟨Nat.le_of_ble_eq_true rfl, Nat.le_of_ble_eq_true rfl⟩) hP hD hS hA (([] : va_W)) (wA g ci h rw ((fX4_swapWithUnderS x.1 T X x.2).1) T X) [0, 1, 2, 3, 4, 5, 6, 7, 8] [] [0, 1, 2, 3, 4, 5, 6, 7, 8] rfl rfl (by decide) (by decide) rfl (by decide) (fun H locs hP hD hS => ?_)
      refine lv_iinc (v := (x.2 + (-1))) (lv' := [(2, .int (x.2 + (-1))), (0, .ref h), (1, .int i)]) hx hb dX5_sinkTopmost_35 hl (k := 2) rfl rfl (by decide) rfl (fun ls hl => ?_)
      refine lv_goto (tgt := 7) hx hb dX5_sinkTopmost_38 (by decide) ?_
      exact ih ((fX4_swapWithUnderS x.1 T X x.2).1, (x.2 + (-1))) _ _ _ ⟨⟨lp_dn c_1 hI.1, by rw [← hI.2]; simp only [lX5_sink, if_neg c_1, if_pos c_2]⟩, hP, hD, hS, lv_sub hl [1, 2, 0] rfl⟩
    · -- not (fX7_lengthOfR T (fX4_timberAtR x.1 T X (x.2 - 1))) < i
      exact W.vret hx hb hr (fun t9 ht hW => ⟨⟨wA g ci h rw x.1 T X, rfl, (by rw [← hI.2]; simp only [lX5_sink, if_neg c_1, if_neg c_2]), by rw [ht]; exact hP, va_K.moved hW.alike hK, hD⟩, hS.F ht⟩) hS.2.2 dX5_sinkTopmost_29

def fX5_putActR (P : PP) (T : TT) (X : DD) (t : Int32) : Int32 := (if (fX4_putActR P T (fX8_beginS X 0 2) t) = 1 then (fX4_putActR P T (fX8_beginS X 0 2) t) else (fX4_putActR P T (fX8_beginS X 0 2) t))
def fX5_putActS (P : PP) (T : TT) (X : DD) (t : Int32) : PP × TT × DD := ((if (fX4_putActR P T (fX8_beginS X 0 2) t) = 1 then (fX5_sinkTopmostS ((fX4_putActS P T (fX8_beginS X 0 2) t).1) ((fX4_putActS P T (fX8_beginS X 0 2) t).2.1) ((fX4_putActS P T (fX8_beginS X 0 2) t).2.2) (fX7_lengthOfR ((fX4_putActS P T (fX8_beginS X 0 2) t).2.1) t)).1 else (fX4_putActS P T (fX8_beginS X 0 2) t).1), (fX4_putActS P T (fX8_beginS X 0 2) t).2.1, (fX4_putActS P T (fX8_beginS X 0 2) t).2.2)
set_option maxHeartbeats 4000000 in
set_option maxRecDepth 100000 in
theorem c_X5_putAct (l : Launch) (D : va_G) (g : GA) (ci h rw : Nat) (hci : pkSo ci) (P : PP) (T : TT) (X : DD) (t : Int32) : ctI l D (tyA g) yX5_putAct (wd yX5_putAct cX5_putAct 3 (Option.some Jvm.ClassFile.FieldType.int)) { frames := 3, cells := 0, slots := 0, locals := 64 } [.ref h, .int t] (wA g ci h rw P T X) (fun r w => r = fX5_putActR P T X t ∧ w = wA g ci h rw (fX5_putActS P T X t).1 (fX5_putActS P T X t).2.1 (fX5_putActS P T X t).2.2) := by
  intro sz
  refine Met.ofW (cc := cX5_putAct) (maxL := 3) (ret := (Option.some Jvm.ClassFile.FieldType.int)) (by decide) rfl ?_
  intro p e s m args below meth c s₁ B hml hv
  obtain ⟨rfl, hsz, hP, hK, hD0⟩ := hv
  have hx := B.exec
  have hb := B.bytes
  have hr := B.returns
  have hts := atoms_spec (ws := (wd yX5_putAct cX5_putAct 3 (Option.some Jvm.ClassFile.FieldType.int))) B.pre
  have hg := Tb.of hts
  have hown : s.vm.findClass RX5 = some m.cls := findClass_of_methodNamed B.named
  have hlocks := B.notSynchronized
  subst hsz
  have hD := hD0.self (sz := s.heap.size)
  generalize hAe : va_A (wA g ci h rw P T X) s.heap.size = A at hD ⊢
  have hA : ∀ q : Nat, s.heap.size ≤ q → A q := fun q h => by rw [← hAe]; exact Or.inr h
  have hS : va_S A s.heap s.heap [] := va_S.rf
  have hP : va_P D vwCl (wA g ci h rw P T X) s.heap := hP
  have hl := lv_entry ([.ref h, .int t]) (n := 3) (Nat.le_of_ble_eq_true rfl)
  rw [lg_entry_eq]
  generalize (lg_sl ([.ref h, .int t]) ++ List.replicate (3 - (lg_sl ([.ref h, .int t])).length) Slot.unset).toArray = ls at hl ⊢
  have hl : lv_has ls 3 [(0, .ref h), (1, .int t)] := hl
  have hca : pkAll ci := pkSo_pkAll hci
  refine lv_aload_n hx hb dX5_putAct_0 rfl (lv_at hl 0 rfl) ?_
  refine va_get (D := D) (ci := ci) (v := .ref g.dn) (C := vn ci) (T := TX4) (N := 7) hx hb hg (pq_in hca) hown hK hP 0 rfl (pq_cl hca) 1 (by decide) (hg _ g_131) (u_same (hg _ g_132)) rfl dX5_putAct_1 ?_
  refine lv_iconst (v := 0) hx hb dX5_putAct_4 (by decide) ?_
  refine lv_iconst (v := 2) hx hb dX5_putAct_5 (by decide) ?_
  refine z_ve (va_runV (As := [.int 0, .int 2]) (rest := []) ⟨hx, hb, hml, hown, hts⟩ (c_X8_begin l D g X 0 2 _) (z_V 2 hts g_278 g_3 g_452 g_276 g_277 ⟨by decide, by decide, by decide +kernel⟩ ⟨Nat.le_of_ble_eq_true rfl, Nat.le_of_ble_eq_true rfl⟩) (z_preV (ci := 9) (q0 := 0) (hP.subm [7, 8] rfl) (hD.sub [7, 8] (by decide) rfl) hK rfl rfl) rfl rfl hl.1 rfl (lv_room (Nat.le_of_ble_eq_true rfl)) dX5_putAct_6 ⟨Nat.le_of_ble_eq_true rfl, Nat.le_of_ble_eq_true rfl⟩) hP hD hS hA (wP g ci h rw P ++ wT g T) (wA g ci h rw P T (fX8_beginS X 0 2)) [7, 8] [0, 1, 2, 3, 4, 5, 6] [0, 1, 2, 3, 4, 5, 6, 7, 8] rfl rfl (by decide) (by decide) rfl (by decide) (fun H locs hP hD hS => ?_)
  refine lv_aload_n hx hb dX5_putAct_9 rfl (lv_at hl 0 rfl) ?_
  refine lv_iload_n hx hb dX5_putAct_10 rfl (lv_at hl 1 rfl) ?_
  refine z_ie (z_runSU (C := vn ci) (As := [.int t]) (rest := []) (hK.1 _ _ (pq_cl hca)).2 ⟨hx, hb, hml, hown, hts⟩ (c_X4_putAct l D g ci h rw hca P T (fX8_beginS X 0 2) t _) (z_SU (x := ⟨"PileHeirs$Marked", "putAct", "(I)I"⟩) (owner := RX4) 1 hts g_457 g_5 g_453 g_454 g_178 g_456 (by decide) ⟨by decide, by decide, by decide +kernel⟩ ⟨Nat.le_of_ble_eq_true rfl, Nat.le_of_ble_eq_true rfl⟩) (sb_Marked_Plain hg) (z_preV (ci := ci) (q0 := 0) (hP.subm [0, 1, 2, 3, 4, 5, 6, 7, 8] rfl) (hD.sub [0, 1, 2, 3, 4, 5, 6, 7, 8] (by decide) rfl) hK (pq_cl hca) rfl) rfl rfl hl.1 rfl (lv_room (Nat.le_of_ble_eq_true rfl)) dX5_putAct_11 ⟨Nat.le_of_ble_eq_true rfl, Nat.le_of_ble_eq_true rfl⟩) hP hD hS hA (([] : va_W)) (wA g ci h rw ((fX4_putActS P T (fX8_beginS X 0 2) t).1) ((fX4_putActS P T (fX8_beginS X 0 2) t).2.1) ((fX4_putActS P T (fX8_beginS X 0 2) t).2.2)) [0, 1, 2, 3, 4, 5, 6, 7, 8] [] [0, 1, 2, 3, 4, 5, 6, 7, 8] rfl rfl (by decide) (by decide) rfl (by decide) (fun H locs hP hD hS => ?_)
  refine lv_istore_n (lv' := [(2, .int (fX4_putActR P T (fX8_beginS X 0 2) t)), (0, .ref h), (1, .int t)]) hx hb dX5_putAct_14 rfl hl (by decide) rfl (fun ls hl => ?_)
  refine lv_iload_n hx hb dX5_putAct_15 rfl (lv_at hl 0 rfl) ?_
  refine lv_iconst (v := 1) hx hb dX5_putAct_16 (by decide) ?_
  refine lv_icmp_ne (tgt := 32) hx hb dX5_putAct_17 (by decide) (fun c_1 => ?_) (fun c_1 => ?_)
  · -- not (fX4_putActR P T (fX8_beginS X 0 2) t) = 1
    refine lv_iload_n hx hb dX5_putAct_32 rfl (lv_at hl 0 rfl) ?_
    exact W.iret (v := (fX4_putActR P T (fX8_beginS X 0 2) t)) hx hb hr (fun t9 ht hW => ⟨⟨(fX4_putActR P T (fX8_beginS X 0 2) t), wA g ci h rw ((fX4_putActS P T (fX8_beginS X 0 2) t).1) ((fX4_putActS P T (fX8_beginS X 0 2) t).2.1) ((fX4_putActS P T (fX8_beginS X 0 2) t).2.2), rfl, ⟨by simp only [fX5_putActR, if_neg c_1], by simp only [fX5_putActS, if_neg c_1]⟩, by rw [ht]; exact hP, va_K.moved hW.alike hK, hD⟩, hS.F ht⟩) hS.2.2 dX5_putAct_33
  · -- (fX4_putActR P T (fX8_beginS X 0 2) t) = 1
    refine lv_aload_n hx hb dX5_putAct_20 rfl (lv_at hl 1 rfl) ?_
    refine lv_aload_n hx hb dX5_putAct_21 rfl (lv_at hl 1 rfl) ?_
    refine va_get (D := D) (ci := ci) (v := .ref g.tm) (C := vn ci) (T := TX4) (N := 7) hx hb hg (pq_in hca) hown hK hP 0 rfl (pq_cl hca) 0 (by decide) (hg _ g_124) (u_same (hg _ g_125)) rfl dX5_putAct_22 ?_
    refine lv_iload_n hx hb dX5_putAct_25 rfl (lv_at hl 2 rfl) ?_
    refine z_ie (va_runV (As := [.int t]) (rest := [.ref h]) ⟨hx, hb, hml, hown, hts⟩ (c_X7_lengthOf l D g ((fX4_putActS P T (fX8_beginS X 0 2) t).2.1) t _) (z_V 1 hts g_356 g_2 g_462 g_354 g_355 ⟨by decide, by decide, by decide +kernel⟩ ⟨Nat.le_of_ble_eq_true rfl, Nat.le_of_ble_eq_true rfl⟩) (z_preV (ci := 8) (q0 := 0) (hP.subm [2, 3, 4, 5, 6] rfl) (hD.sub [2, 3, 4, 5, 6] (by decide) rfl) hK rfl rfl) rfl rfl hl.1 rfl (lv_room (Nat.le_of_ble_eq_true rfl)) dX5_putAct_26 ⟨Nat.le_of_ble_eq_true rfl, Nat.le_of_ble_eq_true rfl⟩) hP hD hS hA (wP g ci h rw ((fX4_putActS P T (fX8_beginS X 0 2) t).1) ++ wD g ((fX4_putActS P T (fX8_beginS X 0 2) t).2.2)) (wA g ci h rw ((fX4_putActS P T (fX8_beginS X 0 2) t).1) ((fX4_putActS P T (fX8_beginS X 0 2) t).2.1) ((fX4_putActS P T (fX8_beginS X 0 2) t).2.2)) [2, 3, 4, 5, 6] [0, 1, 7, 8] [0, 1, 4, 5, 6, 7, 8, 2, 3] rfl rfl (by decide) (by decide) rfl (by decide) (fun H locs hP hD hS => ?_)
    refine z_ve (va_runU (C := vn ci) (As := [.int (fX7_lengthOfR ((fX4_putActS P T (fX8_beginS X 0 2) t).2.1) t)]) (rest := []) ⟨hx, hb, hml, hown, hts⟩ (c_X5_sinkTopmost l D g ci h rw hci ((fX4_putActS P T (fX8_beginS X 0 2) t).1) ((fX4_putActS P T (fX8_beginS X 0 2) t).2.1) ((fX4_putActS P T (fX8_beginS X 0 2) t).2.2) (fX7_lengthOfR ((fX4_putActS P T (fX8_beginS X 0 2) t).2.1) t) _) (z_U (x := ⟨"PileHeirs$Sorted", "sinkTopmost", "(I)V"⟩) (owner := RX5) 1 hts g_466 g_7 g_463 g_855 g_465 g_466 (sl_Sorted_sinkTopmost hci) g_465 ⟨by decide, by decide, by decide +kernel⟩ ⟨Nat.le_of_ble_eq_true rfl, Nat.le_of_ble_eq_true rfl⟩) (z_preV (ci := ci) (q0 := 0) (hP.subm [0, 1, 2, 3, 4, 5, 6, 7, 8] rfl) (hD.sub [0, 1, 2, 3, 4, 5, 6, 7, 8] (by decide) rfl) hK (pq_cl hca) rfl) rfl rfl hl.1 rfl (lv_room (Nat.le_of_ble_eq_true rfl)) dX5_putAct_29 ⟨Nat.le_of_ble_eq_true rfl, Nat.le_of_ble_eq_true rfl⟩) hP hD hS hA (([] : va_W)) (wA g ci h rw ((fX5_sinkTopmostS ((fX4_putActS P T (fX8_beginS X 0 2) t).1) ((fX4_putActS P T (fX8_beginS X 0 2) t).2.1) ((fX4_putActS P T (fX8_beginS X 0 2) t).2.2) (fX7_lengthOfR ((fX4_putActS P T (fX8_beginS X 0 2) t).2.1) t)).1) ((fX4_putActS P T (fX8_beginS X 0 2) t).2.1) ((fX4_putActS P T (fX8_beginS X 0 2) t).2.2)) [0, 1, 2, 3, 4, 5, 6, 7, 8] [] [0, 1, 2, 3, 4, 5, 6, 7, 8] rfl rfl (by decide) (by decide) rfl (by decide) (fun H locs hP hD hS => ?_)
    refine lv_iload_n hx hb dX5_putAct_32 rfl (lv_at hl 0 rfl) ?_
    exact W.iret (v := (fX4_putActR P T (fX8_beginS X 0 2) t)) hx hb hr (fun t9 ht hW => ⟨⟨(fX4_putActR P T (fX8_beginS X 0 2) t), wA g ci h rw ((fX5_sinkTopmostS ((fX4_putActS P T (fX8_beginS X 0 2) t).1) ((fX4_putActS P T (fX8_beginS X 0 2) t).2.1) ((fX4_putActS P T (fX8_beginS X 0 2) t).2.2) (fX7_lengthOfR ((fX4_putActS P T (fX8_beginS X 0 2) t).2.1) t)).1) ((fX4_putActS P T (fX8_beginS X 0 2) t).2.1) ((fX4_putActS P T (fX8_beginS X 0 2) t).2.2), rfl, ⟨by simp only [fX5_putActR, if_pos c_1], by simp only [fX5_putActS, if_pos c_1]⟩, by rw [ht]; exact hP, va_K.moved hW.alike hK, hD⟩, hS.F ht⟩) hS.2.2 dX5_putAct_33

def fX9_loadActR (P : PP) (T : TT) (X : DD)  : Int32 := (2 * (fX4_loadActR P T (fX8_beginS X 2 5)))
def fX9_loadActS (P : PP) (T : TT) (X : DD)  : PP × TT × DD := (P, T, (fX4_loadActS P T (fX8_beginS X 2 5)).2.2)
set_option maxHeartbeats 4000000 in
set_option maxRecDepth 100000 in
theorem c_X9_loadAct (l : Launch) (D : va_G) (g : GA) (ci h rw : Nat) (hci : pkTw ci) (P : PP) (T : TT) (X : DD)  : ctI l D (tyA g) yX9_loadAct (wd yX9_loadAct cX9_loadAct 1 (Option.some Jvm.ClassFile.FieldType.int)) { frames := 3, cells := 0, slots := 0, locals := 64 } [.ref h] (wA g ci h rw P T X) (fun r w => r = fX9_loadActR P T X ∧ w = wA g ci h rw (fX9_loadActS P T X).1 (fX9_loadActS P T X).2.1 (fX9_loadActS P T X).2.2) := by
  intro sz
  refine Met.ofW (cc := cX9_loadAct) (maxL := 1) (ret := (Option.some Jvm.ClassFile.FieldType.int)) (by decide) rfl ?_
  intro p e s m args below meth c s₁ B hml hv
  obtain ⟨rfl, hsz, hP, hK, hD0⟩ := hv
  have hx := B.exec
  have hb := B.bytes
  have hr := B.returns
  have hts := atoms_spec (ws := (wd yX9_loadAct cX9_loadAct 1 (Option.some Jvm.ClassFile.FieldType.int))) B.pre
  have hg := Tb.of hts
  have hown : s.vm.findClass RX9 = some m.cls := findClass_of_methodNamed B.named
  have hlocks := B.notSynchronized
  subst hsz
  have hD := hD0.self (sz := s.heap.size)
  generalize hAe : va_A (wA g ci h rw P T X) s.heap.size = A at hD ⊢
  have hA : ∀ q : Nat, s.heap.size ≤ q → A q := fun q h => by rw [← hAe]; exact Or.inr h
  have hS : va_S A s.heap s.heap [] := va_S.rf
  have hP : va_P D vwCl (wA g ci h rw P T X) s.heap := hP
  have hl := lv_entry ([.ref h]) (n := 1) (Nat.le_of_ble_eq_true rfl)
  rw [lg_entry_eq]
  generalize (lg_sl ([.ref h]) ++ List.replicate (1 - (lg_sl ([.ref h])).length) Slot.unset).toArray = ls at hl ⊢
  have hl : lv_has ls 1 [(0, .ref h)] := hl
  have hca : pkAll ci := pkTw_pkAll hci
  refine lv_aload_n hx hb dX9_loadAct_0 rfl (lv_at hl 0 rfl) ?_
  refine va_get (D := D) (ci := ci) (v := .ref g.dn) (C := vn ci) (T := TX4) (N := 7) hx hb hg (pq_in hca) hown hK hP 0 rfl (pq_cl hca) 1 (by decide) (hg _ g_135) (u_same (hg _ g_136)) rfl dX9_loadAct_1 ?_
  refine lv_iconst (v := 2) hx hb dX9_loadAct_4 (by decide) ?_
  refine lv_iconst (v := 5) hx hb dX9_loadAct_5 (by decide) ?_
  refine z_ve (va_runV (As := [.int 2, .int 5]) (rest := []) ⟨hx, hb, hml, hown, hts⟩ (c_X8_begin l D g X 2 5 _) (z_V 2 hts g_278 g_3 g_275 g_276 g_277 ⟨by decide, by decide, by decide +kernel⟩ ⟨Nat.le_of_ble_eq_true rfl, Nat.le_of_ble_eq_true rfl⟩) (z_preV (ci := 9) (q0 := 0) (hP.subm [7, 8] rfl) (hD.sub [7, 8] (by decide) rfl) hK rfl rfl) rfl rfl hl.1 rfl (lv_room (Nat.le_of_ble_eq_true rfl)) dX9_loadAct_6 ⟨Nat.le_of_ble_eq_true rfl, Nat.le_of_ble_eq_true rfl⟩) hP hD hS hA (wP g ci h rw P ++ wT g T) (wA g ci h rw P T (fX8_beginS X 2 5)) [7, 8] [0, 1, 2, 3, 4, 5, 6] [0, 1, 2, 3, 4, 5, 6, 7, 8] rfl rfl (by decide) (by decide) rfl (by decide) (fun H locs hP hD hS => ?_)
  refine lv_iconst (v := 2) hx hb dX9_loadAct_9 (by decide) ?_
  refine lv_aload_n hx hb dX9_loadAct_10 rfl (lv_at hl 0 rfl) ?_
  refine z_ie (z_runSU (C := vn ci) (As := []) (rest := [.int 2]) (hK.1 _ _ (pq_cl hca)).2 ⟨hx, hb, hml, hown, hts⟩ (c_X4_loadAct l D g ci h rw hca P T (fX8_beginS X 2 5) _) (z_SU (x := ⟨"PileHeirs$Strict", "loadAct", "()I"⟩) (owner := RX4) 0 hts g_315 g_5 g_282 g_283 g_220 g_268 (by decide) ⟨by decide, by decide, by decide +kernel⟩ ⟨Nat.le_of_ble_eq_true rfl, Nat.le_of_ble_eq_true rfl⟩) (sb_Strict_Plain hg) (z_preV (ci := ci) (q0 := 0) (hP.subm [0, 1, 2, 3, 4, 5, 6, 7, 8] rfl) (hD.sub [0, 1, 2, 3, 4, 5, 6, 7, 8] (by decide) rfl) hK (pq_cl hca) rfl) rfl rfl hl.1 rfl (lv_room (Nat.le_of_ble_eq_true rfl)) dX9_loadAct_11 ⟨Nat.le_of_ble_eq_true rfl, Nat.le_of_ble_eq_true rfl⟩) hP hD hS hA (([] : va_W)) (wA g ci h rw P T ((fX4_loadActS P T (fX8_beginS X 2 5)).2.2)) [0, 1, 2, 3, 4, 5, 6, 7, 8] [] [0, 1, 2, 3, 4, 5, 6, 7, 8] rfl rfl (by decide) (by decide) rfl (by decide) (fun H locs hP hD hS => ?_)
  refine lv_imul hx hb dX9_loadAct_14 ?_
  exact W.iret (v := (2 * (fX4_loadActR P T (fX8_beginS X 2 5)))) hx hb hr (fun t9 ht hW => ⟨⟨(2 * (fX4_loadActR P T (fX8_beginS X 2 5))), wA g ci h rw P T ((fX4_loadActS P T (fX8_beginS X 2 5)).2.2), rfl, ⟨rfl, rfl⟩, by rw [ht]; exact hP, va_K.moved hW.alike hK, hD⟩, hS.F ht⟩) hS.2.2 dX9_loadAct_15

def fX9_searchActR (P : PP) (T : TT) (X : DD) (i : Int32) : Int32 := (if (fX4_searchActR P T (fX8_beginS X 3 5) i) = (-1) then (fX4_searchActR P T ((fX4_searchActS P T (fX8_beginS X 3 5) i).2.2) (i / 2)) else (fX4_searchActR P T (fX8_beginS X 3 5) i))
def fX9_searchActS (P : PP) (T : TT) (X : DD) (i : Int32) : PP × TT × DD := (P, T, (if (fX4_searchActR P T (fX8_beginS X 3 5) i) = (-1) then (fX4_searchActS P T ((fX4_searchActS P T (fX8_beginS X 3 5) i).2.2) (i / 2)).2.2 else (fX4_searchActS P T (fX8_beginS X 3 5) i).2.2))
set_option maxHeartbeats 4000000 in
set_option maxRecDepth 100000 in
theorem c_X9_searchAct (l : Launch) (D : va_G) (g : GA) (ci h rw : Nat) (hci : pkTw ci) (P : PP) (T : TT) (X : DD) (i : Int32) : ctI l D (tyA g) yX9_searchAct (wd yX9_searchAct cX9_searchAct 3 (Option.some Jvm.ClassFile.FieldType.int)) { frames := 3, cells := 0, slots := 0, locals := 64 } [.ref h, .int i] (wA g ci h rw P T X) (fun r w => r = fX9_searchActR P T X i ∧ w = wA g ci h rw (fX9_searchActS P T X i).1 (fX9_searchActS P T X i).2.1 (fX9_searchActS P T X i).2.2) := by
  intro sz
  refine Met.ofW (cc := cX9_searchAct) (maxL := 3) (ret := (Option.some Jvm.ClassFile.FieldType.int)) (by decide) rfl ?_
  intro p e s m args below meth c s₁ B hml hv
  obtain ⟨rfl, hsz, hP, hK, hD0⟩ := hv
  have hx := B.exec
  have hb := B.bytes
  have hr := B.returns
  have hts := atoms_spec (ws := (wd yX9_searchAct cX9_searchAct 3 (Option.some Jvm.ClassFile.FieldType.int))) B.pre
  have hg := Tb.of hts
  have hown : s.vm.findClass RX9 = some m.cls := findClass_of_methodNamed B.named
  have hlocks := B.notSynchronized
  subst hsz
  have hD := hD0.self (sz := s.heap.size)
  generalize hAe : va_A (wA g ci h rw P T X) s.heap.size = A at hD ⊢
  have hA : ∀ q : Nat, s.heap.size ≤ q → A q := fun q h => by rw [← hAe]; exact Or.inr h
  have hS : va_S A s.heap s.heap [] := va_S.rf
  have hP : va_P D vwCl (wA g ci h rw P T X) s.heap := hP
  have hl := lv_entry ([.ref h, .int i]) (n := 3) (Nat.le_of_ble_eq_true rfl)
  rw [lg_entry_eq]
  generalize (lg_sl ([.ref h, .int i]) ++ List.replicate (3 - (lg_sl ([.ref h, .int i])).length) Slot.unset).toArray = ls at hl ⊢
  have hl : lv_has ls 3 [(0, .ref h), (1, .int i)] := hl
  have hca : pkAll ci := pkTw_pkAll hci
  refine lv_aload_n hx hb dX9_searchAct_0 rfl (lv_at hl 0 rfl) ?_
  refine va_get (D := D) (ci := ci) (v := .ref g.dn) (C := vn ci) (T := TX4) (N := 7) hx hb hg (pq_in hca) hown hK hP 0 rfl (pq_cl hca) 1 (by decide) (hg _ g_135) (u_same (hg _ g_136)) rfl dX9_searchAct_1 ?_
  refine lv_iconst (v := 3) hx hb dX9_searchAct_4 (by decide) ?_
  refine lv_iconst (v := 5) hx hb dX9_searchAct_5 (by decide) ?_
  refine z_ve (va_runV (As := [.int 3, .int 5]) (rest := []) ⟨hx, hb, hml, hown, hts⟩ (c_X8_begin l D g X 3 5 _) (z_V 2 hts g_278 g_3 g_275 g_276 g_277 ⟨by decide, by decide, by decide +kernel⟩ ⟨Nat.le_of_ble_eq_true rfl, Nat.le_of_ble_eq_true rfl⟩) (z_preV (ci := 9) (q0 := 0) (hP.subm [7, 8] rfl) (hD.sub [7, 8] (by decide) rfl) hK rfl rfl) rfl rfl hl.1 rfl (lv_room (Nat.le_of_ble_eq_true rfl)) dX9_searchAct_6 ⟨Nat.le_of_ble_eq_true rfl, Nat.le_of_ble_eq_true rfl⟩) hP hD hS hA (wP g ci h rw P ++ wT g T) (wA g ci h rw P T (fX8_beginS X 3 5)) [7, 8] [0, 1, 2, 3, 4, 5, 6] [0, 1, 2, 3, 4, 5, 6, 7, 8] rfl rfl (by decide) (by decide) rfl (by decide) (fun H locs hP hD hS => ?_)
  refine lv_aload_n hx hb dX9_searchAct_9 rfl (lv_at hl 0 rfl) ?_
  refine lv_iload_n hx hb dX9_searchAct_10 rfl (lv_at hl 1 rfl) ?_
  refine z_ie (z_runSU (C := vn ci) (As := [.int i]) (rest := []) (hK.1 _ _ (pq_cl hca)).2 ⟨hx, hb, hml, hown, hts⟩ (c_X4_searchAct l D g ci h rw hca P T (fX8_beginS X 3 5) i _) (z_SU (x := ⟨"PileHeirs$Strict", "searchAct", "(I)I"⟩) (owner := RX4) 1 hts g_352 g_5 g_345 g_346 g_220 g_327 (by decide) ⟨by decide, by decide, by decide +kernel⟩ ⟨Nat.le_of_ble_eq_true rfl, Nat.le_of_ble_eq_true rfl⟩) (sb_Strict_Plain hg) (z_preV (ci := ci) (q0 := 0) (hP.subm [0, 1, 2, 3, 4, 5, 6, 7, 8] rfl) (hD.sub [0, 1, 2, 3, 4, 5, 6, 7, 8] (by decide) rfl) hK (pq_cl hca) rfl) rfl rfl hl.1 rfl (lv_room (Nat.le_of_ble_eq_true rfl)) dX9_searchAct_11 ⟨Nat.le_of_ble_eq_true rfl, Nat.le_of_ble_eq_true rfl⟩) hP hD hS hA (([] : va_W)) (wA g ci h rw P T ((fX4_searchActS P T (fX8_beginS X 3 5) i).2.2)) [0, 1, 2, 3, 4, 5, 6, 7, 8] [] [0, 1, 2, 3, 4, 5, 6, 7, 8] rfl rfl (by decide) (by decide) rfl (by decide) (fun H locs hP hD hS => ?_)
  refine lv_istore_n (lv' := [(2, .int (fX4_searchActR P T (fX8_beginS X 3 5) i)), (0, .ref h), (1, .int i)]) hx hb dX9_searchAct_14 rfl hl (by decide) rfl (fun ls hl => ?_)
  refine lv_iload_n hx hb dX9_searchAct_15 rfl (lv_at hl 0 rfl) ?_
  refine lv_iconst (v := (-1)) hx hb dX9_searchAct_16 (by decide) ?_
  refine lv_icmp_ne (tgt := 30) hx hb dX9_searchAct_17 (by decide) (fun c_1 => ?_) (fun c_1 => ?_)
  · -- not (fX4_searchActR P T (fX8_beginS X 3 5) i) = (-1)
    refine lv_iload_n hx hb dX9_searchAct_30 rfl (lv_at hl 0 rfl) ?_
    exact W.iret (v := (fX4_searchActR P T (fX8_beginS X 3 5) i)) hx hb hr (fun t9 ht hW => ⟨⟨(fX4_searchActR P T (fX8_beginS X 3 5) i), wA g ci h rw P T ((fX4_searchActS P T (fX8_beginS X 3 5) i).2.2), rfl, ⟨by simp only [fX9_searchActR, if_neg c_1], by simp only [fX9_searchActS, if_neg c_1]⟩, by rw [ht]; exact hP, va_K.moved hW.alike hK, hD⟩, hS.F ht⟩) hS.2.2 dX9_searchAct_31
  · -- (fX4_searchActR P T (fX8_beginS X 3 5) i) = (-1)
    refine lv_aload_n hx hb dX9_searchAct_20 rfl (lv_at hl 1 rfl) ?_
    refine lv_iload_n hx hb dX9_searchAct_21 rfl (lv_at hl 2 rfl) ?_
    refine lv_iconst (v := 2) hx hb dX9_searchAct_22 (by decide) ?_
    refine lv_idiv hx hb dX9_searchAct_23 (by decide) ?_
    refine z_ie (z_runSU (C := vn ci) (As := [.int (i / 2)]) (rest := []) (hK.1 _ _ (pq_cl hca)).2 ⟨hx, hb, hml, hown, hts⟩ (c_X4_searchAct l D g ci h rw hca P T ((fX4_searchActS P T (fX8_beginS X 3 5) i).2.2) (i / 2) _) (z_SU (x := ⟨"PileHeirs$Strict", "searchAct", "(I)I"⟩) (owner := RX4) 1 hts g_352 g_5 g_345 g_346 g_220 g_327 (by decide) ⟨by decide, by decide, by decide +kernel⟩ ⟨Nat.le_of_ble_eq_true rfl, Nat.le_of_ble_eq_true rfl⟩) (sb_Strict_Plain hg) (z_preV (ci := ci) (q0 := 0) (hP.subm [0, 1, 2, 3, 4, 5, 6, 7, 8] rfl) (hD.sub [0, 1, 2, 3, 4, 5, 6, 7, 8] (by decide) rfl) hK (pq_cl hca) rfl) rfl rfl hl.1 rfl (lv_room (Nat.le_of_ble_eq_true rfl)) dX9_searchAct_24 ⟨Nat.le_of_ble_eq_true rfl, Nat.le_of_ble_eq_true rfl⟩) hP hD hS hA (([] : va_W)) (wA g ci h rw P T ((fX4_searchActS P T ((fX4_searchActS P T (fX8_beginS X 3 5) i).2.2) (i / 2)).2.2)) [0, 1, 2, 3, 4, 5, 6, 7, 8] [] [0, 1, 2, 3, 4, 5, 6, 7, 8] rfl rfl (by decide) (by decide) rfl (by decide) (fun H locs hP hD hS => ?_)
    refine lv_goto (tgt := 31) hx hb dX9_searchAct_27 (by decide) ?_
    exact W.iret (v := (fX4_searchActR P T ((fX4_searchActS P T (fX8_beginS X 3 5) i).2.2) (i / 2))) hx hb hr (fun t9 ht hW => ⟨⟨(fX4_searchActR P T ((fX4_searchActS P T (fX8_beginS X 3 5) i).2.2) (i / 2)), wA g ci h rw P T ((fX4_searchActS P T ((fX4_searchActS P T (fX8_beginS X 3 5) i).2.2) (i / 2)).2.2), rfl, ⟨by simp only [fX9_searchActR, if_pos c_1], by simp only [fX9_searchActS, if_pos c_1]⟩, by rw [ht]; exact hP, va_K.moved hW.alike hK, hD⟩, hS.F ht⟩) hS.2.2 dX9_searchAct_31

def lX3_load (P : PP) (T : TT) (X : DD) : Nat → Int32 → Int32 → Int32
  | 0, sum, _ => sum
  | n + 1, sum, pl => if fX4_howManyR P T X ≤ pl then sum else if fX7_isWetR T (fX4_timberAtR P T X pl) = 0 then lX3_load P T X n sum (pl + 1) else lX3_load P T X n (sum + 10) (pl + 1)
def fX3_loadActR (P : PP) (T : TT) (X : DD) : Int32 := lX3_load P T (fX4_loadActS P T (fX8_beginS X 2 6)).2.2 ((fX4_howManyR P T (fX4_loadActS P T (fX8_beginS X 2 6)).2.2).toNatClampNeg + 1) (fX4_loadActR P T (fX8_beginS X 2 6)) 0
def fX3_loadActS (P : PP) (T : TT) (X : DD) : PP × TT × DD := (P, T, (fX4_loadActS P T (fX8_beginS X 2 6)).2.2)
set_option maxHeartbeats 4000000 in
set_option maxRecDepth 100000 in
theorem c_X3_loadAct (l : Launch) (D : va_G) (g : GA) (ci h rw : Nat) (hci : pkOp ci) (P : PP) (T : TT) (X : DD)  : ctI l D (tyA g) yX3_loadAct (wd yX3_loadAct cX3_loadAct 3 (Option.some Jvm.ClassFile.FieldType.int)) { frames := 3, cells := 0, slots := 0, locals := 64 } [.ref h] (wA g ci h rw P T X) (fun r w => r = fX3_loadActR P T X ∧ w = wA g ci h rw (fX3_loadActS P T X).1 (fX3_loadActS P T X).2.1 (fX3_loadActS P T X).2.2) := by
  intro sz
  refine Met.ofW (cc := cX3_loadAct) (maxL := 3) (ret := (Option.some Jvm.ClassFile.FieldType.int)) (by decide) rfl ?_
  intro p e s m args below meth c s₁ B hml hv
  obtain ⟨rfl, hsz, hP, hK, hD0⟩ := hv
  have hx := B.exec
  have hb := B.bytes
  have hr := B.returns
  have hts := atoms_spec (ws := (wd yX3_loadAct cX3_loadAct 3 (Option.some Jvm.ClassFile.FieldType.int))) B.pre
  have hg := Tb.of hts
  have hown : s.vm.findClass RX3 = some m.cls := findClass_of_methodNamed B.named
  have hlocks := B.notSynchronized
  subst hsz
  have hD := hD0.self (sz := s.heap.size)
  generalize hAe : va_A (wA g ci h rw P T X) s.heap.size = A at hD ⊢
  have hA : ∀ q : Nat, s.heap.size ≤ q → A q := fun q h => by rw [← hAe]; exact Or.inr h
  have hS : va_S A s.heap s.heap [] := va_S.rf
  have hP : va_P D vwCl (wA g ci h rw P T X) s.heap := hP
  have hl := lv_entry ([.ref h]) (n := 3) (Nat.le_of_ble_eq_true rfl)
  rw [lg_entry_eq]
  generalize (lg_sl ([.ref h]) ++ List.replicate (3 - (lg_sl ([.ref h])).length) Slot.unset).toArray = ls at hl ⊢
  have hl : lv_has ls 3 [(0, .ref h)] := hl
  have hca : pkAll ci := pkOp_pkAll hci
  refine lv_aload_n hx hb dX3_loadAct_0 rfl (lv_at hl 0 rfl) ?_
  refine va_get (D := D) (ci := ci) (v := .ref g.dn) (C := vn ci) (T := TX4) (N := 7) hx hb hg (pq_in hca) hown hK hP 0 rfl (pq_cl hca) 1 (by decide) (hg _ g_137) (u_same (hg _ g_138)) rfl dX3_loadAct_1 ?_
  refine lv_iconst (v := 2) hx hb dX3_loadAct_4 (by decide) ?_
  refine lv_bipush (v := 6) hx hb dX3_loadAct_5 (by decide) ?_
  refine z_ve (va_runV (As := [.int 2, .int 6]) (rest := []) ⟨hx, hb, hml, hown, hts⟩ (c_X8_begin l D g X 2 6 _) (z_V 2 hts g_278 g_3 g_289 g_276 g_277 ⟨by decide, by decide, by decide +kernel⟩ ⟨Nat.le_of_ble_eq_true rfl, Nat.le_of_ble_eq_true rfl⟩) (z_preV (ci := 9) (q0 := 0) (hP.subm [7, 8] rfl) (hD.sub [7, 8] (by decide) rfl) hK rfl rfl) rfl rfl hl.1 rfl (lv_room (Nat.le_of_ble_eq_true rfl)) dX3_loadAct_7 ⟨Nat.le_of_ble_eq_true rfl, Nat.le_of_ble_eq_true rfl⟩) hP hD hS hA (wP g ci h rw P ++ wT g T) (wA g ci h rw P T (fX8_beginS X 2 6)) [7, 8] [0, 1, 2, 3, 4, 5, 6] [0, 1, 2, 3, 4, 5, 6, 7, 8] rfl rfl (by decide) (by decide) rfl (by decide) (fun H locs hP hD hS => ?_)
  refine lv_aload_n hx hb dX3_loadAct_10 rfl (lv_at hl 0 rfl) ?_
  refine z_ie (z_runSU (C := vn ci) (As := []) (rest := []) (hK.1 _ _ (pq_cl hca)).2 ⟨hx, hb, hml, hown, hts⟩ (c_X4_loadAct l D g ci h rw hca P T (fX8_beginS X 2 6) _) (z_SU (x := ⟨"PileHeirs$Drying", "loadAct", "()I"⟩) (owner := RX4) 0 hts g_315 g_5 g_290 g_291 g_234 g_268 (by decide) ⟨by decide, by decide, by decide +kernel⟩ ⟨Nat.le_of_ble_eq_true rfl, Nat.le_of_ble_eq_true rfl⟩) (sb_Drying_Plain hg) (z_preV (ci := ci) (q0 := 0) (hP.subm [0, 1, 2, 3, 4, 5, 6, 7, 8] rfl) (hD.sub [0, 1, 2, 3, 4, 5, 6, 7, 8] (by decide) rfl) hK (pq_cl hca) rfl) rfl rfl hl.1 rfl (lv_room (Nat.le_of_ble_eq_true rfl)) dX3_loadAct_11 ⟨Nat.le_of_ble_eq_true rfl, Nat.le_of_ble_eq_true rfl⟩) hP hD hS hA (([] : va_W)) (wA g ci h rw P T ((fX4_loadActS P T (fX8_beginS X 2 6)).2.2)) [0, 1, 2, 3, 4, 5, 6, 7, 8] [] [0, 1, 2, 3, 4, 5, 6, 7, 8] rfl rfl (by decide) (by decide) rfl (by decide) (fun H locs hP hD hS => ?_)
  refine lv_istore_n (lv' := [(1, .int (fX4_loadActR P T (fX8_beginS X 2 6))), (0, .ref h)]) hx hb dX3_loadAct_14 rfl hl (by decide) rfl (fun ls hl => ?_)
  refine lv_iconst (v := 0) hx hb dX3_loadAct_15 (by decide) ?_
  refine lv_istore_n (lv' := [(2, .int 0), (1, .int (fX4_loadActR P T (fX8_beginS X 2 6))), (0, .ref h)]) hx hb dX3_loadAct_16 rfl hl (by decide) rfl (fun ls hl => ?_)
  refine z_loop (pc := 17) (fun n (x : Int32 × Int32) H locs ls => (((fX4_howManyR P T (fX4_loadActS P T (fX8_beginS X 2 6)).2.2).toInt - x.2.toInt).toNat < n ∧ lX3_load P T (fX4_loadActS P T (fX8_beginS X 2 6)).2.2 n x.1 x.2 = fX3_loadActR P T X) ∧ va_P D vwCl (wA g ci h rw P T ((fX4_loadActS P T (fX8_beginS X 2 6)).2.2)) H ∧ va_D A (wA g ci h rw P T ((fX4_loadActS P T (fX8_beginS X 2 6)).2.2)) ∧ va_S A s.heap H locs ∧ lv_has ls 3 [(0, .ref h), (1, .int x.1), (2, .int x.2)]) (fun x H locs ls h => absurd h.1.1 (Nat.not_lt_zero _)) ?_ ((fX4_howManyR P T (fX4_loadActS P T (fX8_beginS X 2 6)).2.2).toNatClampNeg + 1) (fX4_loadActR P T (fX8_beginS X 2 6), 0) _ _ _ ⟨⟨lp_st _, rfl⟩, hP, hD, hS, lv_sub hl [2, 1, 0] rfl⟩
  intro n x H locs ls hI ih
  obtain ⟨hI, hP, hD, hS, hl⟩ := hI
  refine lv_iload_n hx hb dX3_loadAct_17 rfl (lv_at hl 2 rfl) ?_
  refine lv_aload_n hx hb dX3_loadAct_18 rfl (lv_at hl 0 rfl) ?_
  refine z_ie (va_runU (C := vn ci) (As := []) (rest := [.int x.2]) ⟨hx, hb, hml, hown, hts⟩ (c_X4_howMany l D g ci h rw hca P T ((fX4_loadActS P T (fX8_beginS X 2 6)).2.2) _) (z_U (x := ⟨"PileHeirs$Open", "howMany", "()I"⟩) (owner := RX4) 0 hts g_297 g_5 g_292 g_293 g_296 g_297 (sl_Open_howMany hci) g_296 ⟨by decide, by decide, by decide +kernel⟩ ⟨Nat.le_of_ble_eq_true rfl, Nat.le_of_ble_eq_true rfl⟩) (z_preV (ci := ci) (q0 := 0) (hP.subm [0, 1, 2, 3, 4, 5, 6, 7, 8] rfl) (hD.sub [0, 1, 2, 3, 4, 5, 6, 7, 8] (by decide) rfl) hK (pq_cl hca) rfl) rfl rfl hl.1 rfl (lv_room (Nat.le_of_ble_eq_true rfl)) dX3_loadAct_19 ⟨Nat.le_of_ble_eq_true rfl, Nat.le_of_ble_eq_true rfl⟩) hP hD hS hA (([] : va_W)) (wA g ci h rw P T ((fX4_loadActS P T (fX8_beginS X 2 6)).2.2)) [0, 1, 2, 3, 4, 5, 6, 7, 8] [] [0, 1, 2, 3, 4, 5, 6, 7, 8] rfl rfl (by decide) (by decide) rfl (by decide) (fun H locs hP hD hS => ?_)
  refine lv_icmp_ge (tgt := 49) hx hb dX3_loadAct_22 (by decide) (fun c_1 => ?_) (fun c_1 => ?_)
  · -- (fX4_howManyR P T ((fX4_loadActS P T (fX8_beginS X 2 6)).2.2)) ≤ x.2
    refine lv_iload_n hx hb dX3_loadAct_49 rfl (lv_at hl 1 rfl) ?_
    exact W.iret (v := x.1) hx hb hr (fun t9 ht hW => ⟨⟨x.1, wA g ci h rw P T ((fX4_loadActS P T (fX8_beginS X 2 6)).2.2), rfl, ⟨by rw [← hI.2]; simp only [lX3_load, if_pos c_1], rfl⟩, by rw [ht]; exact hP, va_K.moved hW.alike hK, hD⟩, hS.F ht⟩) hS.2.2 dX3_loadAct_50
  · -- not (fX4_howManyR P T ((fX4_loadActS P T (fX8_beginS X 2 6)).2.2)) ≤ x.2
    refine lv_aload_n hx hb dX3_loadAct_25 rfl (lv_at hl 0 rfl) ?_
    refine va_get (D := D) (ci := ci) (v := .ref g.tm) (C := vn ci) (T := TX4) (N := 7) hx hb hg (pq_in hca) hown hK hP 0 rfl (pq_cl hca) 0 (by decide) (hg _ g_120) (u_same (hg _ g_121)) rfl dX3_loadAct_26 ?_
    refine lv_aload_n hx hb dX3_loadAct_29 rfl (lv_at hl 0 rfl) ?_
    refine lv_iload_n hx hb dX3_loadAct_30 rfl (lv_at hl 2 rfl) ?_
    refine z_ie (va_runU (C := vn ci) (As := [.int x.2]) (rest := [.ref g.tm]) ⟨hx, hb, hml, hown, hts⟩ (c_X4_timberAt l D g ci h rw hca P T ((fX4_loadActS P T (fX8_beginS X 2 6)).2.2) x.2 _) (z_U (x := ⟨"PileHeirs$Open", "timberAt", "(I)I"⟩) (owner := RX4) 1 hts g_303 g_5 g_298 g_299 g_302 g_303 (sl_Open_timberAt hci) g_302 ⟨by decide, by decide, by decide +kernel⟩ ⟨Nat.le_of_ble_eq_true rfl, Nat.le_of_ble_eq_true rfl⟩) (z_preV (ci := ci) (q0 := 0) (hP.subm [0, 1, 2, 3, 4, 5, 6, 7, 8] rfl) (hD.sub [0, 1, 2, 3, 4, 5, 6, 7, 8] (by decide) rfl) hK (pq_cl hca) rfl) rfl rfl hl.1 rfl (lv_room (Nat.le_of_ble_eq_true rfl)) dX3_loadAct_31 ⟨Nat.le_of_ble_eq_true rfl, Nat.le_of_ble_eq_true rfl⟩) hP hD hS hA (([] : va_W)) (wA g ci h rw P T ((fX4_loadActS P T (fX8_beginS X 2 6)).2.2)) [0, 1, 2, 3, 4, 5, 6, 7, 8] [] [0, 1, 2, 3, 4, 5, 6, 7, 8] rfl rfl (by decide) (by decide) rfl (by decide) (fun H locs hP hD hS => ?_)
    refine z_ie (va_runV (As := [.int (fX4_timberAtR P T ((fX4_loadActS P T (fX8_beginS X 2 6)).2.2) x.2)]) (rest := []) ⟨hx, hb, hml, hown, hts⟩ (c_X7_isWet l D g T (fX4_timberAtR P T ((fX4_loadActS P T (fX8_beginS X 2 6)).2.2) x.2) _) (z_V 1 hts g_307 g_2 g_304 g_305 g_306 ⟨by decide, by decide, by decide +kernel⟩ ⟨Nat.le_of_ble_eq_true rfl, Nat.le_of_ble_eq_true rfl⟩) (z_preV (ci := 8) (q0 := 0) (hP.subm [2, 3, 4, 5, 6] rfl) (hD.sub [2, 3, 4, 5, 6] (by decide) rfl) hK rfl rfl) rfl rfl hl.1 rfl (lv_room (Nat.le_of_ble_eq_true rfl)) dX3_loadAct_34 ⟨Nat.le_of_ble_eq_true rfl, Nat.le_of_ble_eq_true rfl⟩) hP hD hS hA (wP g ci h rw P ++ wD g ((fX4_loadActS P T (fX8_beginS X 2 6)).2.2)) (wA g ci h rw P T ((fX4_loadActS P T (fX8_beginS X 2 6)).2.2)) [2, 3, 4, 5, 6] [0, 1, 7, 8] [0, 1, 4, 5, 6, 7, 8, 2, 3] rfl rfl (by decide) (by decide) rfl (by decide) (fun H locs hP hD hS => ?_)
    refine lv_if_eq (tgt := 43) hx hb dX3_loadAct_37 (by decide) (fun c_2 => ?_) (fun c_2 => ?_)
    · -- (fX7_isWetR T (fX4_timberAtR P T ((fX4_loadActS P T (fX8_beginS X 2 6)).2.2) x.2)) = 0
      refine lv_iinc (v := (x.2 + 1)) (lv' := [(2, .int (x.2 + 1)), (0, .ref h), (1, .int x.1)]) hx hb dX3_loadAct_43 hl (k := 2) rfl rfl (by decide) rfl (fun ls hl => ?_)
      refine lv_goto (tgt := 17) hx hb dX3_loadAct_46 (by decide) ?_
      exact ih (x.1, (x.2 + 1)) _ _ _ ⟨⟨lp_up c_1 hI.1, by rw [← hI.2]; simp only [lX3_load, if_neg c_1, if_pos c_2]⟩, hP, hD, hS, lv_sub hl [1, 2, 0] rfl⟩
    · -- not (fX7_isWetR T (fX4_timberAtR P T ((fX4_loadActS P T (fX8_beginS X 2 6)).2.2) x.2)) = 0
      refine lv_iinc (v := (x.1 + 10)) (lv' := [(1, .int (x.1 + 10)), (0, .ref h), (2, .int x.2)]) hx hb dX3_loadAct_40 hl (k := 1) rfl rfl (by decide) rfl (fun ls hl => ?_)
      refine lv_iinc (v := (x.2 + 1)) (lv' := [(2, .int (x.2 + 1)), (1, .int (x.1 + 10)), (0, .ref h)]) hx hb dX3_loadAct_43 hl (k := 2) rfl rfl (by decide) rfl (fun ls hl => ?_)
      refine lv_goto (tgt := 17) hx hb dX3_loadAct_46 (by decide) ?_
      exact ih ((x.1 + 10), (x.2 + 1)) _ _ _ ⟨⟨lp_up c_1 hI.1, by rw [← hI.2]; simp only [lX3_load, if_neg c_1, if_neg c_2]⟩, hP, hD, hS, lv_sub hl [2, 1, 0] rfl⟩

def fX3_putActR (P : PP) (T : TT) (X : DD) (t : Int32) : Int32 := (if ((fX7_weightOfR T t) - (fX7_weightOfR T t) / 2 * 2) = 0 then (fX5_putActR P T (fX8_beginS X 0 6) t) else (fX5_putActR P (fX7_setWetS T t 1) (fX8_beginS X 0 6) t))
def fX3_putActS (P : PP) (T : TT) (X : DD) (t : Int32) : PP × TT × DD := ((if ((fX7_weightOfR T t) - (fX7_weightOfR T t) / 2 * 2) = 0 then (fX5_putActS P T (fX8_beginS X 0 6) t).1 else (fX5_putActS P (fX7_setWetS T t 1) (fX8_beginS X 0 6) t).1), (if ((fX7_weightOfR T t) - (fX7_weightOfR T t) / 2 * 2) = 0 then (fX5_putActS P T (fX8_beginS X 0 6) t).2.1 else (fX5_putActS P (fX7_setWetS T t 1) (fX8_beginS X 0 6) t).2.1), (if ((fX7_weightOfR T t) - (fX7_weightOfR T t) / 2 * 2) = 0 then (fX5_putActS P T (fX8_beginS X 0 6) t).2.2 else (fX5_putActS P (fX7_setWetS T t 1) (fX8_beginS X 0 6) t).2.2))
set_option maxHeartbeats 4000000 in
set_option maxRecDepth 100000 in
theorem c_X3_putAct (l : Launch) (D : va_G) (g : GA) (ci h rw : Nat) (hci : pkOp ci) (P : PP) (T : TT) (X : DD) (t : Int32) : ctI l D (tyA g) yX3_putAct (wd yX3_putAct cX3_putAct 2 (Option.some Jvm.ClassFile.FieldType.int)) { frames := 4, cells := 0, slots := 0, locals := 86 } [.ref h, .int t] (wA g ci h rw P T X) (fun r w => r = fX3_putActR P T X t ∧ w = wA g ci h rw (fX3_putActS P T X t).1 (fX3_putActS P T X t).2.1 (fX3_putActS P T X t).2.2) := by
  intro sz
  refine Met.ofW (cc := cX3_putAct) (maxL := 2) (ret := (Option.some Jvm.ClassFile.FieldType.int)) (by decide) rfl ?_
  intro p e s m args below meth c s₁ B hml hv
  obtain ⟨rfl, hsz, hP, hK, hD0⟩ := hv
  have hx := B.exec
  have hb := B.bytes
  have hr := B.returns
  have hts := atoms_spec (ws := (wd yX3_putAct cX3_putAct 2 (Option.some Jvm.ClassFile.FieldType.int))) B.pre
  have hg := Tb.of hts
  have hown : s.vm.findClass RX3 = some m.cls := findClass_of_methodNamed B.named
  have hlocks := B.notSynchronized
  subst hsz
  have hD := hD0.self (sz := s.heap.size)
  generalize hAe : va_A (wA g ci h rw P T X) s.heap.size = A at hD ⊢
  have hA : ∀ q : Nat, s.heap.size ≤ q → A q := fun q h => by rw [← hAe]; exact Or.inr h
  have hS : va_S A s.heap s.heap [] := va_S.rf
  have hP : va_P D vwCl (wA g ci h rw P T X) s.heap := hP
  have hl := lv_entry ([.ref h, .int t]) (n := 2) (Nat.le_of_ble_eq_true rfl)
  rw [lg_entry_eq]
  generalize (lg_sl ([.ref h, .int t]) ++ List.replicate (2 - (lg_sl ([.ref h, .int t])).length) Slot.unset).toArray = ls at hl ⊢
  have hl : lv_has ls 2 [(0, .ref h), (1, .int t)] := hl
  have hca : pkAll ci := pkOp_pkAll hci
  refine lv_aload_n hx hb dX3_putAct_0 rfl (lv_at hl 0 rfl) ?_
  refine va_get (D := D) (ci := ci) (v := .ref g.dn) (C := vn ci) (T := TX4) (N := 7) hx hb hg (pq_in hca) hown hK hP 0 rfl (pq_cl hca) 1 (by decide) (hg _ g_137) (u_same (hg _ g_138)) rfl dX3_putAct_1 ?_
  refine lv_iconst (v := 0) hx hb dX3_putAct_4 (by decide) ?_
  refine lv_bipush (v := 6) hx hb dX3_putAct_5 (by decide) ?_
  refine z_ve (va_runV (As := [.int 0, .int 6]) (rest := []) ⟨hx, hb, hml, hown, hts⟩ (c_X8_begin l D g X 0 6 _) (z_V 2 hts g_278 g_3 g_289 g_276 g_277 ⟨by decide, by decide, by decide +kernel⟩ ⟨Nat.le_of_ble_eq_true rfl, Nat.le_of_ble_eq_true rfl⟩) (z_preV (ci := 9) (q0 := 0) (hP.subm [7, 8] rfl) (hD.sub [7, 8] (by decide) rfl) hK rfl rfl) rfl rfl hl.1 rfl (lv_room (Nat.le_of_ble_eq_true rfl)) dX3_putAct_7 ⟨Nat.le_of_ble_eq_true rfl, Nat.le_of_ble_eq_true rfl⟩) hP hD hS hA (wP g ci h rw P ++ wT g T) (wA g ci h rw P T (fX8_beginS X 0 6)) [7, 8] [0, 1, 2, 3, 4, 5, 6] [0, 1, 2, 3, 4, 5, 6, 7, 8] rfl rfl (by decide) (by decide) rfl (by decide) (fun H locs hP hD hS => ?_)
  refine lv_aload_n hx hb dX3_putAct_10 rfl (lv_at hl 0 rfl) ?_
  refine va_get (D := D) (ci := ci) (v := .ref g.tm) (C := vn ci) (T := TX4) (N := 7) hx hb hg (pq_in hca) hown hK hP 0 rfl (pq_cl hca) 0 (by decide) (hg _ g_120) (u_same (hg _ g_121)) rfl dX3_putAct_11 ?_
  refine lv_iload_n hx hb dX3_putAct_14 rfl (lv_at hl 1 rfl) ?_
  refine z_ie (va_runV (As := [.int t]) (rest := []) ⟨hx, hb, hml, hown, hts⟩ (c_X7_weightOf l D g T t _) (z_V 1 hts g_321 g_2 g_447 g_319 g_320 ⟨by decide, by decide, by decide +kernel⟩ ⟨Nat.le_of_ble_eq_true rfl, Nat.le_of_ble_eq_true rfl⟩) (z_preV (ci := 8) (q0 := 0) (hP.subm [2, 3, 4, 5, 6] rfl) (hD.sub [2, 3, 4, 5, 6] (by decide) rfl) hK rfl rfl) rfl rfl hl.1 rfl (lv_room (Nat.le_of_ble_eq_true rfl)) dX3_putAct_15 ⟨Nat.le_of_ble_eq_true rfl, Nat.le_of_ble_eq_true rfl⟩) hP hD hS hA (wP g ci h rw P ++ wD g (fX8_beginS X 0 6)) (wA g ci h rw P T (fX8_beginS X 0 6)) [2, 3, 4, 5, 6] [0, 1, 7, 8] [0, 1, 4, 5, 6, 7, 8, 2, 3] rfl rfl (by decide) (by decide) rfl (by decide) (fun H locs hP hD hS => ?_)
  refine lv_iconst (v := 2) hx hb dX3_putAct_18 (by decide) ?_
  refine lv_irem hx hb dX3_putAct_19 (by decide) ?_
  refine lv_if_eq (tgt := 32) hx hb dX3_putAct_20 (by decide) (fun c_1 => ?_) (fun c_1 => ?_)
  · -- ((fX7_weightOfR T t) - (fX7_weightOfR T t) / 2 * 2) = 0
    refine lv_aload_n hx hb dX3_putAct_32 rfl (lv_at hl 0 rfl) ?_
    refine lv_iload_n hx hb dX3_putAct_33 rfl (lv_at hl 1 rfl) ?_
    refine z_ie (z_runSU (C := vn ci) (As := [.int t]) (rest := []) (hK.1 _ _ (pq_cl hca)).2 ⟨hx, hb, hml, hown, hts⟩ (c_X5_putAct l D g ci h rw (pkOp_pkSo hci) P T (fX8_beginS X 0 6) t _) (z_SU (x := ⟨"PileHeirs$Drying", "putAct", "(I)I"⟩) (owner := RX5) 1 hts g_451 g_7 g_449 g_441 g_234 g_450 (by decide) ⟨by decide, by decide, by decide +kernel⟩ ⟨Nat.le_of_ble_eq_true rfl, Nat.le_of_ble_eq_true rfl⟩) (sb_Drying_Sorted hg) (z_preV (ci := ci) (q0 := 0) (hP.subm [0, 1, 2, 3, 4, 5, 6, 7, 8] rfl) (hD.sub [0, 1, 2, 3, 4, 5, 6, 7, 8] (by decide) rfl) hK (pq_cl hca) rfl) rfl rfl hl.1 rfl (lv_room (Nat.le_of_ble_eq_true rfl)) dX3_putAct_34 ⟨Nat.le_of_ble_eq_true rfl, Nat.le_of_ble_eq_true rfl⟩) hP hD hS hA (([] : va_W)) (wA g ci h rw ((fX5_putActS P T (fX8_beginS X 0 6) t).1) ((fX5_putActS P T (fX8_beginS X 0 6) t).2.1) ((fX5_putActS P T (fX8_beginS X 0 6) t).2.2)) [0, 1, 2, 3, 4, 5, 6, 7, 8] [] [0, 1, 2, 3, 4, 5, 6, 7, 8] rfl rfl (by decide) (by decide) rfl (by decide) (fun H locs hP hD hS => ?_)
    exact W.iret (v := (fX5_putActR P T (fX8_beginS X 0 6) t)) hx hb hr (fun t9 ht hW => ⟨⟨(fX5_putActR P T (fX8_beginS X 0 6) t), wA g ci h rw ((fX5_putActS P T (fX8_beginS X 0 6) t).1) ((fX5_putActS P T (fX8_beginS X 0 6) t).2.1) ((fX5_putActS P T (fX8_beginS X 0 6) t).2.2), rfl, ⟨by simp only [fX3_putActR, if_pos c_1], by simp only [fX3_putActS, if_pos c_1]⟩, by rw [ht]; exact hP, va_K.moved hW.alike hK, hD⟩, hS.F ht⟩) hS.2.2 dX3_putAct_37
  · -- not ((fX7_weightOfR T t) - (fX7_weightOfR T t) / 2 * 2) = 0
    refine lv_aload_n hx hb dX3_putAct_23 rfl (lv_at hl 0 rfl) ?_
    refine va_get (D := D) (ci := ci) (v := .ref g.tm) (C := vn ci) (T := TX4) (N := 7) hx hb hg (pq_in hca) hown hK hP 0 rfl (pq_cl hca) 0 (by decide) (hg _ g_120) (u_same (hg _ g_121)) rfl dX3_putAct_24 ?_
    refine lv_iload_n hx hb dX3_putAct_27 rfl (lv_at hl 1 rfl) ?_
    refine lv_iconst (v := 1) hx hb dX3_putAct_28 (by decide) ?_
    refine z_ve (va_runV (As := [.int t, .int 1]) (rest := []) ⟨hx, hb, hml, hown, hts⟩ (c_X7_setWet l D g T t 1 _) (z_V 2 hts g_439 g_2 g_448 g_437 g_438 ⟨by decide, by decide, by decide +kernel⟩ ⟨Nat.le_of_ble_eq_true rfl, Nat.le_of_ble_eq_true rfl⟩) (z_preV (ci := 8) (q0 := 0) (hP.subm [2, 3, 4, 5, 6] rfl) (hD.sub [2, 3, 4, 5, 6] (by decide) rfl) hK rfl rfl) rfl rfl hl.1 rfl (lv_room (Nat.le_of_ble_eq_true rfl)) dX3_putAct_29 ⟨Nat.le_of_ble_eq_true rfl, Nat.le_of_ble_eq_true rfl⟩) hP hD hS hA (wP g ci h rw P ++ wD g (fX8_beginS X 0 6)) (wA g ci h rw P (fX7_setWetS T t 1) (fX8_beginS X 0 6)) [2, 3, 4, 5, 6] [0, 1, 7, 8] [0, 1, 4, 5, 6, 7, 8, 2, 3] rfl rfl (by decide) (by decide) rfl (by decide) (fun H locs hP hD hS => ?_)
    refine lv_aload_n hx hb dX3_putAct_32 rfl (lv_at hl 0 rfl) ?_
    refine lv_iload_n hx hb dX3_putAct_33 rfl (lv_at hl 1 rfl) ?_
    refine z_ie (z_runSU (C := vn ci) (As := [.int t]) (rest := []) (hK.1 _ _ (pq_cl hca)).2 ⟨hx, hb, hml, hown, hts⟩ (c_X5_putAct l D g ci h rw (pkOp_pkSo hci) P (fX7_setWetS T t 1) (fX8_beginS X 0 6) t _) (z_SU (x := ⟨"PileHeirs$Drying", "putAct", "(I)I"⟩) (owner := RX5) 1 hts g_451 g_7 g_449 g_441 g_234 g_450 (by decide) ⟨by decide, by decide, by decide +kernel⟩ ⟨Nat.le_of_ble_eq_true rfl, Nat.le_of_ble_eq_true rfl⟩) (sb_Drying_Sorted hg) (z_preV (ci := ci) (q0 := 0) (hP.subm [0, 1, 2, 3, 4, 5, 6, 7, 8] rfl) (hD.sub [0, 1, 2, 3, 4, 5, 6, 7, 8] (by decide) rfl) hK (pq_cl hca) rfl) rfl rfl hl.1 rfl (lv_room (Nat.le_of_ble_eq_true rfl)) dX3_putAct_34 ⟨Nat.le_of_ble_eq_true rfl, Nat.le_of_ble_eq_true rfl⟩) hP hD hS hA (([] : va_W)) (wA g ci h rw ((fX5_putActS P (fX7_setWetS T t 1) (fX8_beginS X 0 6) t).1) ((fX5_putActS P (fX7_setWetS T t 1) (fX8_beginS X 0 6) t).2.1) ((fX5_putActS P (fX7_setWetS T t 1) (fX8_beginS X 0 6) t).2.2)) [0, 1, 2, 3, 4, 5, 6, 7, 8] [] [0, 1, 2, 3, 4, 5, 6, 7, 8] rfl rfl (by decide) (by decide) rfl (by decide) (fun H locs hP hD hS => ?_)
    exact W.iret (v := (fX5_putActR P (fX7_setWetS T t 1) (fX8_beginS X 0 6) t)) hx hb hr (fun t9 ht hW => ⟨⟨(fX5_putActR P (fX7_setWetS T t 1) (fX8_beginS X 0 6) t), wA g ci h rw ((fX5_putActS P (fX7_setWetS T t 1) (fX8_beginS X 0 6) t).1) ((fX5_putActS P (fX7_setWetS T t 1) (fX8_beginS X 0 6) t).2.1) ((fX5_putActS P (fX7_setWetS T t 1) (fX8_beginS X 0 6) t).2.2), rfl, ⟨by simp only [fX3_putActR, if_neg c_1], by simp only [fX3_putActS, if_neg c_1]⟩, by rw [ht]; exact hP, va_K.moved hW.alike hK, hD⟩, hS.F ht⟩) hS.2.2 dX3_putAct_37

def kloadActR (ci : Nat) (P : PP) (T : TT) (X : DD)  : Int32 := match ci with | 10 => fX9_loadActR P T X  | 2 => fX9_loadActR P T X  | 4 => fX3_loadActR P T X  | _ => fX4_loadActR P T X 
def kloadActS (ci : Nat) (P : PP) (T : TT) (X : DD)  : PP × TT × DD := (P, T, (match ci with | 10 => (fX9_loadActS P T X).2.2 | 2 => (fX9_loadActS P T X).2.2 | 4 => (fX3_loadActS P T X).2.2 | _ => (fX4_loadActS P T X).2.2))

set_option maxHeartbeats 4000000 in
set_option maxRecDepth 100000 in
theorem rv_X6_loadAct {p : Program} {l : Launch} {e : Env} {R : Room} {s : State} {m : MethodId} {args : Array Value} {below : List Frame} {meth : Method} {c : Code} {H : Heap} {locs : List Loc} {cells slots : Nat} {y0 : MethodName} {b0 cc : ByteArray} {n0 nL : Nat} {r0 : Option FieldType} {D : va_G} {g : GA} {ci h rw : Nat} {P : PP} {T : TT} {X : DD} {B : Nat → Prop} {rest : List Value} {fr : JFrame} 
    (hci : pkSt ci) (S : CallFix p m c cc nL s args (wd y0 b0 n0 r0) RX6) (hP : va_P D vwCl (wA g ci h rw P T X) H) (hD : va_D B (wA g ci h rw P T X)) (hK : va_K D vwCl (tyA g) s) (hR : 4 ≤ R.frames ∧ 84 ≤ R.locals) (hg : fr.method = m) (hsize : fr.locals.size = nL) (hstack : fr.stack = [].reverse ++ .ref h :: rest) (hW : 2 * fr.monitorRoom + (rest.map fun v => v.category).sum ≤ 8) (hdg : decode cc fr.pc = .ok (.invokevirtual 21, 3)) (hf : cells + 0 ≤ R.cells ∧ slots + 0 ≤ R.slots) :
    va_Run p l e R s m args below meth c H locs cells slots 0 0 fr rest (va_Qi (fun r w => r = kloadActR ci P T X  ∧ w = wA g ci h rw (kloadActS ci P T X ).1 (kloadActS ci P T X ).2.1 (kloadActS ci P T X ).2.2) (ctB D (tyA g) (va_A (wA g ci h rw P T X) H.size)) (va_A (wA g ci h rw P T X) H.size) (Value.ref h :: []).toArray) (va_A (wA g ci h rw P T X) H.size) := by
  rcases hci with rfl | rfl | rfl
  · exact va_runU (C := vn 2) (As := []) S (c_X9_loadAct l D g 2 h rw (by simp [pkTw]) P T X  _) (z_U (x := ⟨"PileHeirs$Strict", "loadAct", "()I"⟩) (owner := RX4) 0 S.2.2.2.2 g_274 g_10 g_376 g_283 g_268 g_315 g_377 g_273 ⟨by decide, by decide, by decide +kernel⟩ ⟨Nat.le_trans (Nat.le_of_ble_eq_true rfl) hR.1, Nat.le_trans (Nat.le_of_ble_eq_true rfl) hR.2⟩) (z_preV (ci := 2) (q0 := 0) hP hD hK (pq_cl (by simp [pkAll])) rfl) hg rfl hsize hstack hW hdg hf
  · exact va_runU (C := vn 7) (As := []) S (c_X4_loadAct l D g 7 h rw (by simp [pkAll]) P T X  _) (z_U (x := ⟨"PileHeirs$Strict", "loadAct", "()I"⟩) (owner := RX4) 0 S.2.2.2.2 g_315 g_5 g_376 g_283 g_268 g_315 g_378 g_268 ⟨by decide, by decide, by decide +kernel⟩ ⟨Nat.le_trans (Nat.le_of_ble_eq_true rfl) hR.1, Nat.le_trans (Nat.le_of_ble_eq_true rfl) hR.2⟩) (z_preV (ci := 7) (q0 := 0) hP hD hK (pq_cl (by simp [pkAll])) rfl) hg rfl hsize hstack hW hdg hf
  · exact va_runU (C := vn 10) (As := []) S (c_X9_loadAct l D g 10 h rw (by simp [pkTw]) P T X  _) (z_U (x := ⟨"PileHeirs$Strict", "loadAct", "()I"⟩) (owner := RX4) 0 S.2.2.2.2 g_274 g_10 g_376 g_283 g_268 g_315 g_379 g_273 ⟨by decide, by decide, by decide +kernel⟩ ⟨Nat.le_trans (Nat.le_of_ble_eq_true rfl) hR.1, Nat.le_trans (Nat.le_of_ble_eq_true rfl) hR.2⟩) (z_preV (ci := 10) (q0 := 0) hP hD hK (pq_cl (by simp [pkAll])) rfl) hg rfl hsize hstack hW hdg hf

def fX6_putActR (ci : Nat) (P : PP) (T : TT) (X : DD) (t : Int32) : Int32 := (if ((kloadActR ci P T (fX8_beginS X 0 3)) + (fX7_weightOfR T t)) ≤ P.2.2.1 then (fX4_putActR P T ((kloadActS ci P T (fX8_beginS X 0 3)).2.2) t) else 2)
def fX6_putActS (ci : Nat) (P : PP) (T : TT) (X : DD) (t : Int32) : PP × TT × DD := ((if ((kloadActR ci P T (fX8_beginS X 0 3)) + (fX7_weightOfR T t)) ≤ P.2.2.1 then (fX4_putActS P T ((kloadActS ci P T (fX8_beginS X 0 3)).2.2) t).1 else P), (if ((kloadActR ci P T (fX8_beginS X 0 3)) + (fX7_weightOfR T t)) ≤ P.2.2.1 then (fX4_putActS P T ((kloadActS ci P T (fX8_beginS X 0 3)).2.2) t).2.1 else T), (if ((kloadActR ci P T (fX8_beginS X 0 3)) + (fX7_weightOfR T t)) ≤ P.2.2.1 then (fX4_putActS P T ((kloadActS ci P T (fX8_beginS X 0 3)).2.2) t).2.2 else fX8_countHeavyS ((kloadActS ci P T (fX8_beginS X 0 3)).2.2)))
set_option maxHeartbeats 4000000 in
set_option maxRecDepth 100000 in
theorem c_X6_putAct (l : Launch) (D : va_G) (g : GA) (ci h rw : Nat) (hci : pkSt ci) (P : PP) (T : TT) (X : DD) (t : Int32) : ctI l D (tyA g) yX6_putAct (wd yX6_putAct cX6_putAct 2 (Option.some Jvm.ClassFile.FieldType.int)) { frames := 4, cells := 0, slots := 0, locals := 84 } [.ref h, .int t] (wA g ci h rw P T X) (fun r w => r = fX6_putActR ci P T X t ∧ w = wA g ci h rw (fX6_putActS ci P T X t).1 (fX6_putActS ci P T X t).2.1 (fX6_putActS ci P T X t).2.2) := by
  intro sz
  refine Met.ofW (cc := cX6_putAct) (maxL := 2) (ret := (Option.some Jvm.ClassFile.FieldType.int)) (by decide) rfl ?_
  intro p e s m args below meth c s₁ B hml hv
  obtain ⟨rfl, hsz, hP, hK, hD0⟩ := hv
  have hx := B.exec
  have hb := B.bytes
  have hr := B.returns
  have hts := atoms_spec (ws := (wd yX6_putAct cX6_putAct 2 (Option.some Jvm.ClassFile.FieldType.int))) B.pre
  have hg := Tb.of hts
  have hown : s.vm.findClass RX6 = some m.cls := findClass_of_methodNamed B.named
  have hlocks := B.notSynchronized
  subst hsz
  have hD := hD0.self (sz := s.heap.size)
  generalize hAe : va_A (wA g ci h rw P T X) s.heap.size = A at hD ⊢
  have hA : ∀ q : Nat, s.heap.size ≤ q → A q := fun q h => by rw [← hAe]; exact Or.inr h
  have hS : va_S A s.heap s.heap [] := va_S.rf
  have hP : va_P D vwCl (wA g ci h rw P T X) s.heap := hP
  have hl := lv_entry ([.ref h, .int t]) (n := 2) (Nat.le_of_ble_eq_true rfl)
  rw [lg_entry_eq]
  generalize (lg_sl ([.ref h, .int t]) ++ List.replicate (2 - (lg_sl ([.ref h, .int t])).length) Slot.unset).toArray = ls at hl ⊢
  have hl : lv_has ls 2 [(0, .ref h), (1, .int t)] := hl
  have hca : pkAll ci := pkSt_pkAll hci
  refine lv_aload_n hx hb dX6_putAct_0 rfl (lv_at hl 0 rfl) ?_
  refine va_get (D := D) (ci := ci) (v := .ref g.dn) (C := vn ci) (T := TX4) (N := 7) hx hb hg (pq_in hca) hown hK hP 0 rfl (pq_cl hca) 1 (by decide) (hg _ g_133) (u_same (hg _ g_134)) rfl dX6_putAct_1 ?_
  refine lv_iconst (v := 0) hx hb dX6_putAct_4 (by decide) ?_
  refine lv_iconst (v := 3) hx hb dX6_putAct_5 (by decide) ?_
  refine z_ve (va_runV (As := [.int 0, .int 3]) (rest := []) ⟨hx, hb, hml, hown, hts⟩ (c_X8_begin l D g X 0 3 _) (z_V 2 hts g_278 g_3 g_375 g_276 g_277 ⟨by decide, by decide, by decide +kernel⟩ ⟨Nat.le_of_ble_eq_true rfl, Nat.le_of_ble_eq_true rfl⟩) (z_preV (ci := 9) (q0 := 0) (hP.subm [7, 8] rfl) (hD.sub [7, 8] (by decide) rfl) hK rfl rfl) rfl rfl hl.1 rfl (lv_room (Nat.le_of_ble_eq_true rfl)) dX6_putAct_6 ⟨Nat.le_of_ble_eq_true rfl, Nat.le_of_ble_eq_true rfl⟩) hP hD hS hA (wP g ci h rw P ++ wT g T) (wA g ci h rw P T (fX8_beginS X 0 3)) [7, 8] [0, 1, 2, 3, 4, 5, 6] [0, 1, 2, 3, 4, 5, 6, 7, 8] rfl rfl (by decide) (by decide) rfl (by decide) (fun H locs hP hD hS => ?_)
  refine lv_aload_n hx hb dX6_putAct_9 rfl (lv_at hl 0 rfl) ?_
  refine z_ie (rv_X6_loadAct (rest := []) hci ⟨hx, hb, hml, hown, hts⟩ hP hD hK ⟨Nat.le_of_ble_eq_true rfl, Nat.le_of_ble_eq_true rfl⟩ rfl hl.1 rfl (lv_room (Nat.le_of_ble_eq_true rfl)) dX6_putAct_10 ⟨Nat.le_of_ble_eq_true rfl, Nat.le_of_ble_eq_true rfl⟩) hP hD hS hA (([] : va_W)) (wA g ci h rw P T ((kloadActS ci P T (fX8_beginS X 0 3)).2.2)) [0, 1, 2, 3, 4, 5, 6, 7, 8] [] [0, 1, 2, 3, 4, 5, 6, 7, 8] rfl rfl (by decide) (by decide) rfl (by decide) (fun H locs hP hD hS => ?_)
  refine lv_aload_n hx hb dX6_putAct_13 rfl (lv_at hl 0 rfl) ?_
  refine va_get (D := D) (ci := ci) (v := .ref g.tm) (C := vn ci) (T := TX4) (N := 7) hx hb hg (pq_in hca) hown hK hP 0 rfl (pq_cl hca) 0 (by decide) (hg _ g_122) (u_same (hg _ g_123)) rfl dX6_putAct_14 ?_
  refine lv_iload_n hx hb dX6_putAct_17 rfl (lv_at hl 1 rfl) ?_
  refine z_ie (va_runV (As := [.int t]) (rest := [.int (kloadActR ci P T (fX8_beginS X 0 3))]) ⟨hx, hb, hml, hown, hts⟩ (c_X7_weightOf l D g T t _) (z_V 1 hts g_321 g_2 g_505 g_319 g_320 ⟨by decide, by decide, by decide +kernel⟩ ⟨Nat.le_of_ble_eq_true rfl, Nat.le_of_ble_eq_true rfl⟩) (z_preV (ci := 8) (q0 := 0) (hP.subm [2, 3, 4, 5, 6] rfl) (hD.sub [2, 3, 4, 5, 6] (by decide) rfl) hK rfl rfl) rfl rfl hl.1 rfl (lv_room (Nat.le_of_ble_eq_true rfl)) dX6_putAct_18 ⟨Nat.le_of_ble_eq_true rfl, Nat.le_of_ble_eq_true rfl⟩) hP hD hS hA (wP g ci h rw P ++ wD g ((kloadActS ci P T (fX8_beginS X 0 3)).2.2)) (wA g ci h rw P T ((kloadActS ci P T (fX8_beginS X 0 3)).2.2)) [2, 3, 4, 5, 6] [0, 1, 7, 8] [0, 1, 4, 5, 6, 7, 8, 2, 3] rfl rfl (by decide) (by decide) rfl (by decide) (fun H locs hP hD hS => ?_)
  refine lv_iadd hx hb dX6_putAct_21 ?_
  refine lv_aload_n hx hb dX6_putAct_22 rfl (lv_at hl 0 rfl) ?_
  refine va_get (D := D) (ci := ci) (v := .int P.2.2.1) (C := vn ci) (T := TX4) (N := 7) hx hb hg (pq_in hca) hown hK hP 0 rfl (pq_cl hca) 4 (by decide) (hg _ g_146) (u_same (hg _ g_147)) rfl dX6_putAct_23 ?_
  refine lv_icmp_le (tgt := 38) hx hb dX6_putAct_26 (by decide) (fun c_1 => ?_) (fun c_1 => ?_)
  · -- ((kloadActR ci P T (fX8_beginS X 0 3)) + (fX7_weightOfR T t)) ≤ P.2.2.1
    refine lv_aload_n hx hb dX6_putAct_38 rfl (lv_at hl 0 rfl) ?_
    refine lv_iload_n hx hb dX6_putAct_39 rfl (lv_at hl 1 rfl) ?_
    refine z_ie (z_runSU (C := vn ci) (As := [.int t]) (rest := []) (hK.1 _ _ (pq_cl hca)).2 ⟨hx, hb, hml, hown, hts⟩ (c_X4_putAct l D g ci h rw hca P T ((kloadActS ci P T (fX8_beginS X 0 3)).2.2) t _) (z_SU (x := ⟨"PileHeirs$Marked", "putAct", "(I)I"⟩) (owner := RX4) 1 hts g_457 g_5 g_510 g_454 g_192 g_456 (by decide) ⟨by decide, by decide, by decide +kernel⟩ ⟨Nat.le_of_ble_eq_true rfl, Nat.le_of_ble_eq_true rfl⟩) (sb_Marked_Plain hg) (z_preV (ci := ci) (q0 := 0) (hP.subm [0, 1, 2, 3, 4, 5, 6, 7, 8] rfl) (hD.sub [0, 1, 2, 3, 4, 5, 6, 7, 8] (by decide) rfl) hK (pq_cl hca) rfl) rfl rfl hl.1 rfl (lv_room (Nat.le_of_ble_eq_true rfl)) dX6_putAct_40 ⟨Nat.le_of_ble_eq_true rfl, Nat.le_of_ble_eq_true rfl⟩) hP hD hS hA (([] : va_W)) (wA g ci h rw ((fX4_putActS P T ((kloadActS ci P T (fX8_beginS X 0 3)).2.2) t).1) ((fX4_putActS P T ((kloadActS ci P T (fX8_beginS X 0 3)).2.2) t).2.1) ((fX4_putActS P T ((kloadActS ci P T (fX8_beginS X 0 3)).2.2) t).2.2)) [0, 1, 2, 3, 4, 5, 6, 7, 8] [] [0, 1, 2, 3, 4, 5, 6, 7, 8] rfl rfl (by decide) (by decide) rfl (by decide) (fun H locs hP hD hS => ?_)
    exact W.iret (v := (fX4_putActR P T ((kloadActS ci P T (fX8_beginS X 0 3)).2.2) t)) hx hb hr (fun t9 ht hW => ⟨⟨(fX4_putActR P T ((kloadActS ci P T (fX8_beginS X 0 3)).2.2) t), wA g ci h rw ((fX4_putActS P T ((kloadActS ci P T (fX8_beginS X 0 3)).2.2) t).1) ((fX4_putActS P T ((kloadActS ci P T (fX8_beginS X 0 3)).2.2) t).2.1) ((fX4_putActS P T ((kloadActS ci P T (fX8_beginS X 0 3)).2.2) t).2.2), rfl, ⟨by simp only [fX6_putActR, if_pos c_1], by simp only [fX6_putActS, if_pos c_1]⟩, by rw [ht]; exact hP, va_K.moved hW.alike hK, hD⟩, hS.F ht⟩) hS.2.2 dX6_putAct_43
  · -- not ((kloadActR ci P T (fX8_beginS X 0 3)) + (fX7_weightOfR T t)) ≤ P.2.2.1
    refine lv_aload_n hx hb dX6_putAct_29 rfl (lv_at hl 0 rfl) ?_
    refine va_get (D := D) (ci := ci) (v := .ref g.dn) (C := vn ci) (T := TX4) (N := 7) hx hb hg (pq_in hca) hown hK hP 0 rfl (pq_cl hca) 1 (by decide) (hg _ g_133) (u_same (hg _ g_134)) rfl dX6_putAct_30 ?_
    refine z_ve (va_runV (As := []) (rest := []) ⟨hx, hb, hml, hown, hts⟩ (c_X8_countHeavy l D g ((kloadActS ci P T (fX8_beginS X 0 3)).2.2) _) (z_V 0 hts g_509 g_3 g_506 g_507 g_508 ⟨by decide, by decide, by decide +kernel⟩ ⟨Nat.le_of_ble_eq_true rfl, Nat.le_of_ble_eq_true rfl⟩) (z_preV (ci := 9) (q0 := 0) (hP.subm [7, 8] rfl) (hD.sub [7, 8] (by decide) rfl) hK rfl rfl) rfl rfl hl.1 rfl (lv_room (Nat.le_of_ble_eq_true rfl)) dX6_putAct_33 ⟨Nat.le_of_ble_eq_true rfl, Nat.le_of_ble_eq_true rfl⟩) hP hD hS hA (wP g ci h rw P ++ wT g T) (wA g ci h rw P T (fX8_countHeavyS ((kloadActS ci P T (fX8_beginS X 0 3)).2.2))) [7, 8] [0, 1, 2, 3, 4, 5, 6] [0, 1, 2, 3, 4, 5, 6, 7, 8] rfl rfl (by decide) (by decide) rfl (by decide) (fun H locs hP hD hS => ?_)
    refine lv_iconst (v := 2) hx hb dX6_putAct_36 (by decide) ?_
    exact W.iret (v := 2) hx hb hr (fun t9 ht hW => ⟨⟨2, wA g ci h rw P T (fX8_countHeavyS ((kloadActS ci P T (fX8_beginS X 0 3)).2.2)), rfl, ⟨by simp only [fX6_putActR, if_neg c_1], by simp only [fX6_putActS, if_neg c_1]⟩, by rw [ht]; exact hP, va_K.moved hW.alike hK, hD⟩, hS.F ht⟩) hS.2.2 dX6_putAct_37

def fX6_freeActR (ci : Nat) (P : PP) (T : TT) (X : DD)  : Int32 := (if (kloadActR ci P T (fX8_beginS X 4 3)) < P.2.2.1 then (fX4_freeActR P T ((kloadActS ci P T (fX8_beginS X 4 3)).2.2)) else 0)
def fX6_freeActS (ci : Nat) (P : PP) (T : TT) (X : DD)  : PP × TT × DD := (P, T, (if (kloadActR ci P T (fX8_beginS X 4 3)) < P.2.2.1 then (fX4_freeActS P T ((kloadActS ci P T (fX8_beginS X 4 3)).2.2)).2.2 else (kloadActS ci P T (fX8_beginS X 4 3)).2.2))
set_option maxHeartbeats 4000000 in
set_option maxRecDepth 100000 in
theorem c_X6_freeAct (l : Launch) (D : va_G) (g : GA) (ci h rw : Nat) (hci : pkSt ci) (P : PP) (T : TT) (X : DD)  : ctI l D (tyA g) yX6_freeAct (wd yX6_freeAct cX6_freeAct 1 (Option.some Jvm.ClassFile.FieldType.int)) { frames := 4, cells := 0, slots := 0, locals := 84 } [.ref h] (wA g ci h rw P T X) (fun r w => r = fX6_freeActR ci P T X ∧ w = wA g ci h rw (fX6_freeActS ci P T X).1 (fX6_freeActS ci P T X).2.1 (fX6_freeActS ci P T X).2.2) := by
  intro sz
  refine Met.ofW (cc := cX6_freeAct) (maxL := 1) (ret := (Option.some Jvm.ClassFile.FieldType.int)) (by decide) rfl ?_
  intro p e s m args below meth c s₁ B hml hv
  obtain ⟨rfl, hsz, hP, hK, hD0⟩ := hv
  have hx := B.exec
  have hb := B.bytes
  have hr := B.returns
  have hts := atoms_spec (ws := (wd yX6_freeAct cX6_freeAct 1 (Option.some Jvm.ClassFile.FieldType.int))) B.pre
  have hg := Tb.of hts
  have hown : s.vm.findClass RX6 = some m.cls := findClass_of_methodNamed B.named
  have hlocks := B.notSynchronized
  subst hsz
  have hD := hD0.self (sz := s.heap.size)
  generalize hAe : va_A (wA g ci h rw P T X) s.heap.size = A at hD ⊢
  have hA : ∀ q : Nat, s.heap.size ≤ q → A q := fun q h => by rw [← hAe]; exact Or.inr h
  have hS : va_S A s.heap s.heap [] := va_S.rf
  have hP : va_P D vwCl (wA g ci h rw P T X) s.heap := hP
  have hl := lv_entry ([.ref h]) (n := 1) (Nat.le_of_ble_eq_true rfl)
  rw [lg_entry_eq]
  generalize (lg_sl ([.ref h]) ++ List.replicate (1 - (lg_sl ([.ref h])).length) Slot.unset).toArray = ls at hl ⊢
  have hl : lv_has ls 1 [(0, .ref h)] := hl
  have hca : pkAll ci := pkSt_pkAll hci
  refine lv_aload_n hx hb dX6_freeAct_0 rfl (lv_at hl 0 rfl) ?_
  refine va_get (D := D) (ci := ci) (v := .ref g.dn) (C := vn ci) (T := TX4) (N := 7) hx hb hg (pq_in hca) hown hK hP 0 rfl (pq_cl hca) 1 (by decide) (hg _ g_133) (u_same (hg _ g_134)) rfl dX6_freeAct_1 ?_
  refine lv_iconst (v := 4) hx hb dX6_freeAct_4 (by decide) ?_
  refine lv_iconst (v := 3) hx hb dX6_freeAct_5 (by decide) ?_
  refine z_ve (va_runV (As := [.int 4, .int 3]) (rest := []) ⟨hx, hb, hml, hown, hts⟩ (c_X8_begin l D g X 4 3 _) (z_V 2 hts g_278 g_3 g_375 g_276 g_277 ⟨by decide, by decide, by decide +kernel⟩ ⟨Nat.le_of_ble_eq_true rfl, Nat.le_of_ble_eq_true rfl⟩) (z_preV (ci := 9) (q0 := 0) (hP.subm [7, 8] rfl) (hD.sub [7, 8] (by decide) rfl) hK rfl rfl) rfl rfl hl.1 rfl (lv_room (Nat.le_of_ble_eq_true rfl)) dX6_freeAct_6 ⟨Nat.le_of_ble_eq_true rfl, Nat.le_of_ble_eq_true rfl⟩) hP hD hS hA (wP g ci h rw P ++ wT g T) (wA g ci h rw P T (fX8_beginS X 4 3)) [7, 8] [0, 1, 2, 3, 4, 5, 6] [0, 1, 2, 3, 4, 5, 6, 7, 8] rfl rfl (by decide) (by decide) rfl (by decide) (fun H locs hP hD hS => ?_)
  refine lv_aload_n hx hb dX6_freeAct_9 rfl (lv_at hl 0 rfl) ?_
  refine z_ie (rv_X6_loadAct (rest := []) hci ⟨hx, hb, hml, hown, hts⟩ hP hD hK ⟨Nat.le_of_ble_eq_true rfl, Nat.le_of_ble_eq_true rfl⟩ rfl hl.1 rfl (lv_room (Nat.le_of_ble_eq_true rfl)) dX6_freeAct_10 ⟨Nat.le_of_ble_eq_true rfl, Nat.le_of_ble_eq_true rfl⟩) hP hD hS hA (([] : va_W)) (wA g ci h rw P T ((kloadActS ci P T (fX8_beginS X 4 3)).2.2)) [0, 1, 2, 3, 4, 5, 6, 7, 8] [] [0, 1, 2, 3, 4, 5, 6, 7, 8] rfl rfl (by decide) (by decide) rfl (by decide) (fun H locs hP hD hS => ?_)
  refine lv_aload_n hx hb dX6_freeAct_13 rfl (lv_at hl 0 rfl) ?_
  refine va_get (D := D) (ci := ci) (v := .int P.2.2.1) (C := vn ci) (T := TX4) (N := 7) hx hb hg (pq_in hca) hown hK hP 0 rfl (pq_cl hca) 4 (by decide) (hg _ g_146) (u_same (hg _ g_147)) rfl dX6_freeAct_14 ?_
  refine lv_icmp_lt (tgt := 24) hx hb dX6_freeAct_17 (by decide) (fun c_1 => ?_) (fun c_1 => ?_)
  · -- (kloadActR ci P T (fX8_beginS X 4 3)) < P.2.2.1
    refine lv_aload_n hx hb dX6_freeAct_24 rfl (lv_at hl 0 rfl) ?_
    refine z_ie (z_runSU (C := vn ci) (As := []) (rest := []) (hK.1 _ _ (pq_cl hca)).2 ⟨hx, hb, hml, hown, hts⟩ (c_X4_freeAct l D g ci h rw hca P T ((kloadActS ci P T (fX8_beginS X 4 3)).2.2) _) (z_SU (x := ⟨"PileHeirs$Marked", "freeAct", "()I"⟩) (owner := RX4) 0 hts g_391 g_5 g_380 g_381 g_192 g_362 (by decide) ⟨by decide, by decide, by decide +kernel⟩ ⟨Nat.le_of_ble_eq_true rfl, Nat.le_of_ble_eq_true rfl⟩) (sb_Marked_Plain hg) (z_preV (ci := ci) (q0 := 0) (hP.subm [0, 1, 2, 3, 4, 5, 6, 7, 8] rfl) (hD.sub [0, 1, 2, 3, 4, 5, 6, 7, 8] (by decide) rfl) hK (pq_cl hca) rfl) rfl rfl hl.1 rfl (lv_room (Nat.le_of_ble_eq_true rfl)) dX6_freeAct_25 ⟨Nat.le_of_ble_eq_true rfl, Nat.le_of_ble_eq_true rfl⟩) hP hD hS hA (([] : va_W)) (wA g ci h rw P T ((fX4_freeActS P T ((kloadActS ci P T (fX8_beginS X 4 3)).2.2)).2.2)) [0, 1, 2, 3, 4, 5, 6, 7, 8] [] [0, 1, 2, 3, 4, 5, 6, 7, 8] rfl rfl (by decide) (by decide) rfl (by decide) (fun H locs hP hD hS => ?_)
    exact W.iret (v := (fX4_freeActR P T ((kloadActS ci P T (fX8_beginS X 4 3)).2.2))) hx hb hr (fun t9 ht hW => ⟨⟨(fX4_freeActR P T ((kloadActS ci P T (fX8_beginS X 4 3)).2.2)), wA g ci h rw P T ((fX4_freeActS P T ((kloadActS ci P T (fX8_beginS X 4 3)).2.2)).2.2), rfl, ⟨by simp only [fX6_freeActR, if_pos c_1], by simp only [fX6_freeActS, if_pos c_1]⟩, by rw [ht]; exact hP, va_K.moved hW.alike hK, hD⟩, hS.F ht⟩) hS.2.2 dX6_freeAct_28
  · -- not (kloadActR ci P T (fX8_beginS X 4 3)) < P.2.2.1
    refine lv_iconst (v := 0) hx hb dX6_freeAct_20 (by decide) ?_
    refine lv_goto (tgt := 28) hx hb dX6_freeAct_21 (by decide) ?_
    exact W.iret (v := 0) hx hb hr (fun t9 ht hW => ⟨⟨0, wA g ci h rw P T ((kloadActS ci P T (fX8_beginS X 4 3)).2.2), rfl, ⟨by simp only [fX6_freeActR, if_neg c_1], by simp only [fX6_freeActS, if_neg c_1]⟩, by rw [ht]; exact hP, va_K.moved hW.alike hK, hD⟩, hS.F ht⟩) hS.2.2 dX6_freeAct_28

def kputActR (ci : Nat) (P : PP) (T : TT) (X : DD) (t : Int32) : Int32 := match ci with | 5 => fX4_putActR P T X t | 3 => fX4_putActR P T X t | 6 => fX5_putActR P T X t | 1 => fX5_putActR P T X t | 4 => fX3_putActR P T X t | _ => fX6_putActR ci P T X t
def kputActS (ci : Nat) (P : PP) (T : TT) (X : DD) (t : Int32) : PP × TT × DD := ((match ci with | 5 => (fX4_putActS P T X t).1 | 3 => (fX4_putActS P T X t).1 | 6 => (fX5_putActS P T X t).1 | 1 => (fX5_putActS P T X t).1 | 4 => (fX3_putActS P T X t).1 | _ => (fX6_putActS ci P T X t).1), (match ci with | 5 => (fX4_putActS P T X t).2.1 | 3 => (fX4_putActS P T X t).2.1 | 6 => (fX5_putActS P T X t).2.1 | 1 => (fX5_putActS P T X t).2.1 | 4 => (fX3_putActS P T X t).2.1 | _ => (fX6_putActS ci P T X t).2.1), (match ci with | 5 => (fX4_putActS P T X t).2.2 | 3 => (fX4_putActS P T X t).2.2 | 6 => (fX5_putActS P T X t).2.2 | 1 => (fX5_putActS P T X t).2.2 | 4 => (fX3_putActS P T X t).2.2 | _ => (fX6_putActS ci P T X t).2.2))

set_option maxHeartbeats 4000000 in
set_option maxRecDepth 100000 in
theorem rv_X0_putAct {p : Program} {l : Launch} {e : Env} {R : Room} {s : State} {m : MethodId} {args : Array Value} {below : List Frame} {meth : Method} {c : Code} {H : Heap} {locs : List Loc} {cells slots : Nat} {y0 : MethodName} {b0 cc : ByteArray} {n0 nL : Nat} {r0 : Option FieldType} {D : va_G} {g : GA} {ci h rw : Nat} {P : PP} {T : TT} {X : DD} {B : Nat → Prop} {rest : List Value} {fr : JFrame} {t : Int32}
    (hci : pkDr ci) (S : CallFix p m c cc nL s args (wd y0 b0 n0 r0) RX0) (hP : va_P D vwCl (wA g ci h rw P T X) H) (hD : va_D B (wA g ci h rw P T X)) (hK : va_K D vwCl (tyA g) s) (hR : 5 ≤ R.frames ∧ 107 ≤ R.locals) (hg : fr.method = m) (hsize : fr.locals.size = nL) (hstack : fr.stack = [.int t].reverse ++ .ref h :: rest) (hW : 2 * fr.monitorRoom + (rest.map fun v => v.category).sum ≤ 8) (hdg : decode cc fr.pc = .ok (.invokevirtual 43, 3)) (hf : cells + 0 ≤ R.cells ∧ slots + 0 ≤ R.slots) :
    va_Run p l e R s m args below meth c H locs cells slots 0 0 fr rest (va_Qi (fun r w => r = kputActR ci P T X t ∧ w = wA g ci h rw (kputActS ci P T X t).1 (kputActS ci P T X t).2.1 (kputActS ci P T X t).2.2) (ctB D (tyA g) (va_A (wA g ci h rw P T X) H.size)) (va_A (wA g ci h rw P T X) H.size) (Value.ref h :: [.int t]).toArray) (va_A (wA g ci h rw P T X) H.size) := by
  rcases hci with rfl | rfl
  · exact va_runU (C := vn 1) (As := [.int t]) S (c_X5_putAct l D g 1 h rw (by simp [pkSo]) P T X t _) (z_U (x := ⟨"PileHeirs$Drying", "putAct", "(I)I"⟩) (owner := RX5) 1 S.2.2.2.2 g_451 g_7 g_440 g_441 g_450 g_451 g_443 g_450 ⟨by decide, by decide, by decide +kernel⟩ ⟨Nat.le_trans (Nat.le_of_ble_eq_true rfl) hR.1, Nat.le_trans (Nat.le_of_ble_eq_true rfl) hR.2⟩) (z_preV (ci := 1) (q0 := 0) hP hD hK (pq_cl (by simp [pkAll])) rfl) hg rfl hsize hstack hW hdg hf
  · exact va_runU (C := vn 4) (As := [.int t]) S (c_X3_putAct l D g 4 h rw (by simp [pkOp]) P T X t _) (z_U (x := ⟨"PileHeirs$Drying", "putAct", "(I)I"⟩) (owner := RX5) 1 S.2.2.2.2 g_446 g_11 g_440 g_441 g_450 g_451 g_444 g_445 ⟨by decide, by decide, by decide +kernel⟩ ⟨Nat.le_trans (Nat.le_of_ble_eq_true rfl) hR.1, Nat.le_trans (Nat.le_of_ble_eq_true rfl) hR.2⟩) (z_preV (ci := 4) (q0 := 0) hP hD hK (pq_cl (by simp [pkAll])) rfl) hg rfl hsize hstack hW hdg hf

def fX0_takeActR (ci : Nat) (P : PP) (T : TT) (X : DD)  : Int32 := (if (fX4_takeActR P T (fX8_beginS X 1 4)) = (-1) then (-2) else (if (fX7_isWetR ((fX4_takeActS P T (fX8_beginS X 1 4)).2.1) (fX4_takeActR P T (fX8_beginS X 1 4))) = 0 then (fX4_takeActR P T (fX8_beginS X 1 4)) else (fX4_takeActR ((kputActS ci ((fX4_takeActS P T (fX8_beginS X 1 4)).1) (fX7_setWetS ((fX4_takeActS P T (fX8_beginS X 1 4)).2.1) (fX4_takeActR P T (fX8_beginS X 1 4)) 0) ((fX4_takeActS P T (fX8_beginS X 1 4)).2.2) (fX4_takeActR P T (fX8_beginS X 1 4))).1) ((kputActS ci ((fX4_takeActS P T (fX8_beginS X 1 4)).1) (fX7_setWetS ((fX4_takeActS P T (fX8_beginS X 1 4)).2.1) (fX4_takeActR P T (fX8_beginS X 1 4)) 0) ((fX4_takeActS P T (fX8_beginS X 1 4)).2.2) (fX4_takeActR P T (fX8_beginS X 1 4))).2.1) ((kputActS ci ((fX4_takeActS P T (fX8_beginS X 1 4)).1) (fX7_setWetS ((fX4_takeActS P T (fX8_beginS X 1 4)).2.1) (fX4_takeActR P T (fX8_beginS X 1 4)) 0) ((fX4_takeActS P T (fX8_beginS X 1 4)).2.2) (fX4_takeActR P T (fX8_beginS X 1 4))).2.2))))
def fX0_takeActS (ci : Nat) (P : PP) (T : TT) (X : DD)  : PP × TT × DD := ((if (fX4_takeActR P T (fX8_beginS X 1 4)) = (-1) then (fX4_takeActS P T (fX8_beginS X 1 4)).1 else (if (fX7_isWetR ((fX4_takeActS P T (fX8_beginS X 1 4)).2.1) (fX4_takeActR P T (fX8_beginS X 1 4))) = 0 then (fX4_takeActS P T (fX8_beginS X 1 4)).1 else (fX4_takeActS ((kputActS ci ((fX4_takeActS P T (fX8_beginS X 1 4)).1) (fX7_setWetS ((fX4_takeActS P T (fX8_beginS X 1 4)).2.1) (fX4_takeActR P T (fX8_beginS X 1 4)) 0) ((fX4_takeActS P T (fX8_beginS X 1 4)).2.2) (fX4_takeActR P T (fX8_beginS X 1 4))).1) ((kputActS ci ((fX4_takeActS P T (fX8_beginS X 1 4)).1) (fX7_setWetS ((fX4_takeActS P T (fX8_beginS X 1 4)).2.1) (fX4_takeActR P T (fX8_beginS X 1 4)) 0) ((fX4_takeActS P T (fX8_beginS X 1 4)).2.2) (fX4_takeActR P T (fX8_beginS X 1 4))).2.1) ((kputActS ci ((fX4_takeActS P T (fX8_beginS X 1 4)).1) (fX7_setWetS ((fX4_takeActS P T (fX8_beginS X 1 4)).2.1) (fX4_takeActR P T (fX8_beginS X 1 4)) 0) ((fX4_takeActS P T (fX8_beginS X 1 4)).2.2) (fX4_takeActR P T (fX8_beginS X 1 4))).2.2)).1)), (if (fX4_takeActR P T (fX8_beginS X 1 4)) = (-1) then (fX4_takeActS P T (fX8_beginS X 1 4)).2.1 else (if (fX7_isWetR ((fX4_takeActS P T (fX8_beginS X 1 4)).2.1) (fX4_takeActR P T (fX8_beginS X 1 4))) = 0 then (fX4_takeActS P T (fX8_beginS X 1 4)).2.1 else (fX4_takeActS ((kputActS ci ((fX4_takeActS P T (fX8_beginS X 1 4)).1) (fX7_setWetS ((fX4_takeActS P T (fX8_beginS X 1 4)).2.1) (fX4_takeActR P T (fX8_beginS X 1 4)) 0) ((fX4_takeActS P T (fX8_beginS X 1 4)).2.2) (fX4_takeActR P T (fX8_beginS X 1 4))).1) ((kputActS ci ((fX4_takeActS P T (fX8_beginS X 1 4)).1) (fX7_setWetS ((fX4_takeActS P T (fX8_beginS X 1 4)).2.1) (fX4_takeActR P T (fX8_beginS X 1 4)) 0) ((fX4_takeActS P T (fX8_beginS X 1 4)).2.2) (fX4_takeActR P T (fX8_beginS X 1 4))).2.1) ((kputActS ci ((fX4_takeActS P T (fX8_beginS X 1 4)).1) (fX7_setWetS ((fX4_takeActS P T (fX8_beginS X 1 4)).2.1) (fX4_takeActR P T (fX8_beginS X 1 4)) 0) ((fX4_takeActS P T (fX8_beginS X 1 4)).2.2) (fX4_takeActR P T (fX8_beginS X 1 4))).2.2)).2.1)), (if (fX4_takeActR P T (fX8_beginS X 1 4)) = (-1) then fX8_countNothingS ((fX4_takeActS P T (fX8_beginS X 1 4)).2.2) else (if (fX7_isWetR ((fX4_takeActS P T (fX8_beginS X 1 4)).2.1) (fX4_takeActR P T (fX8_beginS X 1 4))) = 0 then (fX4_takeActS P T (fX8_beginS X 1 4)).2.2 else (fX4_takeActS ((kputActS ci ((fX4_takeActS P T (fX8_beginS X 1 4)).1) (fX7_setWetS ((fX4_takeActS P T (fX8_beginS X 1 4)).2.1) (fX4_takeActR P T (fX8_beginS X 1 4)) 0) ((fX4_takeActS P T (fX8_beginS X 1 4)).2.2) (fX4_takeActR P T (fX8_beginS X 1 4))).1) ((kputActS ci ((fX4_takeActS P T (fX8_beginS X 1 4)).1) (fX7_setWetS ((fX4_takeActS P T (fX8_beginS X 1 4)).2.1) (fX4_takeActR P T (fX8_beginS X 1 4)) 0) ((fX4_takeActS P T (fX8_beginS X 1 4)).2.2) (fX4_takeActR P T (fX8_beginS X 1 4))).2.1) ((kputActS ci ((fX4_takeActS P T (fX8_beginS X 1 4)).1) (fX7_setWetS ((fX4_takeActS P T (fX8_beginS X 1 4)).2.1) (fX4_takeActR P T (fX8_beginS X 1 4)) 0) ((fX4_takeActS P T (fX8_beginS X 1 4)).2.2) (fX4_takeActR P T (fX8_beginS X 1 4))).2.2)).2.2)))
set_option maxHeartbeats 4000000 in
set_option maxRecDepth 100000 in
theorem c_X0_takeAct (l : Launch) (D : va_G) (g : GA) (ci h rw : Nat) (hci : pkDr ci) (P : PP) (T : TT) (X : DD)  : ctI l D (tyA g) yX0_takeAct (wd yX0_takeAct cX0_takeAct 2 (Option.some Jvm.ClassFile.FieldType.int)) { frames := 5, cells := 0, slots := 0, locals := 107 } [.ref h] (wA g ci h rw P T X) (fun r w => r = fX0_takeActR ci P T X ∧ w = wA g ci h rw (fX0_takeActS ci P T X).1 (fX0_takeActS ci P T X).2.1 (fX0_takeActS ci P T X).2.2) := by
  intro sz
  refine Met.ofW (cc := cX0_takeAct) (maxL := 2) (ret := (Option.some Jvm.ClassFile.FieldType.int)) (by decide) rfl ?_
  intro p e s m args below meth c s₁ B hml hv
  obtain ⟨rfl, hsz, hP, hK, hD0⟩ := hv
  have hx := B.exec
  have hb := B.bytes
  have hr := B.returns
  have hts := atoms_spec (ws := (wd yX0_takeAct cX0_takeAct 2 (Option.some Jvm.ClassFile.FieldType.int))) B.pre
  have hg := Tb.of hts
  have hown : s.vm.findClass RX0 = some m.cls := findClass_of_methodNamed B.named
  have hlocks := B.notSynchronized
  subst hsz
  have hD := hD0.self (sz := s.heap.size)
  generalize hAe : va_A (wA g ci h rw P T X) s.heap.size = A at hD ⊢
  have hA : ∀ q : Nat, s.heap.size ≤ q → A q := fun q h => by rw [← hAe]; exact Or.inr h
  have hS : va_S A s.heap s.heap [] := va_S.rf
  have hP : va_P D vwCl (wA g ci h rw P T X) s.heap := hP
  have hl := lv_entry ([.ref h]) (n := 2) (Nat.le_of_ble_eq_true rfl)
  rw [lg_entry_eq]
  generalize (lg_sl ([.ref h]) ++ List.replicate (2 - (lg_sl ([.ref h])).length) Slot.unset).toArray = ls at hl ⊢
  have hl : lv_has ls 2 [(0, .ref h)] := hl
  have hca : pkAll ci := pkDr_pkAll hci
  refine lv_aload_n hx hb dX0_takeAct_0 rfl (lv_at hl 0 rfl) ?_
  refine va_get (D := D) (ci := ci) (v := .ref g.dn) (C := vn ci) (T := TX4) (N := 7) hx hb hg (pq_in hca) hown hK hP 0 rfl (pq_cl hca) 1 (by decide) (hg _ g_139) (u_same (hg _ g_140)) rfl dX0_takeAct_1 ?_
  refine lv_iconst (v := 1) hx hb dX0_takeAct_4 (by decide) ?_
  refine lv_iconst (v := 4) hx hb dX0_takeAct_5 (by decide) ?_
  refine z_ve (va_runV (As := [.int 1, .int 4]) (rest := []) ⟨hx, hb, hml, hown, hts⟩ (c_X8_begin l D g X 1 4 _) (z_V 2 hts g_278 g_3 g_333 g_276 g_277 ⟨by decide, by decide, by decide +kernel⟩ ⟨Nat.le_of_ble_eq_true rfl, Nat.le_of_ble_eq_true rfl⟩) (z_preV (ci := 9) (q0 := 0) (hP.subm [7, 8] rfl) (hD.sub [7, 8] (by decide) rfl) hK rfl rfl) rfl rfl hl.1 rfl (lv_room (Nat.le_of_ble_eq_true rfl)) dX0_takeAct_6 ⟨Nat.le_of_ble_eq_true rfl, Nat.le_of_ble_eq_true rfl⟩) hP hD hS hA (wP g ci h rw P ++ wT g T) (wA g ci h rw P T (fX8_beginS X 1 4)) [7, 8] [0, 1, 2, 3, 4, 5, 6] [0, 1, 2, 3, 4, 5, 6, 7, 8] rfl rfl (by decide) (by decide) rfl (by decide) (fun H locs hP hD hS => ?_)
  refine lv_aload_n hx hb dX0_takeAct_9 rfl (lv_at hl 0 rfl) ?_
  refine z_ie (z_runSU (C := vn ci) (As := []) (rest := []) (hK.1 _ _ (pq_cl hca)).2 ⟨hx, hb, hml, hown, hts⟩ (c_X4_takeAct l D g ci h rw hca P T (fX8_beginS X 1 4) _) (z_SU (x := ⟨"PileHeirs$Sorted", "takeAct", "()I"⟩) (owner := RX4) 0 hts g_501 g_5 g_429 g_430 g_206 g_423 (by decide) ⟨by decide, by decide, by decide +kernel⟩ ⟨Nat.le_of_ble_eq_true rfl, Nat.le_of_ble_eq_true rfl⟩) (sb_Sorted_Plain hg) (z_preV (ci := ci) (q0 := 0) (hP.subm [0, 1, 2, 3, 4, 5, 6, 7, 8] rfl) (hD.sub [0, 1, 2, 3, 4, 5, 6, 7, 8] (by decide) rfl) hK (pq_cl hca) rfl) rfl rfl hl.1 rfl (lv_room (Nat.le_of_ble_eq_true rfl)) dX0_takeAct_10 ⟨Nat.le_of_ble_eq_true rfl, Nat.le_of_ble_eq_true rfl⟩) hP hD hS hA (([] : va_W)) (wA g ci h rw ((fX4_takeActS P T (fX8_beginS X 1 4)).1) ((fX4_takeActS P T (fX8_beginS X 1 4)).2.1) ((fX4_takeActS P T (fX8_beginS X 1 4)).2.2)) [0, 1, 2, 3, 4, 5, 6, 7, 8] [] [0, 1, 2, 3, 4, 5, 6, 7, 8] rfl rfl (by decide) (by decide) rfl (by decide) (fun H locs hP hD hS => ?_)
  refine lv_istore_n (lv' := [(1, .int (fX4_takeActR P T (fX8_beginS X 1 4))), (0, .ref h)]) hx hb dX0_takeAct_13 rfl hl (by decide) rfl (fun ls hl => ?_)
  refine lv_iload_n hx hb dX0_takeAct_14 rfl (lv_at hl 0 rfl) ?_
  refine lv_iconst (v := (-1)) hx hb dX0_takeAct_15 (by decide) ?_
  refine lv_icmp_ne (tgt := 29) hx hb dX0_takeAct_16 (by decide) (fun c_1 => ?_) (fun c_1 => ?_)
  · -- not (fX4_takeActR P T (fX8_beginS X 1 4)) = (-1)
    refine lv_aload_n hx hb dX0_takeAct_29 rfl (lv_at hl 1 rfl) ?_
    refine va_get (D := D) (ci := ci) (v := .ref g.tm) (C := vn ci) (T := TX4) (N := 7) hx hb hg (pq_in hca) hown hK hP 0 rfl (pq_cl hca) 0 (by decide) (hg _ g_126) (u_same (hg _ g_127)) rfl dX0_takeAct_30 ?_
    refine lv_iload_n hx hb dX0_takeAct_33 rfl (lv_at hl 0 rfl) ?_
    refine z_ie (va_runV (As := [.int (fX4_takeActR P T (fX8_beginS X 1 4))]) (rest := []) ⟨hx, hb, hml, hown, hts⟩ (c_X7_isWet l D g ((fX4_takeActS P T (fX8_beginS X 1 4)).2.1) (fX4_takeActR P T (fX8_beginS X 1 4)) _) (z_V 1 hts g_307 g_2 g_341 g_305 g_306 ⟨by decide, by decide, by decide +kernel⟩ ⟨Nat.le_of_ble_eq_true rfl, Nat.le_of_ble_eq_true rfl⟩) (z_preV (ci := 8) (q0 := 0) (hP.subm [2, 3, 4, 5, 6] rfl) (hD.sub [2, 3, 4, 5, 6] (by decide) rfl) hK rfl rfl) rfl rfl hl.1 rfl (lv_room (Nat.le_of_ble_eq_true rfl)) dX0_takeAct_34 ⟨Nat.le_of_ble_eq_true rfl, Nat.le_of_ble_eq_true rfl⟩) hP hD hS hA (wP g ci h rw ((fX4_takeActS P T (fX8_beginS X 1 4)).1) ++ wD g ((fX4_takeActS P T (fX8_beginS X 1 4)).2.2)) (wA g ci h rw ((fX4_takeActS P T (fX8_beginS X 1 4)).1) ((fX4_takeActS P T (fX8_beginS X 1 4)).2.1) ((fX4_takeActS P T (fX8_beginS X 1 4)).2.2)) [2, 3, 4, 5, 6] [0, 1, 7, 8] [0, 1, 4, 5, 6, 7, 8, 2, 3] rfl rfl (by decide) (by decide) rfl (by decide) (fun H locs hP hD hS => ?_)
    refine lv_if_ne (tgt := 42) hx hb dX0_takeAct_37 (by decide) (fun c_2 => ?_) (fun c_2 => ?_)
    · -- not (fX7_isWetR ((fX4_takeActS P T (fX8_beginS X 1 4)).2.1) (fX4_takeActR P T (fX8_beginS X 1 4))) = 0
      refine lv_aload_n hx hb dX0_takeAct_42 rfl (lv_at hl 1 rfl) ?_
      refine va_get (D := D) (ci := ci) (v := .ref g.tm) (C := vn ci) (T := TX4) (N := 7) hx hb hg (pq_in hca) hown hK hP 0 rfl (pq_cl hca) 0 (by decide) (hg _ g_126) (u_same (hg _ g_127)) rfl dX0_takeAct_43 ?_
      refine lv_iload_n hx hb dX0_takeAct_46 rfl (lv_at hl 0 rfl) ?_
      refine lv_iconst (v := 0) hx hb dX0_takeAct_47 (by decide) ?_
      refine z_ve (va_runV (As := [.int (fX4_takeActR P T (fX8_beginS X 1 4)), .int 0]) (rest := []) ⟨hx, hb, hml, hown, hts⟩ (c_X7_setWet l D g ((fX4_takeActS P T (fX8_beginS X 1 4)).2.1) (fX4_takeActR P T (fX8_beginS X 1 4)) 0 _) (z_V 2 hts g_439 g_2 g_436 g_437 g_438 ⟨by decide, by decide, by decide +kernel⟩ ⟨Nat.le_of_ble_eq_true rfl, Nat.le_of_ble_eq_true rfl⟩) (z_preV (ci := 8) (q0 := 0) (hP.subm [2, 3, 4, 5, 6] rfl) (hD.sub [2, 3, 4, 5, 6] (by decide) rfl) hK rfl rfl) rfl rfl hl.1 rfl (lv_room (Nat.le_of_ble_eq_true rfl)) dX0_takeAct_48 ⟨Nat.le_of_ble_eq_true rfl, Nat.le_of_ble_eq_true rfl⟩) hP hD hS hA (wP g ci h rw ((fX4_takeActS P T (fX8_beginS X 1 4)).1) ++ wD g ((fX4_takeActS P T (fX8_beginS X 1 4)).2.2)) (wA g ci h rw ((fX4_takeActS P T (fX8_beginS X 1 4)).1) (fX7_setWetS ((fX4_takeActS P T (fX8_beginS X 1 4)).2.1) (fX4_takeActR P T (fX8_beginS X 1 4)) 0) ((fX4_takeActS P T (fX8_beginS X 1 4)).2.2)) [2, 3, 4, 5, 6] [0, 1, 7, 8] [0, 1, 4, 5, 6, 7, 8, 2, 3] rfl rfl (by decide) (by decide) rfl (by decide) (fun H locs hP hD hS => ?_)
      refine lv_aload_n hx hb dX0_takeAct_51 rfl (lv_at hl 1 rfl) ?_
      refine lv_iload_n hx hb dX0_takeAct_52 rfl (lv_at hl 0 rfl) ?_
      refine z_ie (rv_X0_putAct (rest := []) hci ⟨hx, hb, hml, hown, hts⟩ hP hD hK ⟨Nat.le_of_ble_eq_true rfl, Nat.le_of_ble_eq_true rfl⟩ rfl hl.1 rfl (lv_room (Nat.le_of_ble_eq_true rfl)) dX0_takeAct_53 ⟨Nat.le_of_ble_eq_true rfl, Nat.le_of_ble_eq_true rfl⟩) hP hD hS hA (([] : va_W)) (wA g ci h rw ((kputActS ci ((fX4_takeActS P T (fX8_beginS X 1 4)).1) (fX7_setWetS ((fX4_takeActS P T (fX8_beginS X 1 4)).2.1) (fX4_takeActR P T (fX8_beginS X 1 4)) 0) ((fX4_takeActS P T (fX8_beginS X 1 4)).2.2) (fX4_takeActR P T (fX8_beginS X 1 4))).1) ((kputActS ci ((fX4_takeActS P T (fX8_beginS X 1 4)).1) (fX7_setWetS ((fX4_takeActS P T (fX8_beginS X 1 4)).2.1) (fX4_takeActR P T (fX8_beginS X 1 4)) 0) ((fX4_takeActS P T (fX8_beginS X 1 4)).2.2) (fX4_takeActR P T (fX8_beginS X 1 4))).2.1) ((kputActS ci ((fX4_takeActS P T (fX8_beginS X 1 4)).1) (fX7_setWetS ((fX4_takeActS P T (fX8_beginS X 1 4)).2.1) (fX4_takeActR P T (fX8_beginS X 1 4)) 0) ((fX4_takeActS P T (fX8_beginS X 1 4)).2.2) (fX4_takeActR P T (fX8_beginS X 1 4))).2.2)) [0, 1, 2, 3, 4, 5, 6, 7, 8] [] [0, 1, 2, 3, 4, 5, 6, 7, 8] rfl rfl (by decide) (by decide) rfl (by decide) (fun H locs hP hD hS => ?_)
      refine lv_pop hx hb dX0_takeAct_56 rfl ?_
      refine lv_aload_n hx hb dX0_takeAct_57 rfl (lv_at hl 1 rfl) ?_
      refine z_ie (z_runSU (C := vn ci) (As := []) (rest := []) (hK.1 _ _ (pq_cl hca)).2 ⟨hx, hb, hml, hown, hts⟩ (c_X4_takeAct l D g ci h rw hca ((kputActS ci ((fX4_takeActS P T (fX8_beginS X 1 4)).1) (fX7_setWetS ((fX4_takeActS P T (fX8_beginS X 1 4)).2.1) (fX4_takeActR P T (fX8_beginS X 1 4)) 0) ((fX4_takeActS P T (fX8_beginS X 1 4)).2.2) (fX4_takeActR P T (fX8_beginS X 1 4))).1) ((kputActS ci ((fX4_takeActS P T (fX8_beginS X 1 4)).1) (fX7_setWetS ((fX4_takeActS P T (fX8_beginS X 1 4)).2.1) (fX4_takeActR P T (fX8_beginS X 1 4)) 0) ((fX4_takeActS P T (fX8_beginS X 1 4)).2.2) (fX4_takeActR P T (fX8_beginS X 1 4))).2.1) ((kputActS ci ((fX4_takeActS P T (fX8_beginS X 1 4)).1) (fX7_setWetS ((fX4_takeActS P T (fX8_beginS X 1 4)).2.1) (fX4_takeActR P T (fX8_beginS X 1 4)) 0) ((fX4_takeActS P T (fX8_beginS X 1 4)).2.2) (fX4_takeActR P T (fX8_beginS X 1 4))).2.2) _) (z_SU (x := ⟨"PileHeirs$Sorted", "takeAct", "()I"⟩) (owner := RX4) 0 hts g_501 g_5 g_429 g_430 g_206 g_423 (by decide) ⟨by decide, by decide, by decide +kernel⟩ ⟨Nat.le_of_ble_eq_true rfl, Nat.le_of_ble_eq_true rfl⟩) (sb_Sorted_Plain hg) (z_preV (ci := ci) (q0 := 0) (hP.subm [0, 1, 2, 3, 4, 5, 6, 7, 8] rfl) (hD.sub [0, 1, 2, 3, 4, 5, 6, 7, 8] (by decide) rfl) hK (pq_cl hca) rfl) rfl rfl hl.1 rfl (lv_room (Nat.le_of_ble_eq_true rfl)) dX0_takeAct_58 ⟨Nat.le_of_ble_eq_true rfl, Nat.le_of_ble_eq_true rfl⟩) hP hD hS hA (([] : va_W)) (wA g ci h rw ((fX4_takeActS ((kputActS ci ((fX4_takeActS P T (fX8_beginS X 1 4)).1) (fX7_setWetS ((fX4_takeActS P T (fX8_beginS X 1 4)).2.1) (fX4_takeActR P T (fX8_beginS X 1 4)) 0) ((fX4_takeActS P T (fX8_beginS X 1 4)).2.2) (fX4_takeActR P T (fX8_beginS X 1 4))).1) ((kputActS ci ((fX4_takeActS P T (fX8_beginS X 1 4)).1) (fX7_setWetS ((fX4_takeActS P T (fX8_beginS X 1 4)).2.1) (fX4_takeActR P T (fX8_beginS X 1 4)) 0) ((fX4_takeActS P T (fX8_beginS X 1 4)).2.2) (fX4_takeActR P T (fX8_beginS X 1 4))).2.1) ((kputActS ci ((fX4_takeActS P T (fX8_beginS X 1 4)).1) (fX7_setWetS ((fX4_takeActS P T (fX8_beginS X 1 4)).2.1) (fX4_takeActR P T (fX8_beginS X 1 4)) 0) ((fX4_takeActS P T (fX8_beginS X 1 4)).2.2) (fX4_takeActR P T (fX8_beginS X 1 4))).2.2)).1) ((fX4_takeActS ((kputActS ci ((fX4_takeActS P T (fX8_beginS X 1 4)).1) (fX7_setWetS ((fX4_takeActS P T (fX8_beginS X 1 4)).2.1) (fX4_takeActR P T (fX8_beginS X 1 4)) 0) ((fX4_takeActS P T (fX8_beginS X 1 4)).2.2) (fX4_takeActR P T (fX8_beginS X 1 4))).1) ((kputActS ci ((fX4_takeActS P T (fX8_beginS X 1 4)).1) (fX7_setWetS ((fX4_takeActS P T (fX8_beginS X 1 4)).2.1) (fX4_takeActR P T (fX8_beginS X 1 4)) 0) ((fX4_takeActS P T (fX8_beginS X 1 4)).2.2) (fX4_takeActR P T (fX8_beginS X 1 4))).2.1) ((kputActS ci ((fX4_takeActS P T (fX8_beginS X 1 4)).1) (fX7_setWetS ((fX4_takeActS P T (fX8_beginS X 1 4)).2.1) (fX4_takeActR P T (fX8_beginS X 1 4)) 0) ((fX4_takeActS P T (fX8_beginS X 1 4)).2.2) (fX4_takeActR P T (fX8_beginS X 1 4))).2.2)).2.1) ((fX4_takeActS ((kputActS ci ((fX4_takeActS P T (fX8_beginS X 1 4)).1) (fX7_setWetS ((fX4_takeActS P T (fX8_beginS X 1 4)).2.1) (fX4_takeActR P T (fX8_beginS X 1 4)) 0) ((fX4_takeActS P T (fX8_beginS X 1 4)).2.2) (fX4_takeActR P T (fX8_beginS X 1 4))).1) ((kputActS ci ((fX4_takeActS P T (fX8_beginS X 1 4)).1) (fX7_setWetS ((fX4_takeActS P T (fX8_beginS X 1 4)).2.1) (fX4_takeActR P T (fX8_beginS X 1 4)) 0) ((fX4_takeActS P T (fX8_beginS X 1 4)).2.2) (fX4_takeActR P T (fX8_beginS X 1 4))).2.1) ((kputActS ci ((fX4_takeActS P T (fX8_beginS X 1 4)).1) (fX7_setWetS ((fX4_takeActS P T (fX8_beginS X 1 4)).2.1) (fX4_takeActR P T (fX8_beginS X 1 4)) 0) ((fX4_takeActS P T (fX8_beginS X 1 4)).2.2) (fX4_takeActR P T (fX8_beginS X 1 4))).2.2)).2.2)) [0, 1, 2, 3, 4, 5, 6, 7, 8] [] [0, 1, 2, 3, 4, 5, 6, 7, 8] rfl rfl (by decide) (by decide) rfl (by decide) (fun H locs hP hD hS => ?_)
      exact W.iret (v := (fX4_takeActR ((kputActS ci ((fX4_takeActS P T (fX8_beginS X 1 4)).1) (fX7_setWetS ((fX4_takeActS P T (fX8_beginS X 1 4)).2.1) (fX4_takeActR P T (fX8_beginS X 1 4)) 0) ((fX4_takeActS P T (fX8_beginS X 1 4)).2.2) (fX4_takeActR P T (fX8_beginS X 1 4))).1) ((kputActS ci ((fX4_takeActS P T (fX8_beginS X 1 4)).1) (fX7_setWetS ((fX4_takeActS P T (fX8_beginS X 1 4)).2.1) (fX4_takeActR P T (fX8_beginS X 1 4)) 0) ((fX4_takeActS P T (fX8_beginS X 1 4)).2.2) (fX4_takeActR P T (fX8_beginS X 1 4))).2.1) ((kputActS ci ((fX4_takeActS P T (fX8_beginS X 1 4)).1) (fX7_setWetS ((fX4_takeActS P T (fX8_beginS X 1 4)).2.1) (fX4_takeActR P T (fX8_beginS X 1 4)) 0) ((fX4_takeActS P T (fX8_beginS X 1 4)).2.2) (fX4_takeActR P T (fX8_beginS X 1 4))).2.2))) hx hb hr (fun t9 ht hW => ⟨⟨(fX4_takeActR ((kputActS ci ((fX4_takeActS P T (fX8_beginS X 1 4)).1) (fX7_setWetS ((fX4_takeActS P T (fX8_beginS X 1 4)).2.1) (fX4_takeActR P T (fX8_beginS X 1 4)) 0) ((fX4_takeActS P T (fX8_beginS X 1 4)).2.2) (fX4_takeActR P T (fX8_beginS X 1 4))).1) ((kputActS ci ((fX4_takeActS P T (fX8_beginS X 1 4)).1) (fX7_setWetS ((fX4_takeActS P T (fX8_beginS X 1 4)).2.1) (fX4_takeActR P T (fX8_beginS X 1 4)) 0) ((fX4_takeActS P T (fX8_beginS X 1 4)).2.2) (fX4_takeActR P T (fX8_beginS X 1 4))).2.1) ((kputActS ci ((fX4_takeActS P T (fX8_beginS X 1 4)).1) (fX7_setWetS ((fX4_takeActS P T (fX8_beginS X 1 4)).2.1) (fX4_takeActR P T (fX8_beginS X 1 4)) 0) ((fX4_takeActS P T (fX8_beginS X 1 4)).2.2) (fX4_takeActR P T (fX8_beginS X 1 4))).2.2)), wA g ci h rw ((fX4_takeActS ((kputActS ci ((fX4_takeActS P T (fX8_beginS X 1 4)).1) (fX7_setWetS ((fX4_takeActS P T (fX8_beginS X 1 4)).2.1) (fX4_takeActR P T (fX8_beginS X 1 4)) 0) ((fX4_takeActS P T (fX8_beginS X 1 4)).2.2) (fX4_takeActR P T (fX8_beginS X 1 4))).1) ((kputActS ci ((fX4_takeActS P T (fX8_beginS X 1 4)).1) (fX7_setWetS ((fX4_takeActS P T (fX8_beginS X 1 4)).2.1) (fX4_takeActR P T (fX8_beginS X 1 4)) 0) ((fX4_takeActS P T (fX8_beginS X 1 4)).2.2) (fX4_takeActR P T (fX8_beginS X 1 4))).2.1) ((kputActS ci ((fX4_takeActS P T (fX8_beginS X 1 4)).1) (fX7_setWetS ((fX4_takeActS P T (fX8_beginS X 1 4)).2.1) (fX4_takeActR P T (fX8_beginS X 1 4)) 0) ((fX4_takeActS P T (fX8_beginS X 1 4)).2.2) (fX4_takeActR P T (fX8_beginS X 1 4))).2.2)).1) ((fX4_takeActS ((kputActS ci ((fX4_takeActS P T (fX8_beginS X 1 4)).1) (fX7_setWetS ((fX4_takeActS P T (fX8_beginS X 1 4)).2.1) (fX4_takeActR P T (fX8_beginS X 1 4)) 0) ((fX4_takeActS P T (fX8_beginS X 1 4)).2.2) (fX4_takeActR P T (fX8_beginS X 1 4))).1) ((kputActS ci ((fX4_takeActS P T (fX8_beginS X 1 4)).1) (fX7_setWetS ((fX4_takeActS P T (fX8_beginS X 1 4)).2.1) (fX4_takeActR P T (fX8_beginS X 1 4)) 0) ((fX4_takeActS P T (fX8_beginS X 1 4)).2.2) (fX4_takeActR P T (fX8_beginS X 1 4))).2.1) ((kputActS ci ((fX4_takeActS P T (fX8_beginS X 1 4)).1) (fX7_setWetS ((fX4_takeActS P T (fX8_beginS X 1 4)).2.1) (fX4_takeActR P T (fX8_beginS X 1 4)) 0) ((fX4_takeActS P T (fX8_beginS X 1 4)).2.2) (fX4_takeActR P T (fX8_beginS X 1 4))).2.2)).2.1) ((fX4_takeActS ((kputActS ci ((fX4_takeActS P T (fX8_beginS X 1 4)).1) (fX7_setWetS ((fX4_takeActS P T (fX8_beginS X 1 4)).2.1) (fX4_takeActR P T (fX8_beginS X 1 4)) 0) ((fX4_takeActS P T (fX8_beginS X 1 4)).2.2) (fX4_takeActR P T (fX8_beginS X 1 4))).1) ((kputActS ci ((fX4_takeActS P T (fX8_beginS X 1 4)).1) (fX7_setWetS ((fX4_takeActS P T (fX8_beginS X 1 4)).2.1) (fX4_takeActR P T (fX8_beginS X 1 4)) 0) ((fX4_takeActS P T (fX8_beginS X 1 4)).2.2) (fX4_takeActR P T (fX8_beginS X 1 4))).2.1) ((kputActS ci ((fX4_takeActS P T (fX8_beginS X 1 4)).1) (fX7_setWetS ((fX4_takeActS P T (fX8_beginS X 1 4)).2.1) (fX4_takeActR P T (fX8_beginS X 1 4)) 0) ((fX4_takeActS P T (fX8_beginS X 1 4)).2.2) (fX4_takeActR P T (fX8_beginS X 1 4))).2.2)).2.2), rfl, ⟨by simp only [fX0_takeActR, if_neg c_1, if_neg c_2], by simp only [fX0_takeActS, if_neg c_1, if_neg c_2]⟩, by rw [ht]; exact hP, va_K.moved hW.alike hK, hD⟩, hS.F ht⟩) hS.2.2 dX0_takeAct_61
    · -- (fX7_isWetR ((fX4_takeActS P T (fX8_beginS X 1 4)).2.1) (fX4_takeActR P T (fX8_beginS X 1 4))) = 0
      refine lv_iload_n hx hb dX0_takeAct_40 rfl (lv_at hl 0 rfl) ?_
      exact W.iret (v := (fX4_takeActR P T (fX8_beginS X 1 4))) hx hb hr (fun t9 ht hW => ⟨⟨(fX4_takeActR P T (fX8_beginS X 1 4)), wA g ci h rw ((fX4_takeActS P T (fX8_beginS X 1 4)).1) ((fX4_takeActS P T (fX8_beginS X 1 4)).2.1) ((fX4_takeActS P T (fX8_beginS X 1 4)).2.2), rfl, ⟨by simp only [fX0_takeActR, if_neg c_1, if_pos c_2], by simp only [fX0_takeActS, if_neg c_1, if_pos c_2]⟩, by rw [ht]; exact hP, va_K.moved hW.alike hK, hD⟩, hS.F ht⟩) hS.2.2 dX0_takeAct_41
  · -- (fX4_takeActR P T (fX8_beginS X 1 4)) = (-1)
    refine lv_aload_n hx hb dX0_takeAct_19 rfl (lv_at hl 1 rfl) ?_
    refine va_get (D := D) (ci := ci) (v := .ref g.dn) (C := vn ci) (T := TX4) (N := 7) hx hb hg (pq_in hca) hown hK hP 0 rfl (pq_cl hca) 1 (by decide) (hg _ g_139) (u_same (hg _ g_140)) rfl dX0_takeAct_20 ?_
    refine z_ve (va_runV (As := []) (rest := []) ⟨hx, hb, hml, hown, hts⟩ (c_X8_countNothing l D g ((fX4_takeActS P T (fX8_beginS X 1 4)).2.2) _) (z_V 0 hts g_435 g_3 g_432 g_433 g_434 ⟨by decide, by decide, by decide +kernel⟩ ⟨Nat.le_of_ble_eq_true rfl, Nat.le_of_ble_eq_true rfl⟩) (z_preV (ci := 9) (q0 := 0) (hP.subm [7, 8] rfl) (hD.sub [7, 8] (by decide) rfl) hK rfl rfl) rfl rfl hl.1 rfl (lv_room (Nat.le_of_ble_eq_true rfl)) dX0_takeAct_23 ⟨Nat.le_of_ble_eq_true rfl, Nat.le_of_ble_eq_true rfl⟩) hP hD hS hA (wP g ci h rw ((fX4_takeActS P T (fX8_beginS X 1 4)).1) ++ wT g ((fX4_takeActS P T (fX8_beginS X 1 4)).2.1)) (wA g ci h rw ((fX4_takeActS P T (fX8_beginS X 1 4)).1) ((fX4_takeActS P T (fX8_beginS X 1 4)).2.1) (fX8_countNothingS ((fX4_takeActS P T (fX8_beginS X 1 4)).2.2))) [7, 8] [0, 1, 2, 3, 4, 5, 6] [0, 1, 2, 3, 4, 5, 6, 7, 8] rfl rfl (by decide) (by decide) rfl (by decide) (fun H locs hP hD hS => ?_)
    refine lv_bipush (v := (-2)) hx hb dX0_takeAct_26 (by decide) ?_
    exact W.iret (v := (-2)) hx hb hr (fun t9 ht hW => ⟨⟨(-2), wA g ci h rw ((fX4_takeActS P T (fX8_beginS X 1 4)).1) ((fX4_takeActS P T (fX8_beginS X 1 4)).2.1) (fX8_countNothingS ((fX4_takeActS P T (fX8_beginS X 1 4)).2.2)), rfl, ⟨by simp only [fX0_takeActR, if_pos c_1], by simp only [fX0_takeActS, if_pos c_1]⟩, by rw [ht]; exact hP, va_K.moved hW.alike hK, hD⟩, hS.F ht⟩) hS.2.2 dX0_takeAct_28

def fX0_searchActR (P : PP) (T : TT) (X : DD) (i : Int32) : Int32 := (if (fX4_searchActR P T (fX8_beginS X 3 4) i) = (-1) then (-1) else (if (fX7_isWetR T (fX4_timberAtR P T ((fX4_searchActS P T (fX8_beginS X 3 4) i).2.2) (fX4_searchActR P T (fX8_beginS X 3 4) i))) = 0 then (fX4_searchActR P T (fX8_beginS X 3 4) i) else (-1)))
def fX0_searchActS (P : PP) (T : TT) (X : DD) (i : Int32) : PP × TT × DD := (P, T, (fX4_searchActS P T (fX8_beginS X 3 4) i).2.2)
set_option maxHeartbeats 4000000 in
set_option maxRecDepth 100000 in
theorem c_X0_searchAct (l : Launch) (D : va_G) (g : GA) (ci h rw : Nat) (hci : pkDr ci) (P : PP) (T : TT) (X : DD) (i : Int32) : ctI l D (tyA g) yX0_searchAct (wd yX0_searchAct cX0_searchAct 3 (Option.some Jvm.ClassFile.FieldType.int)) { frames := 3, cells := 0, slots := 0, locals := 64 } [.ref h, .int i] (wA g ci h rw P T X) (fun r w => r = fX0_searchActR P T X i ∧ w = wA g ci h rw (fX0_searchActS P T X i).1 (fX0_searchActS P T X i).2.1 (fX0_searchActS P T X i).2.2) := by
  intro sz
  refine Met.ofW (cc := cX0_searchAct) (maxL := 3) (ret := (Option.some Jvm.ClassFile.FieldType.int)) (by decide) rfl ?_
  intro p e s m args below meth c s₁ B hml hv
  obtain ⟨rfl, hsz, hP, hK, hD0⟩ := hv
  have hx := B.exec
  have hb := B.bytes
  have hr := B.returns
  have hts := atoms_spec (ws := (wd yX0_searchAct cX0_searchAct 3 (Option.some Jvm.ClassFile.FieldType.int))) B.pre
  have hg := Tb.of hts
  have hown : s.vm.findClass RX0 = some m.cls := findClass_of_methodNamed B.named
  have hlocks := B.notSynchronized
  subst hsz
  have hD := hD0.self (sz := s.heap.size)
  generalize hAe : va_A (wA g ci h rw P T X) s.heap.size = A at hD ⊢
  have hA : ∀ q : Nat, s.heap.size ≤ q → A q := fun q h => by rw [← hAe]; exact Or.inr h
  have hS : va_S A s.heap s.heap [] := va_S.rf
  have hP : va_P D vwCl (wA g ci h rw P T X) s.heap := hP
  have hl := lv_entry ([.ref h, .int i]) (n := 3) (Nat.le_of_ble_eq_true rfl)
  rw [lg_entry_eq]
  generalize (lg_sl ([.ref h, .int i]) ++ List.replicate (3 - (lg_sl ([.ref h, .int i])).length) Slot.unset).toArray = ls at hl ⊢
  have hl : lv_has ls 3 [(0, .ref h), (1, .int i)] := hl
  have hca : pkAll ci := pkDr_pkAll hci
  refine lv_aload_n hx hb dX0_searchAct_0 rfl (lv_at hl 0 rfl) ?_
  refine va_get (D := D) (ci := ci) (v := .ref g.dn) (C := vn ci) (T := TX4) (N := 7) hx hb hg (pq_in hca) hown hK hP 0 rfl (pq_cl hca) 1 (by decide) (hg _ g_139) (u_same (hg _ g_140)) rfl dX0_searchAct_1 ?_
  refine lv_iconst (v := 3) hx hb dX0_searchAct_4 (by decide) ?_
  refine lv_iconst (v := 4) hx hb dX0_searchAct_5 (by decide) ?_
  refine z_ve (va_runV (As := [.int 3, .int 4]) (rest := []) ⟨hx, hb, hml, hown, hts⟩ (c_X8_begin l D g X 3 4 _) (z_V 2 hts g_278 g_3 g_333 g_276 g_277 ⟨by decide, by decide, by decide +kernel⟩ ⟨Nat.le_of_ble_eq_true rfl, Nat.le_of_ble_eq_true rfl⟩) (z_preV (ci := 9) (q0 := 0) (hP.subm [7, 8] rfl) (hD.sub [7, 8] (by decide) rfl) hK rfl rfl) rfl rfl hl.1 rfl (lv_room (Nat.le_of_ble_eq_true rfl)) dX0_searchAct_6 ⟨Nat.le_of_ble_eq_true rfl, Nat.le_of_ble_eq_true rfl⟩) hP hD hS hA (wP g ci h rw P ++ wT g T) (wA g ci h rw P T (fX8_beginS X 3 4)) [7, 8] [0, 1, 2, 3, 4, 5, 6] [0, 1, 2, 3, 4, 5, 6, 7, 8] rfl rfl (by decide) (by decide) rfl (by decide) (fun H locs hP hD hS => ?_)
  refine lv_aload_n hx hb dX0_searchAct_9 rfl (lv_at hl 0 rfl) ?_
  refine lv_iload_n hx hb dX0_searchAct_10 rfl (lv_at hl 1 rfl) ?_
  refine z_ie (z_runSU (C := vn ci) (As := [.int i]) (rest := []) (hK.1 _ _ (pq_cl hca)).2 ⟨hx, hb, hml, hown, hts⟩ (c_X4_searchAct l D g ci h rw hca P T (fX8_beginS X 3 4) i _) (z_SU (x := ⟨"PileHeirs$Sorted", "searchAct", "(I)I"⟩) (owner := RX4) 1 hts g_352 g_5 g_334 g_335 g_206 g_327 (by decide) ⟨by decide, by decide, by decide +kernel⟩ ⟨Nat.le_of_ble_eq_true rfl, Nat.le_of_ble_eq_true rfl⟩) (sb_Sorted_Plain hg) (z_preV (ci := ci) (q0 := 0) (hP.subm [0, 1, 2, 3, 4, 5, 6, 7, 8] rfl) (hD.sub [0, 1, 2, 3, 4, 5, 6, 7, 8] (by decide) rfl) hK (pq_cl hca) rfl) rfl rfl hl.1 rfl (lv_room (Nat.le_of_ble_eq_true rfl)) dX0_searchAct_11 ⟨Nat.le_of_ble_eq_true rfl, Nat.le_of_ble_eq_true rfl⟩) hP hD hS hA (([] : va_W)) (wA g ci h rw P T ((fX4_searchActS P T (fX8_beginS X 3 4) i).2.2)) [0, 1, 2, 3, 4, 5, 6, 7, 8] [] [0, 1, 2, 3, 4, 5, 6, 7, 8] rfl rfl (by decide) (by decide) rfl (by decide) (fun H locs hP hD hS => ?_)
  refine lv_istore_n (lv' := [(2, .int (fX4_searchActR P T (fX8_beginS X 3 4) i)), (0, .ref h), (1, .int i)]) hx hb dX0_searchAct_14 rfl hl (by decide) rfl (fun ls hl => ?_)
  refine lv_iload_n hx hb dX0_searchAct_15 rfl (lv_at hl 0 rfl) ?_
  refine lv_iconst (v := (-1)) hx hb dX0_searchAct_16 (by decide) ?_
  refine lv_icmp_eq (tgt := 35) hx hb dX0_searchAct_17 (by decide) (fun c_1 => ?_) (fun c_1 => ?_)
  · -- (fX4_searchActR P T (fX8_beginS X 3 4) i) = (-1)
    refine lv_iconst (v := (-1)) hx hb dX0_searchAct_35 (by decide) ?_
    refine lv_goto (tgt := 40) hx hb dX0_searchAct_36 (by decide) ?_
    exact W.iret (v := (-1)) hx hb hr (fun t9 ht hW => ⟨⟨(-1), wA g ci h rw P T ((fX4_searchActS P T (fX8_beginS X 3 4) i).2.2), rfl, ⟨by simp only [fX0_searchActR, if_pos c_1], by simp only [fX0_searchActS, if_pos c_1]⟩, by rw [ht]; exact hP, va_K.moved hW.alike hK, hD⟩, hS.F ht⟩) hS.2.2 dX0_searchAct_40
  · -- not (fX4_searchActR P T (fX8_beginS X 3 4) i) = (-1)
    refine lv_aload_n hx hb dX0_searchAct_20 rfl (lv_at hl 1 rfl) ?_
    refine va_get (D := D) (ci := ci) (v := .ref g.tm) (C := vn ci) (T := TX4) (N := 7) hx hb hg (pq_in hca) hown hK hP 0 rfl (pq_cl hca) 0 (by decide) (hg _ g_126) (u_same (hg _ g_127)) rfl dX0_searchAct_21 ?_
    refine lv_aload_n hx hb dX0_searchAct_24 rfl (lv_at hl 1 rfl) ?_
    refine lv_iload_n hx hb dX0_searchAct_25 rfl (lv_at hl 0 rfl) ?_
    refine z_ie (va_runU (C := vn ci) (As := [.int (fX4_searchActR P T (fX8_beginS X 3 4) i)]) (rest := [.ref g.tm]) ⟨hx, hb, hml, hown, hts⟩ (c_X4_timberAt l D g ci h rw hca P T ((fX4_searchActS P T (fX8_beginS X 3 4) i).2.2) (fX4_searchActR P T (fX8_beginS X 3 4) i) _) (z_U (x := ⟨"PileHeirs$Drying", "timberAt", "(I)I"⟩) (owner := RX4) 1 hts g_303 g_5 g_337 g_338 g_302 g_303 (sl_Drying_timberAt hci) g_302 ⟨by decide, by decide, by decide +kernel⟩ ⟨Nat.le_of_ble_eq_true rfl, Nat.le_of_ble_eq_true rfl⟩) (z_preV (ci := ci) (q0 := 0) (hP.subm [0, 1, 2, 3, 4, 5, 6, 7, 8] rfl) (hD.sub [0, 1, 2, 3, 4, 5, 6, 7, 8] (by decide) rfl) hK (pq_cl hca) rfl) rfl rfl hl.1 rfl (lv_room (Nat.le_of_ble_eq_true rfl)) dX0_searchAct_26 ⟨Nat.le_of_ble_eq_true rfl, Nat.le_of_ble_eq_true rfl⟩) hP hD hS hA (([] : va_W)) (wA g ci h rw P T ((fX4_searchActS P T (fX8_beginS X 3 4) i).2.2)) [0, 1, 2, 3, 4, 5, 6, 7, 8] [] [0, 1, 2, 3, 4, 5, 6, 7, 8] rfl rfl (by decide) (by decide) rfl (by decide) (fun H locs hP hD hS => ?_)
    refine z_ie (va_runV (As := [.int (fX4_timberAtR P T ((fX4_searchActS P T (fX8_beginS X 3 4) i).2.2) (fX4_searchActR P T (fX8_beginS X 3 4) i))]) (rest := []) ⟨hx, hb, hml, hown, hts⟩ (c_X7_isWet l D g T (fX4_timberAtR P T ((fX4_searchActS P T (fX8_beginS X 3 4) i).2.2) (fX4_searchActR P T (fX8_beginS X 3 4) i)) _) (z_V 1 hts g_307 g_2 g_341 g_305 g_306 ⟨by decide, by decide, by decide +kernel⟩ ⟨Nat.le_of_ble_eq_true rfl, Nat.le_of_ble_eq_true rfl⟩) (z_preV (ci := 8) (q0 := 0) (hP.subm [2, 3, 4, 5, 6] rfl) (hD.sub [2, 3, 4, 5, 6] (by decide) rfl) hK rfl rfl) rfl rfl hl.1 rfl (lv_room (Nat.le_of_ble_eq_true rfl)) dX0_searchAct_29 ⟨Nat.le_of_ble_eq_true rfl, Nat.le_of_ble_eq_true rfl⟩) hP hD hS hA (wP g ci h rw P ++ wD g ((fX4_searchActS P T (fX8_beginS X 3 4) i).2.2)) (wA g ci h rw P T ((fX4_searchActS P T (fX8_beginS X 3 4) i).2.2)) [2, 3, 4, 5, 6] [0, 1, 7, 8] [0, 1, 4, 5, 6, 7, 8, 2, 3] rfl rfl (by decide) (by decide) rfl (by decide) (fun H locs hP hD hS => ?_)
    refine lv_if_eq (tgt := 39) hx hb dX0_searchAct_32 (by decide) (fun c_2 => ?_) (fun c_2 => ?_)
    · -- (fX7_isWetR T (fX4_timberAtR P T ((fX4_searchActS P T (fX8_beginS X 3 4) i).2.2) (fX4_searchActR P T (fX8_beginS X 3 4) i))) = 0
      refine lv_iload_n hx hb dX0_searchAct_39 rfl (lv_at hl 0 rfl) ?_
      exact W.iret (v := (fX4_searchActR P T (fX8_beginS X 3 4) i)) hx hb hr (fun t9 ht hW => ⟨⟨(fX4_searchActR P T (fX8_beginS X 3 4) i), wA g ci h rw P T ((fX4_searchActS P T (fX8_beginS X 3 4) i).2.2), rfl, ⟨by simp only [fX0_searchActR, if_neg c_1, if_pos c_2], by simp only [fX0_searchActS, if_neg c_1, if_pos c_2]⟩, by rw [ht]; exact hP, va_K.moved hW.alike hK, hD⟩, hS.F ht⟩) hS.2.2 dX0_searchAct_40
    · -- not (fX7_isWetR T (fX4_timberAtR P T ((fX4_searchActS P T (fX8_beginS X 3 4) i).2.2) (fX4_searchActR P T (fX8_beginS X 3 4) i))) = 0
      refine lv_iconst (v := (-1)) hx hb dX0_searchAct_35 (by decide) ?_
      refine lv_goto (tgt := 40) hx hb dX0_searchAct_36 (by decide) ?_
      exact W.iret (v := (-1)) hx hb hr (fun t9 ht hW => ⟨⟨(-1), wA g ci h rw P T ((fX4_searchActS P T (fX8_beginS X 3 4) i).2.2), rfl, ⟨by simp only [fX0_searchActR, if_neg c_1, if_neg c_2], by simp only [fX0_searchActS, if_neg c_1, if_neg c_2]⟩, by rw [ht]; exact hP, va_K.moved hW.alike hK, hD⟩, hS.F ht⟩) hS.2.2 dX0_searchAct_40

def fX1_takeActR (P : PP) (T : TT) (X : DD)  : Int32 := (if (fX4_takeActR P T (fX8_beginS X 1 7)) = (-1) then (-2) else (fX4_takeActR P T (fX8_beginS X 1 7)))
def fX1_takeActS (P : PP) (T : TT) (X : DD)  : PP × TT × DD := ((fX4_takeActS P T (fX8_beginS X 1 7)).1, (if (fX4_takeActR P T (fX8_beginS X 1 7)) = (-1) then (fX4_takeActS P T (fX8_beginS X 1 7)).2.1 else fX7_lightenS ((fX4_takeActS P T (fX8_beginS X 1 7)).2.1) (fX4_takeActR P T (fX8_beginS X 1 7))), (if (fX4_takeActR P T (fX8_beginS X 1 7)) = (-1) then fX8_countNothingS ((fX4_takeActS P T (fX8_beginS X 1 7)).2.2) else (fX4_takeActS P T (fX8_beginS X 1 7)).2.2))
set_option maxHeartbeats 4000000 in
set_option maxRecDepth 100000 in
theorem c_X1_takeAct (l : Launch) (D : va_G) (g : GA) (ci h rw : Nat) (hci : pkLe ci) (P : PP) (T : TT) (X : DD)  : ctI l D (tyA g) yX1_takeAct (wd yX1_takeAct cX1_takeAct 2 (Option.some Jvm.ClassFile.FieldType.int)) { frames := 3, cells := 0, slots := 0, locals := 64 } [.ref h] (wA g ci h rw P T X) (fun r w => r = fX1_takeActR P T X ∧ w = wA g ci h rw (fX1_takeActS P T X).1 (fX1_takeActS P T X).2.1 (fX1_takeActS P T X).2.2) := by
  intro sz
  refine Met.ofW (cc := cX1_takeAct) (maxL := 2) (ret := (Option.some Jvm.ClassFile.FieldType.int)) (by decide) rfl ?_
  intro p e s m args below meth c s₁ B hml hv
  obtain ⟨rfl, hsz, hP, hK, hD0⟩ := hv
  have hx := B.exec
  have hb := B.bytes
  have hr := B.returns
  have hts := atoms_spec (ws := (wd yX1_takeAct cX1_takeAct 2 (Option.some Jvm.ClassFile.FieldType.int))) B.pre
  have hg := Tb.of hts
  have hown : s.vm.findClass RX1 = some m.cls := findClass_of_methodNamed B.named
  have hlocks := B.notSynchronized
  subst hsz
  have hD := hD0.self (sz := s.heap.size)
  generalize hAe : va_A (wA g ci h rw P T X) s.heap.size = A at hD ⊢
  have hA : ∀ q : Nat, s.heap.size ≤ q → A q := fun q h => by rw [← hAe]; exact Or.inr h
  have hS : va_S A s.heap s.heap [] := va_S.rf
  have hP : va_P D vwCl (wA g ci h rw P T X) s.heap := hP
  have hl := lv_entry ([.ref h]) (n := 2) (Nat.le_of_ble_eq_true rfl)
  rw [lg_entry_eq]
  generalize (lg_sl ([.ref h]) ++ List.replicate (2 - (lg_sl ([.ref h])).length) Slot.unset).toArray = ls at hl ⊢
  have hl : lv_has ls 2 [(0, .ref h)] := hl
  have hca : pkAll ci := pkLe_pkAll hci
  refine lv_aload_n hx hb dX1_takeAct_0 rfl (lv_at hl 0 rfl) ?_
  refine va_get (D := D) (ci := ci) (v := .ref g.dn) (C := vn ci) (T := TX4) (N := 7) hx hb hg (pq_in hca) hown hK hP 0 rfl (pq_cl hca) 1 (by decide) (hg _ g_141) (u_same (hg _ g_142)) rfl dX1_takeAct_1 ?_
  refine lv_iconst (v := 1) hx hb dX1_takeAct_4 (by decide) ?_
  refine lv_bipush (v := 7) hx hb dX1_takeAct_5 (by decide) ?_
  refine z_ve (va_runV (As := [.int 1, .int 7]) (rest := []) ⟨hx, hb, hml, hown, hts⟩ (c_X8_begin l D g X 1 7 _) (z_V 2 hts g_278 g_3 g_369 g_276 g_277 ⟨by decide, by decide, by decide +kernel⟩ ⟨Nat.le_of_ble_eq_true rfl, Nat.le_of_ble_eq_true rfl⟩) (z_preV (ci := 9) (q0 := 0) (hP.subm [7, 8] rfl) (hD.sub [7, 8] (by decide) rfl) hK rfl rfl) rfl rfl hl.1 rfl (lv_room (Nat.le_of_ble_eq_true rfl)) dX1_takeAct_7 ⟨Nat.le_of_ble_eq_true rfl, Nat.le_of_ble_eq_true rfl⟩) hP hD hS hA (wP g ci h rw P ++ wT g T) (wA g ci h rw P T (fX8_beginS X 1 7)) [7, 8] [0, 1, 2, 3, 4, 5, 6] [0, 1, 2, 3, 4, 5, 6, 7, 8] rfl rfl (by decide) (by decide) rfl (by decide) (fun H locs hP hD hS => ?_)
  refine lv_aload_n hx hb dX1_takeAct_10 rfl (lv_at hl 0 rfl) ?_
  refine z_ie (z_runSU (C := vn ci) (As := []) (rest := []) (hK.1 _ _ (pq_cl hca)).2 ⟨hx, hb, hml, hown, hts⟩ (c_X4_takeAct l D g ci h rw hca P T (fX8_beginS X 1 7) _) (z_SU (x := ⟨"PileHeirs$Twofold", "takeAct", "()I"⟩) (owner := RX4) 0 hts g_501 g_5 g_488 g_489 g_248 g_423 (by decide) ⟨by decide, by decide, by decide +kernel⟩ ⟨Nat.le_of_ble_eq_true rfl, Nat.le_of_ble_eq_true rfl⟩) (sb_Twofold_Plain hg) (z_preV (ci := ci) (q0 := 0) (hP.subm [0, 1, 2, 3, 4, 5, 6, 7, 8] rfl) (hD.sub [0, 1, 2, 3, 4, 5, 6, 7, 8] (by decide) rfl) hK (pq_cl hca) rfl) rfl rfl hl.1 rfl (lv_room (Nat.le_of_ble_eq_true rfl)) dX1_takeAct_11 ⟨Nat.le_of_ble_eq_true rfl, Nat.le_of_ble_eq_true rfl⟩) hP hD hS hA (([] : va_W)) (wA g ci h rw ((fX4_takeActS P T (fX8_beginS X 1 7)).1) ((fX4_takeActS P T (fX8_beginS X 1 7)).2.1) ((fX4_takeActS P T (fX8_beginS X 1 7)).2.2)) [0, 1, 2, 3, 4, 5, 6, 7, 8] [] [0, 1, 2, 3, 4, 5, 6, 7, 8] rfl rfl (by decide) (by decide) rfl (by decide) (fun H locs hP hD hS => ?_)
  refine lv_istore_n (lv' := [(1, .int (fX4_takeActR P T (fX8_beginS X 1 7))), (0, .ref h)]) hx hb dX1_takeAct_14 rfl hl (by decide) rfl (fun ls hl => ?_)
  refine lv_iload_n hx hb dX1_takeAct_15 rfl (lv_at hl 0 rfl) ?_
  refine lv_iconst (v := (-1)) hx hb dX1_takeAct_16 (by decide) ?_
  refine lv_icmp_ne (tgt := 30) hx hb dX1_takeAct_17 (by decide) (fun c_1 => ?_) (fun c_1 => ?_)
  · -- not (fX4_takeActR P T (fX8_beginS X 1 7)) = (-1)
    refine lv_aload_n hx hb dX1_takeAct_30 rfl (lv_at hl 1 rfl) ?_
    refine va_get (D := D) (ci := ci) (v := .ref g.tm) (C := vn ci) (T := TX4) (N := 7) hx hb hg (pq_in hca) hown hK hP 0 rfl (pq_cl hca) 0 (by decide) (hg _ g_128) (u_same (hg _ g_129)) rfl dX1_takeAct_31 ?_
    refine lv_iload_n hx hb dX1_takeAct_34 rfl (lv_at hl 0 rfl) ?_
    refine z_ve (va_runV (As := [.int (fX4_takeActR P T (fX8_beginS X 1 7))]) (rest := []) ⟨hx, hb, hml, hown, hts⟩ (c_X7_lighten l D g ((fX4_takeActS P T (fX8_beginS X 1 7)).2.1) (fX4_takeActR P T (fX8_beginS X 1 7)) _) (z_V 1 hts g_494 g_2 g_491 g_492 g_493 ⟨by decide, by decide, by decide +kernel⟩ ⟨Nat.le_of_ble_eq_true rfl, Nat.le_of_ble_eq_true rfl⟩) (z_preV (ci := 8) (q0 := 0) (hP.subm [2, 3, 4, 5, 6] rfl) (hD.sub [2, 3, 4, 5, 6] (by decide) rfl) hK rfl rfl) rfl rfl hl.1 rfl (lv_room (Nat.le_of_ble_eq_true rfl)) dX1_takeAct_35 ⟨Nat.le_of_ble_eq_true rfl, Nat.le_of_ble_eq_true rfl⟩) hP hD hS hA (wP g ci h rw ((fX4_takeActS P T (fX8_beginS X 1 7)).1) ++ wD g ((fX4_takeActS P T (fX8_beginS X 1 7)).2.2)) (wA g ci h rw ((fX4_takeActS P T (fX8_beginS X 1 7)).1) (fX7_lightenS ((fX4_takeActS P T (fX8_beginS X 1 7)).2.1) (fX4_takeActR P T (fX8_beginS X 1 7))) ((fX4_takeActS P T (fX8_beginS X 1 7)).2.2)) [2, 3, 4, 5, 6] [0, 1, 7, 8] [0, 1, 4, 5, 6, 7, 8, 2, 3] rfl rfl (by decide) (by decide) rfl (by decide) (fun H locs hP hD hS => ?_)
    refine lv_iload_n hx hb dX1_takeAct_38 rfl (lv_at hl 0 rfl) ?_
    exact W.iret (v := (fX4_takeActR P T (fX8_beginS X 1 7))) hx hb hr (fun t9 ht hW => ⟨⟨(fX4_takeActR P T (fX8_beginS X 1 7)), wA g ci h rw ((fX4_takeActS P T (fX8_beginS X 1 7)).1) (fX7_lightenS ((fX4_takeActS P T (fX8_beginS X 1 7)).2.1) (fX4_takeActR P T (fX8_beginS X 1 7))) ((fX4_takeActS P T (fX8_beginS X 1 7)).2.2), rfl, ⟨by simp only [fX1_takeActR, if_neg c_1], by simp only [fX1_takeActS, if_neg c_1]⟩, by rw [ht]; exact hP, va_K.moved hW.alike hK, hD⟩, hS.F ht⟩) hS.2.2 dX1_takeAct_39
  · -- (fX4_takeActR P T (fX8_beginS X 1 7)) = (-1)
    refine lv_aload_n hx hb dX1_takeAct_20 rfl (lv_at hl 1 rfl) ?_
    refine va_get (D := D) (ci := ci) (v := .ref g.dn) (C := vn ci) (T := TX4) (N := 7) hx hb hg (pq_in hca) hown hK hP 0 rfl (pq_cl hca) 1 (by decide) (hg _ g_141) (u_same (hg _ g_142)) rfl dX1_takeAct_21 ?_
    refine z_ve (va_runV (As := []) (rest := []) ⟨hx, hb, hml, hown, hts⟩ (c_X8_countNothing l D g ((fX4_takeActS P T (fX8_beginS X 1 7)).2.2) _) (z_V 0 hts g_435 g_3 g_490 g_433 g_434 ⟨by decide, by decide, by decide +kernel⟩ ⟨Nat.le_of_ble_eq_true rfl, Nat.le_of_ble_eq_true rfl⟩) (z_preV (ci := 9) (q0 := 0) (hP.subm [7, 8] rfl) (hD.sub [7, 8] (by decide) rfl) hK rfl rfl) rfl rfl hl.1 rfl (lv_room (Nat.le_of_ble_eq_true rfl)) dX1_takeAct_24 ⟨Nat.le_of_ble_eq_true rfl, Nat.le_of_ble_eq_true rfl⟩) hP hD hS hA (wP g ci h rw ((fX4_takeActS P T (fX8_beginS X 1 7)).1) ++ wT g ((fX4_takeActS P T (fX8_beginS X 1 7)).2.1)) (wA g ci h rw ((fX4_takeActS P T (fX8_beginS X 1 7)).1) ((fX4_takeActS P T (fX8_beginS X 1 7)).2.1) (fX8_countNothingS ((fX4_takeActS P T (fX8_beginS X 1 7)).2.2))) [7, 8] [0, 1, 2, 3, 4, 5, 6] [0, 1, 2, 3, 4, 5, 6, 7, 8] rfl rfl (by decide) (by decide) rfl (by decide) (fun H locs hP hD hS => ?_)
    refine lv_bipush (v := (-2)) hx hb dX1_takeAct_27 (by decide) ?_
    exact W.iret (v := (-2)) hx hb hr (fun t9 ht hW => ⟨⟨(-2), wA g ci h rw ((fX4_takeActS P T (fX8_beginS X 1 7)).1) ((fX4_takeActS P T (fX8_beginS X 1 7)).2.1) (fX8_countNothingS ((fX4_takeActS P T (fX8_beginS X 1 7)).2.2)), rfl, ⟨by simp only [fX1_takeActR, if_pos c_1], by simp only [fX1_takeActS, if_pos c_1]⟩, by rw [ht]; exact hP, va_K.moved hW.alike hK, hD⟩, hS.F ht⟩) hS.2.2 dX1_takeAct_29

def fX1_freeActR (ci : Nat) (P : PP) (T : TT) (X : DD)  : Int32 := (if 0 < ((fX6_freeActR ci P T (fX8_beginS X 4 7)) - 1) then ((fX6_freeActR ci P T (fX8_beginS X 4 7)) - 1) else 0)
def fX1_freeActS (ci : Nat) (P : PP) (T : TT) (X : DD)  : PP × TT × DD := (P, T, (fX6_freeActS ci P T (fX8_beginS X 4 7)).2.2)
set_option maxHeartbeats 4000000 in
set_option maxRecDepth 100000 in
theorem c_X1_freeAct (l : Launch) (D : va_G) (g : GA) (ci h rw : Nat) (hci : pkLe ci) (P : PP) (T : TT) (X : DD)  : ctI l D (tyA g) yX1_freeAct (wd yX1_freeAct cX1_freeAct 1 (Option.some Jvm.ClassFile.FieldType.int)) { frames := 5, cells := 0, slots := 0, locals := 104 } [.ref h] (wA g ci h rw P T X) (fun r w => r = fX1_freeActR ci P T X ∧ w = wA g ci h rw (fX1_freeActS ci P T X).1 (fX1_freeActS ci P T X).2.1 (fX1_freeActS ci P T X).2.2) := by
  intro sz
  refine Met.ofW (cc := cX1_freeAct) (maxL := 1) (ret := (Option.some Jvm.ClassFile.FieldType.int)) (by decide) rfl ?_
  intro p e s m args below meth c s₁ B hml hv
  obtain ⟨rfl, hsz, hP, hK, hD0⟩ := hv
  have hx := B.exec
  have hb := B.bytes
  have hr := B.returns
  have hts := atoms_spec (ws := (wd yX1_freeAct cX1_freeAct 1 (Option.some Jvm.ClassFile.FieldType.int))) B.pre
  have hg := Tb.of hts
  have hown : s.vm.findClass RX1 = some m.cls := findClass_of_methodNamed B.named
  have hlocks := B.notSynchronized
  subst hsz
  have hD := hD0.self (sz := s.heap.size)
  generalize hAe : va_A (wA g ci h rw P T X) s.heap.size = A at hD ⊢
  have hA : ∀ q : Nat, s.heap.size ≤ q → A q := fun q h => by rw [← hAe]; exact Or.inr h
  have hS : va_S A s.heap s.heap [] := va_S.rf
  have hP : va_P D vwCl (wA g ci h rw P T X) s.heap := hP
  have hl := lv_entry ([.ref h]) (n := 1) (Nat.le_of_ble_eq_true rfl)
  rw [lg_entry_eq]
  generalize (lg_sl ([.ref h]) ++ List.replicate (1 - (lg_sl ([.ref h])).length) Slot.unset).toArray = ls at hl ⊢
  have hl : lv_has ls 1 [(0, .ref h)] := hl
  have hca : pkAll ci := pkLe_pkAll hci
  refine lv_aload_n hx hb dX1_freeAct_0 rfl (lv_at hl 0 rfl) ?_
  refine va_get (D := D) (ci := ci) (v := .ref g.dn) (C := vn ci) (T := TX4) (N := 7) hx hb hg (pq_in hca) hown hK hP 0 rfl (pq_cl hca) 1 (by decide) (hg _ g_141) (u_same (hg _ g_142)) rfl dX1_freeAct_1 ?_
  refine lv_iconst (v := 4) hx hb dX1_freeAct_4 (by decide) ?_
  refine lv_bipush (v := 7) hx hb dX1_freeAct_5 (by decide) ?_
  refine z_ve (va_runV (As := [.int 4, .int 7]) (rest := []) ⟨hx, hb, hml, hown, hts⟩ (c_X8_begin l D g X 4 7 _) (z_V 2 hts g_278 g_3 g_369 g_276 g_277 ⟨by decide, by decide, by decide +kernel⟩ ⟨Nat.le_of_ble_eq_true rfl, Nat.le_of_ble_eq_true rfl⟩) (z_preV (ci := 9) (q0 := 0) (hP.subm [7, 8] rfl) (hD.sub [7, 8] (by decide) rfl) hK rfl rfl) rfl rfl hl.1 rfl (lv_room (Nat.le_of_ble_eq_true rfl)) dX1_freeAct_7 ⟨Nat.le_of_ble_eq_true rfl, Nat.le_of_ble_eq_true rfl⟩) hP hD hS hA (wP g ci h rw P ++ wT g T) (wA g ci h rw P T (fX8_beginS X 4 7)) [7, 8] [0, 1, 2, 3, 4, 5, 6] [0, 1, 2, 3, 4, 5, 6, 7, 8] rfl rfl (by decide) (by decide) rfl (by decide) (fun H locs hP hD hS => ?_)
  refine lv_iconst (v := 0) hx hb dX1_freeAct_10 (by decide) ?_
  refine lv_aload_n hx hb dX1_freeAct_11 rfl (lv_at hl 0 rfl) ?_
  refine z_ie (z_runSU (C := vn ci) (As := []) (rest := [.int 0]) (hK.1 _ _ (pq_cl hca)).2 ⟨hx, hb, hml, hown, hts⟩ (c_X6_freeAct l D g ci h rw (pkLe_pkSt hci) P T (fX8_beginS X 4 7) _) (z_SU (x := ⟨"PileHeirs$Twofold", "freeAct", "()I"⟩) (owner := RX6) 0 hts g_374 g_8 g_370 g_371 g_248 g_373 (by decide) ⟨by decide, by decide, by decide +kernel⟩ ⟨Nat.le_of_ble_eq_true rfl, Nat.le_of_ble_eq_true rfl⟩) (sb_Twofold_Strict hg) (z_preV (ci := ci) (q0 := 0) (hP.subm [0, 1, 2, 3, 4, 5, 6, 7, 8] rfl) (hD.sub [0, 1, 2, 3, 4, 5, 6, 7, 8] (by decide) rfl) hK (pq_cl hca) rfl) rfl rfl hl.1 rfl (lv_room (Nat.le_of_ble_eq_true rfl)) dX1_freeAct_12 ⟨Nat.le_of_ble_eq_true rfl, Nat.le_of_ble_eq_true rfl⟩) hP hD hS hA (([] : va_W)) (wA g ci h rw P T ((fX6_freeActS ci P T (fX8_beginS X 4 7)).2.2)) [0, 1, 2, 3, 4, 5, 6, 7, 8] [] [0, 1, 2, 3, 4, 5, 6, 7, 8] rfl rfl (by decide) (by decide) rfl (by decide) (fun H locs hP hD hS => ?_)
  refine lv_iconst (v := 1) hx hb dX1_freeAct_15 (by decide) ?_
  refine lv_isub hx hb dX1_freeAct_16 ?_
  refine va_mmax hx hb (hml.trans hl.1.symm) hown (hg _ g_383) (hg _ g_maxs) (hg _ g_13) (hg _ g_max) (Nat.le_of_ble_eq_true rfl) (Nat.le_of_ble_eq_true rfl) (Nat.le_of_ble_eq_true rfl) (Nat.le_of_ble_eq_true rfl) dX1_freeAct_17 ?_
  exact W.iret (v := (if 0 < ((fX6_freeActR ci P T (fX8_beginS X 4 7)) - 1) then ((fX6_freeActR ci P T (fX8_beginS X 4 7)) - 1) else 0)) hx hb hr (fun t9 ht hW => ⟨⟨(if 0 < ((fX6_freeActR ci P T (fX8_beginS X 4 7)) - 1) then ((fX6_freeActR ci P T (fX8_beginS X 4 7)) - 1) else 0), wA g ci h rw P T ((fX6_freeActS ci P T (fX8_beginS X 4 7)).2.2), rfl, ⟨rfl, rfl⟩, by rw [ht]; exact hP, va_K.moved hW.alike hK, hD⟩, hS.F ht⟩) hS.2.2 dX1_freeAct_20

def ktakeActR (ci : Nat) (P : PP) (T : TT) (X : DD)  : Int32 := match ci with | 1 => fX0_takeActR ci P T X  | 4 => fX0_takeActR ci P T X  | 2 => fX1_takeActR P T X  | _ => fX4_takeActR P T X 
def ktakeActS (ci : Nat) (P : PP) (T : TT) (X : DD)  : PP × TT × DD := ((match ci with | 1 => (fX0_takeActS ci P T X).1 | 4 => (fX0_takeActS ci P T X).1 | 2 => (fX1_takeActS P T X).1 | _ => (fX4_takeActS P T X).1), (match ci with | 1 => (fX0_takeActS ci P T X).2.1 | 4 => (fX0_takeActS ci P T X).2.1 | 2 => (fX1_takeActS P T X).2.1 | _ => (fX4_takeActS P T X).2.1), (match ci with | 1 => (fX0_takeActS ci P T X).2.2 | 4 => (fX0_takeActS ci P T X).2.2 | 2 => (fX1_takeActS P T X).2.2 | _ => (fX4_takeActS P T X).2.2))

def ksearchActR (ci : Nat) (P : PP) (T : TT) (X : DD) (i : Int32) : Int32 := match ci with | 1 => fX0_searchActR P T X i | 4 => fX0_searchActR P T X i | 10 => fX9_searchActR P T X i | 2 => fX9_searchActR P T X i | _ => fX4_searchActR P T X i
def ksearchActS (ci : Nat) (P : PP) (T : TT) (X : DD) (i : Int32) : PP × TT × DD := (P, T, (match ci with | 1 => (fX0_searchActS P T X i).2.2 | 4 => (fX0_searchActS P T X i).2.2 | 10 => (fX9_searchActS P T X i).2.2 | 2 => (fX9_searchActS P T X i).2.2 | _ => (fX4_searchActS P T X i).2.2))

def kfreeActR (ci : Nat) (P : PP) (T : TT) (X : DD)  : Int32 := match ci with | 7 => fX6_freeActR ci P T X  | 10 => fX6_freeActR ci P T X  | 2 => fX1_freeActR ci P T X  | _ => fX4_freeActR P T X 
def kfreeActS (ci : Nat) (P : PP) (T : TT) (X : DD)  : PP × TT × DD := (P, T, (match ci with | 7 => (fX6_freeActS ci P T X).2.2 | 10 => (fX6_freeActS ci P T X).2.2 | 2 => (fX1_freeActS ci P T X).2.2 | _ => (fX4_freeActS P T X).2.2))

set_option maxHeartbeats 4000000 in
set_option maxRecDepth 100000 in
theorem rv_X2_freeAct {p : Program} {l : Launch} {e : Env} {R : Room} {s : State} {m : MethodId} {args : Array Value} {below : List Frame} {meth : Method} {c : Code} {H : Heap} {locs : List Loc} {cells slots : Nat} {y0 : MethodName} {b0 cc : ByteArray} {n0 nL : Nat} {r0 : Option FieldType} {D : va_G} {g : GA} {ci h rw : Nat} {P : PP} {T : TT} {X : DD} {B : Nat → Prop} {rest : List Value} {fr : JFrame} 
    (hci : pkMa ci) (S : CallFix p m c cc nL s args (wd y0 b0 n0 r0) RX2) (hP : va_P D vwCl (wA g ci h rw P T X) H) (hD : va_D B (wA g ci h rw P T X)) (hK : va_K D vwCl (tyA g) s) (hR : 6 ≤ R.frames ∧ 124 ≤ R.locals) (hg : fr.method = m) (hsize : fr.locals.size = nL) (hstack : fr.stack = [].reverse ++ .ref h :: rest) (hW : 2 * fr.monitorRoom + (rest.map fun v => v.category).sum ≤ 8) (hdg : decode cc fr.pc = .ok (.invokevirtual 7, 3)) (hf : cells + 0 ≤ R.cells ∧ slots + 0 ≤ R.slots) :
    va_Run p l e R s m args below meth c H locs cells slots 0 0 fr rest (va_Qi (fun r w => r = kfreeActR ci P T X  ∧ w = wA g ci h rw (kfreeActS ci P T X ).1 (kfreeActS ci P T X ).2.1 (kfreeActS ci P T X ).2.2) (ctB D (tyA g) (va_A (wA g ci h rw P T X) H.size)) (va_A (wA g ci h rw P T X) H.size) (Value.ref h :: []).toArray) (va_A (wA g ci h rw P T X) H.size) := by
  rcases hci with rfl | rfl | rfl | rfl | rfl | rfl | rfl
  · exact va_runU (C := vn 1) (As := []) S (c_X4_freeAct l D g 1 h rw (by simp [pkAll]) P T X  _) (z_U (x := ⟨"PileHeirs$Marked", "freeAct", "()I"⟩) (owner := RX4) 0 S.2.2.2.2 g_391 g_5 g_403 g_381 g_362 g_391 g_404 g_362 ⟨by decide, by decide, by decide +kernel⟩ ⟨Nat.le_trans (Nat.le_of_ble_eq_true rfl) hR.1, Nat.le_trans (Nat.le_of_ble_eq_true rfl) hR.2⟩) (z_preV (ci := 1) (q0 := 0) hP hD hK (pq_cl (by simp [pkAll])) rfl) hg rfl hsize hstack hW hdg hf
  · exact va_runU (C := vn 2) (As := []) S (c_X1_freeAct l D g 2 h rw (by simp [pkLe]) P T X  _) (z_U (x := ⟨"PileHeirs$Marked", "freeAct", "()I"⟩) (owner := RX4) 0 S.2.2.2.2 g_368 g_12 g_403 g_381 g_362 g_391 g_405 g_367 ⟨by decide, by decide, by decide +kernel⟩ ⟨Nat.le_trans (Nat.le_of_ble_eq_true rfl) hR.1, Nat.le_trans (Nat.le_of_ble_eq_true rfl) hR.2⟩) (z_preV (ci := 2) (q0 := 0) hP hD hK (pq_cl (by simp [pkAll])) rfl) hg rfl hsize hstack hW hdg hf
  · exact va_runU (C := vn 3) (As := []) S (c_X4_freeAct l D g 3 h rw (by simp [pkAll]) P T X  _) (z_U (x := ⟨"PileHeirs$Marked", "freeAct", "()I"⟩) (owner := RX4) 0 S.2.2.2.2 g_391 g_5 g_403 g_381 g_362 g_391 g_406 g_362 ⟨by decide, by decide, by decide +kernel⟩ ⟨Nat.le_trans (Nat.le_of_ble_eq_true rfl) hR.1, Nat.le_trans (Nat.le_of_ble_eq_true rfl) hR.2⟩) (z_preV (ci := 3) (q0 := 0) hP hD hK (pq_cl (by simp [pkAll])) rfl) hg rfl hsize hstack hW hdg hf
  · exact va_runU (C := vn 4) (As := []) S (c_X4_freeAct l D g 4 h rw (by simp [pkAll]) P T X  _) (z_U (x := ⟨"PileHeirs$Marked", "freeAct", "()I"⟩) (owner := RX4) 0 S.2.2.2.2 g_391 g_5 g_403 g_381 g_362 g_391 g_407 g_362 ⟨by decide, by decide, by decide +kernel⟩ ⟨Nat.le_trans (Nat.le_of_ble_eq_true rfl) hR.1, Nat.le_trans (Nat.le_of_ble_eq_true rfl) hR.2⟩) (z_preV (ci := 4) (q0 := 0) hP hD hK (pq_cl (by simp [pkAll])) rfl) hg rfl hsize hstack hW hdg hf
  · exact va_runU (C := vn 6) (As := []) S (c_X4_freeAct l D g 6 h rw (by simp [pkAll]) P T X  _) (z_U (x := ⟨"PileHeirs$Marked", "freeAct", "()I"⟩) (owner := RX4) 0 S.2.2.2.2 g_391 g_5 g_403 g_381 g_362 g_391 g_408 g_362 ⟨by decide, by decide, by decide +kernel⟩ ⟨Nat.le_trans (Nat.le_of_ble_eq_true rfl) hR.1, Nat.le_trans (Nat.le_of_ble_eq_true rfl) hR.2⟩) (z_preV (ci := 6) (q0 := 0) hP hD hK (pq_cl (by simp [pkAll])) rfl) hg rfl hsize hstack hW hdg hf
  · exact va_runU (C := vn 7) (As := []) S (c_X6_freeAct l D g 7 h rw (by simp [pkSt]) P T X  _) (z_U (x := ⟨"PileHeirs$Marked", "freeAct", "()I"⟩) (owner := RX4) 0 S.2.2.2.2 g_374 g_8 g_403 g_381 g_362 g_391 g_409 g_373 ⟨by decide, by decide, by decide +kernel⟩ ⟨Nat.le_trans (Nat.le_of_ble_eq_true rfl) hR.1, Nat.le_trans (Nat.le_of_ble_eq_true rfl) hR.2⟩) (z_preV (ci := 7) (q0 := 0) hP hD hK (pq_cl (by simp [pkAll])) rfl) hg rfl hsize hstack hW hdg hf
  · exact va_runU (C := vn 10) (As := []) S (c_X6_freeAct l D g 10 h rw (by simp [pkSt]) P T X  _) (z_U (x := ⟨"PileHeirs$Marked", "freeAct", "()I"⟩) (owner := RX4) 0 S.2.2.2.2 g_374 g_8 g_403 g_381 g_362 g_391 g_410 g_373 ⟨by decide, by decide, by decide +kernel⟩ ⟨Nat.le_trans (Nat.le_of_ble_eq_true rfl) hR.1, Nat.le_trans (Nat.le_of_ble_eq_true rfl) hR.2⟩) (z_preV (ci := 10) (q0 := 0) hP hD hK (pq_cl (by simp [pkAll])) rfl) hg rfl hsize hstack hW hdg hf

def fX2_isFullR (ci : Nat) (P : PP) (T : TT) (X : DD)  : Int32 := (if (kfreeActR ci P T X) = 0 then 1 else 0)
def fX2_isFullS (ci : Nat) (P : PP) (T : TT) (X : DD)  : PP × TT × DD := (P, T, (kfreeActS ci P T X).2.2)
set_option maxHeartbeats 4000000 in
set_option maxRecDepth 100000 in
theorem c_X2_isFull (l : Launch) (D : va_G) (g : GA) (ci h rw : Nat) (hci : pkMa ci) (P : PP) (T : TT) (X : DD)  : ctI l D (tyA g) yX2_isFull (wd yX2_isFull cX2_isFull 1 (Option.some Jvm.ClassFile.FieldType.boolean)) { frames := 6, cells := 0, slots := 0, locals := 124 } [.ref h] (wA g ci h rw P T X) (fun r w => r = fX2_isFullR ci P T X ∧ w = wA g ci h rw (fX2_isFullS ci P T X).1 (fX2_isFullS ci P T X).2.1 (fX2_isFullS ci P T X).2.2) := by
  intro sz
  refine Met.ofW (cc := cX2_isFull) (maxL := 1) (ret := (Option.some Jvm.ClassFile.FieldType.boolean)) (by decide) rfl ?_
  intro p e s m args below meth c s₁ B hml hv
  obtain ⟨rfl, hsz, hP, hK, hD0⟩ := hv
  have hx := B.exec
  have hb := B.bytes
  have hr := B.returns
  have hts := atoms_spec (ws := (wd yX2_isFull cX2_isFull 1 (Option.some Jvm.ClassFile.FieldType.boolean))) B.pre
  have hg := Tb.of hts
  have hown : s.vm.findClass RX2 = some m.cls := findClass_of_methodNamed B.named
  have hlocks := B.notSynchronized
  subst hsz
  have hD := hD0.self (sz := s.heap.size)
  generalize hAe : va_A (wA g ci h rw P T X) s.heap.size = A at hD ⊢
  have hA : ∀ q : Nat, s.heap.size ≤ q → A q := fun q h => by rw [← hAe]; exact Or.inr h
  have hS : va_S A s.heap s.heap [] := va_S.rf
  have hP : va_P D vwCl (wA g ci h rw P T X) s.heap := hP
  have hl := lv_entry ([.ref h]) (n := 1) (Nat.le_of_ble_eq_true rfl)
  rw [lg_entry_eq]
  generalize (lg_sl ([.ref h]) ++ List.replicate (1 - (lg_sl ([.ref h])).length) Slot.unset).toArray = ls at hl ⊢
  have hl : lv_has ls 1 [(0, .ref h)] := hl
  have hca : pkAll ci := pkMa_pkAll hci
  refine lv_aload_n hx hb dX2_isFull_0 rfl (lv_at hl 0 rfl) ?_
  refine z_ie (rv_X2_freeAct (rest := []) hci ⟨hx, hb, hml, hown, hts⟩ hP hD hK ⟨Nat.le_of_ble_eq_true rfl, Nat.le_of_ble_eq_true rfl⟩ rfl hl.1 rfl (lv_room (Nat.le_of_ble_eq_true rfl)) dX2_isFull_1 ⟨Nat.le_of_ble_eq_true rfl, Nat.le_of_ble_eq_true rfl⟩) hP hD hS hA (([] : va_W)) (wA g ci h rw P T ((kfreeActS ci P T X).2.2)) [0, 1, 2, 3, 4, 5, 6, 7, 8] [] [0, 1, 2, 3, 4, 5, 6, 7, 8] rfl rfl (by decide) (by decide) rfl (by decide) (fun H locs hP hD hS => ?_)
  refine lv_if_ne (tgt := 11) hx hb dX2_isFull_4 (by decide) (fun c_1 => ?_) (fun c_1 => ?_)
  · -- not (kfreeActR ci P T X) = 0
    refine lv_iconst (v := 0) hx hb dX2_isFull_11 (by decide) ?_
    exact W.zret (v := 0) (ty := .boolean) hx hb hr rfl (fun t9 ht hW => ⟨⟨0, wA g ci h rw P T ((kfreeActS ci P T X).2.2), rfl, ⟨by simp only [fX2_isFullR, if_neg c_1], by simp only [fX2_isFullS, if_neg c_1]⟩, by rw [ht]; exact hP, va_K.moved hW.alike hK, hD⟩, hS.F ht⟩) hS.2.2 dX2_isFull_12
  · -- (kfreeActR ci P T X) = 0
    refine lv_iconst (v := 1) hx hb dX2_isFull_7 (by decide) ?_
    refine lv_goto (tgt := 12) hx hb dX2_isFull_8 (by decide) ?_
    exact W.zret (v := 1) (ty := .boolean) hx hb hr rfl (fun t9 ht hW => ⟨⟨1, wA g ci h rw P T ((kfreeActS ci P T X).2.2), rfl, ⟨by simp only [fX2_isFullR, if_pos c_1], by simp only [fX2_isFullS, if_pos c_1]⟩, by rw [ht]; exact hP, va_K.moved hW.alike hK, hD⟩, hS.F ht⟩) hS.2.2 dX2_isFull_12

def kisFullR (ci : Nat) (P : PP) (T : TT) (X : DD)  : Int32 := match ci with | 5 => fX4_isFullR P T X  | _ => fX2_isFullR ci P T X 
def kisFullS (ci : Nat) (P : PP) (T : TT) (X : DD)  : PP × TT × DD := (P, T, (match ci with | 5 => X | _ => (fX2_isFullS ci P T X).2.2))
end
section
/-! the reference: one object with ten arrays -/
/-- int[], boolean[]; the object; lengths, weights, wet, lies, kinds, caps, limits, many, rows, trace -/
abbrev MA : Type := ClassId × ClassId × Nat × Nat × Nat × Nat × Nat × Nat × Nat × Nat × Nat × Nat × Nat
abbrev MA.cI (g : MA) : ClassId := g.1
abbrev MA.cZ (g : MA) : ClassId := g.2.1
abbrev MA.mo (g : MA) : Nat := g.2.2.1
abbrev MA.al (g : MA) : Nat := g.2.2.2.1
abbrev MA.aw (g : MA) : Nat := g.2.2.2.2.1
abbrev MA.az (g : MA) : Nat := g.2.2.2.2.2.1
abbrev MA.ap (g : MA) : Nat := g.2.2.2.2.2.2.1
abbrev MA.ak (g : MA) : Nat := g.2.2.2.2.2.2.2.1
abbrev MA.ac (g : MA) : Nat := g.2.2.2.2.2.2.2.2.1
abbrev MA.am (g : MA) : Nat := g.2.2.2.2.2.2.2.2.2.1
abbrev MA.an (g : MA) : Nat := g.2.2.2.2.2.2.2.2.2.2.1
abbrev MA.ar (g : MA) : Nat := g.2.2.2.2.2.2.2.2.2.2.2.1
abbrev MA.at (g : MA) : Nat := g.2.2.2.2.2.2.2.2.2.2.2.2
/-- code, timbers, lengths, weights, wet, lies, piles, kinds, caps, limits, many, rows, trace, done, heavies, nothings, ended -/
abbrev MM : Type := Int32 × Int32 × FN × FN × FN × FN × Int32 × FN × FN × FN × FN × FN × FN × Int32 × Int32 × Int32 × Int32
abbrev tyM (g : MA) : List (ClassId × FieldType) := [(g.cI, .int), (g.cZ, .boolean)]
abbrev wM (g : MA) (M : MM) : va_W := [(g.mo, .inr (12, [.int M.1, .int M.2.1, .ref g.al, .ref g.aw, .ref g.az, .ref g.ap, .int M.2.2.2.2.2.2.1, .ref g.ak, .ref g.ac, .ref g.am, .ref g.an, .ref g.ar, .ref g.at, .int M.2.2.2.2.2.2.2.2.2.2.2.2.2.1, .int M.2.2.2.2.2.2.2.2.2.2.2.2.2.2.1, .int M.2.2.2.2.2.2.2.2.2.2.2.2.2.2.2.1, .int M.2.2.2.2.2.2.2.2.2.2.2.2.2.2.2.2])), (g.al, .inl (g.cI, 60, .inl M.2.2.1)), (g.aw, .inl (g.cI, 60, .inl M.2.2.2.1)), (g.az, .inl (g.cZ, 60, .inl M.2.2.2.2.1)), (g.ap, .inl (g.cI, 60, .inl M.2.2.2.2.2.1)), (g.ak, .inl (g.cI, 12, .inl M.2.2.2.2.2.2.2.1)), (g.ac, .inl (g.cI, 12, .inl M.2.2.2.2.2.2.2.2.1)), (g.am, .inl (g.cI, 12, .inl M.2.2.2.2.2.2.2.2.2.1)), (g.an, .inl (g.cI, 12, .inl M.2.2.2.2.2.2.2.2.2.2.1)), (g.ar, .inl (g.cI, 144, .inl M.2.2.2.2.2.2.2.2.2.2.2.1)), (g.at, .inl (g.cI, 200, .inl M.2.2.2.2.2.2.2.2.2.2.2.2.1))]
theorem sw_ne {x v : Int32} {k : Int} (h : ¬ x = v) (e : v.toInt = k) : ¬ x.toInt = k := fun q => h (Int32.toInt_inj.mp (q.trans e.symm))
theorem lp_dn2 {a b : Int32} {n : Nat} (h : ¬ a ≤ b) (hn : (a.toInt - b.toInt).toNat < n + 1) : ((a + (-1)).toInt - b.toInt).toNat < n := by
  rw [Int32.le_iff_toInt_le] at h
  have h1 := Int32.toInt_lt a
  have h2 := Int32.le_toInt b
  have e : (a + (-1)).toInt = a.toInt - 1 := by
    rw [Int32.toInt_add, show (-1 : Int32).toInt = -1 from rfl]
    exact Int.bmod_eq_of_le (by omega) (by omega)
  rw [e]
  omega
def fX11_thrownR (M : MM)  : Int32 := M.1
def fX11_thrownK (M : MM)  : Prop := True
set_option maxHeartbeats 4000000 in
set_option maxRecDepth 100000 in
theorem c_X11_thrown (l : Launch) (D : va_G) (g : MA) (M : MM)  (hk : fX11_thrownK M) : ctI l D (tyM g) yX11_thrown (wd yX11_thrown cX11_thrown 1 (Option.some Jvm.ClassFile.FieldType.int)) { frames := 0, cells := 0, slots := 0, locals := 0 } [.ref g.mo] (wM g M) (fun r w => r = fX11_thrownR M ∧ w = wM g M) := by
  intro sz
  refine Met.ofW (cc := cX11_thrown) (maxL := 1) (ret := (Option.some Jvm.ClassFile.FieldType.int)) (by decide) rfl ?_
  intro p e s m args below meth c s₁ B hml hv
  obtain ⟨rfl, hsz, hP, hK, hD0⟩ := hv
  have hx := B.exec
  have hb := B.bytes
  have hr := B.returns
  have hts := atoms_spec (ws := (wd yX11_thrown cX11_thrown 1 (Option.some Jvm.ClassFile.FieldType.int))) B.pre
  have hg := Tb.of hts
  have hown : s.vm.findClass RX11 = some m.cls := findClass_of_methodNamed B.named
  have hlocks := B.notSynchronized
  subst hsz
  have hD := hD0.self (sz := s.heap.size)
  generalize hAe : va_A (wM g M) s.heap.size = A at hD ⊢
  have hA : ∀ q : Nat, s.heap.size ≤ q → A q := fun q h => by rw [← hAe]; exact Or.inr h
  have hS : va_S A s.heap s.heap [] := va_S.rf
  have hP : va_P D vwCl (wM g M) s.heap := hP
  have hl := lv_entry ([.ref g.mo]) (n := 1) (Nat.le_of_ble_eq_true rfl)
  rw [lg_entry_eq]
  generalize (lg_sl ([.ref g.mo]) ++ List.replicate (1 - (lg_sl ([.ref g.mo])).length) Slot.unset).toArray = ls at hl ⊢
  have hl : lv_has ls 1 [(0, .ref g.mo)] := hl
  unfold fX11_thrownK at hk
  refine lv_aload_n hx hb dX11_thrown_0 rfl (lv_at hl 0 rfl) ?_
  refine va_get (D := D) (ci := 12) (v := .int M.1) (C := RX11) (T := TX11) (N := 17) hx hb hg in_X11 hown hK hP 0 rfl rfl 0 (by decide) (hg _ g_686) (fun _ h9 => h9) rfl dX11_thrown_1 ?_
  exact W.iret (v := M.1) hx hb hr (fun t9 ht hW => ⟨⟨M.1, wM g M, rfl, ⟨rfl, rfl⟩, by rw [ht]; exact hP, va_K.moved hW.alike hK, hD⟩, hS.F ht⟩) hS.2.2 dX11_thrown_4

def fX11_isInR  (v : Int32) (a : Int32) (b : Int32) : Int32 := (if v < a then 0 else (if b < v then 0 else 1))
set_option maxHeartbeats 4000000 in
set_option maxRecDepth 100000 in
theorem c_X11_isIn (l : Launch) (D : va_G) (tys : List (ClassId × FieldType))  (v : Int32) (a : Int32) (b : Int32) : ctI l D (tys) yX11_isIn (wd yX11_isIn cX11_isIn 3 (Option.some Jvm.ClassFile.FieldType.boolean)) { frames := 0, cells := 0, slots := 0, locals := 0 } [.int v, .int a, .int b] (([] : va_W)) (fun r w => r = fX11_isInR v a b ∧ w = ([] : va_W)) := by
  intro sz
  refine Met.ofW (cc := cX11_isIn) (maxL := 3) (ret := (Option.some Jvm.ClassFile.FieldType.boolean)) (by decide) rfl ?_
  intro p e s m args below meth c s₁ B hml hv
  obtain ⟨rfl, hsz, hP, hK, hD0⟩ := hv
  have hx := B.exec
  have hb := B.bytes
  have hr := B.returns
  have hts := atoms_spec (ws := (wd yX11_isIn cX11_isIn 3 (Option.some Jvm.ClassFile.FieldType.boolean))) B.pre
  have hg := Tb.of hts
  have hown : s.vm.findClass RX11 = some m.cls := findClass_of_methodNamed B.named
  have hlocks := B.notSynchronized
  subst hsz
  have hD := hD0.self (sz := s.heap.size)
  generalize hAe : va_A (([] : va_W)) s.heap.size = A at hD ⊢
  have hA : ∀ q : Nat, s.heap.size ≤ q → A q := fun q h => by rw [← hAe]; exact Or.inr h
  have hS : va_S A s.heap s.heap [] := va_S.rf
  have hP : va_P D vwCl (([] : va_W)) s.heap := hP
  have hl := lv_entry ([.int v, .int a, .int b]) (n := 3) (Nat.le_of_ble_eq_true rfl)
  rw [lg_entry_eq]
  generalize (lg_sl ([.int v, .int a, .int b]) ++ List.replicate (3 - (lg_sl ([.int v, .int a, .int b])).length) Slot.unset).toArray = ls at hl ⊢
  have hl : lv_has ls 3 [(0, .int v), (1, .int a), (2, .int b)] := hl
  refine lv_iload_n hx hb dX11_isIn_0 rfl (lv_at hl 0 rfl) ?_
  refine lv_iload_n hx hb dX11_isIn_1 rfl (lv_at hl 1 rfl) ?_
  refine lv_icmp_lt (tgt := 14) hx hb dX11_isIn_2 (by decide) (fun c_1 => ?_) (fun c_1 => ?_)
  · -- v < a
    refine lv_iconst (v := 0) hx hb dX11_isIn_14 (by decide) ?_
    exact W.zret (v := 0) (ty := .boolean) hx hb hr rfl (fun t9 ht hW => ⟨⟨0, ([] : va_W), rfl, ⟨by simp only [fX11_isInR, if_pos c_1], rfl⟩, by rw [ht]; exact hP, va_K.moved hW.alike hK, hD⟩, hS.F ht⟩) hS.2.2 dX11_isIn_15
  · -- not v < a
    refine lv_iload_n hx hb dX11_isIn_5 rfl (lv_at hl 0 rfl) ?_
    refine lv_iload_n hx hb dX11_isIn_6 rfl (lv_at hl 2 rfl) ?_
    refine lv_icmp_gt (tgt := 14) hx hb dX11_isIn_7 (by decide) (fun c_2 => ?_) (fun c_2 => ?_)
    · -- b < v
      refine lv_iconst (v := 0) hx hb dX11_isIn_14 (by decide) ?_
      exact W.zret (v := 0) (ty := .boolean) hx hb hr rfl (fun t9 ht hW => ⟨⟨0, ([] : va_W), rfl, ⟨by simp only [fX11_isInR, if_neg c_1, if_pos c_2], rfl⟩, by rw [ht]; exact hP, va_K.moved hW.alike hK, hD⟩, hS.F ht⟩) hS.2.2 dX11_isIn_15
    · -- not b < v
      refine lv_iconst (v := 1) hx hb dX11_isIn_10 (by decide) ?_
      refine lv_goto (tgt := 15) hx hb dX11_isIn_11 (by decide) ?_
      exact W.zret (v := 1) (ty := .boolean) hx hb hr rfl (fun t9 ht hW => ⟨⟨1, ([] : va_W), rfl, ⟨by simp only [fX11_isInR, if_neg c_1, if_neg c_2], rfl⟩, by rw [ht]; exact hP, va_K.moved hW.alike hK, hD⟩, hS.F ht⟩) hS.2.2 dX11_isIn_15

theorem nb_isIn (v a b : Int32) : narrow .boolean (.int (fX11_isInR v a b)) = .int (fX11_isInR v a b) := by
  have h : fX11_isInR v a b = 0 ∨ fX11_isInR v a b = 1 := by
    unfold fX11_isInR
    (repeat' split) <;> simp
  rcases h with h | h <;> rw [h] <;> rfl
def fX11_isTimberR (M : MM) (tb : Int32) : Int32 := (fX11_isInR tb 0 (M.2.1 - 1))
def fX11_isTimberK (M : MM) (tb : Int32) : Prop := True
set_option maxHeartbeats 4000000 in
set_option maxRecDepth 100000 in
theorem c_X11_isTimber (l : Launch) (D : va_G) (g : MA) (M : MM) (tb : Int32) (hk : fX11_isTimberK M tb) : ctI l D (tyM g) yX11_isTimber (wd yX11_isTimber cX11_isTimber 2 (Option.some Jvm.ClassFile.FieldType.boolean)) { frames := 1, cells := 0, slots := 0, locals := 22 } [.ref g.mo, .int tb] (wM g M) (fun r w => r = fX11_isTimberR M tb ∧ w = wM g M) := by
  intro sz
  refine Met.ofW (cc := cX11_isTimber) (maxL := 2) (ret := (Option.some Jvm.ClassFile.FieldType.boolean)) (by decide) rfl ?_
  intro p e s m args below meth c s₁ B hml hv
  obtain ⟨rfl, hsz, hP, hK, hD0⟩ := hv
  have hx := B.exec
  have hb := B.bytes
  have hr := B.returns
  have hts := atoms_spec (ws := (wd yX11_isTimber cX11_isTimber 2 (Option.some Jvm.ClassFile.FieldType.boolean))) B.pre
  have hg := Tb.of hts
  have hown : s.vm.findClass RX11 = some m.cls := findClass_of_methodNamed B.named
  have hlocks := B.notSynchronized
  subst hsz
  have hD := hD0.self (sz := s.heap.size)
  generalize hAe : va_A (wM g M) s.heap.size = A at hD ⊢
  have hA : ∀ q : Nat, s.heap.size ≤ q → A q := fun q h => by rw [← hAe]; exact Or.inr h
  have hS : va_S A s.heap s.heap [] := va_S.rf
  have hP : va_P D vwCl (wM g M) s.heap := hP
  have hl := lv_entry ([.ref g.mo, .int tb]) (n := 2) (Nat.le_of_ble_eq_true rfl)
  rw [lg_entry_eq]
  generalize (lg_sl ([.ref g.mo, .int tb]) ++ List.replicate (2 - (lg_sl ([.ref g.mo, .int tb])).length) Slot.unset).toArray = ls at hl ⊢
  have hl : lv_has ls 2 [(0, .ref g.mo), (1, .int tb)] := hl
  unfold fX11_isTimberK at hk
  refine lv_iload_n hx hb dX11_isTimber_0 rfl (lv_at hl 1 rfl) ?_
  refine lv_iconst (v := 0) hx hb dX11_isTimber_1 (by decide) ?_
  refine lv_aload_n hx hb dX11_isTimber_2 rfl (lv_at hl 0 rfl) ?_
  refine va_get (D := D) (ci := 12) (v := .int M.2.1) (C := RX11) (T := TX11) (N := 17) hx hb hg in_X11 hown hK hP 0 rfl rfl 1 (by decide) (hg _ g_687) (fun _ h9 => h9) rfl dX11_isTimber_3 ?_
  refine lv_iconst (v := 1) hx hb dX11_isTimber_6 (by decide) ?_
  refine lv_isub hx hb dX11_isTimber_7 ?_
  refine z_ie (va_runS (As := [.int tb, .int 0, .int (M.2.1 - 1)]) (rest := []) ⟨hx, hb, hml, hown, hts⟩ (c_X11_isIn l D (tyM g) tb 0 (M.2.1 - 1) _) (z_St 3 hts g_748 g_4 g_746 g_747 ⟨by decide, by decide, by decide +kernel⟩ ⟨Nat.le_of_ble_eq_true rfl, Nat.le_of_ble_eq_true rfl⟩) (z_preS (hP.subm [] rfl) (hD.sub [] (by decide) rfl) hK) rfl rfl hl.1 rfl (lv_room (Nat.le_of_ble_eq_true rfl)) dX11_isTimber_8 ⟨Nat.le_of_ble_eq_true rfl, Nat.le_of_ble_eq_true rfl⟩) hP hD hS hA (wM g M) (wM g M) [] [0, 1, 2, 3, 4, 5, 6, 7, 8, 9, 10] [0, 1, 2, 3, 4, 5, 6, 7, 8, 9, 10] rfl rfl (by decide) (by decide) rfl (by decide) (fun H locs hP hD hS => ?_)
  exact W.zret (v := (fX11_isInR tb 0 (M.2.1 - 1))) (ty := .boolean) hx hb hr (nb_isIn _ _ _) (fun t9 ht hW => ⟨⟨(fX11_isInR tb 0 (M.2.1 - 1)), wM g M, rfl, ⟨rfl, rfl⟩, by rw [ht]; exact hP, va_K.moved hW.alike hK, hD⟩, hS.F ht⟩) hS.2.2 dX11_isTimber_11

def fX11_isPileR (M : MM) (pl : Int32) : Int32 := (fX11_isInR pl 0 (M.2.2.2.2.2.2.1 - 1))
def fX11_isPileK (M : MM) (pl : Int32) : Prop := True
set_option maxHeartbeats 4000000 in
set_option maxRecDepth 100000 in
theorem c_X11_isPile (l : Launch) (D : va_G) (g : MA) (M : MM) (pl : Int32) (hk : fX11_isPileK M pl) : ctI l D (tyM g) yX11_isPile (wd yX11_isPile cX11_isPile 2 (Option.some Jvm.ClassFile.FieldType.boolean)) { frames := 1, cells := 0, slots := 0, locals := 22 } [.ref g.mo, .int pl] (wM g M) (fun r w => r = fX11_isPileR M pl ∧ w = wM g M) := by
  intro sz
  refine Met.ofW (cc := cX11_isPile) (maxL := 2) (ret := (Option.some Jvm.ClassFile.FieldType.boolean)) (by decide) rfl ?_
  intro p e s m args below meth c s₁ B hml hv
  obtain ⟨rfl, hsz, hP, hK, hD0⟩ := hv
  have hx := B.exec
  have hb := B.bytes
  have hr := B.returns
  have hts := atoms_spec (ws := (wd yX11_isPile cX11_isPile 2 (Option.some Jvm.ClassFile.FieldType.boolean))) B.pre
  have hg := Tb.of hts
  have hown : s.vm.findClass RX11 = some m.cls := findClass_of_methodNamed B.named
  have hlocks := B.notSynchronized
  subst hsz
  have hD := hD0.self (sz := s.heap.size)
  generalize hAe : va_A (wM g M) s.heap.size = A at hD ⊢
  have hA : ∀ q : Nat, s.heap.size ≤ q → A q := fun q h => by rw [← hAe]; exact Or.inr h
  have hS : va_S A s.heap s.heap [] := va_S.rf
  have hP : va_P D vwCl (wM g M) s.heap := hP
  have hl := lv_entry ([.ref g.mo, .int pl]) (n := 2) (Nat.le_of_ble_eq_true rfl)
  rw [lg_entry_eq]
  generalize (lg_sl ([.ref g.mo, .int pl]) ++ List.replicate (2 - (lg_sl ([.ref g.mo, .int pl])).length) Slot.unset).toArray = ls at hl ⊢
  have hl : lv_has ls 2 [(0, .ref g.mo), (1, .int pl)] := hl
  unfold fX11_isPileK at hk
  refine lv_iload_n hx hb dX11_isPile_0 rfl (lv_at hl 1 rfl) ?_
  refine lv_iconst (v := 0) hx hb dX11_isPile_1 (by decide) ?_
  refine lv_aload_n hx hb dX11_isPile_2 rfl (lv_at hl 0 rfl) ?_
  refine va_get (D := D) (ci := 12) (v := .int M.2.2.2.2.2.2.1) (C := RX11) (T := TX11) (N := 17) hx hb hg in_X11 hown hK hP 0 rfl rfl 6 (by decide) (hg _ g_692) (fun _ h9 => h9) rfl dX11_isPile_3 ?_
  refine lv_iconst (v := 1) hx hb dX11_isPile_6 (by decide) ?_
  refine lv_isub hx hb dX11_isPile_7 ?_
  refine z_ie (va_runS (As := [.int pl, .int 0, .int (M.2.2.2.2.2.2.1 - 1)]) (rest := []) ⟨hx, hb, hml, hown, hts⟩ (c_X11_isIn l D (tyM g) pl 0 (M.2.2.2.2.2.2.1 - 1) _) (z_St 3 hts g_748 g_4 g_746 g_747 ⟨by decide, by decide, by decide +kernel⟩ ⟨Nat.le_of_ble_eq_true rfl, Nat.le_of_ble_eq_true rfl⟩) (z_preS (hP.subm [] rfl) (hD.sub [] (by decide) rfl) hK) rfl rfl hl.1 rfl (lv_room (Nat.le_of_ble_eq_true rfl)) dX11_isPile_8 ⟨Nat.le_of_ble_eq_true rfl, Nat.le_of_ble_eq_true rfl⟩) hP hD hS hA (wM g M) (wM g M) [] [0, 1, 2, 3, 4, 5, 6, 7, 8, 9, 10] [0, 1, 2, 3, 4, 5, 6, 7, 8, 9, 10] rfl rfl (by decide) (by decide) rfl (by decide) (fun H locs hP hD hS => ?_)
  exact W.zret (v := (fX11_isInR pl 0 (M.2.2.2.2.2.2.1 - 1))) (ty := .boolean) hx hb hr (nb_isIn _ _ _) (fun t9 ht hW => ⟨⟨(fX11_isInR pl 0 (M.2.2.2.2.2.2.1 - 1)), wM g M, rfl, ⟨rfl, rfl⟩, by rw [ht]; exact hP, va_K.moved hW.alike hK, hD⟩, hS.F ht⟩) hS.2.2 dX11_isPile_11

def fX11_ruleS (M : MM) (a : Int32) (k : Int32) : MM := (M.1, M.2.1, M.2.2.1, M.2.2.2.1, M.2.2.2.2.1, M.2.2.2.2.2.1, M.2.2.2.2.2.2.1, M.2.2.2.2.2.2.2.1, M.2.2.2.2.2.2.2.2.1, M.2.2.2.2.2.2.2.2.2.1, M.2.2.2.2.2.2.2.2.2.2.1, M.2.2.2.2.2.2.2.2.2.2.2.1, upd M.2.2.2.2.2.2.2.2.2.2.2.2.1 (M.2.2.2.2.2.2.2.2.2.2.2.2.2.1 - M.2.2.2.2.2.2.2.2.2.2.2.2.2.1 / 200 * 200).toNatClampNeg ((10 * a) + k), (M.2.2.2.2.2.2.2.2.2.2.2.2.2.1 + 1), M.2.2.2.2.2.2.2.2.2.2.2.2.2.2.1, M.2.2.2.2.2.2.2.2.2.2.2.2.2.2.2.1, M.2.2.2.2.2.2.2.2.2.2.2.2.2.2.2.2)
def fX11_ruleK (M : MM) (a : Int32) (k : Int32) : Prop := (vp_in (M.2.2.2.2.2.2.2.2.2.2.2.2.2.1 - M.2.2.2.2.2.2.2.2.2.2.2.2.2.1 / 200 * 200) 200 ∧ True)
set_option maxHeartbeats 4000000 in
set_option maxRecDepth 100000 in
theorem c_X11_rule (l : Launch) (D : va_G) (g : MA) (M : MM) (a : Int32) (k : Int32) (hk : fX11_ruleK M a k) : ctV l D (tyM g) yX11_rule (wd yX11_rule cX11_rule 3 (Option.none : Option Jvm.ClassFile.FieldType)) { frames := 0, cells := 0, slots := 0, locals := 0 } [.ref g.mo, .int a, .int k] (wM g M) (fun w => w = wM g (fX11_ruleS M a k)) := by
  intro sz
  refine Met.ofW (cc := cX11_rule) (maxL := 3) (ret := (Option.none : Option Jvm.ClassFile.FieldType)) (by decide) rfl ?_
  intro p e s m args below meth c s₁ B hml hv
  obtain ⟨rfl, hsz, hP, hK, hD0⟩ := hv
  have hx := B.exec
  have hb := B.bytes
  have hr := B.returns
  have hts := atoms_spec (ws := (wd yX11_rule cX11_rule 3 (Option.none : Option Jvm.ClassFile.FieldType))) B.pre
  have hg := Tb.of hts
  have hown : s.vm.findClass RX11 = some m.cls := findClass_of_methodNamed B.named
  have hlocks := B.notSynchronized
  subst hsz
  have hD := hD0.self (sz := s.heap.size)
  generalize hAe : va_A (wM g M) s.heap.size = A at hD ⊢
  have hA : ∀ q : Nat, s.heap.size ≤ q → A q := fun q h => by rw [← hAe]; exact Or.inr h
  have hS : va_S A s.heap s.heap [] := va_S.rf
  have hP : va_P D vwCl (wM g M) s.heap := hP
  have hl := lv_entry ([.ref g.mo, .int a, .int k]) (n := 3) (Nat.le_of_ble_eq_true rfl)
  rw [lg_entry_eq]
  generalize (lg_sl ([.ref g.mo, .int a, .int k]) ++ List.replicate (3 - (lg_sl ([.ref g.mo, .int a, .int k])).length) Slot.unset).toArray = ls at hl ⊢
  have hl : lv_has ls 3 [(0, .ref g.mo), (1, .int a), (2, .int k)] := hl
  unfold fX11_ruleK at hk
  refine lv_aload_n hx hb dX11_rule_0 rfl (lv_at hl 0 rfl) ?_
  refine va_get (D := D) (ci := 12) (v := .ref g.at) (C := RX11) (T := TX11) (N := 17) hx hb hg in_X11 hown hK hP 0 rfl rfl 12 (by decide) (hg _ g_698) (fun _ h9 => h9) rfl dX11_rule_1 ?_
  refine lv_aload_n hx hb dX11_rule_4 rfl (lv_at hl 0 rfl) ?_
  refine va_get (D := D) (ci := 12) (v := .int M.2.2.2.2.2.2.2.2.2.2.2.2.2.1) (C := RX11) (T := TX11) (N := 17) hx hb hg in_X11 hown hK hP 0 rfl rfl 13 (by decide) (hg _ g_699) (fun _ h9 => h9) rfl dX11_rule_5 ?_
  refine lv_sipush (v := 200) hx hb dX11_rule_8 (by decide) ?_
  refine lv_irem hx hb dX11_rule_11 (by decide) ?_
  refine lv_bipush (v := 10) hx hb dX11_rule_12 (by decide) ?_
  refine lv_iload_n hx hb dX11_rule_14 rfl (lv_at hl 1 rfl) ?_
  refine lv_imul hx hb dX11_rule_15 ?_
  refine lv_iload_n hx hb dX11_rule_16 rfl (lv_at hl 2 rfl) ?_
  refine lv_iadd hx hb dX11_rule_17 ?_
  obtain ⟨hb_1, hk⟩ := hk
  refine va_iast hx hb hK hP hD hS 10 0 rfl rfl (hb_1) dX11_rule_18 (fun H locs hP hD hS => ?_)
  have hP : va_P D vwCl (wM g (M.1, M.2.1, M.2.2.1, M.2.2.2.1, M.2.2.2.2.1, M.2.2.2.2.2.1, M.2.2.2.2.2.2.1, M.2.2.2.2.2.2.2.1, M.2.2.2.2.2.2.2.2.1, M.2.2.2.2.2.2.2.2.2.1, M.2.2.2.2.2.2.2.2.2.2.1, M.2.2.2.2.2.2.2.2.2.2.2.1, upd M.2.2.2.2.2.2.2.2.2.2.2.2.1 (M.2.2.2.2.2.2.2.2.2.2.2.2.2.1 - M.2.2.2.2.2.2.2.2.2.2.2.2.2.1 / 200 * 200).toNatClampNeg ((10 * a) + k), M.2.2.2.2.2.2.2.2.2.2.2.2.2.1, M.2.2.2.2.2.2.2.2.2.2.2.2.2.2.1, M.2.2.2.2.2.2.2.2.2.2.2.2.2.2.2.1, M.2.2.2.2.2.2.2.2.2.2.2.2.2.2.2.2)) H := hP
  have hD : va_D A (wM g (M.1, M.2.1, M.2.2.1, M.2.2.2.1, M.2.2.2.2.1, M.2.2.2.2.2.1, M.2.2.2.2.2.2.1, M.2.2.2.2.2.2.2.1, M.2.2.2.2.2.2.2.2.1, M.2.2.2.2.2.2.2.2.2.1, M.2.2.2.2.2.2.2.2.2.2.1, M.2.2.2.2.2.2.2.2.2.2.2.1, upd M.2.2.2.2.2.2.2.2.2.2.2.2.1 (M.2.2.2.2.2.2.2.2.2.2.2.2.2.1 - M.2.2.2.2.2.2.2.2.2.2.2.2.2.1 / 200 * 200).toNatClampNeg ((10 * a) + k), M.2.2.2.2.2.2.2.2.2.2.2.2.2.1, M.2.2.2.2.2.2.2.2.2.2.2.2.2.2.1, M.2.2.2.2.2.2.2.2.2.2.2.2.2.2.2.1, M.2.2.2.2.2.2.2.2.2.2.2.2.2.2.2.2)) := hD
  refine lv_aload_n hx hb dX11_rule_19 rfl (lv_at hl 0 rfl) ?_
  refine lv_dup hx hb dX11_rule_20 rfl ?_
  refine va_get (D := D) (ci := 12) (v := .int M.2.2.2.2.2.2.2.2.2.2.2.2.2.1) (C := RX11) (T := TX11) (N := 17) hx hb hg in_X11 hown hK hP 0 rfl rfl 13 (by decide) (hg _ g_699) (fun _ h9 => h9) rfl dX11_rule_21 ?_
  refine lv_iconst (v := 1) hx hb dX11_rule_24 (by decide) ?_
  refine lv_iadd hx hb dX11_rule_25 ?_
  refine va_put (D := D) (ci := 12) (v := .int (M.2.2.2.2.2.2.2.2.2.2.2.2.2.1 + 1)) (ty := .int) (C := RX11) (T := TX11) (N := 17) hx hb hg in_X11 tyX11 tyX11_ok nmX11 hown hK hP hD hS 0 rfl rfl 13 (by decide) (hg _ g_699) (fun _ h9 => h9) rfl (by decide +kernel) rfl rfl (Nat.le_of_ble_eq_true rfl) dX11_rule_26 (fun H locs hP hD hS => ?_)
  have hP : va_P D vwCl (wM g (M.1, M.2.1, M.2.2.1, M.2.2.2.1, M.2.2.2.2.1, M.2.2.2.2.2.1, M.2.2.2.2.2.2.1, M.2.2.2.2.2.2.2.1, M.2.2.2.2.2.2.2.2.1, M.2.2.2.2.2.2.2.2.2.1, M.2.2.2.2.2.2.2.2.2.2.1, M.2.2.2.2.2.2.2.2.2.2.2.1, upd M.2.2.2.2.2.2.2.2.2.2.2.2.1 (M.2.2.2.2.2.2.2.2.2.2.2.2.2.1 - M.2.2.2.2.2.2.2.2.2.2.2.2.2.1 / 200 * 200).toNatClampNeg ((10 * a) + k), (M.2.2.2.2.2.2.2.2.2.2.2.2.2.1 + 1), M.2.2.2.2.2.2.2.2.2.2.2.2.2.2.1, M.2.2.2.2.2.2.2.2.2.2.2.2.2.2.2.1, M.2.2.2.2.2.2.2.2.2.2.2.2.2.2.2.2)) H := hP
  have hD : va_D A (wM g (M.1, M.2.1, M.2.2.1, M.2.2.2.1, M.2.2.2.2.1, M.2.2.2.2.2.1, M.2.2.2.2.2.2.1, M.2.2.2.2.2.2.2.1, M.2.2.2.2.2.2.2.2.1, M.2.2.2.2.2.2.2.2.2.1, M.2.2.2.2.2.2.2.2.2.2.1, M.2.2.2.2.2.2.2.2.2.2.2.1, upd M.2.2.2.2.2.2.2.2.2.2.2.2.1 (M.2.2.2.2.2.2.2.2.2.2.2.2.2.1 - M.2.2.2.2.2.2.2.2.2.2.2.2.2.1 / 200 * 200).toNatClampNeg ((10 * a) + k), (M.2.2.2.2.2.2.2.2.2.2.2.2.2.1 + 1), M.2.2.2.2.2.2.2.2.2.2.2.2.2.2.1, M.2.2.2.2.2.2.2.2.2.2.2.2.2.2.2.1, M.2.2.2.2.2.2.2.2.2.2.2.2.2.2.2.2)) := hD
  exact W.vret hx hb hr (fun t9 ht hW => ⟨⟨wM g (M.1, M.2.1, M.2.2.1, M.2.2.2.1, M.2.2.2.2.1, M.2.2.2.2.2.1, M.2.2.2.2.2.2.1, M.2.2.2.2.2.2.2.1, M.2.2.2.2.2.2.2.2.1, M.2.2.2.2.2.2.2.2.2.1, M.2.2.2.2.2.2.2.2.2.2.1, M.2.2.2.2.2.2.2.2.2.2.2.1, upd M.2.2.2.2.2.2.2.2.2.2.2.2.1 (M.2.2.2.2.2.2.2.2.2.2.2.2.2.1 - M.2.2.2.2.2.2.2.2.2.2.2.2.2.1 / 200 * 200).toNatClampNeg ((10 * a) + k), (M.2.2.2.2.2.2.2.2.2.2.2.2.2.1 + 1), M.2.2.2.2.2.2.2.2.2.2.2.2.2.2.1, M.2.2.2.2.2.2.2.2.2.2.2.2.2.2.2.1, M.2.2.2.2.2.2.2.2.2.2.2.2.2.2.2.2), rfl, rfl, by rw [ht]; exact hP, va_K.moved hW.alike hK, hD⟩, hS.F ht⟩) hS.2.2 dX11_rule_29

def fX11_timberR (M : MM) (a : Int32) (b : Int32) (z : Int32) : Int32 := (if (fX11_isInR a 1 1000) = 0 then (-102) else (if (fX11_isInR b 1 1000) = 0 then (-102) else (if M.2.1 = 60 then (-104) else ((M.2.1 + 1) - 1))))
def fX11_timberS (M : MM) (a : Int32) (b : Int32) (z : Int32) : MM := (if (fX11_isInR a 1 1000) = 0 then (0, M.2.1, M.2.2.1, M.2.2.2.1, M.2.2.2.2.1, M.2.2.2.2.2.1, M.2.2.2.2.2.2.1, M.2.2.2.2.2.2.2.1, M.2.2.2.2.2.2.2.2.1, M.2.2.2.2.2.2.2.2.2.1, M.2.2.2.2.2.2.2.2.2.2.1, M.2.2.2.2.2.2.2.2.2.2.2.1, M.2.2.2.2.2.2.2.2.2.2.2.2.1, M.2.2.2.2.2.2.2.2.2.2.2.2.2.1, M.2.2.2.2.2.2.2.2.2.2.2.2.2.2.1, M.2.2.2.2.2.2.2.2.2.2.2.2.2.2.2.1, M.2.2.2.2.2.2.2.2.2.2.2.2.2.2.2.2) else (if (fX11_isInR b 1 1000) = 0 then (0, M.2.1, M.2.2.1, M.2.2.2.1, M.2.2.2.2.1, M.2.2.2.2.2.1, M.2.2.2.2.2.2.1, M.2.2.2.2.2.2.2.1, M.2.2.2.2.2.2.2.2.1, M.2.2.2.2.2.2.2.2.2.1, M.2.2.2.2.2.2.2.2.2.2.1, M.2.2.2.2.2.2.2.2.2.2.2.1, M.2.2.2.2.2.2.2.2.2.2.2.2.1, M.2.2.2.2.2.2.2.2.2.2.2.2.2.1, M.2.2.2.2.2.2.2.2.2.2.2.2.2.2.1, M.2.2.2.2.2.2.2.2.2.2.2.2.2.2.2.1, M.2.2.2.2.2.2.2.2.2.2.2.2.2.2.2.2) else (if M.2.1 = 60 then (0, M.2.1, M.2.2.1, M.2.2.2.1, M.2.2.2.2.1, M.2.2.2.2.2.1, M.2.2.2.2.2.2.1, M.2.2.2.2.2.2.2.1, M.2.2.2.2.2.2.2.2.1, M.2.2.2.2.2.2.2.2.2.1, M.2.2.2.2.2.2.2.2.2.2.1, M.2.2.2.2.2.2.2.2.2.2.2.1, M.2.2.2.2.2.2.2.2.2.2.2.2.1, M.2.2.2.2.2.2.2.2.2.2.2.2.2.1, M.2.2.2.2.2.2.2.2.2.2.2.2.2.2.1, M.2.2.2.2.2.2.2.2.2.2.2.2.2.2.2.1, M.2.2.2.2.2.2.2.2.2.2.2.2.2.2.2.2) else (0, (M.2.1 + 1), upd M.2.2.1 M.2.1.toNatClampNeg a, upd M.2.2.2.1 M.2.1.toNatClampNeg b, upd M.2.2.2.2.1 M.2.1.toNatClampNeg (vp_nar .boolean z), upd M.2.2.2.2.2.1 M.2.1.toNatClampNeg (-1), M.2.2.2.2.2.2.1, M.2.2.2.2.2.2.2.1, M.2.2.2.2.2.2.2.2.1, M.2.2.2.2.2.2.2.2.2.1, M.2.2.2.2.2.2.2.2.2.2.1, M.2.2.2.2.2.2.2.2.2.2.2.1, M.2.2.2.2.2.2.2.2.2.2.2.2.1, M.2.2.2.2.2.2.2.2.2.2.2.2.2.1, M.2.2.2.2.2.2.2.2.2.2.2.2.2.2.1, M.2.2.2.2.2.2.2.2.2.2.2.2.2.2.2.1, M.2.2.2.2.2.2.2.2.2.2.2.2.2.2.2.2))))
def fX11_timberK (M : MM) (a : Int32) (b : Int32) (z : Int32) : Prop := (((fX11_isInR a 1 1000) = 0 → True) ∧ (¬ (fX11_isInR a 1 1000) = 0 → (((fX11_isInR b 1 1000) = 0 → True) ∧ (¬ (fX11_isInR b 1 1000) = 0 → ((M.2.1 = 60 → True) ∧ (¬ M.2.1 = 60 → (vp_in M.2.1 60 ∧ True)))))))
set_option maxHeartbeats 4000000 in
set_option maxRecDepth 100000 in
theorem c_X11_timber (l : Launch) (D : va_G) (g : MA) (M : MM) (a : Int32) (b : Int32) (z : Int32) (hk : fX11_timberK M a b z) : ctI l D (tyM g) yX11_timber (wd yX11_timber cX11_timber 4 (Option.some Jvm.ClassFile.FieldType.int)) { frames := 1, cells := 0, slots := 0, locals := 22 } [.ref g.mo, .int a, .int b, .int z] (wM g M) (fun r w => r = fX11_timberR M a b z ∧ w = wM g (fX11_timberS M a b z)) := by
  intro sz
  refine Met.ofW (cc := cX11_timber) (maxL := 4) (ret := (Option.some Jvm.ClassFile.FieldType.int)) (by decide) rfl ?_
  intro p e s m args below meth c s₁ B hml hv
  obtain ⟨rfl, hsz, hP, hK, hD0⟩ := hv
  have hx := B.exec
  have hb := B.bytes
  have hr := B.returns
  have hts := atoms_spec (ws := (wd yX11_timber cX11_timber 4 (Option.some Jvm.ClassFile.FieldType.int))) B.pre
  have hg := Tb.of hts
  have hown : s.vm.findClass RX11 = some m.cls := findClass_of_methodNamed B.named
  have hlocks := B.notSynchronized
  subst hsz
  have hD := hD0.self (sz := s.heap.size)
  generalize hAe : va_A (wM g M) s.heap.size = A at hD ⊢
  have hA : ∀ q : Nat, s.heap.size ≤ q → A q := fun q h => by rw [← hAe]; exact Or.inr h
  have hS : va_S A s.heap s.heap [] := va_S.rf
  have hP : va_P D vwCl (wM g M) s.heap := hP
  have hl := lv_entry ([.ref g.mo, .int a, .int b, .int z]) (n := 4) (Nat.le_of_ble_eq_true rfl)
  rw [lg_entry_eq]
  generalize (lg_sl ([.ref g.mo, .int a, .int b, .int z]) ++ List.replicate (4 - (lg_sl ([.ref g.mo, .int a, .int b, .int z])).length) Slot.unset).toArray = ls at hl ⊢
  have hl : lv_has ls 4 [(0, .ref g.mo), (1, .int a), (2, .int b), (3, .int z)] := hl
  unfold fX11_timberK at hk
  refine lv_aload_n hx hb dX11_timber_0 rfl (lv_at hl 0 rfl) ?_
  refine lv_iconst (v := 0) hx hb dX11_timber_1 (by decide) ?_
  refine va_put (D := D) (ci := 12) (v := .int 0) (ty := .int) (C := RX11) (T := TX11) (N := 17) hx hb hg in_X11 tyX11 tyX11_ok nmX11 hown hK hP hD hS 0 rfl rfl 0 (by decide) (hg _ g_686) (fun _ h9 => h9) rfl (by decide +kernel) rfl rfl (Nat.le_of_ble_eq_true rfl) dX11_timber_2 (fun H locs hP hD hS => ?_)
  have hP : va_P D vwCl (wM g (0, M.2.1, M.2.2.1, M.2.2.2.1, M.2.2.2.2.1, M.2.2.2.2.2.1, M.2.2.2.2.2.2.1, M.2.2.2.2.2.2.2.1, M.2.2.2.2.2.2.2.2.1, M.2.2.2.2.2.2.2.2.2.1, M.2.2.2.2.2.2.2.2.2.2.1, M.2.2.2.2.2.2.2.2.2.2.2.1, M.2.2.2.2.2.2.2.2.2.2.2.2.1, M.2.2.2.2.2.2.2.2.2.2.2.2.2.1, M.2.2.2.2.2.2.2.2.2.2.2.2.2.2.1, M.2.2.2.2.2.2.2.2.2.2.2.2.2.2.2.1, M.2.2.2.2.2.2.2.2.2.2.2.2.2.2.2.2)) H := hP
  have hD : va_D A (wM g (0, M.2.1, M.2.2.1, M.2.2.2.1, M.2.2.2.2.1, M.2.2.2.2.2.1, M.2.2.2.2.2.2.1, M.2.2.2.2.2.2.2.1, M.2.2.2.2.2.2.2.2.1, M.2.2.2.2.2.2.2.2.2.1, M.2.2.2.2.2.2.2.2.2.2.1, M.2.2.2.2.2.2.2.2.2.2.2.1, M.2.2.2.2.2.2.2.2.2.2.2.2.1, M.2.2.2.2.2.2.2.2.2.2.2.2.2.1, M.2.2.2.2.2.2.2.2.2.2.2.2.2.2.1, M.2.2.2.2.2.2.2.2.2.2.2.2.2.2.2.1, M.2.2.2.2.2.2.2.2.2.2.2.2.2.2.2.2)) := hD
  refine lv_iload_n hx hb dX11_timber_5 rfl (lv_at hl 1 rfl) ?_
  refine lv_iconst (v := 1) hx hb dX11_timber_6 (by decide) ?_
  refine lv_sipush (v := 1000) hx hb dX11_timber_7 (by decide) ?_
  refine z_ie (va_runS (As := [.int a, .int 1, .int 1000]) (rest := []) ⟨hx, hb, hml, hown, hts⟩ (c_X11_isIn l D (tyM g) a 1 1000 _) (z_St 3 hts g_748 g_4 g_746 g_747 ⟨by decide, by decide, by decide +kernel⟩ ⟨Nat.le_of_ble_eq_true rfl, Nat.le_of_ble_eq_true rfl⟩) (z_preS (hP.subm [] rfl) (hD.sub [] (by decide) rfl) hK) rfl rfl hl.1 rfl (lv_room (Nat.le_of_ble_eq_true rfl)) dX11_timber_10 ⟨Nat.le_of_ble_eq_true rfl, Nat.le_of_ble_eq_true rfl⟩) hP hD hS hA (wM g (0, M.2.1, M.2.2.1, M.2.2.2.1, M.2.2.2.2.1, M.2.2.2.2.2.1, M.2.2.2.2.2.2.1, M.2.2.2.2.2.2.2.1, M.2.2.2.2.2.2.2.2.1, M.2.2.2.2.2.2.2.2.2.1, M.2.2.2.2.2.2.2.2.2.2.1, M.2.2.2.2.2.2.2.2.2.2.2.1, M.2.2.2.2.2.2.2.2.2.2.2.2.1, M.2.2.2.2.2.2.2.2.2.2.2.2.2.1, M.2.2.2.2.2.2.2.2.2.2.2.2.2.2.1, M.2.2.2.2.2.2.2.2.2.2.2.2.2.2.2.1, M.2.2.2.2.2.2.2.2.2.2.2.2.2.2.2.2)) (wM g (0, M.2.1, M.2.2.1, M.2.2.2.1, M.2.2.2.2.1, M.2.2.2.2.2.1, M.2.2.2.2.2.2.1, M.2.2.2.2.2.2.2.1, M.2.2.2.2.2.2.2.2.1, M.2.2.2.2.2.2.2.2.2.1, M.2.2.2.2.2.2.2.2.2.2.1, M.2.2.2.2.2.2.2.2.2.2.2.1, M.2.2.2.2.2.2.2.2.2.2.2.2.1, M.2.2.2.2.2.2.2.2.2.2.2.2.2.1, M.2.2.2.2.2.2.2.2.2.2.2.2.2.2.1, M.2.2.2.2.2.2.2.2.2.2.2.2.2.2.2.1, M.2.2.2.2.2.2.2.2.2.2.2.2.2.2.2.2)) [] [0, 1, 2, 3, 4, 5, 6, 7, 8, 9, 10] [0, 1, 2, 3, 4, 5, 6, 7, 8, 9, 10] rfl rfl (by decide) (by decide) rfl (by decide) (fun H locs hP hD hS => ?_)
  refine lv_if_eq (tgt := 27) hx hb dX11_timber_13 (by decide) (fun c_1 => ?_) (fun c_1 => ?_)
  · -- (fX11_isInR a 1 1000) = 0
    have hk := hk.1 c_1
    refine lv_bipush (v := (-102)) hx hb dX11_timber_27 (by decide) ?_
    exact W.iret (v := (-102)) hx hb hr (fun t9 ht hW => ⟨⟨(-102), wM g (0, M.2.1, M.2.2.1, M.2.2.2.1, M.2.2.2.2.1, M.2.2.2.2.2.1, M.2.2.2.2.2.2.1, M.2.2.2.2.2.2.2.1, M.2.2.2.2.2.2.2.2.1, M.2.2.2.2.2.2.2.2.2.1, M.2.2.2.2.2.2.2.2.2.2.1, M.2.2.2.2.2.2.2.2.2.2.2.1, M.2.2.2.2.2.2.2.2.2.2.2.2.1, M.2.2.2.2.2.2.2.2.2.2.2.2.2.1, M.2.2.2.2.2.2.2.2.2.2.2.2.2.2.1, M.2.2.2.2.2.2.2.2.2.2.2.2.2.2.2.1, M.2.2.2.2.2.2.2.2.2.2.2.2.2.2.2.2), rfl, ⟨by simp only [fX11_timberR, if_pos c_1], by simp only [fX11_timberS, if_pos c_1]⟩, by rw [ht]; exact hP, va_K.moved hW.alike hK, hD⟩, hS.F ht⟩) hS.2.2 dX11_timber_29
  · -- not (fX11_isInR a 1 1000) = 0
    have hk := hk.2 c_1
    refine lv_iload_n hx hb dX11_timber_16 rfl (lv_at hl 2 rfl) ?_
    refine lv_iconst (v := 1) hx hb dX11_timber_17 (by decide) ?_
    refine lv_sipush (v := 1000) hx hb dX11_timber_18 (by decide) ?_
    refine z_ie (va_runS (As := [.int b, .int 1, .int 1000]) (rest := []) ⟨hx, hb, hml, hown, hts⟩ (c_X11_isIn l D (tyM g) b 1 1000 _) (z_St 3 hts g_748 g_4 g_746 g_747 ⟨by decide, by decide, by decide +kernel⟩ ⟨Nat.le_of_ble_eq_true rfl, Nat.le_of_ble_eq_true rfl⟩) (z_preS (hP.subm [] rfl) (hD.sub [] (by decide) rfl) hK) rfl rfl hl.1 rfl (lv_room (Nat.le_of_ble_eq_true rfl)) dX11_timber_21 ⟨Nat.le_of_ble_eq_true rfl, Nat.le_of_ble_eq_true rfl⟩) hP hD hS hA (wM g (0, M.2.1, M.2.2.1, M.2.2.2.1, M.2.2.2.2.1, M.2.2.2.2.2.1, M.2.2.2.2.2.2.1, M.2.2.2.2.2.2.2.1, M.2.2.2.2.2.2.2.2.1, M.2.2.2.2.2.2.2.2.2.1, M.2.2.2.2.2.2.2.2.2.2.1, M.2.2.2.2.2.2.2.2.2.2.2.1, M.2.2.2.2.2.2.2.2.2.2.2.2.1, M.2.2.2.2.2.2.2.2.2.2.2.2.2.1, M.2.2.2.2.2.2.2.2.2.2.2.2.2.2.1, M.2.2.2.2.2.2.2.2.2.2.2.2.2.2.2.1, M.2.2.2.2.2.2.2.2.2.2.2.2.2.2.2.2)) (wM g (0, M.2.1, M.2.2.1, M.2.2.2.1, M.2.2.2.2.1, M.2.2.2.2.2.1, M.2.2.2.2.2.2.1, M.2.2.2.2.2.2.2.1, M.2.2.2.2.2.2.2.2.1, M.2.2.2.2.2.2.2.2.2.1, M.2.2.2.2.2.2.2.2.2.2.1, M.2.2.2.2.2.2.2.2.2.2.2.1, M.2.2.2.2.2.2.2.2.2.2.2.2.1, M.2.2.2.2.2.2.2.2.2.2.2.2.2.1, M.2.2.2.2.2.2.2.2.2.2.2.2.2.2.1, M.2.2.2.2.2.2.2.2.2.2.2.2.2.2.2.1, M.2.2.2.2.2.2.2.2.2.2.2.2.2.2.2.2)) [] [0, 1, 2, 3, 4, 5, 6, 7, 8, 9, 10] [0, 1, 2, 3, 4, 5, 6, 7, 8, 9, 10] rfl rfl (by decide) (by decide) rfl (by decide) (fun H locs hP hD hS => ?_)
    refine lv_if_ne (tgt := 30) hx hb dX11_timber_24 (by decide) (fun c_2 => ?_) (fun c_2 => ?_)
    · -- not (fX11_isInR b 1 1000) = 0
      have hk := hk.2 c_2
      refine lv_aload_n hx hb dX11_timber_30 rfl (lv_at hl 0 rfl) ?_
      refine va_get (D := D) (ci := 12) (v := .int M.2.1) (C := RX11) (T := TX11) (N := 17) hx hb hg in_X11 hown hK hP 0 rfl rfl 1 (by decide) (hg _ g_687) (fun _ h9 => h9) rfl dX11_timber_31 ?_
      refine lv_bipush (v := 60) hx hb dX11_timber_34 (by decide) ?_
      refine lv_icmp_ne (tgt := 42) hx hb dX11_timber_36 (by decide) (fun c_3 => ?_) (fun c_3 => ?_)
      · -- not M.2.1 = 60
        have hk := hk.2 c_3
        refine lv_aload_n hx hb dX11_timber_42 rfl (lv_at hl 0 rfl) ?_
        refine va_get (D := D) (ci := 12) (v := .ref g.al) (C := RX11) (T := TX11) (N := 17) hx hb hg in_X11 hown hK hP 0 rfl rfl 2 (by decide) (hg _ g_688) (fun _ h9 => h9) rfl dX11_timber_43 ?_
        refine lv_aload_n hx hb dX11_timber_46 rfl (lv_at hl 0 rfl) ?_
        refine va_get (D := D) (ci := 12) (v := .int M.2.1) (C := RX11) (T := TX11) (N := 17) hx hb hg in_X11 hown hK hP 0 rfl rfl 1 (by decide) (hg _ g_687) (fun _ h9 => h9) rfl dX11_timber_47 ?_
        refine lv_iload_n hx hb dX11_timber_50 rfl (lv_at hl 1 rfl) ?_
        obtain ⟨hb_4, hk⟩ := hk
        refine va_iast hx hb hK hP hD hS 1 0 rfl rfl (hb_4) dX11_timber_51 (fun H locs hP hD hS => ?_)
        have hP : va_P D vwCl (wM g (0, M.2.1, upd M.2.2.1 M.2.1.toNatClampNeg a, M.2.2.2.1, M.2.2.2.2.1, M.2.2.2.2.2.1, M.2.2.2.2.2.2.1, M.2.2.2.2.2.2.2.1, M.2.2.2.2.2.2.2.2.1, M.2.2.2.2.2.2.2.2.2.1, M.2.2.2.2.2.2.2.2.2.2.1, M.2.2.2.2.2.2.2.2.2.2.2.1, M.2.2.2.2.2.2.2.2.2.2.2.2.1, M.2.2.2.2.2.2.2.2.2.2.2.2.2.1, M.2.2.2.2.2.2.2.2.2.2.2.2.2.2.1, M.2.2.2.2.2.2.2.2.2.2.2.2.2.2.2.1, M.2.2.2.2.2.2.2.2.2.2.2.2.2.2.2.2)) H := hP
        have hD : va_D A (wM g (0, M.2.1, upd M.2.2.1 M.2.1.toNatClampNeg a, M.2.2.2.1, M.2.2.2.2.1, M.2.2.2.2.2.1, M.2.2.2.2.2.2.1, M.2.2.2.2.2.2.2.1, M.2.2.2.2.2.2.2.2.1, M.2.2.2.2.2.2.2.2.2.1, M.2.2.2.2.2.2.2.2.2.2.1, M.2.2.2.2.2.2.2.2.2.2.2.1, M.2.2.2.2.2.2.2.2.2.2.2.2.1, M.2.2.2.2.2.2.2.2.2.2.2.2.2.1, M.2.2.2.2.2.2.2.2.2.2.2.2.2.2.1, M.2.2.2.2.2.2.2.2.2.2.2.2.2.2.2.1, M.2.2.2.2.2.2.2.2.2.2.2.2.2.2.2.2)) := hD
        refine lv_aload_n hx hb dX11_timber_52 rfl (lv_at hl 0 rfl) ?_
        refine va_get (D := D) (ci := 12) (v := .ref g.aw) (C := RX11) (T := TX11) (N := 17) hx hb hg in_X11 hown hK hP 0 rfl rfl 3 (by decide) (hg _ g_689) (fun _ h9 => h9) rfl dX11_timber_53 ?_
        refine lv_aload_n hx hb dX11_timber_56 rfl (lv_at hl 0 rfl) ?_
        refine va_get (D := D) (ci := 12) (v := .int M.2.1) (C := RX11) (T := TX11) (N := 17) hx hb hg in_X11 hown hK hP 0 rfl rfl 1 (by decide) (hg _ g_687) (fun _ h9 => h9) rfl dX11_timber_57 ?_
        refine lv_iload_n hx hb dX11_timber_60 rfl (lv_at hl 2 rfl) ?_
        refine va_iast hx hb hK hP hD hS 2 0 rfl rfl (hb_4) dX11_timber_61 (fun H locs hP hD hS => ?_)
        have hP : va_P D vwCl (wM g (0, M.2.1, upd M.2.2.1 M.2.1.toNatClampNeg a, upd M.2.2.2.1 M.2.1.toNatClampNeg b, M.2.2.2.2.1, M.2.2.2.2.2.1, M.2.2.2.2.2.2.1, M.2.2.2.2.2.2.2.1, M.2.2.2.2.2.2.2.2.1, M.2.2.2.2.2.2.2.2.2.1, M.2.2.2.2.2.2.2.2.2.2.1, M.2.2.2.2.2.2.2.2.2.2.2.1, M.2.2.2.2.2.2.2.2.2.2.2.2.1, M.2.2.2.2.2.2.2.2.2.2.2.2.2.1, M.2.2.2.2.2.2.2.2.2.2.2.2.2.2.1, M.2.2.2.2.2.2.2.2.2.2.2.2.2.2.2.1, M.2.2.2.2.2.2.2.2.2.2.2.2.2.2.2.2)) H := hP
        have hD : va_D A (wM g (0, M.2.1, upd M.2.2.1 M.2.1.toNatClampNeg a, upd M.2.2.2.1 M.2.1.toNatClampNeg b, M.2.2.2.2.1, M.2.2.2.2.2.1, M.2.2.2.2.2.2.1, M.2.2.2.2.2.2.2.1, M.2.2.2.2.2.2.2.2.1, M.2.2.2.2.2.2.2.2.2.1, M.2.2.2.2.2.2.2.2.2.2.1, M.2.2.2.2.2.2.2.2.2.2.2.1, M.2.2.2.2.2.2.2.2.2.2.2.2.1, M.2.2.2.2.2.2.2.2.2.2.2.2.2.1, M.2.2.2.2.2.2.2.2.2.2.2.2.2.2.1, M.2.2.2.2.2.2.2.2.2.2.2.2.2.2.2.1, M.2.2.2.2.2.2.2.2.2.2.2.2.2.2.2.2)) := hD
        refine lv_aload_n hx hb dX11_timber_62 rfl (lv_at hl 0 rfl) ?_
        refine va_get (D := D) (ci := 12) (v := .ref g.az) (C := RX11) (T := TX11) (N := 17) hx hb hg in_X11 hown hK hP 0 rfl rfl 4 (by decide) (hg _ g_690) (fun _ h9 => h9) rfl dX11_timber_63 ?_
        refine lv_aload_n hx hb dX11_timber_66 rfl (lv_at hl 0 rfl) ?_
        refine va_get (D := D) (ci := 12) (v := .int M.2.1) (C := RX11) (T := TX11) (N := 17) hx hb hg in_X11 hown hK hP 0 rfl rfl 1 (by decide) (hg _ g_687) (fun _ h9 => h9) rfl dX11_timber_67 ?_
        refine lv_iload_n hx hb dX11_timber_70 rfl (lv_at hl 3 rfl) ?_
        refine va_zast hx hb hK hP hD hS 3 1 rfl rfl (hb_4) dX11_timber_71 (fun H locs hP hD hS => ?_)
        have hP : va_P D vwCl (wM g (0, M.2.1, upd M.2.2.1 M.2.1.toNatClampNeg a, upd M.2.2.2.1 M.2.1.toNatClampNeg b, upd M.2.2.2.2.1 M.2.1.toNatClampNeg (vp_nar .boolean z), M.2.2.2.2.2.1, M.2.2.2.2.2.2.1, M.2.2.2.2.2.2.2.1, M.2.2.2.2.2.2.2.2.1, M.2.2.2.2.2.2.2.2.2.1, M.2.2.2.2.2.2.2.2.2.2.1, M.2.2.2.2.2.2.2.2.2.2.2.1, M.2.2.2.2.2.2.2.2.2.2.2.2.1, M.2.2.2.2.2.2.2.2.2.2.2.2.2.1, M.2.2.2.2.2.2.2.2.2.2.2.2.2.2.1, M.2.2.2.2.2.2.2.2.2.2.2.2.2.2.2.1, M.2.2.2.2.2.2.2.2.2.2.2.2.2.2.2.2)) H := hP
        have hD : va_D A (wM g (0, M.2.1, upd M.2.2.1 M.2.1.toNatClampNeg a, upd M.2.2.2.1 M.2.1.toNatClampNeg b, upd M.2.2.2.2.1 M.2.1.toNatClampNeg (vp_nar .boolean z), M.2.2.2.2.2.1, M.2.2.2.2.2.2.1, M.2.2.2.2.2.2.2.1, M.2.2.2.2.2.2.2.2.1, M.2.2.2.2.2.2.2.2.2.1, M.2.2.2.2.2.2.2.2.2.2.1, M.2.2.2.2.2.2.2.2.2.2.2.1, M.2.2.2.2.2.2.2.2.2.2.2.2.1, M.2.2.2.2.2.2.2.2.2.2.2.2.2.1, M.2.2.2.2.2.2.2.2.2.2.2.2.2.2.1, M.2.2.2.2.2.2.2.2.2.2.2.2.2.2.2.1, M.2.2.2.2.2.2.2.2.2.2.2.2.2.2.2.2)) := hD
        refine lv_aload_n hx hb dX11_timber_72 rfl (lv_at hl 0 rfl) ?_
        refine va_get (D := D) (ci := 12) (v := .ref g.ap) (C := RX11) (T := TX11) (N := 17) hx hb hg in_X11 hown hK hP 0 rfl rfl 5 (by decide) (hg _ g_691) (fun _ h9 => h9) rfl dX11_timber_73 ?_
        refine lv_aload_n hx hb dX11_timber_76 rfl (lv_at hl 0 rfl) ?_
        refine va_get (D := D) (ci := 12) (v := .int M.2.1) (C := RX11) (T := TX11) (N := 17) hx hb hg in_X11 hown hK hP 0 rfl rfl 1 (by decide) (hg _ g_687) (fun _ h9 => h9) rfl dX11_timber_77 ?_
        refine lv_iconst (v := (-1)) hx hb dX11_timber_80 (by decide) ?_
        refine va_iast hx hb hK hP hD hS 4 0 rfl rfl (hb_4) dX11_timber_81 (fun H locs hP hD hS => ?_)
        have hP : va_P D vwCl (wM g (0, M.2.1, upd M.2.2.1 M.2.1.toNatClampNeg a, upd M.2.2.2.1 M.2.1.toNatClampNeg b, upd M.2.2.2.2.1 M.2.1.toNatClampNeg (vp_nar .boolean z), upd M.2.2.2.2.2.1 M.2.1.toNatClampNeg (-1), M.2.2.2.2.2.2.1, M.2.2.2.2.2.2.2.1, M.2.2.2.2.2.2.2.2.1, M.2.2.2.2.2.2.2.2.2.1, M.2.2.2.2.2.2.2.2.2.2.1, M.2.2.2.2.2.2.2.2.2.2.2.1, M.2.2.2.2.2.2.2.2.2.2.2.2.1, M.2.2.2.2.2.2.2.2.2.2.2.2.2.1, M.2.2.2.2.2.2.2.2.2.2.2.2.2.2.1, M.2.2.2.2.2.2.2.2.2.2.2.2.2.2.2.1, M.2.2.2.2.2.2.2.2.2.2.2.2.2.2.2.2)) H := hP
        have hD : va_D A (wM g (0, M.2.1, upd M.2.2.1 M.2.1.toNatClampNeg a, upd M.2.2.2.1 M.2.1.toNatClampNeg b, upd M.2.2.2.2.1 M.2.1.toNatClampNeg (vp_nar .boolean z), upd M.2.2.2.2.2.1 M.2.1.toNatClampNeg (-1), M.2.2.2.2.2.2.1, M.2.2.2.2.2.2.2.1, M.2.2.2.2.2.2.2.2.1, M.2.2.2.2.2.2.2.2.2.1, M.2.2.2.2.2.2.2.2.2.2.1, M.2.2.2.2.2.2.2.2.2.2.2.1, M.2.2.2.2.2.2.2.2.2.2.2.2.1, M.2.2.2.2.2.2.2.2.2.2.2.2.2.1, M.2.2.2.2.2.2.2.2.2.2.2.2.2.2.1, M.2.2.2.2.2.2.2.2.2.2.2.2.2.2.2.1, M.2.2.2.2.2.2.2.2.2.2.2.2.2.2.2.2)) := hD
        refine lv_aload_n hx hb dX11_timber_82 rfl (lv_at hl 0 rfl) ?_
        refine lv_dup hx hb dX11_timber_83 rfl ?_
        refine va_get (D := D) (ci := 12) (v := .int M.2.1) (C := RX11) (T := TX11) (N := 17) hx hb hg in_X11 hown hK hP 0 rfl rfl 1 (by decide) (hg _ g_687) (fun _ h9 => h9) rfl dX11_timber_84 ?_
        refine lv_iconst (v := 1) hx hb dX11_timber_87 (by decide) ?_
        refine lv_iadd hx hb dX11_timber_88 ?_
        refine va_put (D := D) (ci := 12) (v := .int (M.2.1 + 1)) (ty := .int) (C := RX11) (T := TX11) (N := 17) hx hb hg in_X11 tyX11 tyX11_ok nmX11 hown hK hP hD hS 0 rfl rfl 1 (by decide) (hg _ g_687) (fun _ h9 => h9) rfl (by decide +kernel) rfl rfl (Nat.le_of_ble_eq_true rfl) dX11_timber_89 (fun H locs hP hD hS => ?_)
        have hP : va_P D vwCl (wM g (0, (M.2.1 + 1), upd M.2.2.1 M.2.1.toNatClampNeg a, upd M.2.2.2.1 M.2.1.toNatClampNeg b, upd M.2.2.2.2.1 M.2.1.toNatClampNeg (vp_nar .boolean z), upd M.2.2.2.2.2.1 M.2.1.toNatClampNeg (-1), M.2.2.2.2.2.2.1, M.2.2.2.2.2.2.2.1, M.2.2.2.2.2.2.2.2.1, M.2.2.2.2.2.2.2.2.2.1, M.2.2.2.2.2.2.2.2.2.2.1, M.2.2.2.2.2.2.2.2.2.2.2.1, M.2.2.2.2.2.2.2.2.2.2.2.2.1, M.2.2.2.2.2.2.2.2.2.2.2.2.2.1, M.2.2.2.2.2.2.2.2.2.2.2.2.2.2.1, M.2.2.2.2.2.2.2.2.2.2.2.2.2.2.2.1, M.2.2.2.2.2.2.2.2.2.2.2.2.2.2.2.2)) H := hP
        have hD : va_D A (wM g (0, (M.2.1 + 1), upd M.2.2.1 M.2.1.toNatClampNeg a, upd M.2.2.2.1 M.2.1.toNatClampNeg b, upd M.2.2.2.2.1 M.2.1.toNatClampNeg (vp_nar .boolean z), upd M.2.2.2.2.2.1 M.2.1.toNatClampNeg (-1), M.2.2.2.2.2.2.1, M.2.2.2.2.2.2.2.1, M.2.2.2.2.2.2.2.2.1, M.2.2.2.2.2.2.2.2.2.1, M.2.2.2.2.2.2.2.2.2.2.1, M.2.2.2.2.2.2.2.2.2.2.2.1, M.2.2.2.2.2.2.2.2.2.2.2.2.1, M.2.2.2.2.2.2.2.2.2.2.2.2.2.1, M.2.2.2.2.2.2.2.2.2.2.2.2.2.2.1, M.2.2.2.2.2.2.2.2.2.2.2.2.2.2.2.1, M.2.2.2.2.2.2.2.2.2.2.2.2.2.2.2.2)) := hD
        refine lv_aload_n hx hb dX11_timber_92 rfl (lv_at hl 0 rfl) ?_
        refine va_get (D := D) (ci := 12) (v := .int (M.2.1 + 1)) (C := RX11) (T := TX11) (N := 17) hx hb hg in_X11 hown hK hP 0 rfl rfl 1 (by decide) (hg _ g_687) (fun _ h9 => h9) rfl dX11_timber_93 ?_
        refine lv_iconst (v := 1) hx hb dX11_timber_96 (by decide) ?_
        refine lv_isub hx hb dX11_timber_97 ?_
        exact W.iret (v := ((M.2.1 + 1) - 1)) hx hb hr (fun t9 ht hW => ⟨⟨((M.2.1 + 1) - 1), wM g (0, (M.2.1 + 1), upd M.2.2.1 M.2.1.toNatClampNeg a, upd M.2.2.2.1 M.2.1.toNatClampNeg b, upd M.2.2.2.2.1 M.2.1.toNatClampNeg (vp_nar .boolean z), upd M.2.2.2.2.2.1 M.2.1.toNatClampNeg (-1), M.2.2.2.2.2.2.1, M.2.2.2.2.2.2.2.1, M.2.2.2.2.2.2.2.2.1, M.2.2.2.2.2.2.2.2.2.1, M.2.2.2.2.2.2.2.2.2.2.1, M.2.2.2.2.2.2.2.2.2.2.2.1, M.2.2.2.2.2.2.2.2.2.2.2.2.1, M.2.2.2.2.2.2.2.2.2.2.2.2.2.1, M.2.2.2.2.2.2.2.2.2.2.2.2.2.2.1, M.2.2.2.2.2.2.2.2.2.2.2.2.2.2.2.1, M.2.2.2.2.2.2.2.2.2.2.2.2.2.2.2.2), rfl, ⟨by simp only [fX11_timberR, if_neg c_1, if_neg c_2, if_neg c_3], by simp only [fX11_timberS, if_neg c_1, if_neg c_2, if_neg c_3]⟩, by rw [ht]; exact hP, va_K.moved hW.alike hK, hD⟩, hS.F ht⟩) hS.2.2 dX11_timber_98
      · -- M.2.1 = 60
        have hk := hk.1 c_3
        refine lv_bipush (v := (-104)) hx hb dX11_timber_39 (by decide) ?_
        exact W.iret (v := (-104)) hx hb hr (fun t9 ht hW => ⟨⟨(-104), wM g (0, M.2.1, M.2.2.1, M.2.2.2.1, M.2.2.2.2.1, M.2.2.2.2.2.1, M.2.2.2.2.2.2.1, M.2.2.2.2.2.2.2.1, M.2.2.2.2.2.2.2.2.1, M.2.2.2.2.2.2.2.2.2.1, M.2.2.2.2.2.2.2.2.2.2.1, M.2.2.2.2.2.2.2.2.2.2.2.1, M.2.2.2.2.2.2.2.2.2.2.2.2.1, M.2.2.2.2.2.2.2.2.2.2.2.2.2.1, M.2.2.2.2.2.2.2.2.2.2.2.2.2.2.1, M.2.2.2.2.2.2.2.2.2.2.2.2.2.2.2.1, M.2.2.2.2.2.2.2.2.2.2.2.2.2.2.2.2), rfl, ⟨by simp only [fX11_timberR, if_neg c_1, if_neg c_2, if_pos c_3], by simp only [fX11_timberS, if_neg c_1, if_neg c_2, if_pos c_3]⟩, by rw [ht]; exact hP, va_K.moved hW.alike hK, hD⟩, hS.F ht⟩) hS.2.2 dX11_timber_41
    · -- (fX11_isInR b 1 1000) = 0
      have hk := hk.1 c_2
      refine lv_bipush (v := (-102)) hx hb dX11_timber_27 (by decide) ?_
      exact W.iret (v := (-102)) hx hb hr (fun t9 ht hW => ⟨⟨(-102), wM g (0, M.2.1, M.2.2.1, M.2.2.2.1, M.2.2.2.2.1, M.2.2.2.2.2.1, M.2.2.2.2.2.2.1, M.2.2.2.2.2.2.2.1, M.2.2.2.2.2.2.2.2.1, M.2.2.2.2.2.2.2.2.2.1, M.2.2.2.2.2.2.2.2.2.2.1, M.2.2.2.2.2.2.2.2.2.2.2.1, M.2.2.2.2.2.2.2.2.2.2.2.2.1, M.2.2.2.2.2.2.2.2.2.2.2.2.2.1, M.2.2.2.2.2.2.2.2.2.2.2.2.2.2.1, M.2.2.2.2.2.2.2.2.2.2.2.2.2.2.2.1, M.2.2.2.2.2.2.2.2.2.2.2.2.2.2.2.2), rfl, ⟨by simp only [fX11_timberR, if_neg c_1, if_pos c_2], by simp only [fX11_timberS, if_neg c_1, if_pos c_2]⟩, by rw [ht]; exact hP, va_K.moved hW.alike hK, hD⟩, hS.F ht⟩) hS.2.2 dX11_timber_29

def fX11_pileR (M : MM) (a : Int32) (b : Int32) (z : Int32) : Int32 := (if (fX11_isInR a 0 7) = 0 then (-102) else (if (fX11_isInR b 1 12) = 0 then (-102) else (if (fX11_isInR z 0 20000) = 0 then (-102) else (if M.2.2.2.2.2.2.1 = 12 then (-104) else ((M.2.2.2.2.2.2.1 + 1) - 1)))))
def fX11_pileS (M : MM) (a : Int32) (b : Int32) (z : Int32) : MM := (if (fX11_isInR a 0 7) = 0 then (0, M.2.1, M.2.2.1, M.2.2.2.1, M.2.2.2.2.1, M.2.2.2.2.2.1, M.2.2.2.2.2.2.1, M.2.2.2.2.2.2.2.1, M.2.2.2.2.2.2.2.2.1, M.2.2.2.2.2.2.2.2.2.1, M.2.2.2.2.2.2.2.2.2.2.1, M.2.2.2.2.2.2.2.2.2.2.2.1, M.2.2.2.2.2.2.2.2.2.2.2.2.1, M.2.2.2.2.2.2.2.2.2.2.2.2.2.1, M.2.2.2.2.2.2.2.2.2.2.2.2.2.2.1, M.2.2.2.2.2.2.2.2.2.2.2.2.2.2.2.1, M.2.2.2.2.2.2.2.2.2.2.2.2.2.2.2.2) else (if (fX11_isInR b 1 12) = 0 then (0, M.2.1, M.2.2.1, M.2.2.2.1, M.2.2.2.2.1, M.2.2.2.2.2.1, M.2.2.2.2.2.2.1, M.2.2.2.2.2.2.2.1, M.2.2.2.2.2.2.2.2.1, M.2.2.2.2.2.2.2.2.2.1, M.2.2.2.2.2.2.2.2.2.2.1, M.2.2.2.2.2.2.2.2.2.2.2.1, M.2.2.2.2.2.2.2.2.2.2.2.2.1, M.2.2.2.2.2.2.2.2.2.2.2.2.2.1, M.2.2.2.2.2.2.2.2.2.2.2.2.2.2.1, M.2.2.2.2.2.2.2.2.2.2.2.2.2.2.2.1, M.2.2.2.2.2.2.2.2.2.2.2.2.2.2.2.2) else (if (fX11_isInR z 0 20000) = 0 then (0, M.2.1, M.2.2.1, M.2.2.2.1, M.2.2.2.2.1, M.2.2.2.2.2.1, M.2.2.2.2.2.2.1, M.2.2.2.2.2.2.2.1, M.2.2.2.2.2.2.2.2.1, M.2.2.2.2.2.2.2.2.2.1, M.2.2.2.2.2.2.2.2.2.2.1, M.2.2.2.2.2.2.2.2.2.2.2.1, M.2.2.2.2.2.2.2.2.2.2.2.2.1, M.2.2.2.2.2.2.2.2.2.2.2.2.2.1, M.2.2.2.2.2.2.2.2.2.2.2.2.2.2.1, M.2.2.2.2.2.2.2.2.2.2.2.2.2.2.2.1, M.2.2.2.2.2.2.2.2.2.2.2.2.2.2.2.2) else (if M.2.2.2.2.2.2.1 = 12 then (0, M.2.1, M.2.2.1, M.2.2.2.1, M.2.2.2.2.1, M.2.2.2.2.2.1, M.2.2.2.2.2.2.1, M.2.2.2.2.2.2.2.1, M.2.2.2.2.2.2.2.2.1, M.2.2.2.2.2.2.2.2.2.1, M.2.2.2.2.2.2.2.2.2.2.1, M.2.2.2.2.2.2.2.2.2.2.2.1, M.2.2.2.2.2.2.2.2.2.2.2.2.1, M.2.2.2.2.2.2.2.2.2.2.2.2.2.1, M.2.2.2.2.2.2.2.2.2.2.2.2.2.2.1, M.2.2.2.2.2.2.2.2.2.2.2.2.2.2.2.1, M.2.2.2.2.2.2.2.2.2.2.2.2.2.2.2.2) else (0, M.2.1, M.2.2.1, M.2.2.2.1, M.2.2.2.2.1, M.2.2.2.2.2.1, (M.2.2.2.2.2.2.1 + 1), upd M.2.2.2.2.2.2.2.1 M.2.2.2.2.2.2.1.toNatClampNeg a, upd M.2.2.2.2.2.2.2.2.1 M.2.2.2.2.2.2.1.toNatClampNeg b, upd M.2.2.2.2.2.2.2.2.2.1 M.2.2.2.2.2.2.1.toNatClampNeg z, upd M.2.2.2.2.2.2.2.2.2.2.1 M.2.2.2.2.2.2.1.toNatClampNeg 0, M.2.2.2.2.2.2.2.2.2.2.2.1, M.2.2.2.2.2.2.2.2.2.2.2.2.1, M.2.2.2.2.2.2.2.2.2.2.2.2.2.1, M.2.2.2.2.2.2.2.2.2.2.2.2.2.2.1, M.2.2.2.2.2.2.2.2.2.2.2.2.2.2.2.1, M.2.2.2.2.2.2.2.2.2.2.2.2.2.2.2.2)))))
def fX11_pileK (M : MM) (a : Int32) (b : Int32) (z : Int32) : Prop := (((fX11_isInR a 0 7) = 0 → True) ∧ (¬ (fX11_isInR a 0 7) = 0 → (((fX11_isInR b 1 12) = 0 → True) ∧ (¬ (fX11_isInR b 1 12) = 0 → (((fX11_isInR z 0 20000) = 0 → True) ∧ (¬ (fX11_isInR z 0 20000) = 0 → ((M.2.2.2.2.2.2.1 = 12 → True) ∧ (¬ M.2.2.2.2.2.2.1 = 12 → (vp_in M.2.2.2.2.2.2.1 12 ∧ True)))))))))
set_option maxHeartbeats 4000000 in
set_option maxRecDepth 100000 in
theorem c_X11_pile (l : Launch) (D : va_G) (g : MA) (M : MM) (a : Int32) (b : Int32) (z : Int32) (hk : fX11_pileK M a b z) : ctI l D (tyM g) yX11_pile (wd yX11_pile cX11_pile 4 (Option.some Jvm.ClassFile.FieldType.int)) { frames := 1, cells := 0, slots := 0, locals := 22 } [.ref g.mo, .int a, .int b, .int z] (wM g M) (fun r w => r = fX11_pileR M a b z ∧ w = wM g (fX11_pileS M a b z)) := by
  intro sz
  refine Met.ofW (cc := cX11_pile) (maxL := 4) (ret := (Option.some Jvm.ClassFile.FieldType.int)) (by decide) rfl ?_
  intro p e s m args below meth c s₁ B hml hv
  obtain ⟨rfl, hsz, hP, hK, hD0⟩ := hv
  have hx := B.exec
  have hb := B.bytes
  have hr := B.returns
  have hts := atoms_spec (ws := (wd yX11_pile cX11_pile 4 (Option.some Jvm.ClassFile.FieldType.int))) B.pre
  have hg := Tb.of hts
  have hown : s.vm.findClass RX11 = some m.cls := findClass_of_methodNamed B.named
  have hlocks := B.notSynchronized
  subst hsz
  have hD := hD0.self (sz := s.heap.size)
  generalize hAe : va_A (wM g M) s.heap.size = A at hD ⊢
  have hA : ∀ q : Nat, s.heap.size ≤ q → A q := fun q h => by rw [← hAe]; exact Or.inr h
  have hS : va_S A s.heap s.heap [] := va_S.rf
  have hP : va_P D vwCl (wM g M) s.heap := hP
  have hl := lv_entry ([.ref g.mo, .int a, .int b, .int z]) (n := 4) (Nat.le_of_ble_eq_true rfl)
  rw [lg_entry_eq]
  generalize (lg_sl ([.ref g.mo, .int a, .int b, .int z]) ++ List.replicate (4 - (lg_sl ([.ref g.mo, .int a, .int b, .int z])).length) Slot.unset).toArray = ls at hl ⊢
  have hl : lv_has ls 4 [(0, .ref g.mo), (1, .int a), (2, .int b), (3, .int z)] := hl
  unfold fX11_pileK at hk
  refine lv_aload_n hx hb dX11_pile_0 rfl (lv_at hl 0 rfl) ?_
  refine lv_iconst (v := 0) hx hb dX11_pile_1 (by decide) ?_
  refine va_put (D := D) (ci := 12) (v := .int 0) (ty := .int) (C := RX11) (T := TX11) (N := 17) hx hb hg in_X11 tyX11 tyX11_ok nmX11 hown hK hP hD hS 0 rfl rfl 0 (by decide) (hg _ g_686) (fun _ h9 => h9) rfl (by decide +kernel) rfl rfl (Nat.le_of_ble_eq_true rfl) dX11_pile_2 (fun H locs hP hD hS => ?_)
  have hP : va_P D vwCl (wM g (0, M.2.1, M.2.2.1, M.2.2.2.1, M.2.2.2.2.1, M.2.2.2.2.2.1, M.2.2.2.2.2.2.1, M.2.2.2.2.2.2.2.1, M.2.2.2.2.2.2.2.2.1, M.2.2.2.2.2.2.2.2.2.1, M.2.2.2.2.2.2.2.2.2.2.1, M.2.2.2.2.2.2.2.2.2.2.2.1, M.2.2.2.2.2.2.2.2.2.2.2.2.1, M.2.2.2.2.2.2.2.2.2.2.2.2.2.1, M.2.2.2.2.2.2.2.2.2.2.2.2.2.2.1, M.2.2.2.2.2.2.2.2.2.2.2.2.2.2.2.1, M.2.2.2.2.2.2.2.2.2.2.2.2.2.2.2.2)) H := hP
  have hD : va_D A (wM g (0, M.2.1, M.2.2.1, M.2.2.2.1, M.2.2.2.2.1, M.2.2.2.2.2.1, M.2.2.2.2.2.2.1, M.2.2.2.2.2.2.2.1, M.2.2.2.2.2.2.2.2.1, M.2.2.2.2.2.2.2.2.2.1, M.2.2.2.2.2.2.2.2.2.2.1, M.2.2.2.2.2.2.2.2.2.2.2.1, M.2.2.2.2.2.2.2.2.2.2.2.2.1, M.2.2.2.2.2.2.2.2.2.2.2.2.2.1, M.2.2.2.2.2.2.2.2.2.2.2.2.2.2.1, M.2.2.2.2.2.2.2.2.2.2.2.2.2.2.2.1, M.2.2.2.2.2.2.2.2.2.2.2.2.2.2.2.2)) := hD
  refine lv_iload_n hx hb dX11_pile_5 rfl (lv_at hl 1 rfl) ?_
  refine lv_iconst (v := 0) hx hb dX11_pile_6 (by decide) ?_
  refine lv_bipush (v := 7) hx hb dX11_pile_7 (by decide) ?_
  refine z_ie (va_runS (As := [.int a, .int 0, .int 7]) (rest := []) ⟨hx, hb, hml, hown, hts⟩ (c_X11_isIn l D (tyM g) a 0 7 _) (z_St 3 hts g_748 g_4 g_746 g_747 ⟨by decide, by decide, by decide +kernel⟩ ⟨Nat.le_of_ble_eq_true rfl, Nat.le_of_ble_eq_true rfl⟩) (z_preS (hP.subm [] rfl) (hD.sub [] (by decide) rfl) hK) rfl rfl hl.1 rfl (lv_room (Nat.le_of_ble_eq_true rfl)) dX11_pile_9 ⟨Nat.le_of_ble_eq_true rfl, Nat.le_of_ble_eq_true rfl⟩) hP hD hS hA (wM g (0, M.2.1, M.2.2.1, M.2.2.2.1, M.2.2.2.2.1, M.2.2.2.2.2.1, M.2.2.2.2.2.2.1, M.2.2.2.2.2.2.2.1, M.2.2.2.2.2.2.2.2.1, M.2.2.2.2.2.2.2.2.2.1, M.2.2.2.2.2.2.2.2.2.2.1, M.2.2.2.2.2.2.2.2.2.2.2.1, M.2.2.2.2.2.2.2.2.2.2.2.2.1, M.2.2.2.2.2.2.2.2.2.2.2.2.2.1, M.2.2.2.2.2.2.2.2.2.2.2.2.2.2.1, M.2.2.2.2.2.2.2.2.2.2.2.2.2.2.2.1, M.2.2.2.2.2.2.2.2.2.2.2.2.2.2.2.2)) (wM g (0, M.2.1, M.2.2.1, M.2.2.2.1, M.2.2.2.2.1, M.2.2.2.2.2.1, M.2.2.2.2.2.2.1, M.2.2.2.2.2.2.2.1, M.2.2.2.2.2.2.2.2.1, M.2.2.2.2.2.2.2.2.2.1, M.2.2.2.2.2.2.2.2.2.2.1, M.2.2.2.2.2.2.2.2.2.2.2.1, M.2.2.2.2.2.2.2.2.2.2.2.2.1, M.2.2.2.2.2.2.2.2.2.2.2.2.2.1, M.2.2.2.2.2.2.2.2.2.2.2.2.2.2.1, M.2.2.2.2.2.2.2.2.2.2.2.2.2.2.2.1, M.2.2.2.2.2.2.2.2.2.2.2.2.2.2.2.2)) [] [0, 1, 2, 3, 4, 5, 6, 7, 8, 9, 10] [0, 1, 2, 3, 4, 5, 6, 7, 8, 9, 10] rfl rfl (by decide) (by decide) rfl (by decide) (fun H locs hP hD hS => ?_)
  refine lv_if_eq (tgt := 36) hx hb dX11_pile_12 (by decide) (fun c_1 => ?_) (fun c_1 => ?_)
  · -- (fX11_isInR a 0 7) = 0
    have hk := hk.1 c_1
    refine lv_bipush (v := (-102)) hx hb dX11_pile_36 (by decide) ?_
    exact W.iret (v := (-102)) hx hb hr (fun t9 ht hW => ⟨⟨(-102), wM g (0, M.2.1, M.2.2.1, M.2.2.2.1, M.2.2.2.2.1, M.2.2.2.2.2.1, M.2.2.2.2.2.2.1, M.2.2.2.2.2.2.2.1, M.2.2.2.2.2.2.2.2.1, M.2.2.2.2.2.2.2.2.2.1, M.2.2.2.2.2.2.2.2.2.2.1, M.2.2.2.2.2.2.2.2.2.2.2.1, M.2.2.2.2.2.2.2.2.2.2.2.2.1, M.2.2.2.2.2.2.2.2.2.2.2.2.2.1, M.2.2.2.2.2.2.2.2.2.2.2.2.2.2.1, M.2.2.2.2.2.2.2.2.2.2.2.2.2.2.2.1, M.2.2.2.2.2.2.2.2.2.2.2.2.2.2.2.2), rfl, ⟨by simp only [fX11_pileR, if_pos c_1], by simp only [fX11_pileS, if_pos c_1]⟩, by rw [ht]; exact hP, va_K.moved hW.alike hK, hD⟩, hS.F ht⟩) hS.2.2 dX11_pile_38
  · -- not (fX11_isInR a 0 7) = 0
    have hk := hk.2 c_1
    refine lv_iload_n hx hb dX11_pile_15 rfl (lv_at hl 2 rfl) ?_
    refine lv_iconst (v := 1) hx hb dX11_pile_16 (by decide) ?_
    refine lv_bipush (v := 12) hx hb dX11_pile_17 (by decide) ?_
    refine z_ie (va_runS (As := [.int b, .int 1, .int 12]) (rest := []) ⟨hx, hb, hml, hown, hts⟩ (c_X11_isIn l D (tyM g) b 1 12 _) (z_St 3 hts g_748 g_4 g_746 g_747 ⟨by decide, by decide, by decide +kernel⟩ ⟨Nat.le_of_ble_eq_true rfl, Nat.le_of_ble_eq_true rfl⟩) (z_preS (hP.subm [] rfl) (hD.sub [] (by decide) rfl) hK) rfl rfl hl.1 rfl (lv_room (Nat.le_of_ble_eq_true rfl)) dX11_pile_19 ⟨Nat.le_of_ble_eq_true rfl, Nat.le_of_ble_eq_true rfl⟩) hP hD hS hA (wM g (0, M.2.1, M.2.2.1, M.2.2.2.1, M.2.2.2.2.1, M.2.2.2.2.2.1, M.2.2.2.2.2.2.1, M.2.2.2.2.2.2.2.1, M.2.2.2.2.2.2.2.2.1, M.2.2.2.2.2.2.2.2.2.1, M.2.2.2.2.2.2.2.2.2.2.1, M.2.2.2.2.2.2.2.2.2.2.2.1, M.2.2.2.2.2.2.2.2.2.2.2.2.1, M.2.2.2.2.2.2.2.2.2.2.2.2.2.1, M.2.2.2.2.2.2.2.2.2.2.2.2.2.2.1, M.2.2.2.2.2.2.2.2.2.2.2.2.2.2.2.1, M.2.2.2.2.2.2.2.2.2.2.2.2.2.2.2.2)) (wM g (0, M.2.1, M.2.2.1, M.2.2.2.1, M.2.2.2.2.1, M.2.2.2.2.2.1, M.2.2.2.2.2.2.1, M.2.2.2.2.2.2.2.1, M.2.2.2.2.2.2.2.2.1, M.2.2.2.2.2.2.2.2.2.1, M.2.2.2.2.2.2.2.2.2.2.1, M.2.2.2.2.2.2.2.2.2.2.2.1, M.2.2.2.2.2.2.2.2.2.2.2.2.1, M.2.2.2.2.2.2.2.2.2.2.2.2.2.1, M.2.2.2.2.2.2.2.2.2.2.2.2.2.2.1, M.2.2.2.2.2.2.2.2.2.2.2.2.2.2.2.1, M.2.2.2.2.2.2.2.2.2.2.2.2.2.2.2.2)) [] [0, 1, 2, 3, 4, 5, 6, 7, 8, 9, 10] [0, 1, 2, 3, 4, 5, 6, 7, 8, 9, 10] rfl rfl (by decide) (by decide) rfl (by decide) (fun H locs hP hD hS => ?_)
    refine lv_if_eq (tgt := 36) hx hb dX11_pile_22 (by decide) (fun c_2 => ?_) (fun c_2 => ?_)
    · -- (fX11_isInR b 1 12) = 0
      have hk := hk.1 c_2
      refine lv_bipush (v := (-102)) hx hb dX11_pile_36 (by decide) ?_
      exact W.iret (v := (-102)) hx hb hr (fun t9 ht hW => ⟨⟨(-102), wM g (0, M.2.1, M.2.2.1, M.2.2.2.1, M.2.2.2.2.1, M.2.2.2.2.2.1, M.2.2.2.2.2.2.1, M.2.2.2.2.2.2.2.1, M.2.2.2.2.2.2.2.2.1, M.2.2.2.2.2.2.2.2.2.1, M.2.2.2.2.2.2.2.2.2.2.1, M.2.2.2.2.2.2.2.2.2.2.2.1, M.2.2.2.2.2.2.2.2.2.2.2.2.1, M.2.2.2.2.2.2.2.2.2.2.2.2.2.1, M.2.2.2.2.2.2.2.2.2.2.2.2.2.2.1, M.2.2.2.2.2.2.2.2.2.2.2.2.2.2.2.1, M.2.2.2.2.2.2.2.2.2.2.2.2.2.2.2.2), rfl, ⟨by simp only [fX11_pileR, if_neg c_1, if_pos c_2], by simp only [fX11_pileS, if_neg c_1, if_pos c_2]⟩, by rw [ht]; exact hP, va_K.moved hW.alike hK, hD⟩, hS.F ht⟩) hS.2.2 dX11_pile_38
    · -- not (fX11_isInR b 1 12) = 0
      have hk := hk.2 c_2
      refine lv_iload_n hx hb dX11_pile_25 rfl (lv_at hl 3 rfl) ?_
      refine lv_iconst (v := 0) hx hb dX11_pile_26 (by decide) ?_
      refine lv_sipush (v := 20000) hx hb dX11_pile_27 (by decide) ?_
      refine z_ie (va_runS (As := [.int z, .int 0, .int 20000]) (rest := []) ⟨hx, hb, hml, hown, hts⟩ (c_X11_isIn l D (tyM g) z 0 20000 _) (z_St 3 hts g_748 g_4 g_746 g_747 ⟨by decide, by decide, by decide +kernel⟩ ⟨Nat.le_of_ble_eq_true rfl, Nat.le_of_ble_eq_true rfl⟩) (z_preS (hP.subm [] rfl) (hD.sub [] (by decide) rfl) hK) rfl rfl hl.1 rfl (lv_room (Nat.le_of_ble_eq_true rfl)) dX11_pile_30 ⟨Nat.le_of_ble_eq_true rfl, Nat.le_of_ble_eq_true rfl⟩) hP hD hS hA (wM g (0, M.2.1, M.2.2.1, M.2.2.2.1, M.2.2.2.2.1, M.2.2.2.2.2.1, M.2.2.2.2.2.2.1, M.2.2.2.2.2.2.2.1, M.2.2.2.2.2.2.2.2.1, M.2.2.2.2.2.2.2.2.2.1, M.2.2.2.2.2.2.2.2.2.2.1, M.2.2.2.2.2.2.2.2.2.2.2.1, M.2.2.2.2.2.2.2.2.2.2.2.2.1, M.2.2.2.2.2.2.2.2.2.2.2.2.2.1, M.2.2.2.2.2.2.2.2.2.2.2.2.2.2.1, M.2.2.2.2.2.2.2.2.2.2.2.2.2.2.2.1, M.2.2.2.2.2.2.2.2.2.2.2.2.2.2.2.2)) (wM g (0, M.2.1, M.2.2.1, M.2.2.2.1, M.2.2.2.2.1, M.2.2.2.2.2.1, M.2.2.2.2.2.2.1, M.2.2.2.2.2.2.2.1, M.2.2.2.2.2.2.2.2.1, M.2.2.2.2.2.2.2.2.2.1, M.2.2.2.2.2.2.2.2.2.2.1, M.2.2.2.2.2.2.2.2.2.2.2.1, M.2.2.2.2.2.2.2.2.2.2.2.2.1, M.2.2.2.2.2.2.2.2.2.2.2.2.2.1, M.2.2.2.2.2.2.2.2.2.2.2.2.2.2.1, M.2.2.2.2.2.2.2.2.2.2.2.2.2.2.2.1, M.2.2.2.2.2.2.2.2.2.2.2.2.2.2.2.2)) [] [0, 1, 2, 3, 4, 5, 6, 7, 8, 9, 10] [0, 1, 2, 3, 4, 5, 6, 7, 8, 9, 10] rfl rfl (by decide) (by decide) rfl (by decide) (fun H locs hP hD hS => ?_)
      refine lv_if_ne (tgt := 39) hx hb dX11_pile_33 (by decide) (fun c_3 => ?_) (fun c_3 => ?_)
      · -- not (fX11_isInR z 0 20000) = 0
        have hk := hk.2 c_3
        refine lv_aload_n hx hb dX11_pile_39 rfl (lv_at hl 0 rfl) ?_
        refine va_get (D := D) (ci := 12) (v := .int M.2.2.2.2.2.2.1) (C := RX11) (T := TX11) (N := 17) hx hb hg in_X11 hown hK hP 0 rfl rfl 6 (by decide) (hg _ g_692) (fun _ h9 => h9) rfl dX11_pile_40 ?_
        refine lv_bipush (v := 12) hx hb dX11_pile_43 (by decide) ?_
        refine lv_icmp_ne (tgt := 51) hx hb dX11_pile_45 (by decide) (fun c_4 => ?_) (fun c_4 => ?_)
        · -- not M.2.2.2.2.2.2.1 = 12
          have hk := hk.2 c_4
          refine lv_aload_n hx hb dX11_pile_51 rfl (lv_at hl 0 rfl) ?_
          refine va_get (D := D) (ci := 12) (v := .ref g.ak) (C := RX11) (T := TX11) (N := 17) hx hb hg in_X11 hown hK hP 0 rfl rfl 7 (by decide) (hg _ g_693) (fun _ h9 => h9) rfl dX11_pile_52 ?_
          refine lv_aload_n hx hb dX11_pile_55 rfl (lv_at hl 0 rfl) ?_
          refine va_get (D := D) (ci := 12) (v := .int M.2.2.2.2.2.2.1) (C := RX11) (T := TX11) (N := 17) hx hb hg in_X11 hown hK hP 0 rfl rfl 6 (by decide) (hg _ g_692) (fun _ h9 => h9) rfl dX11_pile_56 ?_
          refine lv_iload_n hx hb dX11_pile_59 rfl (lv_at hl 1 rfl) ?_
          obtain ⟨hb_5, hk⟩ := hk
          refine va_iast hx hb hK hP hD hS 5 0 rfl rfl (hb_5) dX11_pile_60 (fun H locs hP hD hS => ?_)
          have hP : va_P D vwCl (wM g (0, M.2.1, M.2.2.1, M.2.2.2.1, M.2.2.2.2.1, M.2.2.2.2.2.1, M.2.2.2.2.2.2.1, upd M.2.2.2.2.2.2.2.1 M.2.2.2.2.2.2.1.toNatClampNeg a, M.2.2.2.2.2.2.2.2.1, M.2.2.2.2.2.2.2.2.2.1, M.2.2.2.2.2.2.2.2.2.2.1, M.2.2.2.2.2.2.2.2.2.2.2.1, M.2.2.2.2.2.2.2.2.2.2.2.2.1, M.2.2.2.2.2.2.2.2.2.2.2.2.2.1, M.2.2.2.2.2.2.2.2.2.2.2.2.2.2.1, M.2.2.2.2.2.2.2.2.2.2.2.2.2.2.2.1, M.2.2.2.2.2.2.2.2.2.2.2.2.2.2.2.2)) H := hP
          have hD : va_D A (wM g (0, M.2.1, M.2.2.1, M.2.2.2.1, M.2.2.2.2.1, M.2.2.2.2.2.1, M.2.2.2.2.2.2.1, upd M.2.2.2.2.2.2.2.1 M.2.2.2.2.2.2.1.toNatClampNeg a, M.2.2.2.2.2.2.2.2.1, M.2.2.2.2.2.2.2.2.2.1, M.2.2.2.2.2.2.2.2.2.2.1, M.2.2.2.2.2.2.2.2.2.2.2.1, M.2.2.2.2.2.2.2.2.2.2.2.2.1, M.2.2.2.2.2.2.2.2.2.2.2.2.2.1, M.2.2.2.2.2.2.2.2.2.2.2.2.2.2.1, M.2.2.2.2.2.2.2.2.2.2.2.2.2.2.2.1, M.2.2.2.2.2.2.2.2.2.2.2.2.2.2.2.2)) := hD
          refine lv_aload_n hx hb dX11_pile_61 rfl (lv_at hl 0 rfl) ?_
          refine va_get (D := D) (ci := 12) (v := .ref g.ac) (C := RX11) (T := TX11) (N := 17) hx hb hg in_X11 hown hK hP 0 rfl rfl 8 (by decide) (hg _ g_694) (fun _ h9 => h9) rfl dX11_pile_62 ?_
          refine lv_aload_n hx hb dX11_pile_65 rfl (lv_at hl 0 rfl) ?_
          refine va_get (D := D) (ci := 12) (v := .int M.2.2.2.2.2.2.1) (C := RX11) (T := TX11) (N := 17) hx hb hg in_X11 hown hK hP 0 rfl rfl 6 (by decide) (hg _ g_692) (fun _ h9 => h9) rfl dX11_pile_66 ?_
          refine lv_iload_n hx hb dX11_pile_69 rfl (lv_at hl 2 rfl) ?_
          refine va_iast hx hb hK hP hD hS 6 0 rfl rfl (hb_5) dX11_pile_70 (fun H locs hP hD hS => ?_)
          have hP : va_P D vwCl (wM g (0, M.2.1, M.2.2.1, M.2.2.2.1, M.2.2.2.2.1, M.2.2.2.2.2.1, M.2.2.2.2.2.2.1, upd M.2.2.2.2.2.2.2.1 M.2.2.2.2.2.2.1.toNatClampNeg a, upd M.2.2.2.2.2.2.2.2.1 M.2.2.2.2.2.2.1.toNatClampNeg b, M.2.2.2.2.2.2.2.2.2.1, M.2.2.2.2.2.2.2.2.2.2.1, M.2.2.2.2.2.2.2.2.2.2.2.1, M.2.2.2.2.2.2.2.2.2.2.2.2.1, M.2.2.2.2.2.2.2.2.2.2.2.2.2.1, M.2.2.2.2.2.2.2.2.2.2.2.2.2.2.1, M.2.2.2.2.2.2.2.2.2.2.2.2.2.2.2.1, M.2.2.2.2.2.2.2.2.2.2.2.2.2.2.2.2)) H := hP
          have hD : va_D A (wM g (0, M.2.1, M.2.2.1, M.2.2.2.1, M.2.2.2.2.1, M.2.2.2.2.2.1, M.2.2.2.2.2.2.1, upd M.2.2.2.2.2.2.2.1 M.2.2.2.2.2.2.1.toNatClampNeg a, upd M.2.2.2.2.2.2.2.2.1 M.2.2.2.2.2.2.1.toNatClampNeg b, M.2.2.2.2.2.2.2.2.2.1, M.2.2.2.2.2.2.2.2.2.2.1, M.2.2.2.2.2.2.2.2.2.2.2.1, M.2.2.2.2.2.2.2.2.2.2.2.2.1, M.2.2.2.2.2.2.2.2.2.2.2.2.2.1, M.2.2.2.2.2.2.2.2.2.2.2.2.2.2.1, M.2.2.2.2.2.2.2.2.2.2.2.2.2.2.2.1, M.2.2.2.2.2.2.2.2.2.2.2.2.2.2.2.2)) := hD
          refine lv_aload_n hx hb dX11_pile_71 rfl (lv_at hl 0 rfl) ?_
          refine va_get (D := D) (ci := 12) (v := .ref g.am) (C := RX11) (T := TX11) (N := 17) hx hb hg in_X11 hown hK hP 0 rfl rfl 9 (by decide) (hg _ g_695) (fun _ h9 => h9) rfl dX11_pile_72 ?_
          refine lv_aload_n hx hb dX11_pile_75 rfl (lv_at hl 0 rfl) ?_
          refine va_get (D := D) (ci := 12) (v := .int M.2.2.2.2.2.2.1) (C := RX11) (T := TX11) (N := 17) hx hb hg in_X11 hown hK hP 0 rfl rfl 6 (by decide) (hg _ g_692) (fun _ h9 => h9) rfl dX11_pile_76 ?_
          refine lv_iload_n hx hb dX11_pile_79 rfl (lv_at hl 3 rfl) ?_
          refine va_iast hx hb hK hP hD hS 7 0 rfl rfl (hb_5) dX11_pile_80 (fun H locs hP hD hS => ?_)
          have hP : va_P D vwCl (wM g (0, M.2.1, M.2.2.1, M.2.2.2.1, M.2.2.2.2.1, M.2.2.2.2.2.1, M.2.2.2.2.2.2.1, upd M.2.2.2.2.2.2.2.1 M.2.2.2.2.2.2.1.toNatClampNeg a, upd M.2.2.2.2.2.2.2.2.1 M.2.2.2.2.2.2.1.toNatClampNeg b, upd M.2.2.2.2.2.2.2.2.2.1 M.2.2.2.2.2.2.1.toNatClampNeg z, M.2.2.2.2.2.2.2.2.2.2.1, M.2.2.2.2.2.2.2.2.2.2.2.1, M.2.2.2.2.2.2.2.2.2.2.2.2.1, M.2.2.2.2.2.2.2.2.2.2.2.2.2.1, M.2.2.2.2.2.2.2.2.2.2.2.2.2.2.1, M.2.2.2.2.2.2.2.2.2.2.2.2.2.2.2.1, M.2.2.2.2.2.2.2.2.2.2.2.2.2.2.2.2)) H := hP
          have hD : va_D A (wM g (0, M.2.1, M.2.2.1, M.2.2.2.1, M.2.2.2.2.1, M.2.2.2.2.2.1, M.2.2.2.2.2.2.1, upd M.2.2.2.2.2.2.2.1 M.2.2.2.2.2.2.1.toNatClampNeg a, upd M.2.2.2.2.2.2.2.2.1 M.2.2.2.2.2.2.1.toNatClampNeg b, upd M.2.2.2.2.2.2.2.2.2.1 M.2.2.2.2.2.2.1.toNatClampNeg z, M.2.2.2.2.2.2.2.2.2.2.1, M.2.2.2.2.2.2.2.2.2.2.2.1, M.2.2.2.2.2.2.2.2.2.2.2.2.1, M.2.2.2.2.2.2.2.2.2.2.2.2.2.1, M.2.2.2.2.2.2.2.2.2.2.2.2.2.2.1, M.2.2.2.2.2.2.2.2.2.2.2.2.2.2.2.1, M.2.2.2.2.2.2.2.2.2.2.2.2.2.2.2.2)) := hD
          refine lv_aload_n hx hb dX11_pile_81 rfl (lv_at hl 0 rfl) ?_
          refine va_get (D := D) (ci := 12) (v := .ref g.an) (C := RX11) (T := TX11) (N := 17) hx hb hg in_X11 hown hK hP 0 rfl rfl 10 (by decide) (hg _ g_696) (fun _ h9 => h9) rfl dX11_pile_82 ?_
          refine lv_aload_n hx hb dX11_pile_85 rfl (lv_at hl 0 rfl) ?_
          refine va_get (D := D) (ci := 12) (v := .int M.2.2.2.2.2.2.1) (C := RX11) (T := TX11) (N := 17) hx hb hg in_X11 hown hK hP 0 rfl rfl 6 (by decide) (hg _ g_692) (fun _ h9 => h9) rfl dX11_pile_86 ?_
          refine lv_iconst (v := 0) hx hb dX11_pile_89 (by decide) ?_
          refine va_iast hx hb hK hP hD hS 8 0 rfl rfl (hb_5) dX11_pile_90 (fun H locs hP hD hS => ?_)
          have hP : va_P D vwCl (wM g (0, M.2.1, M.2.2.1, M.2.2.2.1, M.2.2.2.2.1, M.2.2.2.2.2.1, M.2.2.2.2.2.2.1, upd M.2.2.2.2.2.2.2.1 M.2.2.2.2.2.2.1.toNatClampNeg a, upd M.2.2.2.2.2.2.2.2.1 M.2.2.2.2.2.2.1.toNatClampNeg b, upd M.2.2.2.2.2.2.2.2.2.1 M.2.2.2.2.2.2.1.toNatClampNeg z, upd M.2.2.2.2.2.2.2.2.2.2.1 M.2.2.2.2.2.2.1.toNatClampNeg 0, M.2.2.2.2.2.2.2.2.2.2.2.1, M.2.2.2.2.2.2.2.2.2.2.2.2.1, M.2.2.2.2.2.2.2.2.2.2.2.2.2.1, M.2.2.2.2.2.2.2.2.2.2.2.2.2.2.1, M.2.2.2.2.2.2.2.2.2.2.2.2.2.2.2.1, M.2.2.2.2.2.2.2.2.2.2.2.2.2.2.2.2)) H := hP
          have hD : va_D A (wM g (0, M.2.1, M.2.2.1, M.2.2.2.1, M.2.2.2.2.1, M.2.2.2.2.2.1, M.2.2.2.2.2.2.1, upd M.2.2.2.2.2.2.2.1 M.2.2.2.2.2.2.1.toNatClampNeg a, upd M.2.2.2.2.2.2.2.2.1 M.2.2.2.2.2.2.1.toNatClampNeg b, upd M.2.2.2.2.2.2.2.2.2.1 M.2.2.2.2.2.2.1.toNatClampNeg z, upd M.2.2.2.2.2.2.2.2.2.2.1 M.2.2.2.2.2.2.1.toNatClampNeg 0, M.2.2.2.2.2.2.2.2.2.2.2.1, M.2.2.2.2.2.2.2.2.2.2.2.2.1, M.2.2.2.2.2.2.2.2.2.2.2.2.2.1, M.2.2.2.2.2.2.2.2.2.2.2.2.2.2.1, M.2.2.2.2.2.2.2.2.2.2.2.2.2.2.2.1, M.2.2.2.2.2.2.2.2.2.2.2.2.2.2.2.2)) := hD
          refine lv_aload_n hx hb dX11_pile_91 rfl (lv_at hl 0 rfl) ?_
          refine lv_dup hx hb dX11_pile_92 rfl ?_
          refine va_get (D := D) (ci := 12) (v := .int M.2.2.2.2.2.2.1) (C := RX11) (T := TX11) (N := 17) hx hb hg in_X11 hown hK hP 0 rfl rfl 6 (by decide) (hg _ g_692) (fun _ h9 => h9) rfl dX11_pile_93 ?_
          refine lv_iconst (v := 1) hx hb dX11_pile_96 (by decide) ?_
          refine lv_iadd hx hb dX11_pile_97 ?_
          refine va_put (D := D) (ci := 12) (v := .int (M.2.2.2.2.2.2.1 + 1)) (ty := .int) (C := RX11) (T := TX11) (N := 17) hx hb hg in_X11 tyX11 tyX11_ok nmX11 hown hK hP hD hS 0 rfl rfl 6 (by decide) (hg _ g_692) (fun _ h9 => h9) rfl (by decide +kernel) rfl rfl (Nat.le_of_ble_eq_true rfl) dX11_pile_98 (fun H locs hP hD hS => ?_)
          have hP : va_P D vwCl (wM g (0, M.2.1, M.2.2.1, M.2.2.2.1, M.2.2.2.2.1, M.2.2.2.2.2.1, (M.2.2.2.2.2.2.1 + 1), upd M.2.2.2.2.2.2.2.1 M.2.2.2.2.2.2.1.toNatClampNeg a, upd M.2.2.2.2.2.2.2.2.1 M.2.2.2.2.2.2.1.toNatClampNeg b, upd M.2.2.2.2.2.2.2.2.2.1 M.2.2.2.2.2.2.1.toNatClampNeg z, upd M.2.2.2.2.2.2.2.2.2.2.1 M.2.2.2.2.2.2.1.toNatClampNeg 0, M.2.2.2.2.2.2.2.2.2.2.2.1, M.2.2.2.2.2.2.2.2.2.2.2.2.1, M.2.2.2.2.2.2.2.2.2.2.2.2.2.1, M.2.2.2.2.2.2.2.2.2.2.2.2.2.2.1, M.2.2.2.2.2.2.2.2.2.2.2.2.2.2.2.1, M.2.2.2.2.2.2.2.2.2.2.2.2.2.2.2.2)) H := hP
          have hD : va_D A (wM g (0, M.2.1, M.2.2.1, M.2.2.2.1, M.2.2.2.2.1, M.2.2.2.2.2.1, (M.2.2.2.2.2.2.1 + 1), upd M.2.2.2.2.2.2.2.1 M.2.2.2.2.2.2.1.toNatClampNeg a, upd M.2.2.2.2.2.2.2.2.1 M.2.2.2.2.2.2.1.toNatClampNeg b, upd M.2.2.2.2.2.2.2.2.2.1 M.2.2.2.2.2.2.1.toNatClampNeg z, upd M.2.2.2.2.2.2.2.2.2.2.1 M.2.2.2.2.2.2.1.toNatClampNeg 0, M.2.2.2.2.2.2.2.2.2.2.2.1, M.2.2.2.2.2.2.2.2.2.2.2.2.1, M.2.2.2.2.2.2.2.2.2.2.2.2.2.1, M.2.2.2.2.2.2.2.2.2.2.2.2.2.2.1, M.2.2.2.2.2.2.2.2.2.2.2.2.2.2.2.1, M.2.2.2.2.2.2.2.2.2.2.2.2.2.2.2.2)) := hD
          refine lv_aload_n hx hb dX11_pile_101 rfl (lv_at hl 0 rfl) ?_
          refine va_get (D := D) (ci := 12) (v := .int (M.2.2.2.2.2.2.1 + 1)) (C := RX11) (T := TX11) (N := 17) hx hb hg in_X11 hown hK hP 0 rfl rfl 6 (by decide) (hg _ g_692) (fun _ h9 => h9) rfl dX11_pile_102 ?_
          refine lv_iconst (v := 1) hx hb dX11_pile_105 (by decide) ?_
          refine lv_isub hx hb dX11_pile_106 ?_
          exact W.iret (v := ((M.2.2.2.2.2.2.1 + 1) - 1)) hx hb hr (fun t9 ht hW => ⟨⟨((M.2.2.2.2.2.2.1 + 1) - 1), wM g (0, M.2.1, M.2.2.1, M.2.2.2.1, M.2.2.2.2.1, M.2.2.2.2.2.1, (M.2.2.2.2.2.2.1 + 1), upd M.2.2.2.2.2.2.2.1 M.2.2.2.2.2.2.1.toNatClampNeg a, upd M.2.2.2.2.2.2.2.2.1 M.2.2.2.2.2.2.1.toNatClampNeg b, upd M.2.2.2.2.2.2.2.2.2.1 M.2.2.2.2.2.2.1.toNatClampNeg z, upd M.2.2.2.2.2.2.2.2.2.2.1 M.2.2.2.2.2.2.1.toNatClampNeg 0, M.2.2.2.2.2.2.2.2.2.2.2.1, M.2.2.2.2.2.2.2.2.2.2.2.2.1, M.2.2.2.2.2.2.2.2.2.2.2.2.2.1, M.2.2.2.2.2.2.2.2.2.2.2.2.2.2.1, M.2.2.2.2.2.2.2.2.2.2.2.2.2.2.2.1, M.2.2.2.2.2.2.2.2.2.2.2.2.2.2.2.2), rfl, ⟨by simp only [fX11_pileR, if_neg c_1, if_neg c_2, if_neg c_3, if_neg c_4], by simp only [fX11_pileS, if_neg c_1, if_neg c_2, if_neg c_3, if_neg c_4]⟩, by rw [ht]; exact hP, va_K.moved hW.alike hK, hD⟩, hS.F ht⟩) hS.2.2 dX11_pile_107
        · -- M.2.2.2.2.2.2.1 = 12
          have hk := hk.1 c_4
          refine lv_bipush (v := (-104)) hx hb dX11_pile_48 (by decide) ?_
          exact W.iret (v := (-104)) hx hb hr (fun t9 ht hW => ⟨⟨(-104), wM g (0, M.2.1, M.2.2.1, M.2.2.2.1, M.2.2.2.2.1, M.2.2.2.2.2.1, M.2.2.2.2.2.2.1, M.2.2.2.2.2.2.2.1, M.2.2.2.2.2.2.2.2.1, M.2.2.2.2.2.2.2.2.2.1, M.2.2.2.2.2.2.2.2.2.2.1, M.2.2.2.2.2.2.2.2.2.2.2.1, M.2.2.2.2.2.2.2.2.2.2.2.2.1, M.2.2.2.2.2.2.2.2.2.2.2.2.2.1, M.2.2.2.2.2.2.2.2.2.2.2.2.2.2.1, M.2.2.2.2.2.2.2.2.2.2.2.2.2.2.2.1, M.2.2.2.2.2.2.2.2.2.2.2.2.2.2.2.2), rfl, ⟨by simp only [fX11_pileR, if_neg c_1, if_neg c_2, if_neg c_3, if_pos c_4], by simp only [fX11_pileS, if_neg c_1, if_neg c_2, if_neg c_3, if_pos c_4]⟩, by rw [ht]; exact hP, va_K.moved hW.alike hK, hD⟩, hS.F ht⟩) hS.2.2 dX11_pile_50
      · -- (fX11_isInR z 0 20000) = 0
        have hk := hk.1 c_3
        refine lv_bipush (v := (-102)) hx hb dX11_pile_36 (by decide) ?_
        exact W.iret (v := (-102)) hx hb hr (fun t9 ht hW => ⟨⟨(-102), wM g (0, M.2.1, M.2.2.1, M.2.2.2.1, M.2.2.2.2.1, M.2.2.2.2.2.1, M.2.2.2.2.2.2.1, M.2.2.2.2.2.2.2.1, M.2.2.2.2.2.2.2.2.1, M.2.2.2.2.2.2.2.2.2.1, M.2.2.2.2.2.2.2.2.2.2.1, M.2.2.2.2.2.2.2.2.2.2.2.1, M.2.2.2.2.2.2.2.2.2.2.2.2.1, M.2.2.2.2.2.2.2.2.2.2.2.2.2.1, M.2.2.2.2.2.2.2.2.2.2.2.2.2.2.1, M.2.2.2.2.2.2.2.2.2.2.2.2.2.2.2.1, M.2.2.2.2.2.2.2.2.2.2.2.2.2.2.2.2), rfl, ⟨by simp only [fX11_pileR, if_neg c_1, if_neg c_2, if_pos c_3], by simp only [fX11_pileS, if_neg c_1, if_neg c_2, if_pos c_3]⟩, by rw [ht]; exact hP, va_K.moved hW.alike hK, hD⟩, hS.F ht⟩) hS.2.2 dX11_pile_38

def lX11_loadOf_1R (M : MM) (pl : Int32) : Nat → Int32 × Int32 × Int32 → Int32
  | 0, _ => 0
  | n + 1, x => (if (((fX11_ruleS (fX11_ruleS M 2 5) 2 0).2.2.2.2.2.2.2.2.2.2.1) pl.toNatClampNeg) ≤ x.2.2 then (2 * x.1) else (if (((fX11_ruleS (fX11_ruleS M 2 5) 2 0).2.2.2.2.1) (((fX11_ruleS (fX11_ruleS M 2 5) 2 0).2.2.2.2.2.2.2.2.2.2.2.1) ((12 * pl) + x.2.2).toNatClampNeg).toNatClampNeg) = 0 then lX11_loadOf_1R M pl n ((x.1 + (((fX11_ruleS (fX11_ruleS M 2 5) 2 0).2.2.2.1) (((fX11_ruleS (fX11_ruleS M 2 5) 2 0).2.2.2.2.2.2.2.2.2.2.2.1) ((12 * pl) + x.2.2).toNatClampNeg).toNatClampNeg)), (x.2.1 + 0), (x.2.2 + 1)) else lX11_loadOf_1R M pl n ((x.1 + (((fX11_ruleS (fX11_ruleS M 2 5) 2 0).2.2.2.1) (((fX11_ruleS (fX11_ruleS M 2 5) 2 0).2.2.2.2.2.2.2.2.2.2.2.1) ((12 * pl) + x.2.2).toNatClampNeg).toNatClampNeg)), (x.2.1 + 1), (x.2.2 + 1))))
def lX11_loadOf_1S (M : MM) (pl : Int32) : Nat → Int32 × Int32 × Int32 → MM
  | 0, _ => M
  | n + 1, x => (if (((fX11_ruleS (fX11_ruleS M 2 5) 2 0).2.2.2.2.2.2.2.2.2.2.1) pl.toNatClampNeg) ≤ x.2.2 then fX11_ruleS (fX11_ruleS M 2 5) 2 0 else (if (((fX11_ruleS (fX11_ruleS M 2 5) 2 0).2.2.2.2.1) (((fX11_ruleS (fX11_ruleS M 2 5) 2 0).2.2.2.2.2.2.2.2.2.2.2.1) ((12 * pl) + x.2.2).toNatClampNeg).toNatClampNeg) = 0 then lX11_loadOf_1S M pl n ((x.1 + (((fX11_ruleS (fX11_ruleS M 2 5) 2 0).2.2.2.1) (((fX11_ruleS (fX11_ruleS M 2 5) 2 0).2.2.2.2.2.2.2.2.2.2.2.1) ((12 * pl) + x.2.2).toNatClampNeg).toNatClampNeg)), (x.2.1 + 0), (x.2.2 + 1)) else lX11_loadOf_1S M pl n ((x.1 + (((fX11_ruleS (fX11_ruleS M 2 5) 2 0).2.2.2.1) (((fX11_ruleS (fX11_ruleS M 2 5) 2 0).2.2.2.2.2.2.2.2.2.2.2.1) ((12 * pl) + x.2.2).toNatClampNeg).toNatClampNeg)), (x.2.1 + 1), (x.2.2 + 1))))
def lX11_loadOf_1K (M : MM) (pl : Int32) : Nat → Int32 × Int32 × Int32 → Prop
  | 0, _ => True
  | n + 1, x => (((((fX11_ruleS (fX11_ruleS M 2 5) 2 0).2.2.2.2.2.2.2.2.2.2.1) pl.toNatClampNeg) ≤ x.2.2 → True) ∧ (¬ (((fX11_ruleS (fX11_ruleS M 2 5) 2 0).2.2.2.2.2.2.2.2.2.2.1) pl.toNatClampNeg) ≤ x.2.2 → (vp_in ((12 * pl) + x.2.2) 144 ∧ vp_in (((fX11_ruleS (fX11_ruleS M 2 5) 2 0).2.2.2.2.2.2.2.2.2.2.2.1) ((12 * pl) + x.2.2).toNatClampNeg) 60 ∧ (((((fX11_ruleS (fX11_ruleS M 2 5) 2 0).2.2.2.2.1) (((fX11_ruleS (fX11_ruleS M 2 5) 2 0).2.2.2.2.2.2.2.2.2.2.2.1) ((12 * pl) + x.2.2).toNatClampNeg).toNatClampNeg) = 0 → (lX11_loadOf_1K M pl n ((x.1 + (((fX11_ruleS (fX11_ruleS M 2 5) 2 0).2.2.2.1) (((fX11_ruleS (fX11_ruleS M 2 5) 2 0).2.2.2.2.2.2.2.2.2.2.2.1) ((12 * pl) + x.2.2).toNatClampNeg).toNatClampNeg)), (x.2.1 + 0), (x.2.2 + 1)) ∧ True)) ∧ (¬ (((fX11_ruleS (fX11_ruleS M 2 5) 2 0).2.2.2.2.1) (((fX11_ruleS (fX11_ruleS M 2 5) 2 0).2.2.2.2.2.2.2.2.2.2.2.1) ((12 * pl) + x.2.2).toNatClampNeg).toNatClampNeg) = 0 → (lX11_loadOf_1K M pl n ((x.1 + (((fX11_ruleS (fX11_ruleS M 2 5) 2 0).2.2.2.1) (((fX11_ruleS (fX11_ruleS M 2 5) 2 0).2.2.2.2.2.2.2.2.2.2.2.1) ((12 * pl) + x.2.2).toNatClampNeg).toNatClampNeg)), (x.2.1 + 1), (x.2.2 + 1)) ∧ True))))))
def lX11_loadOf_2R (M : MM) (pl : Int32) : Nat → Int32 × Int32 × Int32 → Int32
  | 0, _ => 0
  | n + 1, x => (if (((fX11_ruleS M 2 0).2.2.2.2.2.2.2.2.2.2.1) pl.toNatClampNeg) ≤ x.2.2 then x.1 else (if (((fX11_ruleS M 2 0).2.2.2.2.1) (((fX11_ruleS M 2 0).2.2.2.2.2.2.2.2.2.2.2.1) ((12 * pl) + x.2.2).toNatClampNeg).toNatClampNeg) = 0 then lX11_loadOf_2R M pl n ((x.1 + (((fX11_ruleS M 2 0).2.2.2.1) (((fX11_ruleS M 2 0).2.2.2.2.2.2.2.2.2.2.2.1) ((12 * pl) + x.2.2).toNatClampNeg).toNatClampNeg)), (x.2.1 + 0), (x.2.2 + 1)) else lX11_loadOf_2R M pl n ((x.1 + (((fX11_ruleS M 2 0).2.2.2.1) (((fX11_ruleS M 2 0).2.2.2.2.2.2.2.2.2.2.2.1) ((12 * pl) + x.2.2).toNatClampNeg).toNatClampNeg)), (x.2.1 + 1), (x.2.2 + 1))))
def lX11_loadOf_2S (M : MM) (pl : Int32) : Nat → Int32 × Int32 × Int32 → MM
  | 0, _ => M
  | n + 1, x => (if (((fX11_ruleS M 2 0).2.2.2.2.2.2.2.2.2.2.1) pl.toNatClampNeg) ≤ x.2.2 then fX11_ruleS M 2 0 else (if (((fX11_ruleS M 2 0).2.2.2.2.1) (((fX11_ruleS M 2 0).2.2.2.2.2.2.2.2.2.2.2.1) ((12 * pl) + x.2.2).toNatClampNeg).toNatClampNeg) = 0 then lX11_loadOf_2S M pl n ((x.1 + (((fX11_ruleS M 2 0).2.2.2.1) (((fX11_ruleS M 2 0).2.2.2.2.2.2.2.2.2.2.2.1) ((12 * pl) + x.2.2).toNatClampNeg).toNatClampNeg)), (x.2.1 + 0), (x.2.2 + 1)) else lX11_loadOf_2S M pl n ((x.1 + (((fX11_ruleS M 2 0).2.2.2.1) (((fX11_ruleS M 2 0).2.2.2.2.2.2.2.2.2.2.2.1) ((12 * pl) + x.2.2).toNatClampNeg).toNatClampNeg)), (x.2.1 + 1), (x.2.2 + 1))))
def lX11_loadOf_2K (M : MM) (pl : Int32) : Nat → Int32 × Int32 × Int32 → Prop
  | 0, _ => True
  | n + 1, x => (((((fX11_ruleS M 2 0).2.2.2.2.2.2.2.2.2.2.1) pl.toNatClampNeg) ≤ x.2.2 → True) ∧ (¬ (((fX11_ruleS M 2 0).2.2.2.2.2.2.2.2.2.2.1) pl.toNatClampNeg) ≤ x.2.2 → (vp_in ((12 * pl) + x.2.2) 144 ∧ vp_in (((fX11_ruleS M 2 0).2.2.2.2.2.2.2.2.2.2.2.1) ((12 * pl) + x.2.2).toNatClampNeg) 60 ∧ (((((fX11_ruleS M 2 0).2.2.2.2.1) (((fX11_ruleS M 2 0).2.2.2.2.2.2.2.2.2.2.2.1) ((12 * pl) + x.2.2).toNatClampNeg).toNatClampNeg) = 0 → (lX11_loadOf_2K M pl n ((x.1 + (((fX11_ruleS M 2 0).2.2.2.1) (((fX11_ruleS M 2 0).2.2.2.2.2.2.2.2.2.2.2.1) ((12 * pl) + x.2.2).toNatClampNeg).toNatClampNeg)), (x.2.1 + 0), (x.2.2 + 1)) ∧ True)) ∧ (¬ (((fX11_ruleS M 2 0).2.2.2.2.1) (((fX11_ruleS M 2 0).2.2.2.2.2.2.2.2.2.2.2.1) ((12 * pl) + x.2.2).toNatClampNeg).toNatClampNeg) = 0 → (lX11_loadOf_2K M pl n ((x.1 + (((fX11_ruleS M 2 0).2.2.2.1) (((fX11_ruleS M 2 0).2.2.2.2.2.2.2.2.2.2.2.1) ((12 * pl) + x.2.2).toNatClampNeg).toNatClampNeg)), (x.2.1 + 1), (x.2.2 + 1)) ∧ True))))))
def lX11_loadOf_3R (M : MM) (pl : Int32) : Nat → Int32 × Int32 × Int32 → Int32
  | 0, _ => 0
  | n + 1, x => (if (((fX11_ruleS (fX11_ruleS M 2 6) 2 0).2.2.2.2.2.2.2.2.2.2.1) pl.toNatClampNeg) ≤ x.2.2 then (x.1 + (10 * x.2.1)) else (if (((fX11_ruleS (fX11_ruleS M 2 6) 2 0).2.2.2.2.1) (((fX11_ruleS (fX11_ruleS M 2 6) 2 0).2.2.2.2.2.2.2.2.2.2.2.1) ((12 * pl) + x.2.2).toNatClampNeg).toNatClampNeg) = 0 then lX11_loadOf_3R M pl n ((x.1 + (((fX11_ruleS (fX11_ruleS M 2 6) 2 0).2.2.2.1) (((fX11_ruleS (fX11_ruleS M 2 6) 2 0).2.2.2.2.2.2.2.2.2.2.2.1) ((12 * pl) + x.2.2).toNatClampNeg).toNatClampNeg)), (x.2.1 + 0), (x.2.2 + 1)) else lX11_loadOf_3R M pl n ((x.1 + (((fX11_ruleS (fX11_ruleS M 2 6) 2 0).2.2.2.1) (((fX11_ruleS (fX11_ruleS M 2 6) 2 0).2.2.2.2.2.2.2.2.2.2.2.1) ((12 * pl) + x.2.2).toNatClampNeg).toNatClampNeg)), (x.2.1 + 1), (x.2.2 + 1))))
def lX11_loadOf_3S (M : MM) (pl : Int32) : Nat → Int32 × Int32 × Int32 → MM
  | 0, _ => M
  | n + 1, x => (if (((fX11_ruleS (fX11_ruleS M 2 6) 2 0).2.2.2.2.2.2.2.2.2.2.1) pl.toNatClampNeg) ≤ x.2.2 then fX11_ruleS (fX11_ruleS M 2 6) 2 0 else (if (((fX11_ruleS (fX11_ruleS M 2 6) 2 0).2.2.2.2.1) (((fX11_ruleS (fX11_ruleS M 2 6) 2 0).2.2.2.2.2.2.2.2.2.2.2.1) ((12 * pl) + x.2.2).toNatClampNeg).toNatClampNeg) = 0 then lX11_loadOf_3S M pl n ((x.1 + (((fX11_ruleS (fX11_ruleS M 2 6) 2 0).2.2.2.1) (((fX11_ruleS (fX11_ruleS M 2 6) 2 0).2.2.2.2.2.2.2.2.2.2.2.1) ((12 * pl) + x.2.2).toNatClampNeg).toNatClampNeg)), (x.2.1 + 0), (x.2.2 + 1)) else lX11_loadOf_3S M pl n ((x.1 + (((fX11_ruleS (fX11_ruleS M 2 6) 2 0).2.2.2.1) (((fX11_ruleS (fX11_ruleS M 2 6) 2 0).2.2.2.2.2.2.2.2.2.2.2.1) ((12 * pl) + x.2.2).toNatClampNeg).toNatClampNeg)), (x.2.1 + 1), (x.2.2 + 1))))
def lX11_loadOf_3K (M : MM) (pl : Int32) : Nat → Int32 × Int32 × Int32 → Prop
  | 0, _ => True
  | n + 1, x => (((((fX11_ruleS (fX11_ruleS M 2 6) 2 0).2.2.2.2.2.2.2.2.2.2.1) pl.toNatClampNeg) ≤ x.2.2 → True) ∧ (¬ (((fX11_ruleS (fX11_ruleS M 2 6) 2 0).2.2.2.2.2.2.2.2.2.2.1) pl.toNatClampNeg) ≤ x.2.2 → (vp_in ((12 * pl) + x.2.2) 144 ∧ vp_in (((fX11_ruleS (fX11_ruleS M 2 6) 2 0).2.2.2.2.2.2.2.2.2.2.2.1) ((12 * pl) + x.2.2).toNatClampNeg) 60 ∧ (((((fX11_ruleS (fX11_ruleS M 2 6) 2 0).2.2.2.2.1) (((fX11_ruleS (fX11_ruleS M 2 6) 2 0).2.2.2.2.2.2.2.2.2.2.2.1) ((12 * pl) + x.2.2).toNatClampNeg).toNatClampNeg) = 0 → (lX11_loadOf_3K M pl n ((x.1 + (((fX11_ruleS (fX11_ruleS M 2 6) 2 0).2.2.2.1) (((fX11_ruleS (fX11_ruleS M 2 6) 2 0).2.2.2.2.2.2.2.2.2.2.2.1) ((12 * pl) + x.2.2).toNatClampNeg).toNatClampNeg)), (x.2.1 + 0), (x.2.2 + 1)) ∧ True)) ∧ (¬ (((fX11_ruleS (fX11_ruleS M 2 6) 2 0).2.2.2.2.1) (((fX11_ruleS (fX11_ruleS M 2 6) 2 0).2.2.2.2.2.2.2.2.2.2.2.1) ((12 * pl) + x.2.2).toNatClampNeg).toNatClampNeg) = 0 → (lX11_loadOf_3K M pl n ((x.1 + (((fX11_ruleS (fX11_ruleS M 2 6) 2 0).2.2.2.1) (((fX11_ruleS (fX11_ruleS M 2 6) 2 0).2.2.2.2.2.2.2.2.2.2.2.1) ((12 * pl) + x.2.2).toNatClampNeg).toNatClampNeg)), (x.2.1 + 1), (x.2.2 + 1)) ∧ True))))))
def lX11_loadOf_4R (M : MM) (pl : Int32) : Nat → Int32 × Int32 × Int32 → Int32
  | 0, _ => 0
  | n + 1, x => (if (((fX11_ruleS (fX11_ruleS M 2 5) 2 0).2.2.2.2.2.2.2.2.2.2.1) pl.toNatClampNeg) ≤ x.2.2 then (2 * x.1) else (if (((fX11_ruleS (fX11_ruleS M 2 5) 2 0).2.2.2.2.1) (((fX11_ruleS (fX11_ruleS M 2 5) 2 0).2.2.2.2.2.2.2.2.2.2.2.1) ((12 * pl) + x.2.2).toNatClampNeg).toNatClampNeg) = 0 then lX11_loadOf_4R M pl n ((x.1 + (((fX11_ruleS (fX11_ruleS M 2 5) 2 0).2.2.2.1) (((fX11_ruleS (fX11_ruleS M 2 5) 2 0).2.2.2.2.2.2.2.2.2.2.2.1) ((12 * pl) + x.2.2).toNatClampNeg).toNatClampNeg)), (x.2.1 + 0), (x.2.2 + 1)) else lX11_loadOf_4R M pl n ((x.1 + (((fX11_ruleS (fX11_ruleS M 2 5) 2 0).2.2.2.1) (((fX11_ruleS (fX11_ruleS M 2 5) 2 0).2.2.2.2.2.2.2.2.2.2.2.1) ((12 * pl) + x.2.2).toNatClampNeg).toNatClampNeg)), (x.2.1 + 1), (x.2.2 + 1))))
def lX11_loadOf_4S (M : MM) (pl : Int32) : Nat → Int32 × Int32 × Int32 → MM
  | 0, _ => M
  | n + 1, x => (if (((fX11_ruleS (fX11_ruleS M 2 5) 2 0).2.2.2.2.2.2.2.2.2.2.1) pl.toNatClampNeg) ≤ x.2.2 then fX11_ruleS (fX11_ruleS M 2 5) 2 0 else (if (((fX11_ruleS (fX11_ruleS M 2 5) 2 0).2.2.2.2.1) (((fX11_ruleS (fX11_ruleS M 2 5) 2 0).2.2.2.2.2.2.2.2.2.2.2.1) ((12 * pl) + x.2.2).toNatClampNeg).toNatClampNeg) = 0 then lX11_loadOf_4S M pl n ((x.1 + (((fX11_ruleS (fX11_ruleS M 2 5) 2 0).2.2.2.1) (((fX11_ruleS (fX11_ruleS M 2 5) 2 0).2.2.2.2.2.2.2.2.2.2.2.1) ((12 * pl) + x.2.2).toNatClampNeg).toNatClampNeg)), (x.2.1 + 0), (x.2.2 + 1)) else lX11_loadOf_4S M pl n ((x.1 + (((fX11_ruleS (fX11_ruleS M 2 5) 2 0).2.2.2.1) (((fX11_ruleS (fX11_ruleS M 2 5) 2 0).2.2.2.2.2.2.2.2.2.2.2.1) ((12 * pl) + x.2.2).toNatClampNeg).toNatClampNeg)), (x.2.1 + 1), (x.2.2 + 1))))
def lX11_loadOf_4K (M : MM) (pl : Int32) : Nat → Int32 × Int32 × Int32 → Prop
  | 0, _ => True
  | n + 1, x => (((((fX11_ruleS (fX11_ruleS M 2 5) 2 0).2.2.2.2.2.2.2.2.2.2.1) pl.toNatClampNeg) ≤ x.2.2 → True) ∧ (¬ (((fX11_ruleS (fX11_ruleS M 2 5) 2 0).2.2.2.2.2.2.2.2.2.2.1) pl.toNatClampNeg) ≤ x.2.2 → (vp_in ((12 * pl) + x.2.2) 144 ∧ vp_in (((fX11_ruleS (fX11_ruleS M 2 5) 2 0).2.2.2.2.2.2.2.2.2.2.2.1) ((12 * pl) + x.2.2).toNatClampNeg) 60 ∧ (((((fX11_ruleS (fX11_ruleS M 2 5) 2 0).2.2.2.2.1) (((fX11_ruleS (fX11_ruleS M 2 5) 2 0).2.2.2.2.2.2.2.2.2.2.2.1) ((12 * pl) + x.2.2).toNatClampNeg).toNatClampNeg) = 0 → (lX11_loadOf_4K M pl n ((x.1 + (((fX11_ruleS (fX11_ruleS M 2 5) 2 0).2.2.2.1) (((fX11_ruleS (fX11_ruleS M 2 5) 2 0).2.2.2.2.2.2.2.2.2.2.2.1) ((12 * pl) + x.2.2).toNatClampNeg).toNatClampNeg)), (x.2.1 + 0), (x.2.2 + 1)) ∧ True)) ∧ (¬ (((fX11_ruleS (fX11_ruleS M 2 5) 2 0).2.2.2.2.1) (((fX11_ruleS (fX11_ruleS M 2 5) 2 0).2.2.2.2.2.2.2.2.2.2.2.1) ((12 * pl) + x.2.2).toNatClampNeg).toNatClampNeg) = 0 → (lX11_loadOf_4K M pl n ((x.1 + (((fX11_ruleS (fX11_ruleS M 2 5) 2 0).2.2.2.1) (((fX11_ruleS (fX11_ruleS M 2 5) 2 0).2.2.2.2.2.2.2.2.2.2.2.1) ((12 * pl) + x.2.2).toNatClampNeg).toNatClampNeg)), (x.2.1 + 1), (x.2.2 + 1)) ∧ True))))))
def fX11_loadOfR (M : MM) (pl : Int32) : Int32 := (if (M.2.2.2.2.2.2.2.1 pl.toNatClampNeg) = 5 then lX11_loadOf_1R M pl (((fX11_ruleS (fX11_ruleS M 2 5) 2 0).2.2.2.2.2.2.2.2.2.2.1 pl.toNatClampNeg).toNatClampNeg + 1) (0, 0, 0) else (if (M.2.2.2.2.2.2.2.1 pl.toNatClampNeg) = 7 then lX11_loadOf_4R M pl (((fX11_ruleS (fX11_ruleS M 2 5) 2 0).2.2.2.2.2.2.2.2.2.2.1 pl.toNatClampNeg).toNatClampNeg + 1) (0, 0, 0) else (if (M.2.2.2.2.2.2.2.1 pl.toNatClampNeg) = 6 then lX11_loadOf_3R M pl (((fX11_ruleS (fX11_ruleS M 2 6) 2 0).2.2.2.2.2.2.2.2.2.2.1 pl.toNatClampNeg).toNatClampNeg + 1) (0, 0, 0) else lX11_loadOf_2R M pl (((fX11_ruleS M 2 0).2.2.2.2.2.2.2.2.2.2.1 pl.toNatClampNeg).toNatClampNeg + 1) (0, 0, 0))))
def fX11_loadOfS (M : MM) (pl : Int32) : MM := (if (M.2.2.2.2.2.2.2.1 pl.toNatClampNeg) = 5 then lX11_loadOf_1S M pl (((fX11_ruleS (fX11_ruleS M 2 5) 2 0).2.2.2.2.2.2.2.2.2.2.1 pl.toNatClampNeg).toNatClampNeg + 1) (0, 0, 0) else (if (M.2.2.2.2.2.2.2.1 pl.toNatClampNeg) = 7 then lX11_loadOf_4S M pl (((fX11_ruleS (fX11_ruleS M 2 5) 2 0).2.2.2.2.2.2.2.2.2.2.1 pl.toNatClampNeg).toNatClampNeg + 1) (0, 0, 0) else (if (M.2.2.2.2.2.2.2.1 pl.toNatClampNeg) = 6 then lX11_loadOf_3S M pl (((fX11_ruleS (fX11_ruleS M 2 6) 2 0).2.2.2.2.2.2.2.2.2.2.1 pl.toNatClampNeg).toNatClampNeg + 1) (0, 0, 0) else lX11_loadOf_2S M pl (((fX11_ruleS M 2 0).2.2.2.2.2.2.2.2.2.2.1 pl.toNatClampNeg).toNatClampNeg + 1) (0, 0, 0))))
def fX11_loadOfK (M : MM) (pl : Int32) : Prop := (vp_in pl 12 ∧ (((M.2.2.2.2.2.2.2.1 pl.toNatClampNeg) = 5 → (fX11_ruleK M 2 5 ∧ fX11_ruleK (fX11_ruleS M 2 5) 2 0 ∧ lX11_loadOf_1K M pl (((fX11_ruleS (fX11_ruleS M 2 5) 2 0).2.2.2.2.2.2.2.2.2.2.1 pl.toNatClampNeg).toNatClampNeg + 1) (0, 0, 0) ∧ True)) ∧ (¬ (M.2.2.2.2.2.2.2.1 pl.toNatClampNeg) = 5 → (((M.2.2.2.2.2.2.2.1 pl.toNatClampNeg) = 7 → (fX11_ruleK M 2 5 ∧ fX11_ruleK (fX11_ruleS M 2 5) 2 0 ∧ lX11_loadOf_4K M pl (((fX11_ruleS (fX11_ruleS M 2 5) 2 0).2.2.2.2.2.2.2.2.2.2.1 pl.toNatClampNeg).toNatClampNeg + 1) (0, 0, 0) ∧ True)) ∧ (¬ (M.2.2.2.2.2.2.2.1 pl.toNatClampNeg) = 7 → (((M.2.2.2.2.2.2.2.1 pl.toNatClampNeg) = 6 → (fX11_ruleK M 2 6 ∧ fX11_ruleK (fX11_ruleS M 2 6) 2 0 ∧ lX11_loadOf_3K M pl (((fX11_ruleS (fX11_ruleS M 2 6) 2 0).2.2.2.2.2.2.2.2.2.2.1 pl.toNatClampNeg).toNatClampNeg + 1) (0, 0, 0) ∧ True)) ∧ (¬ (M.2.2.2.2.2.2.2.1 pl.toNatClampNeg) = 6 → (fX11_ruleK M 2 0 ∧ lX11_loadOf_2K M pl (((fX11_ruleS M 2 0).2.2.2.2.2.2.2.2.2.2.1 pl.toNatClampNeg).toNatClampNeg + 1) (0, 0, 0) ∧ True))))))))
set_option maxHeartbeats 4000000 in
set_option maxRecDepth 100000 in
theorem c_X11_loadOf (l : Launch) (D : va_G) (g : MA) (M : MM) (pl : Int32) (hk : fX11_loadOfK M pl) : ctI l D (tyM g) yX11_loadOf (wd yX11_loadOf cX11_loadOf 7 (Option.some Jvm.ClassFile.FieldType.int)) { frames := 1, cells := 0, slots := 0, locals := 22 } [.ref g.mo, .int pl] (wM g M) (fun r w => r = fX11_loadOfR M pl ∧ w = wM g (fX11_loadOfS M pl)) := by
  intro sz
  refine Met.ofW (cc := cX11_loadOf) (maxL := 7) (ret := (Option.some Jvm.ClassFile.FieldType.int)) (by decide) rfl ?_
  intro p e s m args below meth c s₁ B hml hv
  obtain ⟨rfl, hsz, hP, hK, hD0⟩ := hv
  have hx := B.exec
  have hb := B.bytes
  have hr := B.returns
  have hts := atoms_spec (ws := (wd yX11_loadOf cX11_loadOf 7 (Option.some Jvm.ClassFile.FieldType.int))) B.pre
  have hg := Tb.of hts
  have hown : s.vm.findClass RX11 = some m.cls := findClass_of_methodNamed B.named
  have hlocks := B.notSynchronized
  subst hsz
  have hD := hD0.self (sz := s.heap.size)
  generalize hAe : va_A (wM g M) s.heap.size = A at hD ⊢
  have hA : ∀ q : Nat, s.heap.size ≤ q → A q := fun q h => by rw [← hAe]; exact Or.inr h
  have hS : va_S A s.heap s.heap [] := va_S.rf
  have hP : va_P D vwCl (wM g M) s.heap := hP
  have hl := lv_entry ([.ref g.mo, .int pl]) (n := 7) (Nat.le_of_ble_eq_true rfl)
  rw [lg_entry_eq]
  generalize (lg_sl ([.ref g.mo, .int pl]) ++ List.replicate (7 - (lg_sl ([.ref g.mo, .int pl])).length) Slot.unset).toArray = ls at hl ⊢
  have hl : lv_has ls 7 [(0, .ref g.mo), (1, .int pl)] := hl
  unfold fX11_loadOfK at hk
  refine lv_aload_n hx hb dX11_loadOf_0 rfl (lv_at hl 0 rfl) ?_
  refine va_get (D := D) (ci := 12) (v := .ref g.ak) (C := RX11) (T := TX11) (N := 17) hx hb hg in_X11 hown hK hP 0 rfl rfl 7 (by decide) (hg _ g_693) (fun _ h9 => h9) rfl dX11_loadOf_1 ?_
  refine lv_iload_n hx hb dX11_loadOf_4 rfl (lv_at hl 1 rfl) ?_
  obtain ⟨hb_1, hk⟩ := hk
  refine va_iald hx hb hK hP 5 0 rfl rfl (hb_1) dX11_loadOf_5 ?_
  refine lv_istore_n (lv' := [(2, .int (M.2.2.2.2.2.2.2.1 pl.toNatClampNeg)), (0, .ref g.mo), (1, .int pl)]) hx hb dX11_loadOf_6 rfl hl (by decide) rfl (fun ls hl => ?_)
  refine lv_iload_n hx hb dX11_loadOf_7 rfl (lv_at hl 0 rfl) ?_
  refine lv_iconst (v := 5) hx hb dX11_loadOf_8 (by decide) ?_
  refine lv_icmp_eq (tgt := 18) hx hb dX11_loadOf_9 (by decide) (fun c_2 => ?_) (fun c_2 => ?_)
  · -- (M.2.2.2.2.2.2.2.1 pl.toNatClampNeg) = 5
    have hk := hk.1 c_2
    refine lv_iconst (v := 1) hx hb dX11_loadOf_18 (by decide) ?_
    refine lv_goto (tgt := 23) hx hb dX11_loadOf_19 (by decide) ?_
    refine lv_istore_n (lv' := [(3, .int 1), (2, .int (M.2.2.2.2.2.2.2.1 pl.toNatClampNeg)), (0, .ref g.mo), (1, .int pl)]) hx hb dX11_loadOf_23 rfl hl (by decide) rfl (fun ls hl => ?_)
    refine lv_iload_n hx hb dX11_loadOf_24 rfl (lv_at hl 0 rfl) ?_
    refine lv_if_eq (tgt := 34) hx hb dX11_loadOf_25 (by decide) (fun c_3 => ?_) (fun c_3 => ?_)
    · -- 1 = 0
      exact absurd c_3 (by decide)
    · -- not 1 = 0
      refine lv_aload_n hx hb dX11_loadOf_28 rfl (lv_at hl 2 rfl) ?_
      refine lv_iconst (v := 2) hx hb dX11_loadOf_29 (by decide) ?_
      refine lv_iconst (v := 5) hx hb dX11_loadOf_30 (by decide) ?_
      obtain ⟨hc_4, hk⟩ := hk
      refine z_ve (va_runV (As := [.int 2, .int 5]) (rest := []) ⟨hx, hb, hml, hown, hts⟩ (c_X11_rule l D g M 2 5 hc_4 _) (z_V 2 hts g_772 g_4 g_769 g_771 gp_8 ⟨by decide, by decide, by decide +kernel⟩ ⟨Nat.le_of_ble_eq_true rfl, Nat.le_of_ble_eq_true rfl⟩) (z_preV (ci := 12) (q0 := 0) (hP.subm [0, 1, 2, 3, 4, 5, 6, 7, 8, 9, 10] rfl) (hD.sub [0, 1, 2, 3, 4, 5, 6, 7, 8, 9, 10] (by decide) rfl) hK rfl rfl) rfl rfl hl.1 rfl (lv_room (Nat.le_of_ble_eq_true rfl)) dX11_loadOf_31 ⟨Nat.le_of_ble_eq_true rfl, Nat.le_of_ble_eq_true rfl⟩) hP hD hS hA (([] : va_W)) (wM g (fX11_ruleS M 2 5)) [0, 1, 2, 3, 4, 5, 6, 7, 8, 9, 10] [] [0, 1, 2, 3, 4, 5, 6, 7, 8, 9, 10] rfl rfl (by decide) (by decide) rfl (by decide) (fun H locs hP hD hS => ?_)
      refine lv_iload_n hx hb dX11_loadOf_34 rfl (lv_at hl 1 rfl) ?_
      refine lv_bipush (v := 6) hx hb dX11_loadOf_35 (by decide) ?_
      refine lv_icmp_ne (tgt := 47) hx hb dX11_loadOf_37 (by decide) (fun c_5 => ?_) (fun c_5 => ?_)
      · -- not (M.2.2.2.2.2.2.2.1 pl.toNatClampNeg) = 6
        refine lv_aload_n hx hb dX11_loadOf_47 rfl (lv_at hl 2 rfl) ?_
        refine lv_iconst (v := 2) hx hb dX11_loadOf_48 (by decide) ?_
        refine lv_iconst (v := 0) hx hb dX11_loadOf_49 (by decide) ?_
        obtain ⟨hc_6, hk⟩ := hk
        refine z_ve (va_runV (As := [.int 2, .int 0]) (rest := []) ⟨hx, hb, hml, hown, hts⟩ (c_X11_rule l D g (fX11_ruleS M 2 5) 2 0 hc_6 _) (z_V 2 hts g_772 g_4 g_769 g_771 gp_8 ⟨by decide, by decide, by decide +kernel⟩ ⟨Nat.le_of_ble_eq_true rfl, Nat.le_of_ble_eq_true rfl⟩) (z_preV (ci := 12) (q0 := 0) (hP.subm [0, 1, 2, 3, 4, 5, 6, 7, 8, 9, 10] rfl) (hD.sub [0, 1, 2, 3, 4, 5, 6, 7, 8, 9, 10] (by decide) rfl) hK rfl rfl) rfl rfl hl.1 rfl (lv_room (Nat.le_of_ble_eq_true rfl)) dX11_loadOf_50 ⟨Nat.le_of_ble_eq_true rfl, Nat.le_of_ble_eq_true rfl⟩) hP hD hS hA (([] : va_W)) (wM g (fX11_ruleS (fX11_ruleS M 2 5) 2 0)) [0, 1, 2, 3, 4, 5, 6, 7, 8, 9, 10] [] [0, 1, 2, 3, 4, 5, 6, 7, 8, 9, 10] rfl rfl (by decide) (by decide) rfl (by decide) (fun H locs hP hD hS => ?_)
        refine lv_iconst (v := 0) hx hb dX11_loadOf_53 (by decide) ?_
        refine lv_istore (lv' := [(4, .int 0), (3, .int 1), (2, .int (M.2.2.2.2.2.2.2.1 pl.toNatClampNeg)), (0, .ref g.mo), (1, .int pl)]) hx hb dX11_loadOf_54 hl (by decide) rfl (fun ls hl => ?_)
        refine lv_iconst (v := 0) hx hb dX11_loadOf_56 (by decide) ?_
        refine lv_istore (lv' := [(5, .int 0), (4, .int 0), (3, .int 1), (2, .int (M.2.2.2.2.2.2.2.1 pl.toNatClampNeg)), (0, .ref g.mo), (1, .int pl)]) hx hb dX11_loadOf_57 hl (by decide) rfl (fun ls hl => ?_)
        refine lv_iconst (v := 0) hx hb dX11_loadOf_59 (by decide) ?_
        refine lv_istore (lv' := [(6, .int 0), (5, .int 0), (4, .int 0), (3, .int 1), (2, .int (M.2.2.2.2.2.2.2.1 pl.toNatClampNeg)), (0, .ref g.mo), (1, .int pl)]) hx hb dX11_loadOf_60 hl (by decide) rfl (fun ls hl => ?_)
        obtain ⟨hL_7, hk⟩ := hk
        refine z_loop (pc := 62) (fun n (x : Int32 × Int32 × Int32) H locs ls => ((((fX11_ruleS (fX11_ruleS M 2 5) 2 0).2.2.2.2.2.2.2.2.2.2.1 pl.toNatClampNeg).toInt - x.2.2.toInt).toNat < n ∧ lX11_loadOf_1R M pl n x = fX11_loadOfR M pl ∧ lX11_loadOf_1S M pl n x = fX11_loadOfS M pl ∧ lX11_loadOf_1K M pl n x) ∧ va_P D vwCl (wM g (fX11_ruleS (fX11_ruleS M 2 5) 2 0)) H ∧ va_D A (wM g (fX11_ruleS (fX11_ruleS M 2 5) 2 0)) ∧ va_S A s.heap H locs ∧ lv_has ls 7 [(0, .ref g.mo), (1, .int pl), (2, .int (M.2.2.2.2.2.2.2.1 pl.toNatClampNeg)), (3, .int 1), (4, .int x.1), (5, .int x.2.1), (6, .int x.2.2)]) (fun x H locs ls h => absurd h.1.1 (Nat.not_lt_zero _)) ?_ (((fX11_ruleS (fX11_ruleS M 2 5) 2 0).2.2.2.2.2.2.2.2.2.2.1 pl.toNatClampNeg).toNatClampNeg + 1) (0, 0, 0) _ _ _ ⟨⟨lp_st _, (by simp only [fX11_loadOfR, if_pos c_2]), (by simp only [fX11_loadOfS, if_pos c_2]), hL_7⟩, hP, hD, hS, lv_sub hl [5, 6, 4, 3, 2, 1, 0] rfl⟩
        intro n x H locs ls hI ih
        obtain ⟨hI, hP, hD, hS, hl⟩ := hI
        have hk : (((((fX11_ruleS (fX11_ruleS M 2 5) 2 0).2.2.2.2.2.2.2.2.2.2.1) pl.toNatClampNeg) ≤ x.2.2 → True) ∧ (¬ (((fX11_ruleS (fX11_ruleS M 2 5) 2 0).2.2.2.2.2.2.2.2.2.2.1) pl.toNatClampNeg) ≤ x.2.2 → (vp_in ((12 * pl) + x.2.2) 144 ∧ vp_in (((fX11_ruleS (fX11_ruleS M 2 5) 2 0).2.2.2.2.2.2.2.2.2.2.2.1) ((12 * pl) + x.2.2).toNatClampNeg) 60 ∧ (((((fX11_ruleS (fX11_ruleS M 2 5) 2 0).2.2.2.2.1) (((fX11_ruleS (fX11_ruleS M 2 5) 2 0).2.2.2.2.2.2.2.2.2.2.2.1) ((12 * pl) + x.2.2).toNatClampNeg).toNatClampNeg) = 0 → (lX11_loadOf_1K M pl n ((x.1 + (((fX11_ruleS (fX11_ruleS M 2 5) 2 0).2.2.2.1) (((fX11_ruleS (fX11_ruleS M 2 5) 2 0).2.2.2.2.2.2.2.2.2.2.2.1) ((12 * pl) + x.2.2).toNatClampNeg).toNatClampNeg)), (x.2.1 + 0), (x.2.2 + 1)) ∧ True)) ∧ (¬ (((fX11_ruleS (fX11_ruleS M 2 5) 2 0).2.2.2.2.1) (((fX11_ruleS (fX11_ruleS M 2 5) 2 0).2.2.2.2.2.2.2.2.2.2.2.1) ((12 * pl) + x.2.2).toNatClampNeg).toNatClampNeg) = 0 → (lX11_loadOf_1K M pl n ((x.1 + (((fX11_ruleS (fX11_ruleS M 2 5) 2 0).2.2.2.1) (((fX11_ruleS (fX11_ruleS M 2 5) 2 0).2.2.2.2.2.2.2.2.2.2.2.1) ((12 * pl) + x.2.2).toNatClampNeg).toNatClampNeg)), (x.2.1 + 1), (x.2.2 + 1)) ∧ True)))))) := hI.2.2.2
        refine lv_iload hx hb dX11_loadOf_62 (lv_at hl 6 rfl) ?_
        refine lv_aload_n hx hb dX11_loadOf_64 rfl (lv_at hl 0 rfl) ?_
        refine va_get (D := D) (ci := 12) (v := .ref g.an) (C := RX11) (T := TX11) (N := 17) hx hb hg in_X11 hown hK hP 0 rfl rfl 10 (by decide) (hg _ g_696) (fun _ h9 => h9) rfl dX11_loadOf_65 ?_
        refine lv_iload_n hx hb dX11_loadOf_68 rfl (lv_at hl 1 rfl) ?_
        refine va_iald hx hb hK hP 8 0 rfl rfl (hb_1) dX11_loadOf_69 ?_
        refine lv_icmp_ge (tgt := 131) hx hb dX11_loadOf_70 (by decide) (fun c_8 => ?_) (fun c_8 => ?_)
        · -- (((fX11_ruleS (fX11_ruleS M 2 5) 2 0).2.2.2.2.2.2.2.2.2.2.1) pl.toNatClampNeg) ≤ x.2.2
          have hk := hk.1 c_8
          refine lv_iload_n hx hb dX11_loadOf_131 rfl (lv_at hl 3 rfl) ?_
          refine lv_if_eq (tgt := 142) hx hb dX11_loadOf_132 (by decide) (fun c_9 => ?_) (fun c_9 => ?_)
          · -- 1 = 0
            exact absurd c_9 (by decide)
          · -- not 1 = 0
            refine lv_iconst (v := 2) hx hb dX11_loadOf_135 (by decide) ?_
            refine lv_iload hx hb dX11_loadOf_136 (lv_at hl 4 rfl) ?_
            refine lv_imul hx hb dX11_loadOf_138 ?_
            refine lv_goto (tgt := 161) hx hb dX11_loadOf_139 (by decide) ?_
            exact W.iret (v := (2 * x.1)) hx hb hr (fun t9 ht hW => ⟨⟨(2 * x.1), wM g (fX11_ruleS (fX11_ruleS M 2 5) 2 0), rfl, ⟨(by rw [← hI.2.1]; simp only [lX11_loadOf_1R, if_pos c_8]), (by rw [← hI.2.2.1]; simp only [lX11_loadOf_1S, if_pos c_8])⟩, by rw [ht]; exact hP, va_K.moved hW.alike hK, hD⟩, hS.F ht⟩) hS.2.2 dX11_loadOf_161
        · -- not (((fX11_ruleS (fX11_ruleS M 2 5) 2 0).2.2.2.2.2.2.2.2.2.2.1) pl.toNatClampNeg) ≤ x.2.2
          have hk := hk.2 c_8
          refine lv_iload hx hb dX11_loadOf_73 (lv_at hl 4 rfl) ?_
          refine lv_aload_n hx hb dX11_loadOf_75 rfl (lv_at hl 0 rfl) ?_
          refine va_get (D := D) (ci := 12) (v := .ref g.aw) (C := RX11) (T := TX11) (N := 17) hx hb hg in_X11 hown hK hP 0 rfl rfl 3 (by decide) (hg _ g_689) (fun _ h9 => h9) rfl dX11_loadOf_76 ?_
          refine lv_aload_n hx hb dX11_loadOf_79 rfl (lv_at hl 0 rfl) ?_
          refine va_get (D := D) (ci := 12) (v := .ref g.ar) (C := RX11) (T := TX11) (N := 17) hx hb hg in_X11 hown hK hP 0 rfl rfl 11 (by decide) (hg _ g_697) (fun _ h9 => h9) rfl dX11_loadOf_80 ?_
          refine lv_bipush (v := 12) hx hb dX11_loadOf_83 (by decide) ?_
          refine lv_iload_n hx hb dX11_loadOf_85 rfl (lv_at hl 1 rfl) ?_
          refine lv_imul hx hb dX11_loadOf_86 ?_
          refine lv_iload hx hb dX11_loadOf_87 (lv_at hl 6 rfl) ?_
          refine lv_iadd hx hb dX11_loadOf_89 ?_
          obtain ⟨hb_10, hk⟩ := hk
          refine va_iald hx hb hK hP 9 0 rfl rfl (hb_10) dX11_loadOf_90 ?_
          obtain ⟨hb_11, hk⟩ := hk
          refine va_iald hx hb hK hP 2 0 rfl rfl (hb_11) dX11_loadOf_91 ?_
          refine lv_iadd hx hb dX11_loadOf_92 ?_
          refine lv_istore (lv' := [(4, .int (x.1 + (((fX11_ruleS (fX11_ruleS M 2 5) 2 0).2.2.2.1) (((fX11_ruleS (fX11_ruleS M 2 5) 2 0).2.2.2.2.2.2.2.2.2.2.2.1) ((12 * pl) + x.2.2).toNatClampNeg).toNatClampNeg))), (0, .ref g.mo), (1, .int pl), (2, .int (M.2.2.2.2.2.2.2.1 pl.toNatClampNeg)), (3, .int 1), (5, .int x.2.1), (6, .int x.2.2)]) hx hb dX11_loadOf_93 hl (by decide) rfl (fun ls hl => ?_)
          refine lv_iload hx hb dX11_loadOf_95 (lv_at hl 5 rfl) ?_
          refine lv_aload_n hx hb dX11_loadOf_97 rfl (lv_at hl 1 rfl) ?_
          refine va_get (D := D) (ci := 12) (v := .ref g.az) (C := RX11) (T := TX11) (N := 17) hx hb hg in_X11 hown hK hP 0 rfl rfl 4 (by decide) (hg _ g_690) (fun _ h9 => h9) rfl dX11_loadOf_98 ?_
          refine lv_aload_n hx hb dX11_loadOf_101 rfl (lv_at hl 1 rfl) ?_
          refine va_get (D := D) (ci := 12) (v := .ref g.ar) (C := RX11) (T := TX11) (N := 17) hx hb hg in_X11 hown hK hP 0 rfl rfl 11 (by decide) (hg _ g_697) (fun _ h9 => h9) rfl dX11_loadOf_102 ?_
          refine lv_bipush (v := 12) hx hb dX11_loadOf_105 (by decide) ?_
          refine lv_iload_n hx hb dX11_loadOf_107 rfl (lv_at hl 2 rfl) ?_
          refine lv_imul hx hb dX11_loadOf_108 ?_
          refine lv_iload hx hb dX11_loadOf_109 (lv_at hl 6 rfl) ?_
          refine lv_iadd hx hb dX11_loadOf_111 ?_
          refine va_iald hx hb hK hP 9 0 rfl rfl (hb_10) dX11_loadOf_112 ?_
          refine va_zald hx hb hK hP 3 1 rfl rfl (hb_11) dX11_loadOf_113 ?_
          refine lv_if_eq (tgt := 121) hx hb dX11_loadOf_114 (by decide) (fun c_12 => ?_) (fun c_12 => ?_)
          · -- (((fX11_ruleS (fX11_ruleS M 2 5) 2 0).2.2.2.2.1) (((fX11_ruleS (fX11_ruleS M 2 5) 2 0).2.2.2.2.2.2.2.2.2.2.2.1) ((12 * pl) + x.2.2).toNatClampNeg).toNatClampNeg) = 0
            have hk := hk.1 c_12
            refine lv_iconst (v := 0) hx hb dX11_loadOf_121 (by decide) ?_
            refine lv_iadd hx hb dX11_loadOf_122 ?_
            refine lv_istore (lv' := [(5, .int (x.2.1 + 0)), (4, .int (x.1 + (((fX11_ruleS (fX11_ruleS M 2 5) 2 0).2.2.2.1) (((fX11_ruleS (fX11_ruleS M 2 5) 2 0).2.2.2.2.2.2.2.2.2.2.2.1) ((12 * pl) + x.2.2).toNatClampNeg).toNatClampNeg))), (0, .ref g.mo), (1, .int pl), (2, .int (M.2.2.2.2.2.2.2.1 pl.toNatClampNeg)), (3, .int 1), (6, .int x.2.2)]) hx hb dX11_loadOf_123 hl (by decide) rfl (fun ls hl => ?_)
            refine lv_iinc (v := (x.2.2 + 1)) (lv' := [(6, .int (x.2.2 + 1)), (5, .int (x.2.1 + 0)), (4, .int (x.1 + (((fX11_ruleS (fX11_ruleS M 2 5) 2 0).2.2.2.1) (((fX11_ruleS (fX11_ruleS M 2 5) 2 0).2.2.2.2.2.2.2.2.2.2.2.1) ((12 * pl) + x.2.2).toNatClampNeg).toNatClampNeg))), (0, .ref g.mo), (1, .int pl), (2, .int (M.2.2.2.2.2.2.2.1 pl.toNatClampNeg)), (3, .int 1)]) hx hb dX11_loadOf_125 hl (k := 6) rfl rfl (by decide) rfl (fun ls hl => ?_)
            refine lv_goto (tgt := 62) hx hb dX11_loadOf_128 (by decide) ?_
            obtain ⟨hL_13, hk⟩ := hk
            exact ih ((x.1 + (((fX11_ruleS (fX11_ruleS M 2 5) 2 0).2.2.2.1) (((fX11_ruleS (fX11_ruleS M 2 5) 2 0).2.2.2.2.2.2.2.2.2.2.2.1) ((12 * pl) + x.2.2).toNatClampNeg).toNatClampNeg)), (x.2.1 + 0), (x.2.2 + 1)) _ _ _ ⟨⟨lp_up c_8 hI.1, (by rw [← hI.2.1]; simp only [lX11_loadOf_1R, if_neg c_8, if_pos c_12]), (by rw [← hI.2.2.1]; simp only [lX11_loadOf_1S, if_neg c_8, if_pos c_12]), hL_13⟩, hP, hD, hS, lv_sub hl [3, 4, 5, 6, 2, 1, 0] rfl⟩
          · -- not (((fX11_ruleS (fX11_ruleS M 2 5) 2 0).2.2.2.2.1) (((fX11_ruleS (fX11_ruleS M 2 5) 2 0).2.2.2.2.2.2.2.2.2.2.2.1) ((12 * pl) + x.2.2).toNatClampNeg).toNatClampNeg) = 0
            have hk := hk.2 c_12
            refine lv_iconst (v := 1) hx hb dX11_loadOf_117 (by decide) ?_
            refine lv_goto (tgt := 122) hx hb dX11_loadOf_118 (by decide) ?_
            refine lv_iadd hx hb dX11_loadOf_122 ?_
            refine lv_istore (lv' := [(5, .int (x.2.1 + 1)), (4, .int (x.1 + (((fX11_ruleS (fX11_ruleS M 2 5) 2 0).2.2.2.1) (((fX11_ruleS (fX11_ruleS M 2 5) 2 0).2.2.2.2.2.2.2.2.2.2.2.1) ((12 * pl) + x.2.2).toNatClampNeg).toNatClampNeg))), (0, .ref g.mo), (1, .int pl), (2, .int (M.2.2.2.2.2.2.2.1 pl.toNatClampNeg)), (3, .int 1), (6, .int x.2.2)]) hx hb dX11_loadOf_123 hl (by decide) rfl (fun ls hl => ?_)
            refine lv_iinc (v := (x.2.2 + 1)) (lv' := [(6, .int (x.2.2 + 1)), (5, .int (x.2.1 + 1)), (4, .int (x.1 + (((fX11_ruleS (fX11_ruleS M 2 5) 2 0).2.2.2.1) (((fX11_ruleS (fX11_ruleS M 2 5) 2 0).2.2.2.2.2.2.2.2.2.2.2.1) ((12 * pl) + x.2.2).toNatClampNeg).toNatClampNeg))), (0, .ref g.mo), (1, .int pl), (2, .int (M.2.2.2.2.2.2.2.1 pl.toNatClampNeg)), (3, .int 1)]) hx hb dX11_loadOf_125 hl (k := 6) rfl rfl (by decide) rfl (fun ls hl => ?_)
            refine lv_goto (tgt := 62) hx hb dX11_loadOf_128 (by decide) ?_
            obtain ⟨hL_14, hk⟩ := hk
            exact ih ((x.1 + (((fX11_ruleS (fX11_ruleS M 2 5) 2 0).2.2.2.1) (((fX11_ruleS (fX11_ruleS M 2 5) 2 0).2.2.2.2.2.2.2.2.2.2.2.1) ((12 * pl) + x.2.2).toNatClampNeg).toNatClampNeg)), (x.2.1 + 1), (x.2.2 + 1)) _ _ _ ⟨⟨lp_up c_8 hI.1, (by rw [← hI.2.1]; simp only [lX11_loadOf_1R, if_neg c_8, if_neg c_12]), (by rw [← hI.2.2.1]; simp only [lX11_loadOf_1S, if_neg c_8, if_neg c_12]), hL_14⟩, hP, hD, hS, lv_sub hl [3, 4, 5, 6, 2, 1, 0] rfl⟩
      · -- (M.2.2.2.2.2.2.2.1 pl.toNatClampNeg) = 6
        exact absurd (c_2.symm.trans c_5) (by decide)
  · -- not (M.2.2.2.2.2.2.2.1 pl.toNatClampNeg) = 5
    have hk := hk.2 c_2
    refine lv_iload_n hx hb dX11_loadOf_12 rfl (lv_at hl 0 rfl) ?_
    refine lv_bipush (v := 7) hx hb dX11_loadOf_13 (by decide) ?_
    refine lv_icmp_ne (tgt := 22) hx hb dX11_loadOf_15 (by decide) (fun c_15 => ?_) (fun c_15 => ?_)
    · -- not (M.2.2.2.2.2.2.2.1 pl.toNatClampNeg) = 7
      have hk := hk.2 c_15
      refine lv_iconst (v := 0) hx hb dX11_loadOf_22 (by decide) ?_
      refine lv_istore_n (lv' := [(3, .int 0), (2, .int (M.2.2.2.2.2.2.2.1 pl.toNatClampNeg)), (0, .ref g.mo), (1, .int pl)]) hx hb dX11_loadOf_23 rfl hl (by decide) rfl (fun ls hl => ?_)
      refine lv_iload_n hx hb dX11_loadOf_24 rfl (lv_at hl 0 rfl) ?_
      refine lv_if_eq (tgt := 34) hx hb dX11_loadOf_25 (by decide) (fun c_16 => ?_) (fun c_16 => ?_)
      · -- 0 = 0
        refine lv_iload_n hx hb dX11_loadOf_34 rfl (lv_at hl 1 rfl) ?_
        refine lv_bipush (v := 6) hx hb dX11_loadOf_35 (by decide) ?_
        refine lv_icmp_ne (tgt := 47) hx hb dX11_loadOf_37 (by decide) (fun c_17 => ?_) (fun c_17 => ?_)
        · -- not (M.2.2.2.2.2.2.2.1 pl.toNatClampNeg) = 6
          have hk := hk.2 c_17
          refine lv_aload_n hx hb dX11_loadOf_47 rfl (lv_at hl 2 rfl) ?_
          refine lv_iconst (v := 2) hx hb dX11_loadOf_48 (by decide) ?_
          refine lv_iconst (v := 0) hx hb dX11_loadOf_49 (by decide) ?_
          obtain ⟨hc_18, hk⟩ := hk
          refine z_ve (va_runV (As := [.int 2, .int 0]) (rest := []) ⟨hx, hb, hml, hown, hts⟩ (c_X11_rule l D g M 2 0 hc_18 _) (z_V 2 hts g_772 g_4 g_769 g_771 gp_8 ⟨by decide, by decide, by decide +kernel⟩ ⟨Nat.le_of_ble_eq_true rfl, Nat.le_of_ble_eq_true rfl⟩) (z_preV (ci := 12) (q0 := 0) (hP.subm [0, 1, 2, 3, 4, 5, 6, 7, 8, 9, 10] rfl) (hD.sub [0, 1, 2, 3, 4, 5, 6, 7, 8, 9, 10] (by decide) rfl) hK rfl rfl) rfl rfl hl.1 rfl (lv_room (Nat.le_of_ble_eq_true rfl)) dX11_loadOf_50 ⟨Nat.le_of_ble_eq_true rfl, Nat.le_of_ble_eq_true rfl⟩) hP hD hS hA (([] : va_W)) (wM g (fX11_ruleS M 2 0)) [0, 1, 2, 3, 4, 5, 6, 7, 8, 9, 10] [] [0, 1, 2, 3, 4, 5, 6, 7, 8, 9, 10] rfl rfl (by decide) (by decide) rfl (by decide) (fun H locs hP hD hS => ?_)
          refine lv_iconst (v := 0) hx hb dX11_loadOf_53 (by decide) ?_
          refine lv_istore (lv' := [(4, .int 0), (3, .int 0), (2, .int (M.2.2.2.2.2.2.2.1 pl.toNatClampNeg)), (0, .ref g.mo), (1, .int pl)]) hx hb dX11_loadOf_54 hl (by decide) rfl (fun ls hl => ?_)
          refine lv_iconst (v := 0) hx hb dX11_loadOf_56 (by decide) ?_
          refine lv_istore (lv' := [(5, .int 0), (4, .int 0), (3, .int 0), (2, .int (M.2.2.2.2.2.2.2.1 pl.toNatClampNeg)), (0, .ref g.mo), (1, .int pl)]) hx hb dX11_loadOf_57 hl (by decide) rfl (fun ls hl => ?_)
          refine lv_iconst (v := 0) hx hb dX11_loadOf_59 (by decide) ?_
          refine lv_istore (lv' := [(6, .int 0), (5, .int 0), (4, .int 0), (3, .int 0), (2, .int (M.2.2.2.2.2.2.2.1 pl.toNatClampNeg)), (0, .ref g.mo), (1, .int pl)]) hx hb dX11_loadOf_60 hl (by decide) rfl (fun ls hl => ?_)
          obtain ⟨hL_19, hk⟩ := hk
          refine z_loop (pc := 62) (fun n (x : Int32 × Int32 × Int32) H locs ls => ((((fX11_ruleS M 2 0).2.2.2.2.2.2.2.2.2.2.1 pl.toNatClampNeg).toInt - x.2.2.toInt).toNat < n ∧ lX11_loadOf_2R M pl n x = fX11_loadOfR M pl ∧ lX11_loadOf_2S M pl n x = fX11_loadOfS M pl ∧ lX11_loadOf_2K M pl n x) ∧ va_P D vwCl (wM g (fX11_ruleS M 2 0)) H ∧ va_D A (wM g (fX11_ruleS M 2 0)) ∧ va_S A s.heap H locs ∧ lv_has ls 7 [(0, .ref g.mo), (1, .int pl), (2, .int (M.2.2.2.2.2.2.2.1 pl.toNatClampNeg)), (3, .int 0), (4, .int x.1), (5, .int x.2.1), (6, .int x.2.2)]) (fun x H locs ls h => absurd h.1.1 (Nat.not_lt_zero _)) ?_ (((fX11_ruleS M 2 0).2.2.2.2.2.2.2.2.2.2.1 pl.toNatClampNeg).toNatClampNeg + 1) (0, 0, 0) _ _ _ ⟨⟨lp_st _, (by simp only [fX11_loadOfR, if_neg c_2, if_neg c_15, if_neg c_17]), (by simp only [fX11_loadOfS, if_neg c_2, if_neg c_15, if_neg c_17]), hL_19⟩, hP, hD, hS, lv_sub hl [5, 6, 4, 3, 2, 1, 0] rfl⟩
          intro n x H locs ls hI ih
          obtain ⟨hI, hP, hD, hS, hl⟩ := hI
          have hk : (((((fX11_ruleS M 2 0).2.2.2.2.2.2.2.2.2.2.1) pl.toNatClampNeg) ≤ x.2.2 → True) ∧ (¬ (((fX11_ruleS M 2 0).2.2.2.2.2.2.2.2.2.2.1) pl.toNatClampNeg) ≤ x.2.2 → (vp_in ((12 * pl) + x.2.2) 144 ∧ vp_in (((fX11_ruleS M 2 0).2.2.2.2.2.2.2.2.2.2.2.1) ((12 * pl) + x.2.2).toNatClampNeg) 60 ∧ (((((fX11_ruleS M 2 0).2.2.2.2.1) (((fX11_ruleS M 2 0).2.2.2.2.2.2.2.2.2.2.2.1) ((12 * pl) + x.2.2).toNatClampNeg).toNatClampNeg) = 0 → (lX11_loadOf_2K M pl n ((x.1 + (((fX11_ruleS M 2 0).2.2.2.1) (((fX11_ruleS M 2 0).2.2.2.2.2.2.2.2.2.2.2.1) ((12 * pl) + x.2.2).toNatClampNeg).toNatClampNeg)), (x.2.1 + 0), (x.2.2 + 1)) ∧ True)) ∧ (¬ (((fX11_ruleS M 2 0).2.2.2.2.1) (((fX11_ruleS M 2 0).2.2.2.2.2.2.2.2.2.2.2.1) ((12 * pl) + x.2.2).toNatClampNeg).toNatClampNeg) = 0 → (lX11_loadOf_2K M pl n ((x.1 + (((fX11_ruleS M 2 0).2.2.2.1) (((fX11_ruleS M 2 0).2.2.2.2.2.2.2.2.2.2.2.1) ((12 * pl) + x.2.2).toNatClampNeg).toNatClampNeg)), (x.2.1 + 1), (x.2.2 + 1)) ∧ True)))))) := hI.2.2.2
          refine lv_iload hx hb dX11_loadOf_62 (lv_at hl 6 rfl) ?_
          refine lv_aload_n hx hb dX11_loadOf_64 rfl (lv_at hl 0 rfl) ?_
          refine va_get (D := D) (ci := 12) (v := .ref g.an) (C := RX11) (T := TX11) (N := 17) hx hb hg in_X11 hown hK hP 0 rfl rfl 10 (by decide) (hg _ g_696) (fun _ h9 => h9) rfl dX11_loadOf_65 ?_
          refine lv_iload_n hx hb dX11_loadOf_68 rfl (lv_at hl 1 rfl) ?_
          refine va_iald hx hb hK hP 8 0 rfl rfl (hb_1) dX11_loadOf_69 ?_
          refine lv_icmp_ge (tgt := 131) hx hb dX11_loadOf_70 (by decide) (fun c_20 => ?_) (fun c_20 => ?_)
          · -- (((fX11_ruleS M 2 0).2.2.2.2.2.2.2.2.2.2.1) pl.toNatClampNeg) ≤ x.2.2
            have hk := hk.1 c_20
            refine lv_iload_n hx hb dX11_loadOf_131 rfl (lv_at hl 3 rfl) ?_
            refine lv_if_eq (tgt := 142) hx hb dX11_loadOf_132 (by decide) (fun c_21 => ?_) (fun c_21 => ?_)
            · -- 0 = 0
              refine lv_iload_n hx hb dX11_loadOf_142 rfl (lv_at hl 2 rfl) ?_
              refine lv_bipush (v := 6) hx hb dX11_loadOf_143 (by decide) ?_
              refine lv_icmp_ne (tgt := 159) hx hb dX11_loadOf_145 (by decide) (fun c_22 => ?_) (fun c_22 => ?_)
              · -- not (M.2.2.2.2.2.2.2.1 pl.toNatClampNeg) = 6
                refine lv_iload hx hb dX11_loadOf_159 (lv_at hl 4 rfl) ?_
                exact W.iret (v := x.1) hx hb hr (fun t9 ht hW => ⟨⟨x.1, wM g (fX11_ruleS M 2 0), rfl, ⟨(by rw [← hI.2.1]; simp only [lX11_loadOf_2R, if_pos c_20]), (by rw [← hI.2.2.1]; simp only [lX11_loadOf_2S, if_pos c_20])⟩, by rw [ht]; exact hP, va_K.moved hW.alike hK, hD⟩, hS.F ht⟩) hS.2.2 dX11_loadOf_161
              · -- (M.2.2.2.2.2.2.2.1 pl.toNatClampNeg) = 6
                exact absurd c_22 c_17
            · -- not 0 = 0
              exact absurd (by decide) c_21
          · -- not (((fX11_ruleS M 2 0).2.2.2.2.2.2.2.2.2.2.1) pl.toNatClampNeg) ≤ x.2.2
            have hk := hk.2 c_20
            refine lv_iload hx hb dX11_loadOf_73 (lv_at hl 4 rfl) ?_
            refine lv_aload_n hx hb dX11_loadOf_75 rfl (lv_at hl 0 rfl) ?_
            refine va_get (D := D) (ci := 12) (v := .ref g.aw) (C := RX11) (T := TX11) (N := 17) hx hb hg in_X11 hown hK hP 0 rfl rfl 3 (by decide) (hg _ g_689) (fun _ h9 => h9) rfl dX11_loadOf_76 ?_
            refine lv_aload_n hx hb dX11_loadOf_79 rfl (lv_at hl 0 rfl) ?_
            refine va_get (D := D) (ci := 12) (v := .ref g.ar) (C := RX11) (T := TX11) (N := 17) hx hb hg in_X11 hown hK hP 0 rfl rfl 11 (by decide) (hg _ g_697) (fun _ h9 => h9) rfl dX11_loadOf_80 ?_
            refine lv_bipush (v := 12) hx hb dX11_loadOf_83 (by decide) ?_
            refine lv_iload_n hx hb dX11_loadOf_85 rfl (lv_at hl 1 rfl) ?_
            refine lv_imul hx hb dX11_loadOf_86 ?_
            refine lv_iload hx hb dX11_loadOf_87 (lv_at hl 6 rfl) ?_
            refine lv_iadd hx hb dX11_loadOf_89 ?_
            obtain ⟨hb_23, hk⟩ := hk
            refine va_iald hx hb hK hP 9 0 rfl rfl (hb_23) dX11_loadOf_90 ?_
            obtain ⟨hb_24, hk⟩ := hk
            refine va_iald hx hb hK hP 2 0 rfl rfl (hb_24) dX11_loadOf_91 ?_
            refine lv_iadd hx hb dX11_loadOf_92 ?_
            refine lv_istore (lv' := [(4, .int (x.1 + (((fX11_ruleS M 2 0).2.2.2.1) (((fX11_ruleS M 2 0).2.2.2.2.2.2.2.2.2.2.2.1) ((12 * pl) + x.2.2).toNatClampNeg).toNatClampNeg))), (0, .ref g.mo), (1, .int pl), (2, .int (M.2.2.2.2.2.2.2.1 pl.toNatClampNeg)), (3, .int 0), (5, .int x.2.1), (6, .int x.2.2)]) hx hb dX11_loadOf_93 hl (by decide) rfl (fun ls hl => ?_)
            refine lv_iload hx hb dX11_loadOf_95 (lv_at hl 5 rfl) ?_
            refine lv_aload_n hx hb dX11_loadOf_97 rfl (lv_at hl 1 rfl) ?_
            refine va_get (D := D) (ci := 12) (v := .ref g.az) (C := RX11) (T := TX11) (N := 17) hx hb hg in_X11 hown hK hP 0 rfl rfl 4 (by decide) (hg _ g_690) (fun _ h9 => h9) rfl dX11_loadOf_98 ?_
            refine lv_aload_n hx hb dX11_loadOf_101 rfl (lv_at hl 1 rfl) ?_
            refine va_get (D := D) (ci := 12) (v := .ref g.ar) (C := RX11) (T := TX11) (N := 17) hx hb hg in_X11 hown hK hP 0 rfl rfl 11 (by decide) (hg _ g_697) (fun _ h9 => h9) rfl dX11_loadOf_102 ?_
            refine lv_bipush (v := 12) hx hb dX11_loadOf_105 (by decide) ?_
            refine lv_iload_n hx hb dX11_loadOf_107 rfl (lv_at hl 2 rfl) ?_
            refine lv_imul hx hb dX11_loadOf_108 ?_
            refine lv_iload hx hb dX11_loadOf_109 (lv_at hl 6 rfl) ?_
            refine lv_iadd hx hb dX11_loadOf_111 ?_
            refine va_iald hx hb hK hP 9 0 rfl rfl (hb_23) dX11_loadOf_112 ?_
            refine va_zald hx hb hK hP 3 1 rfl rfl (hb_24) dX11_loadOf_113 ?_
            refine lv_if_eq (tgt := 121) hx hb dX11_loadOf_114 (by decide) (fun c_25 => ?_) (fun c_25 => ?_)
            · -- (((fX11_ruleS M 2 0).2.2.2.2.1) (((fX11_ruleS M 2 0).2.2.2.2.2.2.2.2.2.2.2.1) ((12 * pl) + x.2.2).toNatClampNeg).toNatClampNeg) = 0
              have hk := hk.1 c_25
              refine lv_iconst (v := 0) hx hb dX11_loadOf_121 (by decide) ?_
              refine lv_iadd hx hb dX11_loadOf_122 ?_
              refine lv_istore (lv' := [(5, .int (x.2.1 + 0)), (4, .int (x.1 + (((fX11_ruleS M 2 0).2.2.2.1) (((fX11_ruleS M 2 0).2.2.2.2.2.2.2.2.2.2.2.1) ((12 * pl) + x.2.2).toNatClampNeg).toNatClampNeg))), (0, .ref g.mo), (1, .int pl), (2, .int (M.2.2.2.2.2.2.2.1 pl.toNatClampNeg)), (3, .int 0), (6, .int x.2.2)]) hx hb dX11_loadOf_123 hl (by decide) rfl (fun ls hl => ?_)
              refine lv_iinc (v := (x.2.2 + 1)) (lv' := [(6, .int (x.2.2 + 1)), (5, .int (x.2.1 + 0)), (4, .int (x.1 + (((fX11_ruleS M 2 0).2.2.2.1) (((fX11_ruleS M 2 0).2.2.2.2.2.2.2.2.2.2.2.1) ((12 * pl) + x.2.2).toNatClampNeg).toNatClampNeg))), (0, .ref g.mo), (1, .int pl), (2, .int (M.2.2.2.2.2.2.2.1 pl.toNatClampNeg)), (3, .int 0)]) hx hb dX11_loadOf_125 hl (k := 6) rfl rfl (by decide) rfl (fun ls hl => ?_)
              refine lv_goto (tgt := 62) hx hb dX11_loadOf_128 (by decide) ?_
              obtain ⟨hL_26, hk⟩ := hk
              exact ih ((x.1 + (((fX11_ruleS M 2 0).2.2.2.1) (((fX11_ruleS M 2 0).2.2.2.2.2.2.2.2.2.2.2.1) ((12 * pl) + x.2.2).toNatClampNeg).toNatClampNeg)), (x.2.1 + 0), (x.2.2 + 1)) _ _ _ ⟨⟨lp_up c_20 hI.1, (by rw [← hI.2.1]; simp only [lX11_loadOf_2R, if_neg c_20, if_pos c_25]), (by rw [← hI.2.2.1]; simp only [lX11_loadOf_2S, if_neg c_20, if_pos c_25]), hL_26⟩, hP, hD, hS, lv_sub hl [3, 4, 5, 6, 2, 1, 0] rfl⟩
            · -- not (((fX11_ruleS M 2 0).2.2.2.2.1) (((fX11_ruleS M 2 0).2.2.2.2.2.2.2.2.2.2.2.1) ((12 * pl) + x.2.2).toNatClampNeg).toNatClampNeg) = 0
              have hk := hk.2 c_25
              refine lv_iconst (v := 1) hx hb dX11_loadOf_117 (by decide) ?_
              refine lv_goto (tgt := 122) hx hb dX11_loadOf_118 (by decide) ?_
              refine lv_iadd hx hb dX11_loadOf_122 ?_
              refine lv_istore (lv' := [(5, .int (x.2.1 + 1)), (4, .int (x.1 + (((fX11_ruleS M 2 0).2.2.2.1) (((fX11_ruleS M 2 0).2.2.2.2.2.2.2.2.2.2.2.1) ((12 * pl) + x.2.2).toNatClampNeg).toNatClampNeg))), (0, .ref g.mo), (1, .int pl), (2, .int (M.2.2.2.2.2.2.2.1 pl.toNatClampNeg)), (3, .int 0), (6, .int x.2.2)]) hx hb dX11_loadOf_123 hl (by decide) rfl (fun ls hl => ?_)
              refine lv_iinc (v := (x.2.2 + 1)) (lv' := [(6, .int (x.2.2 + 1)), (5, .int (x.2.1 + 1)), (4, .int (x.1 + (((fX11_ruleS M 2 0).2.2.2.1) (((fX11_ruleS M 2 0).2.2.2.2.2.2.2.2.2.2.2.1) ((12 * pl) + x.2.2).toNatClampNeg).toNatClampNeg))), (0, .ref g.mo), (1, .int pl), (2, .int (M.2.2.2.2.2.2.2.1 pl.toNatClampNeg)), (3, .int 0)]) hx hb dX11_loadOf_125 hl (k := 6) rfl rfl (by decide) rfl (fun ls hl => ?_)
              refine lv_goto (tgt := 62) hx hb dX11_loadOf_128 (by decide) ?_
              obtain ⟨hL_27, hk⟩ := hk
              exact ih ((x.1 + (((fX11_ruleS M 2 0).2.2.2.1) (((fX11_ruleS M 2 0).2.2.2.2.2.2.2.2.2.2.2.1) ((12 * pl) + x.2.2).toNatClampNeg).toNatClampNeg)), (x.2.1 + 1), (x.2.2 + 1)) _ _ _ ⟨⟨lp_up c_20 hI.1, (by rw [← hI.2.1]; simp only [lX11_loadOf_2R, if_neg c_20, if_neg c_25]), (by rw [← hI.2.2.1]; simp only [lX11_loadOf_2S, if_neg c_20, if_neg c_25]), hL_27⟩, hP, hD, hS, lv_sub hl [3, 4, 5, 6, 2, 1, 0] rfl⟩
        · -- (M.2.2.2.2.2.2.2.1 pl.toNatClampNeg) = 6
          have hk := hk.1 c_17
          refine lv_aload_n hx hb dX11_loadOf_40 rfl (lv_at hl 2 rfl) ?_
          refine lv_iconst (v := 2) hx hb dX11_loadOf_41 (by decide) ?_
          refine lv_bipush (v := 6) hx hb dX11_loadOf_42 (by decide) ?_
          obtain ⟨hc_28, hk⟩ := hk
          refine z_ve (va_runV (As := [.int 2, .int 6]) (rest := []) ⟨hx, hb, hml, hown, hts⟩ (c_X11_rule l D g M 2 6 hc_28 _) (z_V 2 hts g_772 g_4 g_769 g_771 gp_8 ⟨by decide, by decide, by decide +kernel⟩ ⟨Nat.le_of_ble_eq_true rfl, Nat.le_of_ble_eq_true rfl⟩) (z_preV (ci := 12) (q0 := 0) (hP.subm [0, 1, 2, 3, 4, 5, 6, 7, 8, 9, 10] rfl) (hD.sub [0, 1, 2, 3, 4, 5, 6, 7, 8, 9, 10] (by decide) rfl) hK rfl rfl) rfl rfl hl.1 rfl (lv_room (Nat.le_of_ble_eq_true rfl)) dX11_loadOf_44 ⟨Nat.le_of_ble_eq_true rfl, Nat.le_of_ble_eq_true rfl⟩) hP hD hS hA (([] : va_W)) (wM g (fX11_ruleS M 2 6)) [0, 1, 2, 3, 4, 5, 6, 7, 8, 9, 10] [] [0, 1, 2, 3, 4, 5, 6, 7, 8, 9, 10] rfl rfl (by decide) (by decide) rfl (by decide) (fun H locs hP hD hS => ?_)
          refine lv_aload_n hx hb dX11_loadOf_47 rfl (lv_at hl 2 rfl) ?_
          refine lv_iconst (v := 2) hx hb dX11_loadOf_48 (by decide) ?_
          refine lv_iconst (v := 0) hx hb dX11_loadOf_49 (by decide) ?_
          obtain ⟨hc_29, hk⟩ := hk
          refine z_ve (va_runV (As := [.int 2, .int 0]) (rest := []) ⟨hx, hb, hml, hown, hts⟩ (c_X11_rule l D g (fX11_ruleS M 2 6) 2 0 hc_29 _) (z_V 2 hts g_772 g_4 g_769 g_771 gp_8 ⟨by decide, by decide, by decide +kernel⟩ ⟨Nat.le_of_ble_eq_true rfl, Nat.le_of_ble_eq_true rfl⟩) (z_preV (ci := 12) (q0 := 0) (hP.subm [0, 1, 2, 3, 4, 5, 6, 7, 8, 9, 10] rfl) (hD.sub [0, 1, 2, 3, 4, 5, 6, 7, 8, 9, 10] (by decide) rfl) hK rfl rfl) rfl rfl hl.1 rfl (lv_room (Nat.le_of_ble_eq_true rfl)) dX11_loadOf_50 ⟨Nat.le_of_ble_eq_true rfl, Nat.le_of_ble_eq_true rfl⟩) hP hD hS hA (([] : va_W)) (wM g (fX11_ruleS (fX11_ruleS M 2 6) 2 0)) [0, 1, 2, 3, 4, 5, 6, 7, 8, 9, 10] [] [0, 1, 2, 3, 4, 5, 6, 7, 8, 9, 10] rfl rfl (by decide) (by decide) rfl (by decide) (fun H locs hP hD hS => ?_)
          refine lv_iconst (v := 0) hx hb dX11_loadOf_53 (by decide) ?_
          refine lv_istore (lv' := [(4, .int 0), (3, .int 0), (2, .int (M.2.2.2.2.2.2.2.1 pl.toNatClampNeg)), (0, .ref g.mo), (1, .int pl)]) hx hb dX11_loadOf_54 hl (by decide) rfl (fun ls hl => ?_)
          refine lv_iconst (v := 0) hx hb dX11_loadOf_56 (by decide) ?_
          refine lv_istore (lv' := [(5, .int 0), (4, .int 0), (3, .int 0), (2, .int (M.2.2.2.2.2.2.2.1 pl.toNatClampNeg)), (0, .ref g.mo), (1, .int pl)]) hx hb dX11_loadOf_57 hl (by decide) rfl (fun ls hl => ?_)
          refine lv_iconst (v := 0) hx hb dX11_loadOf_59 (by decide) ?_
          refine lv_istore (lv' := [(6, .int 0), (5, .int 0), (4, .int 0), (3, .int 0), (2, .int (M.2.2.2.2.2.2.2.1 pl.toNatClampNeg)), (0, .ref g.mo), (1, .int pl)]) hx hb dX11_loadOf_60 hl (by decide) rfl (fun ls hl => ?_)
          obtain ⟨hL_30, hk⟩ := hk
          refine z_loop (pc := 62) (fun n (x : Int32 × Int32 × Int32) H locs ls => ((((fX11_ruleS (fX11_ruleS M 2 6) 2 0).2.2.2.2.2.2.2.2.2.2.1 pl.toNatClampNeg).toInt - x.2.2.toInt).toNat < n ∧ lX11_loadOf_3R M pl n x = fX11_loadOfR M pl ∧ lX11_loadOf_3S M pl n x = fX11_loadOfS M pl ∧ lX11_loadOf_3K M pl n x) ∧ va_P D vwCl (wM g (fX11_ruleS (fX11_ruleS M 2 6) 2 0)) H ∧ va_D A (wM g (fX11_ruleS (fX11_ruleS M 2 6) 2 0)) ∧ va_S A s.heap H locs ∧ lv_has ls 7 [(0, .ref g.mo), (1, .int pl), (2, .int (M.2.2.2.2.2.2.2.1 pl.toNatClampNeg)), (3, .int 0), (4, .int x.1), (5, .int x.2.1), (6, .int x.2.2)]) (fun x H locs ls h => absurd h.1.1 (Nat.not_lt_zero _)) ?_ (((fX11_ruleS (fX11_ruleS M 2 6) 2 0).2.2.2.2.2.2.2.2.2.2.1 pl.toNatClampNeg).toNatClampNeg + 1) (0, 0, 0) _ _ _ ⟨⟨lp_st _, (by simp only [fX11_loadOfR, if_neg c_2, if_neg c_15, if_pos c_17]), (by simp only [fX11_loadOfS, if_neg c_2, if_neg c_15, if_pos c_17]), hL_30⟩, hP, hD, hS, lv_sub hl [5, 6, 4, 3, 2, 1, 0] rfl⟩
          intro n x H locs ls hI ih
          obtain ⟨hI, hP, hD, hS, hl⟩ := hI
          have hk : (((((fX11_ruleS (fX11_ruleS M 2 6) 2 0).2.2.2.2.2.2.2.2.2.2.1) pl.toNatClampNeg) ≤ x.2.2 → True) ∧ (¬ (((fX11_ruleS (fX11_ruleS M 2 6) 2 0).2.2.2.2.2.2.2.2.2.2.1) pl.toNatClampNeg) ≤ x.2.2 → (vp_in ((12 * pl) + x.2.2) 144 ∧ vp_in (((fX11_ruleS (fX11_ruleS M 2 6) 2 0).2.2.2.2.2.2.2.2.2.2.2.1) ((12 * pl) + x.2.2).toNatClampNeg) 60 ∧ (((((fX11_ruleS (fX11_ruleS M 2 6) 2 0).2.2.2.2.1) (((fX11_ruleS (fX11_ruleS M 2 6) 2 0).2.2.2.2.2.2.2.2.2.2.2.1) ((12 * pl) + x.2.2).toNatClampNeg).toNatClampNeg) = 0 → (lX11_loadOf_3K M pl n ((x.1 + (((fX11_ruleS (fX11_ruleS M 2 6) 2 0).2.2.2.1) (((fX11_ruleS (fX11_ruleS M 2 6) 2 0).2.2.2.2.2.2.2.2.2.2.2.1) ((12 * pl) + x.2.2).toNatClampNeg).toNatClampNeg)), (x.2.1 + 0), (x.2.2 + 1)) ∧ True)) ∧ (¬ (((fX11_ruleS (fX11_ruleS M 2 6) 2 0).2.2.2.2.1) (((fX11_ruleS (fX11_ruleS M 2 6) 2 0).2.2.2.2.2.2.2.2.2.2.2.1) ((12 * pl) + x.2.2).toNatClampNeg).toNatClampNeg) = 0 → (lX11_loadOf_3K M pl n ((x.1 + (((fX11_ruleS (fX11_ruleS M 2 6) 2 0).2.2.2.1) (((fX11_ruleS (fX11_ruleS M 2 6) 2 0).2.2.2.2.2.2.2.2.2.2.2.1) ((12 * pl) + x.2.2).toNatClampNeg).toNatClampNeg)), (x.2.1 + 1), (x.2.2 + 1)) ∧ True)))))) := hI.2.2.2
          refine lv_iload hx hb dX11_loadOf_62 (lv_at hl 6 rfl) ?_
          refine lv_aload_n hx hb dX11_loadOf_64 rfl (lv_at hl 0 rfl) ?_
          refine va_get (D := D) (ci := 12) (v := .ref g.an) (C := RX11) (T := TX11) (N := 17) hx hb hg in_X11 hown hK hP 0 rfl rfl 10 (by decide) (hg _ g_696) (fun _ h9 => h9) rfl dX11_loadOf_65 ?_
          refine lv_iload_n hx hb dX11_loadOf_68 rfl (lv_at hl 1 rfl) ?_
          refine va_iald hx hb hK hP 8 0 rfl rfl (hb_1) dX11_loadOf_69 ?_
          refine lv_icmp_ge (tgt := 131) hx hb dX11_loadOf_70 (by decide) (fun c_31 => ?_) (fun c_31 => ?_)
          · -- (((fX11_ruleS (fX11_ruleS M 2 6) 2 0).2.2.2.2.2.2.2.2.2.2.1) pl.toNatClampNeg) ≤ x.2.2
            have hk := hk.1 c_31
            refine lv_iload_n hx hb dX11_loadOf_131 rfl (lv_at hl 3 rfl) ?_
            refine lv_if_eq (tgt := 142) hx hb dX11_loadOf_132 (by decide) (fun c_32 => ?_) (fun c_32 => ?_)
            · -- 0 = 0
              refine lv_iload_n hx hb dX11_loadOf_142 rfl (lv_at hl 2 rfl) ?_
              refine lv_bipush (v := 6) hx hb dX11_loadOf_143 (by decide) ?_
              refine lv_icmp_ne (tgt := 159) hx hb dX11_loadOf_145 (by decide) (fun c_33 => ?_) (fun c_33 => ?_)
              · -- not (M.2.2.2.2.2.2.2.1 pl.toNatClampNeg) = 6
                exact absurd c_17 c_33
              · -- (M.2.2.2.2.2.2.2.1 pl.toNatClampNeg) = 6
                refine lv_iload hx hb dX11_loadOf_148 (lv_at hl 4 rfl) ?_
                refine lv_bipush (v := 10) hx hb dX11_loadOf_150 (by decide) ?_
                refine lv_iload hx hb dX11_loadOf_152 (lv_at hl 5 rfl) ?_
                refine lv_imul hx hb dX11_loadOf_154 ?_
                refine lv_iadd hx hb dX11_loadOf_155 ?_
                refine lv_goto (tgt := 161) hx hb dX11_loadOf_156 (by decide) ?_
                exact W.iret (v := (x.1 + (10 * x.2.1))) hx hb hr (fun t9 ht hW => ⟨⟨(x.1 + (10 * x.2.1)), wM g (fX11_ruleS (fX11_ruleS M 2 6) 2 0), rfl, ⟨(by rw [← hI.2.1]; simp only [lX11_loadOf_3R, if_pos c_31]), (by rw [← hI.2.2.1]; simp only [lX11_loadOf_3S, if_pos c_31])⟩, by rw [ht]; exact hP, va_K.moved hW.alike hK, hD⟩, hS.F ht⟩) hS.2.2 dX11_loadOf_161
            · -- not 0 = 0
              exact absurd (by decide) c_32
          · -- not (((fX11_ruleS (fX11_ruleS M 2 6) 2 0).2.2.2.2.2.2.2.2.2.2.1) pl.toNatClampNeg) ≤ x.2.2
            have hk := hk.2 c_31
            refine lv_iload hx hb dX11_loadOf_73 (lv_at hl 4 rfl) ?_
            refine lv_aload_n hx hb dX11_loadOf_75 rfl (lv_at hl 0 rfl) ?_
            refine va_get (D := D) (ci := 12) (v := .ref g.aw) (C := RX11) (T := TX11) (N := 17) hx hb hg in_X11 hown hK hP 0 rfl rfl 3 (by decide) (hg _ g_689) (fun _ h9 => h9) rfl dX11_loadOf_76 ?_
            refine lv_aload_n hx hb dX11_loadOf_79 rfl (lv_at hl 0 rfl) ?_
            refine va_get (D := D) (ci := 12) (v := .ref g.ar) (C := RX11) (T := TX11) (N := 17) hx hb hg in_X11 hown hK hP 0 rfl rfl 11 (by decide) (hg _ g_697) (fun _ h9 => h9) rfl dX11_loadOf_80 ?_
            refine lv_bipush (v := 12) hx hb dX11_loadOf_83 (by decide) ?_
            refine lv_iload_n hx hb dX11_loadOf_85 rfl (lv_at hl 1 rfl) ?_
            refine lv_imul hx hb dX11_loadOf_86 ?_
            refine lv_iload hx hb dX11_loadOf_87 (lv_at hl 6 rfl) ?_
            refine lv_iadd hx hb dX11_loadOf_89 ?_
            obtain ⟨hb_34, hk⟩ := hk
            refine va_iald hx hb hK hP 9 0 rfl rfl (hb_34) dX11_loadOf_90 ?_
            obtain ⟨hb_35, hk⟩ := hk
            refine va_iald hx hb hK hP 2 0 rfl rfl (hb_35) dX11_loadOf_91 ?_
            refine lv_iadd hx hb dX11_loadOf_92 ?_
            refine lv_istore (lv' := [(4, .int (x.1 + (((fX11_ruleS (fX11_ruleS M 2 6) 2 0).2.2.2.1) (((fX11_ruleS (fX11_ruleS M 2 6) 2 0).2.2.2.2.2.2.2.2.2.2.2.1) ((12 * pl) + x.2.2).toNatClampNeg).toNatClampNeg))), (0, .ref g.mo), (1, .int pl), (2, .int (M.2.2.2.2.2.2.2.1 pl.toNatClampNeg)), (3, .int 0), (5, .int x.2.1), (6, .int x.2.2)]) hx hb dX11_loadOf_93 hl (by decide) rfl (fun ls hl => ?_)
            refine lv_iload hx hb dX11_loadOf_95 (lv_at hl 5 rfl) ?_
            refine lv_aload_n hx hb dX11_loadOf_97 rfl (lv_at hl 1 rfl) ?_
            refine va_get (D := D) (ci := 12) (v := .ref g.az) (C := RX11) (T := TX11) (N := 17) hx hb hg in_X11 hown hK hP 0 rfl rfl 4 (by decide) (hg _ g_690) (fun _ h9 => h9) rfl dX11_loadOf_98 ?_
            refine lv_aload_n hx hb dX11_loadOf_101 rfl (lv_at hl 1 rfl) ?_
            refine va_get (D := D) (ci := 12) (v := .ref g.ar) (C := RX11) (T := TX11) (N := 17) hx hb hg in_X11 hown hK hP 0 rfl rfl 11 (by decide) (hg _ g_697) (fun _ h9 => h9) rfl dX11_loadOf_102 ?_
            refine lv_bipush (v := 12) hx hb dX11_loadOf_105 (by decide) ?_
            refine lv_iload_n hx hb dX11_loadOf_107 rfl (lv_at hl 2 rfl) ?_
            refine lv_imul hx hb dX11_loadOf_108 ?_
            refine lv_iload hx hb dX11_loadOf_109 (lv_at hl 6 rfl) ?_
            refine lv_iadd hx hb dX11_loadOf_111 ?_
            refine va_iald hx hb hK hP 9 0 rfl rfl (hb_34) dX11_loadOf_112 ?_
            refine va_zald hx hb hK hP 3 1 rfl rfl (hb_35) dX11_loadOf_113 ?_
            refine lv_if_eq (tgt := 121) hx hb dX11_loadOf_114 (by decide) (fun c_36 => ?_) (fun c_36 => ?_)
            · -- (((fX11_ruleS (fX11_ruleS M 2 6) 2 0).2.2.2.2.1) (((fX11_ruleS (fX11_ruleS M 2 6) 2 0).2.2.2.2.2.2.2.2.2.2.2.1) ((12 * pl) + x.2.2).toNatClampNeg).toNatClampNeg) = 0
              have hk := hk.1 c_36
              refine lv_iconst (v := 0) hx hb dX11_loadOf_121 (by decide) ?_
              refine lv_iadd hx hb dX11_loadOf_122 ?_
              refine lv_istore (lv' := [(5, .int (x.2.1 + 0)), (4, .int (x.1 + (((fX11_ruleS (fX11_ruleS M 2 6) 2 0).2.2.2.1) (((fX11_ruleS (fX11_ruleS M 2 6) 2 0).2.2.2.2.2.2.2.2.2.2.2.1) ((12 * pl) + x.2.2).toNatClampNeg).toNatClampNeg))), (0, .ref g.mo), (1, .int pl), (2, .int (M.2.2.2.2.2.2.2.1 pl.toNatClampNeg)), (3, .int 0), (6, .int x.2.2)]) hx hb dX11_loadOf_123 hl (by decide) rfl (fun ls hl => ?_)
              refine lv_iinc (v := (x.2.2 + 1)) (lv' := [(6, .int (x.2.2 + 1)), (5, .int (x.2.1 + 0)), (4, .int (x.1 + (((fX11_ruleS (fX11_ruleS M 2 6) 2 0).2.2.2.1) (((fX11_ruleS (fX11_ruleS M 2 6) 2 0).2.2.2.2.2.2.2.2.2.2.2.1) ((12 * pl) + x.2.2).toNatClampNeg).toNatClampNeg))), (0, .ref g.mo), (1, .int pl), (2, .int (M.2.2.2.2.2.2.2.1 pl.toNatClampNeg)), (3, .int 0)]) hx hb dX11_loadOf_125 hl (k := 6) rfl rfl (by decide) rfl (fun ls hl => ?_)
              refine lv_goto (tgt := 62) hx hb dX11_loadOf_128 (by decide) ?_
              obtain ⟨hL_37, hk⟩ := hk
              exact ih ((x.1 + (((fX11_ruleS (fX11_ruleS M 2 6) 2 0).2.2.2.1) (((fX11_ruleS (fX11_ruleS M 2 6) 2 0).2.2.2.2.2.2.2.2.2.2.2.1) ((12 * pl) + x.2.2).toNatClampNeg).toNatClampNeg)), (x.2.1 + 0), (x.2.2 + 1)) _ _ _ ⟨⟨lp_up c_31 hI.1, (by rw [← hI.2.1]; simp only [lX11_loadOf_3R, if_neg c_31, if_pos c_36]), (by rw [← hI.2.2.1]; simp only [lX11_loadOf_3S, if_neg c_31, if_pos c_36]), hL_37⟩, hP, hD, hS, lv_sub hl [3, 4, 5, 6, 2, 1, 0] rfl⟩
            · -- not (((fX11_ruleS (fX11_ruleS M 2 6) 2 0).2.2.2.2.1) (((fX11_ruleS (fX11_ruleS M 2 6) 2 0).2.2.2.2.2.2.2.2.2.2.2.1) ((12 * pl) + x.2.2).toNatClampNeg).toNatClampNeg) = 0
              have hk := hk.2 c_36
              refine lv_iconst (v := 1) hx hb dX11_loadOf_117 (by decide) ?_
              refine lv_goto (tgt := 122) hx hb dX11_loadOf_118 (by decide) ?_
              refine lv_iadd hx hb dX11_loadOf_122 ?_
              refine lv_istore (lv' := [(5, .int (x.2.1 + 1)), (4, .int (x.1 + (((fX11_ruleS (fX11_ruleS M 2 6) 2 0).2.2.2.1) (((fX11_ruleS (fX11_ruleS M 2 6) 2 0).2.2.2.2.2.2.2.2.2.2.2.1) ((12 * pl) + x.2.2).toNatClampNeg).toNatClampNeg))), (0, .ref g.mo), (1, .int pl), (2, .int (M.2.2.2.2.2.2.2.1 pl.toNatClampNeg)), (3, .int 0), (6, .int x.2.2)]) hx hb dX11_loadOf_123 hl (by decide) rfl (fun ls hl => ?_)
              refine lv_iinc (v := (x.2.2 + 1)) (lv' := [(6, .int (x.2.2 + 1)), (5, .int (x.2.1 + 1)), (4, .int (x.1 + (((fX11_ruleS (fX11_ruleS M 2 6) 2 0).2.2.2.1) (((fX11_ruleS (fX11_ruleS M 2 6) 2 0).2.2.2.2.2.2.2.2.2.2.2.1) ((12 * pl) + x.2.2).toNatClampNeg).toNatClampNeg))), (0, .ref g.mo), (1, .int pl), (2, .int (M.2.2.2.2.2.2.2.1 pl.toNatClampNeg)), (3, .int 0)]) hx hb dX11_loadOf_125 hl (k := 6) rfl rfl (by decide) rfl (fun ls hl => ?_)
              refine lv_goto (tgt := 62) hx hb dX11_loadOf_128 (by decide) ?_
              obtain ⟨hL_38, hk⟩ := hk
              exact ih ((x.1 + (((fX11_ruleS (fX11_ruleS M 2 6) 2 0).2.2.2.1) (((fX11_ruleS (fX11_ruleS M 2 6) 2 0).2.2.2.2.2.2.2.2.2.2.2.1) ((12 * pl) + x.2.2).toNatClampNeg).toNatClampNeg)), (x.2.1 + 1), (x.2.2 + 1)) _ _ _ ⟨⟨lp_up c_31 hI.1, (by rw [← hI.2.1]; simp only [lX11_loadOf_3R, if_neg c_31, if_neg c_36]), (by rw [← hI.2.2.1]; simp only [lX11_loadOf_3S, if_neg c_31, if_neg c_36]), hL_38⟩, hP, hD, hS, lv_sub hl [3, 4, 5, 6, 2, 1, 0] rfl⟩
      · -- not 0 = 0
        exact absurd (by decide) c_16
    · -- (M.2.2.2.2.2.2.2.1 pl.toNatClampNeg) = 7
      have hk := hk.1 c_15
      refine lv_iconst (v := 1) hx hb dX11_loadOf_18 (by decide) ?_
      refine lv_goto (tgt := 23) hx hb dX11_loadOf_19 (by decide) ?_
      refine lv_istore_n (lv' := [(3, .int 1), (2, .int (M.2.2.2.2.2.2.2.1 pl.toNatClampNeg)), (0, .ref g.mo), (1, .int pl)]) hx hb dX11_loadOf_23 rfl hl (by decide) rfl (fun ls hl => ?_)
      refine lv_iload_n hx hb dX11_loadOf_24 rfl (lv_at hl 0 rfl) ?_
      refine lv_if_eq (tgt := 34) hx hb dX11_loadOf_25 (by decide) (fun c_39 => ?_) (fun c_39 => ?_)
      · -- 1 = 0
        exact absurd c_39 (by decide)
      · -- not 1 = 0
        refine lv_aload_n hx hb dX11_loadOf_28 rfl (lv_at hl 2 rfl) ?_
        refine lv_iconst (v := 2) hx hb dX11_loadOf_29 (by decide) ?_
        refine lv_iconst (v := 5) hx hb dX11_loadOf_30 (by decide) ?_
        obtain ⟨hc_40, hk⟩ := hk
        refine z_ve (va_runV (As := [.int 2, .int 5]) (rest := []) ⟨hx, hb, hml, hown, hts⟩ (c_X11_rule l D g M 2 5 hc_40 _) (z_V 2 hts g_772 g_4 g_769 g_771 gp_8 ⟨by decide, by decide, by decide +kernel⟩ ⟨Nat.le_of_ble_eq_true rfl, Nat.le_of_ble_eq_true rfl⟩) (z_preV (ci := 12) (q0 := 0) (hP.subm [0, 1, 2, 3, 4, 5, 6, 7, 8, 9, 10] rfl) (hD.sub [0, 1, 2, 3, 4, 5, 6, 7, 8, 9, 10] (by decide) rfl) hK rfl rfl) rfl rfl hl.1 rfl (lv_room (Nat.le_of_ble_eq_true rfl)) dX11_loadOf_31 ⟨Nat.le_of_ble_eq_true rfl, Nat.le_of_ble_eq_true rfl⟩) hP hD hS hA (([] : va_W)) (wM g (fX11_ruleS M 2 5)) [0, 1, 2, 3, 4, 5, 6, 7, 8, 9, 10] [] [0, 1, 2, 3, 4, 5, 6, 7, 8, 9, 10] rfl rfl (by decide) (by decide) rfl (by decide) (fun H locs hP hD hS => ?_)
        refine lv_iload_n hx hb dX11_loadOf_34 rfl (lv_at hl 1 rfl) ?_
        refine lv_bipush (v := 6) hx hb dX11_loadOf_35 (by decide) ?_
        refine lv_icmp_ne (tgt := 47) hx hb dX11_loadOf_37 (by decide) (fun c_41 => ?_) (fun c_41 => ?_)
        · -- not (M.2.2.2.2.2.2.2.1 pl.toNatClampNeg) = 6
          refine lv_aload_n hx hb dX11_loadOf_47 rfl (lv_at hl 2 rfl) ?_
          refine lv_iconst (v := 2) hx hb dX11_loadOf_48 (by decide) ?_
          refine lv_iconst (v := 0) hx hb dX11_loadOf_49 (by decide) ?_
          obtain ⟨hc_42, hk⟩ := hk
          refine z_ve (va_runV (As := [.int 2, .int 0]) (rest := []) ⟨hx, hb, hml, hown, hts⟩ (c_X11_rule l D g (fX11_ruleS M 2 5) 2 0 hc_42 _) (z_V 2 hts g_772 g_4 g_769 g_771 gp_8 ⟨by decide, by decide, by decide +kernel⟩ ⟨Nat.le_of_ble_eq_true rfl, Nat.le_of_ble_eq_true rfl⟩) (z_preV (ci := 12) (q0 := 0) (hP.subm [0, 1, 2, 3, 4, 5, 6, 7, 8, 9, 10] rfl) (hD.sub [0, 1, 2, 3, 4, 5, 6, 7, 8, 9, 10] (by decide) rfl) hK rfl rfl) rfl rfl hl.1 rfl (lv_room (Nat.le_of_ble_eq_true rfl)) dX11_loadOf_50 ⟨Nat.le_of_ble_eq_true rfl, Nat.le_of_ble_eq_true rfl⟩) hP hD hS hA (([] : va_W)) (wM g (fX11_ruleS (fX11_ruleS M 2 5) 2 0)) [0, 1, 2, 3, 4, 5, 6, 7, 8, 9, 10] [] [0, 1, 2, 3, 4, 5, 6, 7, 8, 9, 10] rfl rfl (by decide) (by decide) rfl (by decide) (fun H locs hP hD hS => ?_)
          refine lv_iconst (v := 0) hx hb dX11_loadOf_53 (by decide) ?_
          refine lv_istore (lv' := [(4, .int 0), (3, .int 1), (2, .int (M.2.2.2.2.2.2.2.1 pl.toNatClampNeg)), (0, .ref g.mo), (1, .int pl)]) hx hb dX11_loadOf_54 hl (by decide) rfl (fun ls hl => ?_)
          refine lv_iconst (v := 0) hx hb dX11_loadOf_56 (by decide) ?_
          refine lv_istore (lv' := [(5, .int 0), (4, .int 0), (3, .int 1), (2, .int (M.2.2.2.2.2.2.2.1 pl.toNatClampNeg)), (0, .ref g.mo), (1, .int pl)]) hx hb dX11_loadOf_57 hl (by decide) rfl (fun ls hl => ?_)
          refine lv_iconst (v := 0) hx hb dX11_loadOf_59 (by decide) ?_
          refine lv_istore (lv' := [(6, .int 0), (5, .int 0), (4, .int 0), (3, .int 1), (2, .int (M.2.2.2.2.2.2.2.1 pl.toNatClampNeg)), (0, .ref g.mo), (1, .int pl)]) hx hb dX11_loadOf_60 hl (by decide) rfl (fun ls hl => ?_)
          obtain ⟨hL_43, hk⟩ := hk
          refine z_loop (pc := 62) (fun n (x : Int32 × Int32 × Int32) H locs ls => ((((fX11_ruleS (fX11_ruleS M 2 5) 2 0).2.2.2.2.2.2.2.2.2.2.1 pl.toNatClampNeg).toInt - x.2.2.toInt).toNat < n ∧ lX11_loadOf_4R M pl n x = fX11_loadOfR M pl ∧ lX11_loadOf_4S M pl n x = fX11_loadOfS M pl ∧ lX11_loadOf_4K M pl n x) ∧ va_P D vwCl (wM g (fX11_ruleS (fX11_ruleS M 2 5) 2 0)) H ∧ va_D A (wM g (fX11_ruleS (fX11_ruleS M 2 5) 2 0)) ∧ va_S A s.heap H locs ∧ lv_has ls 7 [(0, .ref g.mo), (1, .int pl), (2, .int (M.2.2.2.2.2.2.2.1 pl.toNatClampNeg)), (3, .int 1), (4, .int x.1), (5, .int x.2.1), (6, .int x.2.2)]) (fun x H locs ls h => absurd h.1.1 (Nat.not_lt_zero _)) ?_ (((fX11_ruleS (fX11_ruleS M 2 5) 2 0).2.2.2.2.2.2.2.2.2.2.1 pl.toNatClampNeg).toNatClampNeg + 1) (0, 0, 0) _ _ _ ⟨⟨lp_st _, (by simp only [fX11_loadOfR, if_neg c_2, if_pos c_15]), (by simp only [fX11_loadOfS, if_neg c_2, if_pos c_15]), hL_43⟩, hP, hD, hS, lv_sub hl [5, 6, 4, 3, 2, 1, 0] rfl⟩
          intro n x H locs ls hI ih
          obtain ⟨hI, hP, hD, hS, hl⟩ := hI
          have hk : (((((fX11_ruleS (fX11_ruleS M 2 5) 2 0).2.2.2.2.2.2.2.2.2.2.1) pl.toNatClampNeg) ≤ x.2.2 → True) ∧ (¬ (((fX11_ruleS (fX11_ruleS M 2 5) 2 0).2.2.2.2.2.2.2.2.2.2.1) pl.toNatClampNeg) ≤ x.2.2 → (vp_in ((12 * pl) + x.2.2) 144 ∧ vp_in (((fX11_ruleS (fX11_ruleS M 2 5) 2 0).2.2.2.2.2.2.2.2.2.2.2.1) ((12 * pl) + x.2.2).toNatClampNeg) 60 ∧ (((((fX11_ruleS (fX11_ruleS M 2 5) 2 0).2.2.2.2.1) (((fX11_ruleS (fX11_ruleS M 2 5) 2 0).2.2.2.2.2.2.2.2.2.2.2.1) ((12 * pl) + x.2.2).toNatClampNeg).toNatClampNeg) = 0 → (lX11_loadOf_4K M pl n ((x.1 + (((fX11_ruleS (fX11_ruleS M 2 5) 2 0).2.2.2.1) (((fX11_ruleS (fX11_ruleS M 2 5) 2 0).2.2.2.2.2.2.2.2.2.2.2.1) ((12 * pl) + x.2.2).toNatClampNeg).toNatClampNeg)), (x.2.1 + 0), (x.2.2 + 1)) ∧ True)) ∧ (¬ (((fX11_ruleS (fX11_ruleS M 2 5) 2 0).2.2.2.2.1) (((fX11_ruleS (fX11_ruleS M 2 5) 2 0).2.2.2.2.2.2.2.2.2.2.2.1) ((12 * pl) + x.2.2).toNatClampNeg).toNatClampNeg) = 0 → (lX11_loadOf_4K M pl n ((x.1 + (((fX11_ruleS (fX11_ruleS M 2 5) 2 0).2.2.2.1) (((fX11_ruleS (fX11_ruleS M 2 5) 2 0).2.2.2.2.2.2.2.2.2.2.2.1) ((12 * pl) + x.2.2).toNatClampNeg).toNatClampNeg)), (x.2.1 + 1), (x.2.2 + 1)) ∧ True)))))) := hI.2.2.2
          refine lv_iload hx hb dX11_loadOf_62 (lv_at hl 6 rfl) ?_
          refine lv_aload_n hx hb dX11_loadOf_64 rfl (lv_at hl 0 rfl) ?_
          refine va_get (D := D) (ci := 12) (v := .ref g.an) (C := RX11) (T := TX11) (N := 17) hx hb hg in_X11 hown hK hP 0 rfl rfl 10 (by decide) (hg _ g_696) (fun _ h9 => h9) rfl dX11_loadOf_65 ?_
          refine lv_iload_n hx hb dX11_loadOf_68 rfl (lv_at hl 1 rfl) ?_
          refine va_iald hx hb hK hP 8 0 rfl rfl (hb_1) dX11_loadOf_69 ?_
          refine lv_icmp_ge (tgt := 131) hx hb dX11_loadOf_70 (by decide) (fun c_44 => ?_) (fun c_44 => ?_)
          · -- (((fX11_ruleS (fX11_ruleS M 2 5) 2 0).2.2.2.2.2.2.2.2.2.2.1) pl.toNatClampNeg) ≤ x.2.2
            have hk := hk.1 c_44
            refine lv_iload_n hx hb dX11_loadOf_131 rfl (lv_at hl 3 rfl) ?_
            refine lv_if_eq (tgt := 142) hx hb dX11_loadOf_132 (by decide) (fun c_45 => ?_) (fun c_45 => ?_)
            · -- 1 = 0
              exact absurd c_45 (by decide)
            · -- not 1 = 0
              refine lv_iconst (v := 2) hx hb dX11_loadOf_135 (by decide) ?_
              refine lv_iload hx hb dX11_loadOf_136 (lv_at hl 4 rfl) ?_
              refine lv_imul hx hb dX11_loadOf_138 ?_
              refine lv_goto (tgt := 161) hx hb dX11_loadOf_139 (by decide) ?_
              exact W.iret (v := (2 * x.1)) hx hb hr (fun t9 ht hW => ⟨⟨(2 * x.1), wM g (fX11_ruleS (fX11_ruleS M 2 5) 2 0), rfl, ⟨(by rw [← hI.2.1]; simp only [lX11_loadOf_4R, if_pos c_44]), (by rw [← hI.2.2.1]; simp only [lX11_loadOf_4S, if_pos c_44])⟩, by rw [ht]; exact hP, va_K.moved hW.alike hK, hD⟩, hS.F ht⟩) hS.2.2 dX11_loadOf_161
          · -- not (((fX11_ruleS (fX11_ruleS M 2 5) 2 0).2.2.2.2.2.2.2.2.2.2.1) pl.toNatClampNeg) ≤ x.2.2
            have hk := hk.2 c_44
            refine lv_iload hx hb dX11_loadOf_73 (lv_at hl 4 rfl) ?_
            refine lv_aload_n hx hb dX11_loadOf_75 rfl (lv_at hl 0 rfl) ?_
            refine va_get (D := D) (ci := 12) (v := .ref g.aw) (C := RX11) (T := TX11) (N := 17) hx hb hg in_X11 hown hK hP 0 rfl rfl 3 (by decide) (hg _ g_689) (fun _ h9 => h9) rfl dX11_loadOf_76 ?_
            refine lv_aload_n hx hb dX11_loadOf_79 rfl (lv_at hl 0 rfl) ?_
            refine va_get (D := D) (ci := 12) (v := .ref g.ar) (C := RX11) (T := TX11) (N := 17) hx hb hg in_X11 hown hK hP 0 rfl rfl 11 (by decide) (hg _ g_697) (fun _ h9 => h9) rfl dX11_loadOf_80 ?_
            refine lv_bipush (v := 12) hx hb dX11_loadOf_83 (by decide) ?_
            refine lv_iload_n hx hb dX11_loadOf_85 rfl (lv_at hl 1 rfl) ?_
            refine lv_imul hx hb dX11_loadOf_86 ?_
            refine lv_iload hx hb dX11_loadOf_87 (lv_at hl 6 rfl) ?_
            refine lv_iadd hx hb dX11_loadOf_89 ?_
            obtain ⟨hb_46, hk⟩ := hk
            refine va_iald hx hb hK hP 9 0 rfl rfl (hb_46) dX11_loadOf_90 ?_
            obtain ⟨hb_47, hk⟩ := hk
            refine va_iald hx hb hK hP 2 0 rfl rfl (hb_47) dX11_loadOf_91 ?_
            refine lv_iadd hx hb dX11_loadOf_92 ?_
            refine lv_istore (lv' := [(4, .int (x.1 + (((fX11_ruleS (fX11_ruleS M 2 5) 2 0).2.2.2.1) (((fX11_ruleS (fX11_ruleS M 2 5) 2 0).2.2.2.2.2.2.2.2.2.2.2.1) ((12 * pl) + x.2.2).toNatClampNeg).toNatClampNeg))), (0, .ref g.mo), (1, .int pl), (2, .int (M.2.2.2.2.2.2.2.1 pl.toNatClampNeg)), (3, .int 1), (5, .int x.2.1), (6, .int x.2.2)]) hx hb dX11_loadOf_93 hl (by decide) rfl (fun ls hl => ?_)
            refine lv_iload hx hb dX11_loadOf_95 (lv_at hl 5 rfl) ?_
            refine lv_aload_n hx hb dX11_loadOf_97 rfl (lv_at hl 1 rfl) ?_
            refine va_get (D := D) (ci := 12) (v := .ref g.az) (C := RX11) (T := TX11) (N := 17) hx hb hg in_X11 hown hK hP 0 rfl rfl 4 (by decide) (hg _ g_690) (fun _ h9 => h9) rfl dX11_loadOf_98 ?_
            refine lv_aload_n hx hb dX11_loadOf_101 rfl (lv_at hl 1 rfl) ?_
            refine va_get (D := D) (ci := 12) (v := .ref g.ar) (C := RX11) (T := TX11) (N := 17) hx hb hg in_X11 hown hK hP 0 rfl rfl 11 (by decide) (hg _ g_697) (fun _ h9 => h9) rfl dX11_loadOf_102 ?_
            refine lv_bipush (v := 12) hx hb dX11_loadOf_105 (by decide) ?_
            refine lv_iload_n hx hb dX11_loadOf_107 rfl (lv_at hl 2 rfl) ?_
            refine lv_imul hx hb dX11_loadOf_108 ?_
            refine lv_iload hx hb dX11_loadOf_109 (lv_at hl 6 rfl) ?_
            refine lv_iadd hx hb dX11_loadOf_111 ?_
            refine va_iald hx hb hK hP 9 0 rfl rfl (hb_46) dX11_loadOf_112 ?_
            refine va_zald hx hb hK hP 3 1 rfl rfl (hb_47) dX11_loadOf_113 ?_
            refine lv_if_eq (tgt := 121) hx hb dX11_loadOf_114 (by decide) (fun c_48 => ?_) (fun c_48 => ?_)
            · -- (((fX11_ruleS (fX11_ruleS M 2 5) 2 0).2.2.2.2.1) (((fX11_ruleS (fX11_ruleS M 2 5) 2 0).2.2.2.2.2.2.2.2.2.2.2.1) ((12 * pl) + x.2.2).toNatClampNeg).toNatClampNeg) = 0
              have hk := hk.1 c_48
              refine lv_iconst (v := 0) hx hb dX11_loadOf_121 (by decide) ?_
              refine lv_iadd hx hb dX11_loadOf_122 ?_
              refine lv_istore (lv' := [(5, .int (x.2.1 + 0)), (4, .int (x.1 + (((fX11_ruleS (fX11_ruleS M 2 5) 2 0).2.2.2.1) (((fX11_ruleS (fX11_ruleS M 2 5) 2 0).2.2.2.2.2.2.2.2.2.2.2.1) ((12 * pl) + x.2.2).toNatClampNeg).toNatClampNeg))), (0, .ref g.mo), (1, .int pl), (2, .int (M.2.2.2.2.2.2.2.1 pl.toNatClampNeg)), (3, .int 1), (6, .int x.2.2)]) hx hb dX11_loadOf_123 hl (by decide) rfl (fun ls hl => ?_)
              refine lv_iinc (v := (x.2.2 + 1)) (lv' := [(6, .int (x.2.2 + 1)), (5, .int (x.2.1 + 0)), (4, .int (x.1 + (((fX11_ruleS (fX11_ruleS M 2 5) 2 0).2.2.2.1) (((fX11_ruleS (fX11_ruleS M 2 5) 2 0).2.2.2.2.2.2.2.2.2.2.2.1) ((12 * pl) + x.2.2).toNatClampNeg).toNatClampNeg))), (0, .ref g.mo), (1, .int pl), (2, .int (M.2.2.2.2.2.2.2.1 pl.toNatClampNeg)), (3, .int 1)]) hx hb dX11_loadOf_125 hl (k := 6) rfl rfl (by decide) rfl (fun ls hl => ?_)
              refine lv_goto (tgt := 62) hx hb dX11_loadOf_128 (by decide) ?_
              obtain ⟨hL_49, hk⟩ := hk
              exact ih ((x.1 + (((fX11_ruleS (fX11_ruleS M 2 5) 2 0).2.2.2.1) (((fX11_ruleS (fX11_ruleS M 2 5) 2 0).2.2.2.2.2.2.2.2.2.2.2.1) ((12 * pl) + x.2.2).toNatClampNeg).toNatClampNeg)), (x.2.1 + 0), (x.2.2 + 1)) _ _ _ ⟨⟨lp_up c_44 hI.1, (by rw [← hI.2.1]; simp only [lX11_loadOf_4R, if_neg c_44, if_pos c_48]), (by rw [← hI.2.2.1]; simp only [lX11_loadOf_4S, if_neg c_44, if_pos c_48]), hL_49⟩, hP, hD, hS, lv_sub hl [3, 4, 5, 6, 2, 1, 0] rfl⟩
            · -- not (((fX11_ruleS (fX11_ruleS M 2 5) 2 0).2.2.2.2.1) (((fX11_ruleS (fX11_ruleS M 2 5) 2 0).2.2.2.2.2.2.2.2.2.2.2.1) ((12 * pl) + x.2.2).toNatClampNeg).toNatClampNeg) = 0
              have hk := hk.2 c_48
              refine lv_iconst (v := 1) hx hb dX11_loadOf_117 (by decide) ?_
              refine lv_goto (tgt := 122) hx hb dX11_loadOf_118 (by decide) ?_
              refine lv_iadd hx hb dX11_loadOf_122 ?_
              refine lv_istore (lv' := [(5, .int (x.2.1 + 1)), (4, .int (x.1 + (((fX11_ruleS (fX11_ruleS M 2 5) 2 0).2.2.2.1) (((fX11_ruleS (fX11_ruleS M 2 5) 2 0).2.2.2.2.2.2.2.2.2.2.2.1) ((12 * pl) + x.2.2).toNatClampNeg).toNatClampNeg))), (0, .ref g.mo), (1, .int pl), (2, .int (M.2.2.2.2.2.2.2.1 pl.toNatClampNeg)), (3, .int 1), (6, .int x.2.2)]) hx hb dX11_loadOf_123 hl (by decide) rfl (fun ls hl => ?_)
              refine lv_iinc (v := (x.2.2 + 1)) (lv' := [(6, .int (x.2.2 + 1)), (5, .int (x.2.1 + 1)), (4, .int (x.1 + (((fX11_ruleS (fX11_ruleS M 2 5) 2 0).2.2.2.1) (((fX11_ruleS (fX11_ruleS M 2 5) 2 0).2.2.2.2.2.2.2.2.2.2.2.1) ((12 * pl) + x.2.2).toNatClampNeg).toNatClampNeg))), (0, .ref g.mo), (1, .int pl), (2, .int (M.2.2.2.2.2.2.2.1 pl.toNatClampNeg)), (3, .int 1)]) hx hb dX11_loadOf_125 hl (k := 6) rfl rfl (by decide) rfl (fun ls hl => ?_)
              refine lv_goto (tgt := 62) hx hb dX11_loadOf_128 (by decide) ?_
              obtain ⟨hL_50, hk⟩ := hk
              exact ih ((x.1 + (((fX11_ruleS (fX11_ruleS M 2 5) 2 0).2.2.2.1) (((fX11_ruleS (fX11_ruleS M 2 5) 2 0).2.2.2.2.2.2.2.2.2.2.2.1) ((12 * pl) + x.2.2).toNatClampNeg).toNatClampNeg)), (x.2.1 + 1), (x.2.2 + 1)) _ _ _ ⟨⟨lp_up c_44 hI.1, (by rw [← hI.2.1]; simp only [lX11_loadOf_4R, if_neg c_44, if_neg c_48]), (by rw [← hI.2.2.1]; simp only [lX11_loadOf_4S, if_neg c_44, if_neg c_48]), hL_50⟩, hP, hD, hS, lv_sub hl [3, 4, 5, 6, 2, 1, 0] rfl⟩
        · -- (M.2.2.2.2.2.2.2.1 pl.toNatClampNeg) = 6
          exact absurd (c_15.symm.trans c_41) (by decide)

def fX11_putPlainR (M : MM) (pl : Int32) (tb : Int32) : Int32 := (if (((fX11_ruleS M 0 0).2.2.2.2.2.2.2.2.2.2.1) pl.toNatClampNeg) = (((fX11_ruleS M 0 0).2.2.2.2.2.2.2.2.1) pl.toNatClampNeg) then 0 else 1)
def fX11_putPlainS (M : MM) (pl : Int32) (tb : Int32) : MM := (if (((fX11_ruleS M 0 0).2.2.2.2.2.2.2.2.2.2.1) pl.toNatClampNeg) = (((fX11_ruleS M 0 0).2.2.2.2.2.2.2.2.1) pl.toNatClampNeg) then fX11_ruleS M 0 0 else ((fX11_ruleS M 0 0).1, (fX11_ruleS M 0 0).2.1, (fX11_ruleS M 0 0).2.2.1, (fX11_ruleS M 0 0).2.2.2.1, (fX11_ruleS M 0 0).2.2.2.2.1, upd ((fX11_ruleS M 0 0).2.2.2.2.2.1) tb.toNatClampNeg pl, (fX11_ruleS M 0 0).2.2.2.2.2.2.1, (fX11_ruleS M 0 0).2.2.2.2.2.2.2.1, (fX11_ruleS M 0 0).2.2.2.2.2.2.2.2.1, (fX11_ruleS M 0 0).2.2.2.2.2.2.2.2.2.1, upd ((fX11_ruleS M 0 0).2.2.2.2.2.2.2.2.2.2.1) pl.toNatClampNeg ((((fX11_ruleS M 0 0).2.2.2.2.2.2.2.2.2.2.1) pl.toNatClampNeg) + 1), upd ((fX11_ruleS M 0 0).2.2.2.2.2.2.2.2.2.2.2.1) ((12 * pl) + (((fX11_ruleS M 0 0).2.2.2.2.2.2.2.2.2.2.1) pl.toNatClampNeg)).toNatClampNeg tb, (fX11_ruleS M 0 0).2.2.2.2.2.2.2.2.2.2.2.2.1, (fX11_ruleS M 0 0).2.2.2.2.2.2.2.2.2.2.2.2.2.1, (fX11_ruleS M 0 0).2.2.2.2.2.2.2.2.2.2.2.2.2.2.1, (fX11_ruleS M 0 0).2.2.2.2.2.2.2.2.2.2.2.2.2.2.2.1, (fX11_ruleS M 0 0).2.2.2.2.2.2.2.2.2.2.2.2.2.2.2.2))
def fX11_putPlainK (M : MM) (pl : Int32) (tb : Int32) : Prop := (fX11_ruleK M 0 0 ∧ vp_in pl 12 ∧ (((((fX11_ruleS M 0 0).2.2.2.2.2.2.2.2.2.2.1) pl.toNatClampNeg) = (((fX11_ruleS M 0 0).2.2.2.2.2.2.2.2.1) pl.toNatClampNeg) → True) ∧ (¬ (((fX11_ruleS M 0 0).2.2.2.2.2.2.2.2.2.2.1) pl.toNatClampNeg) = (((fX11_ruleS M 0 0).2.2.2.2.2.2.2.2.1) pl.toNatClampNeg) → (vp_in ((12 * pl) + (((fX11_ruleS M 0 0).2.2.2.2.2.2.2.2.2.2.1) pl.toNatClampNeg)) 144 ∧ vp_in tb 60 ∧ True))))
set_option maxHeartbeats 4000000 in
set_option maxRecDepth 100000 in
theorem c_X11_putPlain (l : Launch) (D : va_G) (g : MA) (M : MM) (pl : Int32) (tb : Int32) (hk : fX11_putPlainK M pl tb) : ctI l D (tyM g) yX11_putPlain (wd yX11_putPlain cX11_putPlain 3 (Option.some Jvm.ClassFile.FieldType.boolean)) { frames := 1, cells := 0, slots := 0, locals := 22 } [.ref g.mo, .int pl, .int tb] (wM g M) (fun r w => r = fX11_putPlainR M pl tb ∧ w = wM g (fX11_putPlainS M pl tb)) := by
  intro sz
  refine Met.ofW (cc := cX11_putPlain) (maxL := 3) (ret := (Option.some Jvm.ClassFile.FieldType.boolean)) (by decide) rfl ?_
  intro p e s m args below meth c s₁ B hml hv
  obtain ⟨rfl, hsz, hP, hK, hD0⟩ := hv
  have hx := B.exec
  have hb := B.bytes
  have hr := B.returns
  have hts := atoms_spec (ws := (wd yX11_putPlain cX11_putPlain 3 (Option.some Jvm.ClassFile.FieldType.boolean))) B.pre
  have hg := Tb.of hts
  have hown : s.vm.findClass RX11 = some m.cls := findClass_of_methodNamed B.named
  have hlocks := B.notSynchronized
  subst hsz
  have hD := hD0.self (sz := s.heap.size)
  generalize hAe : va_A (wM g M) s.heap.size = A at hD ⊢
  have hA : ∀ q : Nat, s.heap.size ≤ q → A q := fun q h => by rw [← hAe]; exact Or.inr h
  have hS : va_S A s.heap s.heap [] := va_S.rf
  have hP : va_P D vwCl (wM g M) s.heap := hP
  have hl := lv_entry ([.ref g.mo, .int pl, .int tb]) (n := 3) (Nat.le_of_ble_eq_true rfl)
  rw [lg_entry_eq]
  generalize (lg_sl ([.ref g.mo, .int pl, .int tb]) ++ List.replicate (3 - (lg_sl ([.ref g.mo, .int pl, .int tb])).length) Slot.unset).toArray = ls at hl ⊢
  have hl : lv_has ls 3 [(0, .ref g.mo), (1, .int pl), (2, .int tb)] := hl
  unfold fX11_putPlainK at hk
  refine lv_aload_n hx hb dX11_putPlain_0 rfl (lv_at hl 0 rfl) ?_
  refine lv_iconst (v := 0) hx hb dX11_putPlain_1 (by decide) ?_
  refine lv_iconst (v := 0) hx hb dX11_putPlain_2 (by decide) ?_
  obtain ⟨hc_1, hk⟩ := hk
  refine z_ve (va_runV (As := [.int 0, .int 0]) (rest := []) ⟨hx, hb, hml, hown, hts⟩ (c_X11_rule l D g M 0 0 hc_1 _) (z_V 2 hts g_772 g_4 g_769 g_771 gp_8 ⟨by decide, by decide, by decide +kernel⟩ ⟨Nat.le_of_ble_eq_true rfl, Nat.le_of_ble_eq_true rfl⟩) (z_preV (ci := 12) (q0 := 0) (hP.subm [0, 1, 2, 3, 4, 5, 6, 7, 8, 9, 10] rfl) (hD.sub [0, 1, 2, 3, 4, 5, 6, 7, 8, 9, 10] (by decide) rfl) hK rfl rfl) rfl rfl hl.1 rfl (lv_room (Nat.le_of_ble_eq_true rfl)) dX11_putPlain_3 ⟨Nat.le_of_ble_eq_true rfl, Nat.le_of_ble_eq_true rfl⟩) hP hD hS hA (([] : va_W)) (wM g (fX11_ruleS M 0 0)) [0, 1, 2, 3, 4, 5, 6, 7, 8, 9, 10] [] [0, 1, 2, 3, 4, 5, 6, 7, 8, 9, 10] rfl rfl (by decide) (by decide) rfl (by decide) (fun H locs hP hD hS => ?_)
  refine lv_aload_n hx hb dX11_putPlain_6 rfl (lv_at hl 0 rfl) ?_
  refine va_get (D := D) (ci := 12) (v := .ref g.an) (C := RX11) (T := TX11) (N := 17) hx hb hg in_X11 hown hK hP 0 rfl rfl 10 (by decide) (hg _ g_696) (fun _ h9 => h9) rfl dX11_putPlain_7 ?_
  refine lv_iload_n hx hb dX11_putPlain_10 rfl (lv_at hl 1 rfl) ?_
  obtain ⟨hb_2, hk⟩ := hk
  refine va_iald hx hb hK hP 8 0 rfl rfl (hb_2) dX11_putPlain_11 ?_
  refine lv_aload_n hx hb dX11_putPlain_12 rfl (lv_at hl 0 rfl) ?_
  refine va_get (D := D) (ci := 12) (v := .ref g.ac) (C := RX11) (T := TX11) (N := 17) hx hb hg in_X11 hown hK hP 0 rfl rfl 8 (by decide) (hg _ g_694) (fun _ h9 => h9) rfl dX11_putPlain_13 ?_
  refine lv_iload_n hx hb dX11_putPlain_16 rfl (lv_at hl 1 rfl) ?_
  refine va_iald hx hb hK hP 6 0 rfl rfl (hb_2) dX11_putPlain_17 ?_
  refine lv_icmp_ne (tgt := 23) hx hb dX11_putPlain_18 (by decide) (fun c_3 => ?_) (fun c_3 => ?_)
  · -- not (((fX11_ruleS M 0 0).2.2.2.2.2.2.2.2.2.2.1) pl.toNatClampNeg) = (((fX11_ruleS M 0 0).2.2.2.2.2.2.2.2.1) pl.toNatClampNeg)
    have hk := hk.2 c_3
    refine lv_aload_n hx hb dX11_putPlain_23 rfl (lv_at hl 0 rfl) ?_
    refine va_get (D := D) (ci := 12) (v := .ref g.ar) (C := RX11) (T := TX11) (N := 17) hx hb hg in_X11 hown hK hP 0 rfl rfl 11 (by decide) (hg _ g_697) (fun _ h9 => h9) rfl dX11_putPlain_24 ?_
    refine lv_bipush (v := 12) hx hb dX11_putPlain_27 (by decide) ?_
    refine lv_iload_n hx hb dX11_putPlain_29 rfl (lv_at hl 1 rfl) ?_
    refine lv_imul hx hb dX11_putPlain_30 ?_
    refine lv_aload_n hx hb dX11_putPlain_31 rfl (lv_at hl 0 rfl) ?_
    refine va_get (D := D) (ci := 12) (v := .ref g.an) (C := RX11) (T := TX11) (N := 17) hx hb hg in_X11 hown hK hP 0 rfl rfl 10 (by decide) (hg _ g_696) (fun _ h9 => h9) rfl dX11_putPlain_32 ?_
    refine lv_iload_n hx hb dX11_putPlain_35 rfl (lv_at hl 1 rfl) ?_
    refine va_iald hx hb hK hP 8 0 rfl rfl (hb_2) dX11_putPlain_36 ?_
    refine lv_iadd hx hb dX11_putPlain_37 ?_
    refine lv_iload_n hx hb dX11_putPlain_38 rfl (lv_at hl 2 rfl) ?_
    obtain ⟨hb_4, hk⟩ := hk
    refine va_iast hx hb hK hP hD hS 9 0 rfl rfl (hb_4) dX11_putPlain_39 (fun H locs hP hD hS => ?_)
    have hP : va_P D vwCl (wM g ((fX11_ruleS M 0 0).1, (fX11_ruleS M 0 0).2.1, (fX11_ruleS M 0 0).2.2.1, (fX11_ruleS M 0 0).2.2.2.1, (fX11_ruleS M 0 0).2.2.2.2.1, (fX11_ruleS M 0 0).2.2.2.2.2.1, (fX11_ruleS M 0 0).2.2.2.2.2.2.1, (fX11_ruleS M 0 0).2.2.2.2.2.2.2.1, (fX11_ruleS M 0 0).2.2.2.2.2.2.2.2.1, (fX11_ruleS M 0 0).2.2.2.2.2.2.2.2.2.1, (fX11_ruleS M 0 0).2.2.2.2.2.2.2.2.2.2.1, upd ((fX11_ruleS M 0 0).2.2.2.2.2.2.2.2.2.2.2.1) ((12 * pl) + (((fX11_ruleS M 0 0).2.2.2.2.2.2.2.2.2.2.1) pl.toNatClampNeg)).toNatClampNeg tb, (fX11_ruleS M 0 0).2.2.2.2.2.2.2.2.2.2.2.2.1, (fX11_ruleS M 0 0).2.2.2.2.2.2.2.2.2.2.2.2.2.1, (fX11_ruleS M 0 0).2.2.2.2.2.2.2.2.2.2.2.2.2.2.1, (fX11_ruleS M 0 0).2.2.2.2.2.2.2.2.2.2.2.2.2.2.2.1, (fX11_ruleS M 0 0).2.2.2.2.2.2.2.2.2.2.2.2.2.2.2.2)) H := hP
    have hD : va_D A (wM g ((fX11_ruleS M 0 0).1, (fX11_ruleS M 0 0).2.1, (fX11_ruleS M 0 0).2.2.1, (fX11_ruleS M 0 0).2.2.2.1, (fX11_ruleS M 0 0).2.2.2.2.1, (fX11_ruleS M 0 0).2.2.2.2.2.1, (fX11_ruleS M 0 0).2.2.2.2.2.2.1, (fX11_ruleS M 0 0).2.2.2.2.2.2.2.1, (fX11_ruleS M 0 0).2.2.2.2.2.2.2.2.1, (fX11_ruleS M 0 0).2.2.2.2.2.2.2.2.2.1, (fX11_ruleS M 0 0).2.2.2.2.2.2.2.2.2.2.1, upd ((fX11_ruleS M 0 0).2.2.2.2.2.2.2.2.2.2.2.1) ((12 * pl) + (((fX11_ruleS M 0 0).2.2.2.2.2.2.2.2.2.2.1) pl.toNatClampNeg)).toNatClampNeg tb, (fX11_ruleS M 0 0).2.2.2.2.2.2.2.2.2.2.2.2.1, (fX11_ruleS M 0 0).2.2.2.2.2.2.2.2.2.2.2.2.2.1, (fX11_ruleS M 0 0).2.2.2.2.2.2.2.2.2.2.2.2.2.2.1, (fX11_ruleS M 0 0).2.2.2.2.2.2.2.2.2.2.2.2.2.2.2.1, (fX11_ruleS M 0 0).2.2.2.2.2.2.2.2.2.2.2.2.2.2.2.2)) := hD
    refine lv_aload_n hx hb dX11_putPlain_40 rfl (lv_at hl 0 rfl) ?_
    refine va_get (D := D) (ci := 12) (v := .ref g.an) (C := RX11) (T := TX11) (N := 17) hx hb hg in_X11 hown hK hP 0 rfl rfl 10 (by decide) (hg _ g_696) (fun _ h9 => h9) rfl dX11_putPlain_41 ?_
    refine lv_iload_n hx hb dX11_putPlain_44 rfl (lv_at hl 1 rfl) ?_
    refine lv_dup2_11 hx hb dX11_putPlain_45 rfl rfl ?_
    refine va_iald hx hb hK hP 8 0 rfl rfl (hb_2) dX11_putPlain_46 ?_
    refine lv_iconst (v := 1) hx hb dX11_putPlain_47 (by decide) ?_
    refine lv_iadd hx hb dX11_putPlain_48 ?_
    refine va_iast hx hb hK hP hD hS 8 0 rfl rfl (hb_2) dX11_putPlain_49 (fun H locs hP hD hS => ?_)
    have hP : va_P D vwCl (wM g ((fX11_ruleS M 0 0).1, (fX11_ruleS M 0 0).2.1, (fX11_ruleS M 0 0).2.2.1, (fX11_ruleS M 0 0).2.2.2.1, (fX11_ruleS M 0 0).2.2.2.2.1, (fX11_ruleS M 0 0).2.2.2.2.2.1, (fX11_ruleS M 0 0).2.2.2.2.2.2.1, (fX11_ruleS M 0 0).2.2.2.2.2.2.2.1, (fX11_ruleS M 0 0).2.2.2.2.2.2.2.2.1, (fX11_ruleS M 0 0).2.2.2.2.2.2.2.2.2.1, upd ((fX11_ruleS M 0 0).2.2.2.2.2.2.2.2.2.2.1) pl.toNatClampNeg ((((fX11_ruleS M 0 0).2.2.2.2.2.2.2.2.2.2.1) pl.toNatClampNeg) + 1), upd ((fX11_ruleS M 0 0).2.2.2.2.2.2.2.2.2.2.2.1) ((12 * pl) + (((fX11_ruleS M 0 0).2.2.2.2.2.2.2.2.2.2.1) pl.toNatClampNeg)).toNatClampNeg tb, (fX11_ruleS M 0 0).2.2.2.2.2.2.2.2.2.2.2.2.1, (fX11_ruleS M 0 0).2.2.2.2.2.2.2.2.2.2.2.2.2.1, (fX11_ruleS M 0 0).2.2.2.2.2.2.2.2.2.2.2.2.2.2.1, (fX11_ruleS M 0 0).2.2.2.2.2.2.2.2.2.2.2.2.2.2.2.1, (fX11_ruleS M 0 0).2.2.2.2.2.2.2.2.2.2.2.2.2.2.2.2)) H := hP
    have hD : va_D A (wM g ((fX11_ruleS M 0 0).1, (fX11_ruleS M 0 0).2.1, (fX11_ruleS M 0 0).2.2.1, (fX11_ruleS M 0 0).2.2.2.1, (fX11_ruleS M 0 0).2.2.2.2.1, (fX11_ruleS M 0 0).2.2.2.2.2.1, (fX11_ruleS M 0 0).2.2.2.2.2.2.1, (fX11_ruleS M 0 0).2.2.2.2.2.2.2.1, (fX11_ruleS M 0 0).2.2.2.2.2.2.2.2.1, (fX11_ruleS M 0 0).2.2.2.2.2.2.2.2.2.1, upd ((fX11_ruleS M 0 0).2.2.2.2.2.2.2.2.2.2.1) pl.toNatClampNeg ((((fX11_ruleS M 0 0).2.2.2.2.2.2.2.2.2.2.1) pl.toNatClampNeg) + 1), upd ((fX11_ruleS M 0 0).2.2.2.2.2.2.2.2.2.2.2.1) ((12 * pl) + (((fX11_ruleS M 0 0).2.2.2.2.2.2.2.2.2.2.1) pl.toNatClampNeg)).toNatClampNeg tb, (fX11_ruleS M 0 0).2.2.2.2.2.2.2.2.2.2.2.2.1, (fX11_ruleS M 0 0).2.2.2.2.2.2.2.2.2.2.2.2.2.1, (fX11_ruleS M 0 0).2.2.2.2.2.2.2.2.2.2.2.2.2.2.1, (fX11_ruleS M 0 0).2.2.2.2.2.2.2.2.2.2.2.2.2.2.2.1, (fX11_ruleS M 0 0).2.2.2.2.2.2.2.2.2.2.2.2.2.2.2.2)) := hD
    refine lv_aload_n hx hb dX11_putPlain_50 rfl (lv_at hl 0 rfl) ?_
    refine va_get (D := D) (ci := 12) (v := .ref g.ap) (C := RX11) (T := TX11) (N := 17) hx hb hg in_X11 hown hK hP 0 rfl rfl 5 (by decide) (hg _ g_691) (fun _ h9 => h9) rfl dX11_putPlain_51 ?_
    refine lv_iload_n hx hb dX11_putPlain_54 rfl (lv_at hl 2 rfl) ?_
    refine lv_iload_n hx hb dX11_putPlain_55 rfl (lv_at hl 1 rfl) ?_
    obtain ⟨hb_5, hk⟩ := hk
    refine va_iast hx hb hK hP hD hS 4 0 rfl rfl (hb_5) dX11_putPlain_56 (fun H locs hP hD hS => ?_)
    have hP : va_P D vwCl (wM g ((fX11_ruleS M 0 0).1, (fX11_ruleS M 0 0).2.1, (fX11_ruleS M 0 0).2.2.1, (fX11_ruleS M 0 0).2.2.2.1, (fX11_ruleS M 0 0).2.2.2.2.1, upd ((fX11_ruleS M 0 0).2.2.2.2.2.1) tb.toNatClampNeg pl, (fX11_ruleS M 0 0).2.2.2.2.2.2.1, (fX11_ruleS M 0 0).2.2.2.2.2.2.2.1, (fX11_ruleS M 0 0).2.2.2.2.2.2.2.2.1, (fX11_ruleS M 0 0).2.2.2.2.2.2.2.2.2.1, upd ((fX11_ruleS M 0 0).2.2.2.2.2.2.2.2.2.2.1) pl.toNatClampNeg ((((fX11_ruleS M 0 0).2.2.2.2.2.2.2.2.2.2.1) pl.toNatClampNeg) + 1), upd ((fX11_ruleS M 0 0).2.2.2.2.2.2.2.2.2.2.2.1) ((12 * pl) + (((fX11_ruleS M 0 0).2.2.2.2.2.2.2.2.2.2.1) pl.toNatClampNeg)).toNatClampNeg tb, (fX11_ruleS M 0 0).2.2.2.2.2.2.2.2.2.2.2.2.1, (fX11_ruleS M 0 0).2.2.2.2.2.2.2.2.2.2.2.2.2.1, (fX11_ruleS M 0 0).2.2.2.2.2.2.2.2.2.2.2.2.2.2.1, (fX11_ruleS M 0 0).2.2.2.2.2.2.2.2.2.2.2.2.2.2.2.1, (fX11_ruleS M 0 0).2.2.2.2.2.2.2.2.2.2.2.2.2.2.2.2)) H := hP
    have hD : va_D A (wM g ((fX11_ruleS M 0 0).1, (fX11_ruleS M 0 0).2.1, (fX11_ruleS M 0 0).2.2.1, (fX11_ruleS M 0 0).2.2.2.1, (fX11_ruleS M 0 0).2.2.2.2.1, upd ((fX11_ruleS M 0 0).2.2.2.2.2.1) tb.toNatClampNeg pl, (fX11_ruleS M 0 0).2.2.2.2.2.2.1, (fX11_ruleS M 0 0).2.2.2.2.2.2.2.1, (fX11_ruleS M 0 0).2.2.2.2.2.2.2.2.1, (fX11_ruleS M 0 0).2.2.2.2.2.2.2.2.2.1, upd ((fX11_ruleS M 0 0).2.2.2.2.2.2.2.2.2.2.1) pl.toNatClampNeg ((((fX11_ruleS M 0 0).2.2.2.2.2.2.2.2.2.2.1) pl.toNatClampNeg) + 1), upd ((fX11_ruleS M 0 0).2.2.2.2.2.2.2.2.2.2.2.1) ((12 * pl) + (((fX11_ruleS M 0 0).2.2.2.2.2.2.2.2.2.2.1) pl.toNatClampNeg)).toNatClampNeg tb, (fX11_ruleS M 0 0).2.2.2.2.2.2.2.2.2.2.2.2.1, (fX11_ruleS M 0 0).2.2.2.2.2.2.2.2.2.2.2.2.2.1, (fX11_ruleS M 0 0).2.2.2.2.2.2.2.2.2.2.2.2.2.2.1, (fX11_ruleS M 0 0).2.2.2.2.2.2.2.2.2.2.2.2.2.2.2.1, (fX11_ruleS M 0 0).2.2.2.2.2.2.2.2.2.2.2.2.2.2.2.2)) := hD
    refine lv_iconst (v := 1) hx hb dX11_putPlain_57 (by decide) ?_
    exact W.zret (v := 1) (ty := .boolean) hx hb hr rfl (fun t9 ht hW => ⟨⟨1, wM g ((fX11_ruleS M 0 0).1, (fX11_ruleS M 0 0).2.1, (fX11_ruleS M 0 0).2.2.1, (fX11_ruleS M 0 0).2.2.2.1, (fX11_ruleS M 0 0).2.2.2.2.1, upd ((fX11_ruleS M 0 0).2.2.2.2.2.1) tb.toNatClampNeg pl, (fX11_ruleS M 0 0).2.2.2.2.2.2.1, (fX11_ruleS M 0 0).2.2.2.2.2.2.2.1, (fX11_ruleS M 0 0).2.2.2.2.2.2.2.2.1, (fX11_ruleS M 0 0).2.2.2.2.2.2.2.2.2.1, upd ((fX11_ruleS M 0 0).2.2.2.2.2.2.2.2.2.2.1) pl.toNatClampNeg ((((fX11_ruleS M 0 0).2.2.2.2.2.2.2.2.2.2.1) pl.toNatClampNeg) + 1), upd ((fX11_ruleS M 0 0).2.2.2.2.2.2.2.2.2.2.2.1) ((12 * pl) + (((fX11_ruleS M 0 0).2.2.2.2.2.2.2.2.2.2.1) pl.toNatClampNeg)).toNatClampNeg tb, (fX11_ruleS M 0 0).2.2.2.2.2.2.2.2.2.2.2.2.1, (fX11_ruleS M 0 0).2.2.2.2.2.2.2.2.2.2.2.2.2.1, (fX11_ruleS M 0 0).2.2.2.2.2.2.2.2.2.2.2.2.2.2.1, (fX11_ruleS M 0 0).2.2.2.2.2.2.2.2.2.2.2.2.2.2.2.1, (fX11_ruleS M 0 0).2.2.2.2.2.2.2.2.2.2.2.2.2.2.2.2), rfl, ⟨by simp only [fX11_putPlainR, if_neg c_3], by simp only [fX11_putPlainS, if_neg c_3]⟩, by rw [ht]; exact hP, va_K.moved hW.alike hK, hD⟩, hS.F ht⟩) hS.2.2 dX11_putPlain_58
  · -- (((fX11_ruleS M 0 0).2.2.2.2.2.2.2.2.2.2.1) pl.toNatClampNeg) = (((fX11_ruleS M 0 0).2.2.2.2.2.2.2.2.1) pl.toNatClampNeg)
    have hk := hk.1 c_3
    refine lv_iconst (v := 0) hx hb dX11_putPlain_21 (by decide) ?_
    exact W.zret (v := 0) (ty := .boolean) hx hb hr rfl (fun t9 ht hW => ⟨⟨0, wM g (fX11_ruleS M 0 0), rfl, ⟨by simp only [fX11_putPlainR, if_pos c_3], by simp only [fX11_putPlainS, if_pos c_3]⟩, by rw [ht]; exact hP, va_K.moved hW.alike hK, hD⟩, hS.F ht⟩) hS.2.2 dX11_putPlain_22

theorem nb_putPlain (M : MM) (pl tb : Int32) : narrow .boolean (.int (fX11_putPlainR M pl tb)) = .int (fX11_putPlainR M pl tb) := by
  have h : fX11_putPlainR M pl tb = 0 ∨ fX11_putPlainR M pl tb = 1 := by
    unfold fX11_putPlainR
    split <;> simp
  rcases h with h | h <;> rw [h] <;> rfl
def lX11_putSorted_1R (M : MM) (pl : Int32) (tb : Int32) : Nat → Int32 × MM → Int32
  | 0, _ => 0
  | n + 1, x => (if (fX11_putPlainR (fX11_ruleS M 0 2) pl tb) = 0 then (fX11_putPlainR (fX11_ruleS M 0 2) pl tb) else (if x.1 ≤ (12 * pl) then (fX11_putPlainR (fX11_ruleS M 0 2) pl tb) else (if (x.2.2.2.1 tb.toNatClampNeg) ≤ (x.2.2.2.1 (x.2.2.2.2.2.2.2.2.2.2.2.2.1 (x.1 - 1).toNatClampNeg).toNatClampNeg) then (fX11_putPlainR (fX11_ruleS M 0 2) pl tb) else lX11_putSorted_1R M pl tb n ((x.1 + (-1)), (x.2.1, x.2.2.1, x.2.2.2.1, x.2.2.2.2.1, x.2.2.2.2.2.1, x.2.2.2.2.2.2.1, x.2.2.2.2.2.2.2.1, x.2.2.2.2.2.2.2.2.1, x.2.2.2.2.2.2.2.2.2.1, x.2.2.2.2.2.2.2.2.2.2.1, x.2.2.2.2.2.2.2.2.2.2.2.1, upd (upd x.2.2.2.2.2.2.2.2.2.2.2.2.1 x.1.toNatClampNeg (x.2.2.2.2.2.2.2.2.2.2.2.2.1 (x.1 - 1).toNatClampNeg)) (x.1 - 1).toNatClampNeg tb, x.2.2.2.2.2.2.2.2.2.2.2.2.2.1, x.2.2.2.2.2.2.2.2.2.2.2.2.2.2.1, x.2.2.2.2.2.2.2.2.2.2.2.2.2.2.2.1, x.2.2.2.2.2.2.2.2.2.2.2.2.2.2.2.2.1, x.2.2.2.2.2.2.2.2.2.2.2.2.2.2.2.2.2)))))
def lX11_putSorted_1S (M : MM) (pl : Int32) (tb : Int32) : Nat → Int32 × MM → MM
  | 0, _ => M
  | n + 1, x => (if (fX11_putPlainR (fX11_ruleS M 0 2) pl tb) = 0 then x.2 else (if x.1 ≤ (12 * pl) then x.2 else (if (x.2.2.2.1 tb.toNatClampNeg) ≤ (x.2.2.2.1 (x.2.2.2.2.2.2.2.2.2.2.2.2.1 (x.1 - 1).toNatClampNeg).toNatClampNeg) then x.2 else lX11_putSorted_1S M pl tb n ((x.1 + (-1)), (x.2.1, x.2.2.1, x.2.2.2.1, x.2.2.2.2.1, x.2.2.2.2.2.1, x.2.2.2.2.2.2.1, x.2.2.2.2.2.2.2.1, x.2.2.2.2.2.2.2.2.1, x.2.2.2.2.2.2.2.2.2.1, x.2.2.2.2.2.2.2.2.2.2.1, x.2.2.2.2.2.2.2.2.2.2.2.1, upd (upd x.2.2.2.2.2.2.2.2.2.2.2.2.1 x.1.toNatClampNeg (x.2.2.2.2.2.2.2.2.2.2.2.2.1 (x.1 - 1).toNatClampNeg)) (x.1 - 1).toNatClampNeg tb, x.2.2.2.2.2.2.2.2.2.2.2.2.2.1, x.2.2.2.2.2.2.2.2.2.2.2.2.2.2.1, x.2.2.2.2.2.2.2.2.2.2.2.2.2.2.2.1, x.2.2.2.2.2.2.2.2.2.2.2.2.2.2.2.2.1, x.2.2.2.2.2.2.2.2.2.2.2.2.2.2.2.2.2)))))
def lX11_putSorted_1K (M : MM) (pl : Int32) (tb : Int32) : Nat → Int32 × MM → Prop
  | 0, _ => True
  | n + 1, x => (((fX11_putPlainR (fX11_ruleS M 0 2) pl tb) = 0 → True) ∧ (¬ (fX11_putPlainR (fX11_ruleS M 0 2) pl tb) = 0 → ((x.1 ≤ (12 * pl) → True) ∧ (¬ x.1 ≤ (12 * pl) → (vp_in (x.1 - 1) 144 ∧ vp_in (x.2.2.2.2.2.2.2.2.2.2.2.2.1 (x.1 - 1).toNatClampNeg) 60 ∧ vp_in tb 60 ∧ (((x.2.2.2.1 tb.toNatClampNeg) ≤ (x.2.2.2.1 (x.2.2.2.2.2.2.2.2.2.2.2.2.1 (x.1 - 1).toNatClampNeg).toNatClampNeg) → True) ∧ (¬ (x.2.2.2.1 tb.toNatClampNeg) ≤ (x.2.2.2.1 (x.2.2.2.2.2.2.2.2.2.2.2.2.1 (x.1 - 1).toNatClampNeg).toNatClampNeg) → (vp_in x.1 144 ∧ lX11_putSorted_1K M pl tb n ((x.1 + (-1)), (x.2.1, x.2.2.1, x.2.2.2.1, x.2.2.2.2.1, x.2.2.2.2.2.1, x.2.2.2.2.2.2.1, x.2.2.2.2.2.2.2.1, x.2.2.2.2.2.2.2.2.1, x.2.2.2.2.2.2.2.2.2.1, x.2.2.2.2.2.2.2.2.2.2.1, x.2.2.2.2.2.2.2.2.2.2.2.1, upd (upd x.2.2.2.2.2.2.2.2.2.2.2.2.1 x.1.toNatClampNeg (x.2.2.2.2.2.2.2.2.2.2.2.2.1 (x.1 - 1).toNatClampNeg)) (x.1 - 1).toNatClampNeg tb, x.2.2.2.2.2.2.2.2.2.2.2.2.2.1, x.2.2.2.2.2.2.2.2.2.2.2.2.2.2.1, x.2.2.2.2.2.2.2.2.2.2.2.2.2.2.2.1, x.2.2.2.2.2.2.2.2.2.2.2.2.2.2.2.2.1, x.2.2.2.2.2.2.2.2.2.2.2.2.2.2.2.2.2)) ∧ True))))))))
def fX11_putSortedR (M : MM) (pl : Int32) (tb : Int32) : Int32 := lX11_putSorted_1R M pl tb (((((12 * pl) + (((fX11_putPlainS (fX11_ruleS M 0 2) pl tb).2.2.2.2.2.2.2.2.2.2.1) pl.toNatClampNeg)) - 1).toInt - (12 * pl).toInt).toNat + 1) ((((12 * pl) + (((fX11_putPlainS (fX11_ruleS M 0 2) pl tb).2.2.2.2.2.2.2.2.2.2.1) pl.toNatClampNeg)) - 1), fX11_putPlainS (fX11_ruleS M 0 2) pl tb)
def fX11_putSortedS (M : MM) (pl : Int32) (tb : Int32) : MM := lX11_putSorted_1S M pl tb (((((12 * pl) + (((fX11_putPlainS (fX11_ruleS M 0 2) pl tb).2.2.2.2.2.2.2.2.2.2.1) pl.toNatClampNeg)) - 1).toInt - (12 * pl).toInt).toNat + 1) ((((12 * pl) + (((fX11_putPlainS (fX11_ruleS M 0 2) pl tb).2.2.2.2.2.2.2.2.2.2.1) pl.toNatClampNeg)) - 1), fX11_putPlainS (fX11_ruleS M 0 2) pl tb)
def fX11_putSortedK (M : MM) (pl : Int32) (tb : Int32) : Prop := (fX11_ruleK M 0 2 ∧ fX11_putPlainK (fX11_ruleS M 0 2) pl tb ∧ vp_in pl 12 ∧ lX11_putSorted_1K M pl tb (((((12 * pl) + (((fX11_putPlainS (fX11_ruleS M 0 2) pl tb).2.2.2.2.2.2.2.2.2.2.1) pl.toNatClampNeg)) - 1).toInt - (12 * pl).toInt).toNat + 1) ((((12 * pl) + (((fX11_putPlainS (fX11_ruleS M 0 2) pl tb).2.2.2.2.2.2.2.2.2.2.1) pl.toNatClampNeg)) - 1), fX11_putPlainS (fX11_ruleS M 0 2) pl tb) ∧ True)
set_option maxHeartbeats 4000000 in
set_option maxRecDepth 100000 in
theorem c_X11_putSorted (l : Launch) (D : va_G) (g : MA) (M : MM) (pl : Int32) (tb : Int32) (hk : fX11_putSortedK M pl tb) : ctI l D (tyM g) yX11_putSorted (wd yX11_putSorted cX11_putSorted 5 (Option.some Jvm.ClassFile.FieldType.boolean)) { frames := 2, cells := 0, slots := 0, locals := 44 } [.ref g.mo, .int pl, .int tb] (wM g M) (fun r w => r = fX11_putSortedR M pl tb ∧ w = wM g (fX11_putSortedS M pl tb)) := by
  intro sz
  refine Met.ofW (cc := cX11_putSorted) (maxL := 5) (ret := (Option.some Jvm.ClassFile.FieldType.boolean)) (by decide) rfl ?_
  intro p e s m args below meth c s₁ B hml hv
  obtain ⟨rfl, hsz, hP, hK, hD0⟩ := hv
  have hx := B.exec
  have hb := B.bytes
  have hr := B.returns
  have hts := atoms_spec (ws := (wd yX11_putSorted cX11_putSorted 5 (Option.some Jvm.ClassFile.FieldType.boolean))) B.pre
  have hg := Tb.of hts
  have hown : s.vm.findClass RX11 = some m.cls := findClass_of_methodNamed B.named
  have hlocks := B.notSynchronized
  subst hsz
  have hD := hD0.self (sz := s.heap.size)
  generalize hAe : va_A (wM g M) s.heap.size = A at hD ⊢
  have hA : ∀ q : Nat, s.heap.size ≤ q → A q := fun q h => by rw [← hAe]; exact Or.inr h
  have hS : va_S A s.heap s.heap [] := va_S.rf
  have hP : va_P D vwCl (wM g M) s.heap := hP
  have hl := lv_entry ([.ref g.mo, .int pl, .int tb]) (n := 5) (Nat.le_of_ble_eq_true rfl)
  rw [lg_entry_eq]
  generalize (lg_sl ([.ref g.mo, .int pl, .int tb]) ++ List.replicate (5 - (lg_sl ([.ref g.mo, .int pl, .int tb])).length) Slot.unset).toArray = ls at hl ⊢
  have hl : lv_has ls 5 [(0, .ref g.mo), (1, .int pl), (2, .int tb)] := hl
  unfold fX11_putSortedK at hk
  refine lv_aload_n hx hb dX11_putSorted_0 rfl (lv_at hl 0 rfl) ?_
  refine lv_iconst (v := 0) hx hb dX11_putSorted_1 (by decide) ?_
  refine lv_iconst (v := 2) hx hb dX11_putSorted_2 (by decide) ?_
  obtain ⟨hc_1, hk⟩ := hk
  refine z_ve (va_runV (As := [.int 0, .int 2]) (rest := []) ⟨hx, hb, hml, hown, hts⟩ (c_X11_rule l D g M 0 2 hc_1 _) (z_V 2 hts g_772 g_4 g_769 g_771 gp_8 ⟨by decide, by decide, by decide +kernel⟩ ⟨Nat.le_of_ble_eq_true rfl, Nat.le_of_ble_eq_true rfl⟩) (z_preV (ci := 12) (q0 := 0) (hP.subm [0, 1, 2, 3, 4, 5, 6, 7, 8, 9, 10] rfl) (hD.sub [0, 1, 2, 3, 4, 5, 6, 7, 8, 9, 10] (by decide) rfl) hK rfl rfl) rfl rfl hl.1 rfl (lv_room (Nat.le_of_ble_eq_true rfl)) dX11_putSorted_3 ⟨Nat.le_of_ble_eq_true rfl, Nat.le_of_ble_eq_true rfl⟩) hP hD hS hA (([] : va_W)) (wM g (fX11_ruleS M 0 2)) [0, 1, 2, 3, 4, 5, 6, 7, 8, 9, 10] [] [0, 1, 2, 3, 4, 5, 6, 7, 8, 9, 10] rfl rfl (by decide) (by decide) rfl (by decide) (fun H locs hP hD hS => ?_)
  refine lv_aload_n hx hb dX11_putSorted_6 rfl (lv_at hl 0 rfl) ?_
  refine lv_iload_n hx hb dX11_putSorted_7 rfl (lv_at hl 1 rfl) ?_
  refine lv_iload_n hx hb dX11_putSorted_8 rfl (lv_at hl 2 rfl) ?_
  obtain ⟨hc_2, hk⟩ := hk
  refine z_ie (va_runV (As := [.int pl, .int tb]) (rest := []) ⟨hx, hb, hml, hown, hts⟩ (c_X11_putPlain l D g (fX11_ruleS M 0 2) pl tb hc_2 _) (z_V 2 hts g_780 g_4 g_777 g_779 gp_10 ⟨by decide, by decide, by decide +kernel⟩ ⟨Nat.le_of_ble_eq_true rfl, Nat.le_of_ble_eq_true rfl⟩) (z_preV (ci := 12) (q0 := 0) (hP.subm [0, 1, 2, 3, 4, 5, 6, 7, 8, 9, 10] rfl) (hD.sub [0, 1, 2, 3, 4, 5, 6, 7, 8, 9, 10] (by decide) rfl) hK rfl rfl) rfl rfl hl.1 rfl (lv_room (Nat.le_of_ble_eq_true rfl)) dX11_putSorted_9 ⟨Nat.le_of_ble_eq_true rfl, Nat.le_of_ble_eq_true rfl⟩) hP hD hS hA (([] : va_W)) (wM g (fX11_putPlainS (fX11_ruleS M 0 2) pl tb)) [0, 1, 2, 3, 4, 5, 6, 7, 8, 9, 10] [] [0, 1, 2, 3, 4, 5, 6, 7, 8, 9, 10] rfl rfl (by decide) (by decide) rfl (by decide) (fun H locs hP hD hS => ?_)
  refine lv_istore_n (lv' := [(3, .int (fX11_putPlainR (fX11_ruleS M 0 2) pl tb)), (0, .ref g.mo), (1, .int pl), (2, .int tb)]) hx hb dX11_putSorted_12 rfl hl (by decide) rfl (fun ls hl => ?_)
  refine lv_bipush (v := 12) hx hb dX11_putSorted_13 (by decide) ?_
  refine lv_iload_n hx hb dX11_putSorted_15 rfl (lv_at hl 2 rfl) ?_
  refine lv_imul hx hb dX11_putSorted_16 ?_
  refine lv_aload_n hx hb dX11_putSorted_17 rfl (lv_at hl 1 rfl) ?_
  refine va_get (D := D) (ci := 12) (v := .ref g.an) (C := RX11) (T := TX11) (N := 17) hx hb hg in_X11 hown hK hP 0 rfl rfl 10 (by decide) (hg _ g_696) (fun _ h9 => h9) rfl dX11_putSorted_18 ?_
  refine lv_iload_n hx hb dX11_putSorted_21 rfl (lv_at hl 2 rfl) ?_
  obtain ⟨hb_3, hk⟩ := hk
  refine va_iald hx hb hK hP 8 0 rfl rfl (hb_3) dX11_putSorted_22 ?_
  refine lv_iadd hx hb dX11_putSorted_23 ?_
  refine lv_iconst (v := 1) hx hb dX11_putSorted_24 (by decide) ?_
  refine lv_isub hx hb dX11_putSorted_25 ?_
  refine lv_istore (lv' := [(4, .int (((12 * pl) + (((fX11_putPlainS (fX11_ruleS M 0 2) pl tb).2.2.2.2.2.2.2.2.2.2.1) pl.toNatClampNeg)) - 1)), (3, .int (fX11_putPlainR (fX11_ruleS M 0 2) pl tb)), (0, .ref g.mo), (1, .int pl), (2, .int tb)]) hx hb dX11_putSorted_26 hl (by decide) rfl (fun ls hl => ?_)
  obtain ⟨hL_4, hk⟩ := hk
  refine z_loop (pc := 28) (fun n (x : Int32 × MM) H locs ls => ((x.1.toInt - (12 * pl).toInt).toNat < n ∧ lX11_putSorted_1R M pl tb n x = fX11_putSortedR M pl tb ∧ lX11_putSorted_1S M pl tb n x = fX11_putSortedS M pl tb ∧ lX11_putSorted_1K M pl tb n x) ∧ va_P D vwCl (wM g x.2) H ∧ va_D A (wM g x.2) ∧ va_S A s.heap H locs ∧ lv_has ls 5 [(0, .ref g.mo), (1, .int pl), (2, .int tb), (3, .int (fX11_putPlainR (fX11_ruleS M 0 2) pl tb)), (4, .int x.1)]) (fun x H locs ls h => absurd h.1.1 (Nat.not_lt_zero _)) ?_ (((((12 * pl) + (((fX11_putPlainS (fX11_ruleS M 0 2) pl tb).2.2.2.2.2.2.2.2.2.2.1) pl.toNatClampNeg)) - 1).toInt - (12 * pl).toInt).toNat + 1) ((((12 * pl) + (((fX11_putPlainS (fX11_ruleS M 0 2) pl tb).2.2.2.2.2.2.2.2.2.2.1) pl.toNatClampNeg)) - 1), fX11_putPlainS (fX11_ruleS M 0 2) pl tb) _ _ _ ⟨⟨Nat.lt_succ_self _, (by simp only [fX11_putSortedR]), (by simp only [fX11_putSortedS]), hL_4⟩, hP, hD, hS, lv_sub hl [2, 3, 4, 1, 0] rfl⟩
  intro n x H locs ls hI ih
  obtain ⟨hI, hP, hD, hS, hl⟩ := hI
  have hk : (((fX11_putPlainR (fX11_ruleS M 0 2) pl tb) = 0 → True) ∧ (¬ (fX11_putPlainR (fX11_ruleS M 0 2) pl tb) = 0 → ((x.1 ≤ (12 * pl) → True) ∧ (¬ x.1 ≤ (12 * pl) → (vp_in (x.1 - 1) 144 ∧ vp_in (x.2.2.2.2.2.2.2.2.2.2.2.2.1 (x.1 - 1).toNatClampNeg) 60 ∧ vp_in tb 60 ∧ (((x.2.2.2.1 tb.toNatClampNeg) ≤ (x.2.2.2.1 (x.2.2.2.2.2.2.2.2.2.2.2.2.1 (x.1 - 1).toNatClampNeg).toNatClampNeg) → True) ∧ (¬ (x.2.2.2.1 tb.toNatClampNeg) ≤ (x.2.2.2.1 (x.2.2.2.2.2.2.2.2.2.2.2.2.1 (x.1 - 1).toNatClampNeg).toNatClampNeg) → (vp_in x.1 144 ∧ lX11_putSorted_1K M pl tb n ((x.1 + (-1)), (x.2.1, x.2.2.1, x.2.2.2.1, x.2.2.2.2.1, x.2.2.2.2.2.1, x.2.2.2.2.2.2.1, x.2.2.2.2.2.2.2.1, x.2.2.2.2.2.2.2.2.1, x.2.2.2.2.2.2.2.2.2.1, x.2.2.2.2.2.2.2.2.2.2.1, x.2.2.2.2.2.2.2.2.2.2.2.1, upd (upd x.2.2.2.2.2.2.2.2.2.2.2.2.1 x.1.toNatClampNeg (x.2.2.2.2.2.2.2.2.2.2.2.2.1 (x.1 - 1).toNatClampNeg)) (x.1 - 1).toNatClampNeg tb, x.2.2.2.2.2.2.2.2.2.2.2.2.2.1, x.2.2.2.2.2.2.2.2.2.2.2.2.2.2.1, x.2.2.2.2.2.2.2.2.2.2.2.2.2.2.2.1, x.2.2.2.2.2.2.2.2.2.2.2.2.2.2.2.2.1, x.2.2.2.2.2.2.2.2.2.2.2.2.2.2.2.2.2)) ∧ True)))))))) := hI.2.2.2
  refine lv_iload_n hx hb dX11_putSorted_28 rfl (lv_at hl 3 rfl) ?_
  refine lv_if_eq (tgt := 96) hx hb dX11_putSorted_29 (by decide) (fun c_5 => ?_) (fun c_5 => ?_)
  · -- (fX11_putPlainR (fX11_ruleS M 0 2) pl tb) = 0
    have hk := hk.1 c_5
    refine lv_iload_n hx hb dX11_putSorted_96 rfl (lv_at hl 3 rfl) ?_
    exact W.zret (v := (fX11_putPlainR (fX11_ruleS M 0 2) pl tb)) (ty := .boolean) hx hb hr (nb_putPlain _ _ _) (fun t9 ht hW => ⟨⟨(fX11_putPlainR (fX11_ruleS M 0 2) pl tb), wM g x.2, rfl, ⟨(by rw [← hI.2.1]; simp only [lX11_putSorted_1R, if_pos c_5]), (by rw [← hI.2.2.1]; simp only [lX11_putSorted_1S, if_pos c_5])⟩, by rw [ht]; exact hP, va_K.moved hW.alike hK, hD⟩, hS.F ht⟩) hS.2.2 dX11_putSorted_97
  · -- not (fX11_putPlainR (fX11_ruleS M 0 2) pl tb) = 0
    have hk := hk.2 c_5
    refine lv_iload hx hb dX11_putSorted_32 (lv_at hl 4 rfl) ?_
    refine lv_bipush (v := 12) hx hb dX11_putSorted_34 (by decide) ?_
    refine lv_iload_n hx hb dX11_putSorted_36 rfl (lv_at hl 1 rfl) ?_
    refine lv_imul hx hb dX11_putSorted_37 ?_
    refine lv_icmp_le (tgt := 96) hx hb dX11_putSorted_38 (by decide) (fun c_6 => ?_) (fun c_6 => ?_)
    · -- x.1 ≤ (12 * pl)
      have hk := hk.1 c_6
      refine lv_iload_n hx hb dX11_putSorted_96 rfl (lv_at hl 3 rfl) ?_
      exact W.zret (v := (fX11_putPlainR (fX11_ruleS M 0 2) pl tb)) (ty := .boolean) hx hb hr (nb_putPlain _ _ _) (fun t9 ht hW => ⟨⟨(fX11_putPlainR (fX11_ruleS M 0 2) pl tb), wM g x.2, rfl, ⟨(by rw [← hI.2.1]; simp only [lX11_putSorted_1R, if_neg c_5, if_pos c_6]), (by rw [← hI.2.2.1]; simp only [lX11_putSorted_1S, if_neg c_5, if_pos c_6])⟩, by rw [ht]; exact hP, va_K.moved hW.alike hK, hD⟩, hS.F ht⟩) hS.2.2 dX11_putSorted_97
    · -- not x.1 ≤ (12 * pl)
      have hk := hk.2 c_6
      refine lv_aload_n hx hb dX11_putSorted_41 rfl (lv_at hl 0 rfl) ?_
      refine va_get (D := D) (ci := 12) (v := .ref g.al) (C := RX11) (T := TX11) (N := 17) hx hb hg in_X11 hown hK hP 0 rfl rfl 2 (by decide) (hg _ g_688) (fun _ h9 => h9) rfl dX11_putSorted_42 ?_
      refine lv_aload_n hx hb dX11_putSorted_45 rfl (lv_at hl 0 rfl) ?_
      refine va_get (D := D) (ci := 12) (v := .ref g.ar) (C := RX11) (T := TX11) (N := 17) hx hb hg in_X11 hown hK hP 0 rfl rfl 11 (by decide) (hg _ g_697) (fun _ h9 => h9) rfl dX11_putSorted_46 ?_
      refine lv_iload hx hb dX11_putSorted_49 (lv_at hl 4 rfl) ?_
      refine lv_iconst (v := 1) hx hb dX11_putSorted_51 (by decide) ?_
      refine lv_isub hx hb dX11_putSorted_52 ?_
      obtain ⟨hb_7, hk⟩ := hk
      refine va_iald hx hb hK hP 9 0 rfl rfl (hb_7) dX11_putSorted_53 ?_
      obtain ⟨hb_8, hk⟩ := hk
      refine va_iald hx hb hK hP 1 0 rfl rfl (hb_8) dX11_putSorted_54 ?_
      refine lv_aload_n hx hb dX11_putSorted_55 rfl (lv_at hl 0 rfl) ?_
      refine va_get (D := D) (ci := 12) (v := .ref g.al) (C := RX11) (T := TX11) (N := 17) hx hb hg in_X11 hown hK hP 0 rfl rfl 2 (by decide) (hg _ g_688) (fun _ h9 => h9) rfl dX11_putSorted_56 ?_
      refine lv_iload_n hx hb dX11_putSorted_59 rfl (lv_at hl 2 rfl) ?_
      obtain ⟨hb_9, hk⟩ := hk
      refine va_iald hx hb hK hP 1 0 rfl rfl (hb_9) dX11_putSorted_60 ?_
      refine lv_icmp_ge (tgt := 96) hx hb dX11_putSorted_61 (by decide) (fun c_10 => ?_) (fun c_10 => ?_)
      · -- (x.2.2.2.1 tb.toNatClampNeg) ≤ (x.2.2.2.1 (x.2.2.2.2.2.2.2.2.2.2.2.2.1 (x.1 - 1).toNatClampNeg).toNatClampNeg)
        have hk := hk.1 c_10
        refine lv_iload_n hx hb dX11_putSorted_96 rfl (lv_at hl 3 rfl) ?_
        exact W.zret (v := (fX11_putPlainR (fX11_ruleS M 0 2) pl tb)) (ty := .boolean) hx hb hr (nb_putPlain _ _ _) (fun t9 ht hW => ⟨⟨(fX11_putPlainR (fX11_ruleS M 0 2) pl tb), wM g x.2, rfl, ⟨(by rw [← hI.2.1]; simp only [lX11_putSorted_1R, if_neg c_5, if_neg c_6, if_pos c_10]), (by rw [← hI.2.2.1]; simp only [lX11_putSorted_1S, if_neg c_5, if_neg c_6, if_pos c_10])⟩, by rw [ht]; exact hP, va_K.moved hW.alike hK, hD⟩, hS.F ht⟩) hS.2.2 dX11_putSorted_97
      · -- not (x.2.2.2.1 tb.toNatClampNeg) ≤ (x.2.2.2.1 (x.2.2.2.2.2.2.2.2.2.2.2.2.1 (x.1 - 1).toNatClampNeg).toNatClampNeg)
        have hk := hk.2 c_10
        refine lv_aload_n hx hb dX11_putSorted_64 rfl (lv_at hl 0 rfl) ?_
        refine va_get (D := D) (ci := 12) (v := .ref g.ar) (C := RX11) (T := TX11) (N := 17) hx hb hg in_X11 hown hK hP 0 rfl rfl 11 (by decide) (hg _ g_697) (fun _ h9 => h9) rfl dX11_putSorted_65 ?_
        refine lv_iload hx hb dX11_putSorted_68 (lv_at hl 4 rfl) ?_
        refine lv_aload_n hx hb dX11_putSorted_70 rfl (lv_at hl 0 rfl) ?_
        refine va_get (D := D) (ci := 12) (v := .ref g.ar) (C := RX11) (T := TX11) (N := 17) hx hb hg in_X11 hown hK hP 0 rfl rfl 11 (by decide) (hg _ g_697) (fun _ h9 => h9) rfl dX11_putSorted_71 ?_
        refine lv_iload hx hb dX11_putSorted_74 (lv_at hl 4 rfl) ?_
        refine lv_iconst (v := 1) hx hb dX11_putSorted_76 (by decide) ?_
        refine lv_isub hx hb dX11_putSorted_77 ?_
        refine va_iald hx hb hK hP 9 0 rfl rfl (hb_7) dX11_putSorted_78 ?_
        obtain ⟨hb_11, hk⟩ := hk
        refine va_iast hx hb hK hP hD hS 9 0 rfl rfl (hb_11) dX11_putSorted_79 (fun H locs hP hD hS => ?_)
        have hP : va_P D vwCl (wM g (x.2.1, x.2.2.1, x.2.2.2.1, x.2.2.2.2.1, x.2.2.2.2.2.1, x.2.2.2.2.2.2.1, x.2.2.2.2.2.2.2.1, x.2.2.2.2.2.2.2.2.1, x.2.2.2.2.2.2.2.2.2.1, x.2.2.2.2.2.2.2.2.2.2.1, x.2.2.2.2.2.2.2.2.2.2.2.1, upd x.2.2.2.2.2.2.2.2.2.2.2.2.1 x.1.toNatClampNeg (x.2.2.2.2.2.2.2.2.2.2.2.2.1 (x.1 - 1).toNatClampNeg), x.2.2.2.2.2.2.2.2.2.2.2.2.2.1, x.2.2.2.2.2.2.2.2.2.2.2.2.2.2.1, x.2.2.2.2.2.2.2.2.2.2.2.2.2.2.2.1, x.2.2.2.2.2.2.2.2.2.2.2.2.2.2.2.2.1, x.2.2.2.2.2.2.2.2.2.2.2.2.2.2.2.2.2)) H := hP
        have hD : va_D A (wM g (x.2.1, x.2.2.1, x.2.2.2.1, x.2.2.2.2.1, x.2.2.2.2.2.1, x.2.2.2.2.2.2.1, x.2.2.2.2.2.2.2.1, x.2.2.2.2.2.2.2.2.1, x.2.2.2.2.2.2.2.2.2.1, x.2.2.2.2.2.2.2.2.2.2.1, x.2.2.2.2.2.2.2.2.2.2.2.1, upd x.2.2.2.2.2.2.2.2.2.2.2.2.1 x.1.toNatClampNeg (x.2.2.2.2.2.2.2.2.2.2.2.2.1 (x.1 - 1).toNatClampNeg), x.2.2.2.2.2.2.2.2.2.2.2.2.2.1, x.2.2.2.2.2.2.2.2.2.2.2.2.2.2.1, x.2.2.2.2.2.2.2.2.2.2.2.2.2.2.2.1, x.2.2.2.2.2.2.2.2.2.2.2.2.2.2.2.2.1, x.2.2.2.2.2.2.2.2.2.2.2.2.2.2.2.2.2)) := hD
        refine lv_aload_n hx hb dX11_putSorted_80 rfl (lv_at hl 0 rfl) ?_
        refine va_get (D := D) (ci := 12) (v := .ref g.ar) (C := RX11) (T := TX11) (N := 17) hx hb hg in_X11 hown hK hP 0 rfl rfl 11 (by decide) (hg _ g_697) (fun _ h9 => h9) rfl dX11_putSorted_81 ?_
        refine lv_iload hx hb dX11_putSorted_84 (lv_at hl 4 rfl) ?_
        refine lv_iconst (v := 1) hx hb dX11_putSorted_86 (by decide) ?_
        refine lv_isub hx hb dX11_putSorted_87 ?_
        refine lv_iload_n hx hb dX11_putSorted_88 rfl (lv_at hl 2 rfl) ?_
        refine va_iast hx hb hK hP hD hS 9 0 rfl rfl (hb_7) dX11_putSorted_89 (fun H locs hP hD hS => ?_)
        have hP : va_P D vwCl (wM g (x.2.1, x.2.2.1, x.2.2.2.1, x.2.2.2.2.1, x.2.2.2.2.2.1, x.2.2.2.2.2.2.1, x.2.2.2.2.2.2.2.1, x.2.2.2.2.2.2.2.2.1, x.2.2.2.2.2.2.2.2.2.1, x.2.2.2.2.2.2.2.2.2.2.1, x.2.2.2.2.2.2.2.2.2.2.2.1, upd (upd x.2.2.2.2.2.2.2.2.2.2.2.2.1 x.1.toNatClampNeg (x.2.2.2.2.2.2.2.2.2.2.2.2.1 (x.1 - 1).toNatClampNeg)) (x.1 - 1).toNatClampNeg tb, x.2.2.2.2.2.2.2.2.2.2.2.2.2.1, x.2.2.2.2.2.2.2.2.2.2.2.2.2.2.1, x.2.2.2.2.2.2.2.2.2.2.2.2.2.2.2.1, x.2.2.2.2.2.2.2.2.2.2.2.2.2.2.2.2.1, x.2.2.2.2.2.2.2.2.2.2.2.2.2.2.2.2.2)) H := hP
        have hD : va_D A (wM g (x.2.1, x.2.2.1, x.2.2.2.1, x.2.2.2.2.1, x.2.2.2.2.2.1, x.2.2.2.2.2.2.1, x.2.2.2.2.2.2.2.1, x.2.2.2.2.2.2.2.2.1, x.2.2.2.2.2.2.2.2.2.1, x.2.2.2.2.2.2.2.2.2.2.1, x.2.2.2.2.2.2.2.2.2.2.2.1, upd (upd x.2.2.2.2.2.2.2.2.2.2.2.2.1 x.1.toNatClampNeg (x.2.2.2.2.2.2.2.2.2.2.2.2.1 (x.1 - 1).toNatClampNeg)) (x.1 - 1).toNatClampNeg tb, x.2.2.2.2.2.2.2.2.2.2.2.2.2.1, x.2.2.2.2.2.2.2.2.2.2.2.2.2.2.1, x.2.2.2.2.2.2.2.2.2.2.2.2.2.2.2.1, x.2.2.2.2.2.2.2.2.2.2.2.2.2.2.2.2.1, x.2.2.2.2.2.2.2.2.2.2.2.2.2.2.2.2.2)) := hD
        refine lv_iinc (v := (x.1 + (-1))) (lv' := [(4, .int (x.1 + (-1))), (0, .ref g.mo), (1, .int pl), (2, .int tb), (3, .int (fX11_putPlainR (fX11_ruleS M 0 2) pl tb))]) hx hb dX11_putSorted_90 hl (k := 4) rfl rfl (by decide) rfl (fun ls hl => ?_)
        refine lv_goto (tgt := 28) hx hb dX11_putSorted_93 (by decide) ?_
        obtain ⟨hL_12, hk⟩ := hk
        exact ih ((x.1 + (-1)), (x.2.1, x.2.2.1, x.2.2.2.1, x.2.2.2.2.1, x.2.2.2.2.2.1, x.2.2.2.2.2.2.1, x.2.2.2.2.2.2.2.1, x.2.2.2.2.2.2.2.2.1, x.2.2.2.2.2.2.2.2.2.1, x.2.2.2.2.2.2.2.2.2.2.1, x.2.2.2.2.2.2.2.2.2.2.2.1, upd (upd x.2.2.2.2.2.2.2.2.2.2.2.2.1 x.1.toNatClampNeg (x.2.2.2.2.2.2.2.2.2.2.2.2.1 (x.1 - 1).toNatClampNeg)) (x.1 - 1).toNatClampNeg tb, x.2.2.2.2.2.2.2.2.2.2.2.2.2.1, x.2.2.2.2.2.2.2.2.2.2.2.2.2.2.1, x.2.2.2.2.2.2.2.2.2.2.2.2.2.2.2.1, x.2.2.2.2.2.2.2.2.2.2.2.2.2.2.2.2.1, x.2.2.2.2.2.2.2.2.2.2.2.2.2.2.2.2.2)) _ _ _ ⟨⟨lp_dn2 c_6 hI.1, (by rw [← hI.2.1]; simp only [lX11_putSorted_1R, if_neg c_5, if_neg c_6, if_neg c_10]), (by rw [← hI.2.2.1]; simp only [lX11_putSorted_1S, if_neg c_5, if_neg c_6, if_neg c_10]), hL_12⟩, hP, hD, hS, lv_sub hl [1, 2, 3, 4, 0] rfl⟩
end
