/-! THE CLAIM OUT OF ONE WALK OF THE LAW'S BODY. Your part is whole_start (and what it stands on); all else here is the same for every law, but numbers. -/
def R_law : String := "PileHeirsLaw"
def lw_P (b : Addr) (xs : List Int32) (args : Array Value) (s : State) : Prop := args = #[.ref b] ∧ s.IntsAt b xs ∧ xs.length ≤ 2048 ∧ (Jvm.Cond.and given_1 narrow_1).before args s = true
def lw_Q (_ : Array Value) (s : State) (o : Outcome) (t : State) : Prop := o = .returned (some (.int 1)) ∧ Framed s o t [] 603072 7121002
def lw_Z (below : List Frame) (a : Array Value) (s : State) : State → Prop := fun t => ∃ o, t.status = .running ∧ Ended t below o ∧ lw_Q a s o t
/-- the law's own end, with 1 on the stack, nothing written that was there before, its room as the claim has it -/
theorem lw_ret {p : Program} {l : Launch} {e : Env} {s : State} {m : MethodId} {below : List Frame} {meth : Method} {c : Code} {b : Nat} (hx : p.tables.exec = Jvm.exec) (hb : c.code = code) (hr : meth.sig.returnType = ret) (hlocks : meth.locks = false) {pc : Nat} {H : Heap} {ls : Array Slot} (hdg : decode code pc = .ok (.ireturn, 1)) : W p l e room_1 s m #[Value.ref b] below meth c H [] 603072 7121002 (lw_Z below #[Value.ref b] s) (F0 m pc ls [.int 1]) := by
  intro T hT X
  obtain ⟨fs, hret, hrun, hended, hW, hframe⟩ := X.leave (v := some (.int 1)) (hlocks := hlocks) (fun h => by rw [hr] at h; cases h)
  have hmeth' : T.vm.method? m = some meth := X.method'
  refine ⟨T.setFrames fs, ?_, .returned (some (.int 1)), hrun, hended, rfl, ⟨_, rfl⟩, hW, hframe⟩
  jvm_step X.here [X.here.top, hx, hb, hdg, hmeth', hr, ret, narrow_b1]
  (try refine ⟨rfl, ?_⟩); (try refine ⟨rfl, ?_⟩)
  first | (intro acts; rw [hret _ acts rfl rfl rfl]) | rw [hret _ _ rfl rfl rfl]
  exact Steps.refl _
/-- what holds at the law's entry: the machine, the code, the tables' words (any of lw_tbl by 'hts w (by decide +kernel)'), the script of L ints xs at the cell b, what the Statement gives of the start (any of its parts by flat_of_before) -/
def lw_At (p : Program) (s : State) (m : MethodId) (meth : Method) (c : Code) (b L : Nat) (xs : Nat → Int32) : Prop :=
  p.tables.exec = Jvm.exec ∧ c.code = code ∧ meth.sig.returnType = ret ∧ c.maxLocals = 7 ∧ s.vm.findClass R_law = some m.cls ∧ (∀ w ∈ lw_tbl, w.before #[Value.ref b] s = true) ∧ va_X b L xs s s.heap ∧ b < s.heap.size ∧ meth.locks = false ∧ (Jvm.Cond.and given_1 narrow_1).before #[Value.ref b] s = true

/-! the law's world: out[], the reference, the class -/
abbrev wZ0 (oa : Nat) (cJ : ClassId) (fo : Nat → Int64) (gm : MA) (M : MM) (g : GA) (x : GX) (n : Nat) (C : CZ) (T : TT) (X : DD) : va_W := oC oa cJ fo :: (wM gm M ++ wX0 g x n C T X)
abbrev wZ (oa : Nat) (cJ : ClassId) (fo : Nat → Int64) (gm : MA) (M : MM) (g : GA) (x : GX) (n : Nat) (C : CZ) (P : Nat → PP) (T : TT) (X : DD) : va_W := wZ0 oa cJ fo gm M g x n C T X ++ wL g n C P
section ZL
variable {p : Program} {l : Launch} {e : Env} {R : Room} {s : State} {m : MethodId} {args : Array Value} {below : List Frame} {meth : Method} {c : Code} {H : Heap} {locs : List Loc} {cells slots : Nat} {Q : State → Prop}
variable {D : va_G} {tys : List (ClassId × FieldType)} {A : Nat → Prop} {H0 : Heap}
variable {pc : Nat} {ls : Array Slot} {rest st0 : List Value} {a : Array Value} {mc ms : Nat} {r0 : Int32}
variable {oa : Nat} {cJ : ClassId} {fo fo1 : Nat → Int64} {gm : MA} {M M1 : MM} {g : GA} {x : GX} {n n1 : Nat} {C C1 : CZ} {P P1 : Nat → PP} {T T1 : TT} {X X1 : DD}
theorem zl_FX (hD : va_D A (wZ oa cJ fo gm M g x n C P T X)) (hS : va_S A H0 H locs) (hA : ∀ q, H0.size ≤ q → A q) : ∀ q, va_A (wX g x n C P T X) H.size q → A q :=
  va_freeP (X := wZ0 oa cJ fo gm M g x n C T X) (cx := wX0 g x n C T X) (pl := wL g n C P) hD hS hA [12, 13, 14, 15, 16, 17, 18, 19, 20] rfl
theorem zl_joinX {H1 : Heap} (hP : va_P D vwCl (wZ oa cJ fo gm M g x n C P T X) H) (hD : va_D A (wZ oa cJ fo gm M g x n C P T X)) (hF : ∀ q, va_A (wX g x n C P T X) H.size q → A q) (hk : ∀ q : Nat, q < H.size → ¬ va_A (wX g x n C P T X) H.size q → H1[q]? = H[q]?) (hP1 : va_P D vwCl (wX g x n1 C1 P1 T1 X1) H1) (hD1 : va_D (va_A (wX g x n C P T X) H.size) (wX g x n1 C1 P1 T1 X1)) :
    va_P D vwCl (wZ oa cJ fo gm M g x n1 C1 P1 T1 X1) H1 ∧ va_D A (wZ oa cJ fo gm M g x n1 C1 P1 T1 X1) :=
  va_joinP (X := wZ0 oa cJ fo gm M g x n C T X) (cx := wX0 g x n C T X) (wr := oC oa cJ fo :: wM gm M) (rx := wX0 g x n1 C1 T1 X1) (pl := wL g n C P) (pl1 := wL g n1 C1 P1) hP hD [12, 13, 14, 15, 16, 17, 18, 19, 20] [0, 1, 2, 3, 4, 5, 6, 7, 8, 9, 10, 11] rfl rfl (by decide) (by decide) hk hF hP1 hD1
/-- a call of the class -/
theorem zl_X (hr : va_Run p l e R s m args below meth c H locs cells slots mc ms (F0 m pc ls st0) rest (va_Qi (fun r w => r = r0 ∧ w = wX g x n1 C1 P1 T1 X1) (ctB D tys (va_A (wX g x n C P T X) H.size)) (va_A (wX g x n C P T X) H.size) a) (va_A (wX g x n C P T X) H.size))
    (hP : va_P D vwCl (wZ oa cJ fo gm M g x n C P T X) H) (hD : va_D A (wZ oa cJ fo gm M g x n C P T X)) (hS : va_S A H0 H locs) (hA : ∀ q, H0.size ≤ q → A q)
    (kk : ∀ (H : Heap) (locs : List Loc), va_P D vwCl (wZ oa cJ fo gm M g x n1 C1 P1 T1 X1) H → va_D A (wZ oa cJ fo gm M g x n1 C1 P1 T1 X1) → va_S A H0 H locs → W p l e R s m args below meth c H locs (cells + mc) (slots + ms) Q (F0 m (pc + 3) ls (.int r0 :: rest))) :
    W p l e R s m args below meth c H locs cells slots Q (F0 m pc ls st0) := by
  have hF := zl_FX hD hS hA
  refine va_calli hr hS (fun q _ h => hF q h) hF (fun r u t H1 locs1 ht hvm hw hB hz1 hk1 hS1 => ?_)
  obtain ⟨hP1, hK1, hD1⟩ := hB
  rw [ht] at hP1
  obtain ⟨rfl, rfl⟩ := hw
  obtain ⟨hP2, hD2⟩ := zl_joinX hP hD hF hk1 hP1 hD1
  exact kk H1 locs1 hP2 hD2 hS1
/-- pile -/
theorem zl_pile {k cp lm : Int32} (hr : va_Run p l e R s m args below meth c H locs cells slots mc ms (F0 m pc ls st0) rest (va_Qi (fun r w => r = r0 ∧ (¬ okP n k cp lm → w = wX g x n C P T X) ∧ (okP n k cp lm → ∃ q q1 : Nat, w = wX g x (n + 1) (va_up C n (ciK k, q, q1)) (va_up P n (nI n, cp, lm, (fun _ => 0), 0)) T X)) (ctB D tys (va_A (wX g x n C P T X) H.size)) (va_A (wX g x n C P T X) H.size) a) (va_A (wX g x n C P T X) H.size))
    (hP : va_P D vwCl (wZ oa cJ fo gm M g x n C P T X) H) (hD : va_D A (wZ oa cJ fo gm M g x n C P T X)) (hS : va_S A H0 H locs) (hA : ∀ q, H0.size ≤ q → A q)
    (kk : ∀ (n1 : Nat) (C1 : CZ) (P1 : Nat → PP) (H : Heap) (locs : List Loc), ((¬ okP n k cp lm ∧ n1 = n ∧ C1 = C ∧ P1 = P) ∨ (okP n k cp lm ∧ ∃ q q1 : Nat, n1 = n + 1 ∧ C1 = va_up C n (ciK k, q, q1) ∧ P1 = va_up P n (nI n, cp, lm, (fun _ => 0), 0))) → va_P D vwCl (wZ oa cJ fo gm M g x n1 C1 P1 T X) H → va_D A (wZ oa cJ fo gm M g x n1 C1 P1 T X) → va_S A H0 H locs → W p l e R s m args below meth c H locs (cells + mc) (slots + ms) Q (F0 m (pc + 3) ls (.int r0 :: rest))) :
    W p l e R s m args below meth c H locs cells slots Q (F0 m pc ls st0) := by
  have hF := zl_FX hD hS hA
  refine va_calli hr hS (fun q _ h => hF q h) hF (fun r u t H1 locs1 ht hvm hw hB hz1 hk1 hS1 => ?_)
  obtain ⟨hP1, hK1, hD1⟩ := hB
  rw [ht] at hP1
  obtain ⟨rfl, h1, h2⟩ := hw
  by_cases ho : okP n k cp lm
  · obtain ⟨q, q1, rfl⟩ := h2 ho
    obtain ⟨hP2, hD2⟩ := zl_joinX hP hD hF hk1 hP1 hD1
    exact kk _ _ _ H1 locs1 (Or.inr ⟨ho, q, q1, rfl, rfl, rfl⟩) hP2 hD2 hS1
  · cases h1 ho
    obtain ⟨hP2, hD2⟩ := zl_joinX hP hD hF hk1 hP1 hD1
    exact kk _ _ _ H1 locs1 (Or.inl ⟨ho, rfl, rfl, rfl⟩) hP2 hD2 hS1
/-- a call of the reference -/
theorem zl_M (hr : va_Run p l e R s m args below meth c H locs cells slots 0 0 (F0 m pc ls st0) rest (va_Qi (fun r w => r = r0 ∧ w = wM gm M1) (ctB D tys (va_A (wM gm M) H.size)) (va_A (wM gm M) H.size) a) (va_A (wM gm M) H.size))
    (hP : va_P D vwCl (wZ oa cJ fo gm M g x n C P T X) H) (hD : va_D A (wZ oa cJ fo gm M g x n C P T X)) (hS : va_S A H0 H locs) (hA : ∀ q, H0.size ≤ q → A q)
    (kk : ∀ (H : Heap) (locs : List Loc), va_P D vwCl (wZ oa cJ fo gm M1 g x n C P T X) H → va_D A (wZ oa cJ fo gm M1 g x n C P T X) → va_S A H0 H locs → W p l e R s m args below meth c H locs cells slots Q (F0 m (pc + 3) ls (.int r0 :: rest))) :
    W p l e R s m args below meth c H locs cells slots Q (F0 m pc ls st0) :=
  z_ieQ (ws := wZ0 oa cJ fo gm M g x n C T X) (pl := wL g n C P) hr hP hD hS hA (oC oa cJ fo :: wX0 g x n C T X) (wZ0 oa cJ fo gm M1 g x n C T X) [1, 2, 3, 4, 5, 6, 7, 8, 9, 10, 11] [0, 12, 13, 14, 15, 16, 17, 18, 19, 20] [0, 10, 11, 12, 13, 14, 15, 16, 17, 18, 19, 20, 1, 2, 3, 4, 5, 6, 7, 8, 9] rfl rfl (by decide) (by decide) rfl (by decide) kk
theorem zl_FP (hD : va_D A (wZ oa cJ fo gm M g x n C P T X)) (hS : va_S A H0 H locs) (hA : ∀ q, H0.size ≤ q → A q) : ∀ q, va_A ([oC oa cJ fo] ++ wX g x n C P T X) H.size q → A q :=
  va_freeP (X := wZ0 oa cJ fo gm M g x n C T X) (cx := [oC oa cJ fo] ++ wX0 g x n C T X) (pl := wL g n C P) hD hS hA [0, 12, 13, 14, 15, 16, 17, 18, 19, 20] rfl
/-- put, take by the law's own methods -/
theorem zl_P (hr : va_Run p l e R s m args below meth c H locs cells slots mc ms (F0 m pc ls st0) rest (va_Qi (fun r w => r = r0 ∧ w = [oC oa cJ fo1] ++ wX g x n C P1 T1 X1) (ctB D tys (va_A ([oC oa cJ fo] ++ wX g x n C P T X) H.size)) (va_A ([oC oa cJ fo] ++ wX g x n C P T X) H.size) a) (va_A ([oC oa cJ fo] ++ wX g x n C P T X) H.size))
    (hP : va_P D vwCl (wZ oa cJ fo gm M g x n C P T X) H) (hD : va_D A (wZ oa cJ fo gm M g x n C P T X)) (hS : va_S A H0 H locs) (hA : ∀ q, H0.size ≤ q → A q)
    (kk : ∀ (H : Heap) (locs : List Loc), va_P D vwCl (wZ oa cJ fo1 gm M g x n C P1 T1 X1) H → va_D A (wZ oa cJ fo1 gm M g x n C P1 T1 X1) → va_S A H0 H locs → W p l e R s m args below meth c H locs (cells + mc) (slots + ms) Q (F0 m (pc + 3) ls (.int r0 :: rest))) :
    W p l e R s m args below meth c H locs cells slots Q (F0 m pc ls st0) := by
  have hF := zl_FP hD hS hA
  refine va_calli hr hS (fun q _ h => hF q h) hF (fun r u t H1 locs1 ht hvm hw hB hz1 hk1 hS1 => ?_)
  obtain ⟨hP1, hK1, hD1⟩ := hB
  rw [ht] at hP1
  obtain ⟨rfl, rfl⟩ := hw
  have hj := va_joinP (X := wZ0 oa cJ fo gm M g x n C T X) (cx := [oC oa cJ fo] ++ wX0 g x n C T X) (wr := wM gm M) (rx := [oC oa cJ fo1] ++ wX0 g x n C T1 X1) (pl := wL g n C P) (pl1 := wL g n C P1) hP hD [0, 12, 13, 14, 15, 16, 17, 18, 19, 20] [1, 2, 3, 4, 5, 6, 7, 8, 9, 10, 11] rfl rfl (by decide) (by decide) hk1 hF hP1 hD1
  have hP2 : va_P D vwCl (wZ oa cJ fo1 gm M g x n C P1 T1 X1) H1 := hj.1.part (cx := wZ0 oa cJ fo1 gm M g x n C T1 X1) [11, 0, 1, 2, 3, 4, 5, 6, 7, 8, 9, 10, 12, 13, 14, 15, 16, 17, 18, 19, 20] rfl
  have hD2 : va_D A (wZ oa cJ fo1 gm M g x n C P1 T1 X1) := hj.2.part (cx := wZ0 oa cJ fo1 gm M g x n C T1 X1) [11, 0, 1, 2, 3, 4, 5, 6, 7, 8, 9, 10, 12, 13, 14, 15, 16, 17, 18, 19, 20] (by decide) rfl
  exact kk H1 locs1 hP2 hD2 hS1
end ZL
section ZG
variable {p : Program} {R : Room} {s : State} {args : Array Value} {y : MethodName} {bytes : ByteArray} {maxL index : Nat} {ret : Option FieldType} {rm : Room} {own C : String} {hh : List (Nat × Nat × Nat × Nat)}
theorem gd_G {w0 : Cond} (h : w0 ∈ GW) : GoodIn GW (w0 :: GW) := by
  intro w hw
  have h1 : w ∈ GW := by
    rcases List.mem_cons.mp hw with e | e
    · rw [e]; exact h
    · exact e
  exact ⟨h1, good_of_word (gw_good w h1)⟩
theorem zg_V (n : Nat) (hg : Tb args s) (hc : Cond.code y bytes maxL ret ∈ GW) (hini : Cond.initialized y.cls ∈ GW) (hl : Cond.methodLink own index y ∈ GW) (hi : Cond.instanceMethod y ∈ GW) (hs : Cond.selects C y y ∈ GW)
    (hd : y.cls ≠ "java/lang/invoke/MethodHandle" ∧ y.cls ≠ "java/lang/invoke/VarHandle" ∧ (parseMethodDescriptor y.desc).map (fun d => d.parameters.length) = some n) (hR : rm.frames + 1 ≤ R.frames ∧ 8 + (maxL + 11) + rm.locals ≤ R.locals) :
    CallW R s args own C index y bytes maxL ret (wd y bytes maxL ret) rm rm.cells rm.slots n :=
  ⟨callB_of n hg (gd_G hc) rfl rfl rfl (hg _ hini) (hg _ hl) hd hR, hg _ hi, hg _ hs⟩
theorem zg_I (n : Nat) (hg : Tb args s) (hc : Cond.code y bytes maxL none ∈ GW) (hini : Cond.initialized y.cls ∈ GW) (hl : Cond.methodLink own index y ∈ GW) (hi : Cond.instanceMethod y ∈ GW) (hy : y.name = "<init>")
    (hd : y.cls ≠ "java/lang/invoke/MethodHandle" ∧ y.cls ≠ "java/lang/invoke/VarHandle" ∧ (parseMethodDescriptor y.desc).map (fun d => d.parameters.length) = some n) (hR : rm.frames + 1 ≤ R.frames ∧ 8 + (maxL + 11) + rm.locals ≤ R.locals) :
    CallB R s args own index y bytes maxL none (wd y bytes maxL none) rm rm.cells rm.slots n ∧ y.name = "<init>" ∧ (Cond.instanceMethod y).before args s = true :=
  ⟨callB_of n hg (gd_G hc) rfl rfl rfl (hg _ hini) (hg _ hl) hd hR, hy, hg _ hi⟩
theorem zg_W (n : Nat) (hg : Tb args s) (hc : Cond.codeWith y bytes maxL ret hh ∈ GW) (hini : Cond.initialized y.cls ∈ GW) (hl : Cond.methodLink own index y ∈ GW) (hs : Cond.static y ∈ GW)
    (hd : y.cls ≠ "java/lang/invoke/MethodHandle" ∧ y.cls ≠ "java/lang/invoke/VarHandle" ∧ (parseMethodDescriptor y.desc).map (fun d => d.parameters.length) = some n) (hR : rm.frames + 1 ≤ R.frames ∧ 8 + (maxL + 11) + rm.locals ≤ R.locals) :
    vx_CSW R s args own index y bytes maxL ret hh (wdw y bytes maxL ret hh) rm rm.cells rm.slots n := by
  refine ⟨⟨rfl, rfl, hR.1, hR.2, pay_in hg (gd_G hc), List.mem_cons_self⟩, hg _ hc, hg _ hini, ⟨hd.1, hd.2.1⟩, fun sig h => ?_, hg _ hl, hg _ hs⟩
  have h2 := hd.2.2
  rw [h] at h2
  exact (Option.some.inj h2).symm
end ZG
theorem zcmp_self (x : Int64) : lg_cmp x x = 0 := by
  unfold lg_cmp
  rw [if_neg (by rw [gt_iff_lt, Int64.lt_iff_toInt_lt]; omega), if_pos rfl]

theorem gcw_put : (Cond.codeWith yL_put cL_put 5 (Option.some Jvm.ClassFile.FieldType.int) [(0, 10, 13, 13)]) ∈ GW := gw_of (i := 577) (by decide +kernel) rfl

theorem gcw_take : (Cond.codeWith yL_take cL_take 4 (Option.some Jvm.ClassFile.FieldType.int) [(0, 9, 12, 19)]) ∈ GW := gw_of (i := 662) (by decide +kernel) rfl
