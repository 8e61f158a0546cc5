/-! contracts over a world w (a list of cells), with the tables' good words GW as their words -/
abbrev wd (y : MethodName) (b : ByteArray) (n : Nat) (r : Option FieldType) : List Cond := Cond.code y b n r :: GW
theorem wd_good {y y' : MethodName} {b b' : ByteArray} {n n' : Nat} {r r' : Option FieldType} (h : Cond.code y' b' n' r' ∈ GW) : GoodIn (wd y b n r) (wd y' b' n' r') := by
  intro w hw
  have h1 : w ∈ GW := by
    rcases List.mem_cons.mp hw with e | e
    · rw [e]; exact h
    · exact e
  exact ⟨List.mem_cons_of_mem _ h1, good_of_word (gw_good w h1)⟩
/-- what holds of the tables inside a method: every good word -/
abbrev Tb (args : Array Value) (s : State) : Prop := ∀ w ∈ GW, w.before args s = true
theorem Tb.of {y : MethodName} {b : ByteArray} {n : Nat} {r : Option FieldType} {args : Array Value} {s : State} (h : ∀ w ∈ wd y b n r, w.before args s = true) : Tb args s := fun w hw => h w (List.mem_cons_of_mem _ hw)
def ctP (D : va_G) (tys : List (ClassId × FieldType)) (w : va_W) (sz : Nat) : State → Prop := fun U => U.heap.size = sz ∧ va_P D vwCl w U.heap ∧ va_K D vwCl tys U ∧ va_D (fun _ => True) w
def ctB (D : va_G) (tys : List (ClassId × FieldType)) (A : Nat → Prop) : va_W → State → Prop := fun w' t => va_P D vwCl w' t.heap ∧ va_K D vwCl tys t ∧ va_D A w'
/-- a method that answers an int (or a boolean) -/
def ctI (l : Launch) (D : va_G) (tys : List (ClassId × FieldType)) (y : MethodName) (ws : List Cond) (rm : Room) (av : List Value) (w : va_W) (post : Int32 → va_W → Prop) : Prop :=
  ∀ sz : Nat, Met l y ws rm (va_Pc av (ctP D tys w sz)) (va_Qi post (ctB D tys (va_A w sz)) (va_A w sz)) rm.cells rm.slots (va_A w sz)
/-- a method that answers nothing -/
def ctV (l : Launch) (D : va_G) (tys : List (ClassId × FieldType)) (y : MethodName) (ws : List Cond) (rm : Room) (av : List Value) (w : va_W) (post : va_W → Prop) : Prop :=
  ∀ sz : Nat, Met l y ws rm (va_Pc av (ctP D tys w sz)) (va_Qv post (ctB D tys (va_A w sz)) (va_A w sz)) rm.cells rm.slots (va_A w sz)
/-- a method that answers a reference or null -/
def ctQ (l : Launch) (D : va_G) (tys : List (ClassId × FieldType)) (y : MethodName) (ws : List Cond) (rm : Room) (av : List Value) (w : va_W) (post : Option Nat → va_W → Prop) : Prop :=
  ∀ sz : Nat, Met l y ws rm (va_Pc av (ctP D tys w sz)) (va_Qq post (ctB D tys (va_A w sz)) (va_A w sz)) rm.cells rm.slots (va_A w sz)
theorem va_P.subm {D : va_G} {cl : List vw_C} {ws ws' : va_W} {H : Heap} (h : va_P D cl ws H) (is : List Nat) (hs : is.map (fun i => ws[i]?) = ws'.map some) : va_P D cl ws' H := by
  intro k q hk
  obtain ⟨i, -, hi⟩ := va_in_of is hs hk
  exact h i q hi
section ZA
variable {p : Program} {l : Launch} {e : Env} {R : Room} {s : State} {m : MethodId} {args : Array Value} {below : List Frame} {meth : Method} {c : Code} {H : Heap} {locs : List Loc} {cells slots : Nat} {Q : State → Prop}
variable {D : va_G} {tys : List (ClassId × FieldType)} {A : Nat → Prop} {H0 : Heap} {ws wc wr wn w1 : va_W}
theorem z_blind {av : List Value} {sz : Nat} : FrameBlind (va_Pc av (ctP D tys wc sz)) := fun a U g mk q => by
  obtain ⟨q0, q1, qP, qK, qD⟩ := q
  exact ⟨q0, q1, qP, va_K.moved (u := U) (U := U.calling g mk a) (Vm.Alike.refl U.vm) qK, qD⟩
theorem z_preS {As : List Value} {B : Nat → Prop} (hP : va_P D vwCl wc H) (hD : va_D B wc) (hK : va_K D vwCl tys s) : PreS s H (va_Pc As (ctP D tys wc H.size)) As :=
  ⟨z_blind, fun U hU hW => ⟨rfl, by rw [hU], by rw [hU]; exact hP, va_K.moved hW.alike hK, hD.weaken (fun _ _ _ _ => trivial)⟩⟩
theorem z_preV {As : List Value} {B : Nat → Prop} {b q0 ci : Nat} {q : vw_C} {fs : List Value} (hP : va_P D vwCl wc H) (hD : va_D B wc) (hK : va_K D vwCl tys s) (hc : vwCl[ci]? = some q) (he : wc[q0]? = some (b, .inr (ci, fs))) :
    PreV s H q.1 b (va_Pc (.ref b :: As) (ctP D tys wc H.size)) As :=
  ⟨z_blind, va_recv hK hP hc he, (z_preS (As := .ref b :: As) hP hD hK).2⟩
variable {pc : Nat} {ls : Array Slot} {rest st0 : List Value} {a : Array Value} {mc ms : Nat}
/-- behind a call that answers an int: the callee's cells wc, the rest wr -/
theorem z_i {post : Int32 → va_W → Prop} (hr : va_Run p l e R s m args below meth c H locs cells slots mc ms (F0 m pc ls st0) rest (va_Qi post (ctB D tys (va_A wc H.size)) (va_A wc H.size) a) (va_A wc H.size))
    (hP : va_P D vwCl ws H) (hD : va_D A ws) (hS : va_S A H0 H locs) (hA : ∀ q, H0.size ≤ q → A q) (isC isR : List Nat) (hC : isC.map (fun i => ws[i]?) = wc.map some) (hR : isR.map (fun i => ws[i]?) = wr.map some) (hn : va_nd isR = true) (hdis : ∀ i ∈ isR, i ∉ isC)
    (kk : ∀ (r : Int32) (w1 : va_W) (H1 : Heap) (locs1 : List Loc), post r w1 → va_P D vwCl (wr ++ w1) H1 → va_D A (wr ++ w1) → va_S A H0 H1 locs1 → W p l e R s m args below meth c H1 locs1 (cells + mc) (slots + ms) Q (F0 m (pc + 3) ls (.int r :: rest))) :
    W p l e R s m args below meth c H locs cells slots Q (F0 m pc ls st0) := by
  have hF := va_free (wc := wc) hD hS hA isC hC
  refine va_calli hr hS (fun q _ h => hF q h) hF (fun r u t H1 locs1 ht hvm hw hB hz1 hk1 hS1 => ?_)
  obtain ⟨hP1, hK1, hD1⟩ := hB
  rw [ht] at hP1
  obtain ⟨hP2, hD2⟩ := va_join (wr := wr) (w1 := u) hP hD isC isR hC hR hn hdis hk1 hF hP1 hD1
  exact kk r u H1 locs1 hw hP2 hD2 hS1
theorem z_v {post : va_W → Prop} (hr : va_Run p l e R s m args below meth c H locs cells slots mc ms (F0 m pc ls st0) rest (va_Qv post (ctB D tys (va_A wc H.size)) (va_A wc H.size) a) (va_A wc H.size))
    (hP : va_P D vwCl ws H) (hD : va_D A ws) (hS : va_S A H0 H locs) (hA : ∀ q, H0.size ≤ q → A q) (isC isR : List Nat) (hC : isC.map (fun i => ws[i]?) = wc.map some) (hR : isR.map (fun i => ws[i]?) = wr.map some) (hn : va_nd isR = true) (hdis : ∀ i ∈ isR, i ∉ isC)
    (kk : ∀ (w1 : va_W) (H1 : Heap) (locs1 : List Loc), post w1 → va_P D vwCl (wr ++ w1) H1 → va_D A (wr ++ w1) → va_S A H0 H1 locs1 → W p l e R s m args below meth c H1 locs1 (cells + mc) (slots + ms) Q (F0 m (pc + 3) ls rest)) :
    W p l e R s m args below meth c H locs cells slots Q (F0 m pc ls st0) := by
  have hF := va_free (wc := wc) hD hS hA isC hC
  refine va_callv hr hS (fun q _ h => hF q h) hF (fun u t H1 locs1 ht hvm hw hB hz1 hk1 hS1 => ?_)
  obtain ⟨hP1, hK1, hD1⟩ := hB
  rw [ht] at hP1
  obtain ⟨hP2, hD2⟩ := va_join (wr := wr) (w1 := u) hP hD isC isR hC hR hn hdis hk1 hF hP1 hD1
  exact kk u H1 locs1 hw hP2 hD2 hS1
theorem z_q {post : Option Nat → va_W → Prop} (hr : va_Run p l e R s m args below meth c H locs cells slots mc ms (F0 m pc ls st0) rest (va_Qq post (ctB D tys (va_A wc H.size)) (va_A wc H.size) a) (va_A wc H.size))
    (hP : va_P D vwCl ws H) (hD : va_D A ws) (hS : va_S A H0 H locs) (hA : ∀ q, H0.size ≤ q → A q) (isC isR : List Nat) (hC : isC.map (fun i => ws[i]?) = wc.map some) (hR : isR.map (fun i => ws[i]?) = wr.map some) (hn : va_nd isR = true) (hdis : ∀ i ∈ isR, i ∉ isC)
    (kk : ∀ (r : Option Nat) (w1 : va_W) (H1 : Heap) (locs1 : List Loc), post r w1 → va_P D vwCl (wr ++ w1) H1 → va_D A (wr ++ w1) → va_S A H0 H1 locs1 → W p l e R s m args below meth c H1 locs1 (cells + mc) (slots + ms) Q (F0 m (pc + 3) ls (va_rf r :: rest))) :
    W p l e R s m args below meth c H locs cells slots Q (F0 m pc ls st0) := by
  have hF := va_free (wc := wc) hD hS hA isC hC
  refine va_callq hr hS (fun q _ h => hF q h) hF (fun r u t H1 locs1 ht hvm hw hB hz1 hk1 hS1 => ?_)
  obtain ⟨hP1, hK1, hD1⟩ := hB
  rw [ht] at hP1
  obtain ⟨hP2, hD2⟩ := va_join (wr := wr) (w1 := u) hP hD isC isR hC hR hn hdis hk1 hF hP1 hD1
  exact kk r u H1 locs1 hw hP2 hD2 hS1
/-- the same where the answer and the callee's new cells are given, and what then stands is put into an order -/
theorem z_ie {r0 : Int32} (hr : va_Run p l e R s m args below meth c H locs cells slots 0 0 (F0 m pc ls st0) rest (va_Qi (fun r w => r = r0 ∧ w = w1) (ctB D tys (va_A wc H.size)) (va_A wc H.size) a) (va_A wc H.size))
    (hP : va_P D vwCl ws H) (hD : va_D A ws) (hS : va_S A H0 H locs) (hA : ∀ q, H0.size ≤ q → A q) (wr wn : va_W) (isC isR isN : List Nat) (hC : isC.map (fun i => ws[i]?) = wc.map some) (hR : isR.map (fun i => ws[i]?) = wr.map some) (hn : va_nd isR = true) (hdis : ∀ i ∈ isR, i ∉ isC) (hN : isN.map (fun i => (wr ++ w1)[i]?) = wn.map some) (hnN : va_nd isN = true)
    (kk : ∀ (H : Heap) (locs : List Loc), va_P D vwCl wn H → va_D A wn → va_S A H0 H locs → W p l e R s m args below meth c H locs cells slots Q (F0 m (pc + 3) ls (.int r0 :: rest))) :
    W p l e R s m args below meth c H locs cells slots Q (F0 m pc ls st0) :=
  z_i hr hP hD hS hA isC isR hC hR hn hdis (fun r w H1 locs1 hw hP2 hD2 hS2 => by
    obtain ⟨rfl, rfl⟩ := hw
    exact kk H1 locs1 (hP2.subm isN hN) (hD2.sub isN hnN hN) hS2)
theorem z_ve (hr : va_Run p l e R s m args below meth c H locs cells slots 0 0 (F0 m pc ls st0) rest (va_Qv (fun w => w = w1) (ctB D tys (va_A wc H.size)) (va_A wc H.size) a) (va_A wc H.size))
    (hP : va_P D vwCl ws H) (hD : va_D A ws) (hS : va_S A H0 H locs) (hA : ∀ q, H0.size ≤ q → A q) (wr wn : va_W) (isC isR isN : List Nat) (hC : isC.map (fun i => ws[i]?) = wc.map some) (hR : isR.map (fun i => ws[i]?) = wr.map some) (hn : va_nd isR = true) (hdis : ∀ i ∈ isR, i ∉ isC) (hN : isN.map (fun i => (wr ++ w1)[i]?) = wn.map some) (hnN : va_nd isN = true)
    (kk : ∀ (H : Heap) (locs : List Loc), va_P D vwCl wn H → va_D A wn → va_S A H0 H locs → W p l e R s m args below meth c H locs cells slots Q (F0 m (pc + 3) ls rest)) :
    W p l e R s m args below meth c H locs cells slots Q (F0 m pc ls st0) :=
  z_v hr hP hD hS hA isC isR hC hR hn hdis (fun w H1 locs1 hw hP2 hD2 hS2 => by
    subst hw
    exact kk H1 locs1 (hP2.subm isN hN) (hD2.sub isN hnN hN) hS2)
end ZA
section ZB
variable {p : Program} {l : Launch} {e : Env} {R : Room} {s : State} {m : MethodId} {args : Array Value} {below : List Frame} {meth : Method} {c : Code} {H : Heap} {locs : List Loc} {cells slots : Nat}
variable {y x y0 : MethodName} {bytes b0 cc : ByteArray} {maxL n0 nL n index : Nat} {ret r0 : Option FieldType} {rm : Room} {own C : String}
theorem z_B (n : Nat) (hts : ∀ w ∈ wd y0 b0 n0 r0, w.before args s = true) (hc : Cond.code y bytes maxL ret ∈ GW) (hini : Cond.initialized y.cls ∈ GW) (hl : Cond.methodLink own index y ∈ GW)
    (hd : y.cls ≠ "java/lang/invoke/MethodHandle" ∧ y.cls ≠ "java/lang/invoke/VarHandle" ∧ (parseMethodDescriptor y.desc).map (fun d => d.parameters.length) = some n) (hR : rm.frames + 1 ≤ R.frames ∧ 8 + (maxL + 11) + rm.locals ≤ R.locals) :
    CallB R s args own index y bytes maxL ret (wd y bytes maxL ret) rm rm.cells rm.slots n :=
  callB_of n hts (wd_good hc) rfl rfl rfl (hts _ (List.mem_cons_of_mem _ hini)) (hts _ (List.mem_cons_of_mem _ hl)) hd hR
/-- an own method called on its own class's object -/
theorem z_V (n : Nat) (hts : ∀ w ∈ wd y0 b0 n0 r0, w.before args s = true) (hc : Cond.code y bytes maxL ret ∈ GW) (hini : Cond.initialized y.cls ∈ GW) (hl : Cond.methodLink own index y ∈ GW) (hi : Cond.instanceMethod y ∈ GW) (hs : Cond.selects C y y ∈ GW)
    (hd : y.cls ≠ "java/lang/invoke/MethodHandle" ∧ y.cls ≠ "java/lang/invoke/VarHandle" ∧ (parseMethodDescriptor y.desc).map (fun d => d.parameters.length) = some n) (hR : rm.frames + 1 ≤ R.frames ∧ 8 + (maxL + 11) + rm.locals ≤ R.locals) :
    CallW R s args own C index y bytes maxL ret (wd y bytes maxL ret) rm rm.cells rm.slots n :=
  ⟨z_B n hts hc hini hl hd hR, hts _ (List.mem_cons_of_mem _ hi), hts _ (List.mem_cons_of_mem _ hs)⟩
end ZB
