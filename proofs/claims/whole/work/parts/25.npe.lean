/-! `new NullPointerException("..")` and its throw: the kit's pieces (Throwable(String) by a filler, NullPointerException's own fillInStackTrace) put together -/
section NPA
variable {p : Program} {e : Env} {below : List Frame} {s₀ V : State} {g : JFrame} {c : Code} {self : Addr}
theorem np_rooms (htop : V.topJava?.isSome) (T : ThrowableC) (N : NpeC) (cell x : Cell) {lim : Nat × Nat} (hlim : e.platform.stackLimits V.me = lim) (hframes : V.frames.length + 2 < lim.1) (hwords : (stackUse (.java g :: V.frames.tail)).2 + 43 ≤ lim.2) :
    e.platform.stackFull (((V.setTop g).threads[(V.setTop g).cur]?).getD { frames := [] }) (V.setTop g).frames (1 + 2) = false ∧
    e.platform.stackFull ((((npeInside V g N.toNpeT self cell).setTop (fillJ N.fill self 37 [])).threads[((npeInside V g N.toNpeT self cell).setTop (fillJ N.fill self 37 [])).cur]?).getD { frames := [] }) ((npeInside V g N.toNpeT self cell).setTop (fillJ N.fill self 37 [])).frames (1 + 2) = false ∧
    e.platform.stackFull ((((fillInside (npeInside V g N.toNpeT self cell) (fillJ N.fill self 37 []) T.fill self x).setTop (fillJ T.fill self 16 [])).threads[((fillInside (npeInside V g N.toNpeT self cell) (fillJ N.fill self 37 []) T.fill self x).setTop (fillJ T.fill self 16 [])).cur]?).getD { frames := [] }) ((fillInside (npeInside V g N.toNpeT self cell) (fillJ N.fill self 37 []) T.fill self x).setTop (fillJ T.fill self 16 [])).frames (nativeFrameWords "java/lang/Throwable" "fillInStackTrace" 2) = false := by
  obtain ⟨g₀, hg⟩ := Option.isSome_iff_exists.mp htop
  obtain ⟨tl, htl⟩ := State.topJava?_eq_some.mp hg
  have hlen : V.frames.length = (Frame.java g :: V.frames.tail).length := by rw [htl]; rfl
  have hfg : (V.setTop g).frames = .java g :: V.frames.tail := by rw [State.frames_setTop _ htl, htl]; rfl
  have htE : (V.setCell self (cell.withEntry V.cur)).topJava?.isSome := htop
  have hfN : (npeInside V g N.toNpeT self cell).frames = .java (entryFrameSync N.fill #[.ref self] 1 self) :: .java g :: V.frames.tail := frames_entered (g := g) htE _
  have htN : (npeInside V g N.toNpeT self cell).topJava?.isSome := by rw [State.topJava?_of_frames hfN]; rfl
  have hlN : e.platform.stackLimits (npeInside V g N.toNpeT self cell).me = lim := by
    show e.platform.stackLimits (fillInside V g N.fill self cell).me = lim
    rw [State.stackLimits_pushFrame, State.stackLimits_setTop _ htE]; exact hlim
  have hw14 : (stackUse [Frame.java (fillJ N.fill self 37 [])]).2 = 14 := by
    rw [stackUse_java, stackUse_nil]
    simp [operandWords]
  have htE2 : ((npeInside V g N.toNpeT self cell).setCell self (x.withEntry (npeInside V g N.toNpeT self cell).cur)).topJava?.isSome := htN
  have hfF : (fillInside (npeInside V g N.toNpeT self cell) (fillJ N.fill self 37 []) T.fill self x).frames = .java (entryFrameSync T.fill #[.ref self] 1 self) :: .java (fillJ N.fill self 37 []) :: .java g :: V.frames.tail := by
    rw [show (fillInside (npeInside V g N.toNpeT self cell) (fillJ N.fill self 37 []) T.fill self x).frames = _ from frames_entered (g := fillJ N.fill self 37 []) htE2 _]
    show _ :: _ :: ((npeInside V g N.toNpeT self cell).frames).tail = _
    rw [hfN]; rfl
  have htF : (fillInside (npeInside V g N.toNpeT self cell) (fillJ N.fill self 37 []) T.fill self x).topJava?.isSome := by rw [State.topJava?_of_frames hfF]; rfl
  have hlF : e.platform.stackLimits (fillInside (npeInside V g N.toNpeT self cell) (fillJ N.fill self 37 []) T.fill self x).me = lim := by
    rw [State.stackLimits_pushFrame, State.stackLimits_setTop _ htE2]; exact hlN
  have hw28 : (stackUse [Frame.java (fillJ T.fill self 16 []), Frame.java (fillJ N.fill self 37 [])]).2 = 28 := by
    rw [stackUse_java, hw14]
    simp [operandWords]
  refine ⟨?_, ?_, ?_⟩
  · exact Jvm.roomAbove (pushed := []) (base := .java g :: V.frames.tail) (free := 43) (lim := lim) hfg (by rw [State.stackLimits_setTop _ htop]; exact hlim) (by rw [← hlen]; simp only [List.length_nil]; omega) hwords (by simp only [stackUse_nil]; omega)
  · exact Jvm.roomAbove (pushed := [.java (fillJ N.fill self 37 [])]) (base := .java g :: V.frames.tail) (free := 43) (lim := lim) (State.frames_setTop _ hfN) (by rw [State.stackLimits_setTop _ htN]; exact hlN) (by rw [← hlen]; simp only [List.length_cons, List.length_nil]; omega) hwords (by rw [hw14]; omega)
  · exact Jvm.roomAbove (pushed := [.java (fillJ T.fill self 16 []), .java (fillJ N.fill self 37 [])]) (base := .java g :: V.frames.tail) (free := 43) (lim := lim) (State.frames_setTop _ hfF) (by rw [State.stackLimits_setTop _ htF]; exact hlF) (by rw [← hlen]; simp only [List.length_cons, List.length_nil]; omega) hwords (by rw [hw28]; decide)
theorem np_lc (x : Cell) : x.left.cls = x.cls := by simp only [Cell.left]; split <;> rfl
theorem np_lv (x : Cell) : x.left.vm = x.vm := by simp only [Cell.left]; split <;> rfl
theorem np_ls (x : Cell) : x.left.slots = x.slots := by simp only [Cell.left]; split <;> rfl
/-- the object's cell behind its own fillInStackTrace -/
abbrev np_F (T : ThrowableC) (N : NpeC) (cell : Cell) (t : ThreadId) (u0 : RefV) : Cell := ((((npeCell N.toNpeT cell t).withEntry t).setSlot T.fStack.slot u0.v).left).left
theorem np_fill (hA : At V g.method c below) (hexec : p.tables.exec = Jvm.exec) (htr : e.platform.stackTraces = false) (T : ThrowableC) (L : T.Links e.platform s₀) (N : NpeC) (LN : N.Links T e.platform s₀) (hW : s₀.WarmedH V.vm)
    {u0 : RefV} {cell cellS : Cell} {kcell : Class} {ig : Instr} {len : Nat}
    (hcell : V.heap[self]? = some cell) (hobj : ∀ k, cell.vm ≠ .statics k) (hknown : cell.vm ≠ .unknown) (hfree : cell.monitor.owner = none)
    (hkcell : s₀.vm.classes[cell.cls]? = some kcell) (hsel0 : selectMethod e.platform s₀.vm cell.cls T.fill0 = .method T.fill0)
    (hcellS : V.heap[T.aS]? = some cellS) (hneS : T.aS ≠ self) (hknownS : cellS.vm ≠ .unknown) (hvU : cellS.slots[T.fUnassigned.slot]? = some u0.v)
    (hv0 : cell.slots[N.fState.slot]? = some (.int 0)) (hneSt : T.fStack.slot ≠ N.fState.slot) (hvS : cell.slots[T.fStack.slot]? = some u0.v)
    (htS : Takes s₀ cell T.fStack u0.v) (ht1 : Takes s₀ cell N.fState (.int 1))
    (hskip : SkipFacts T e.platform s₀ (fun u => u) u0 ((npeCell N.toNpeT cell V.cur).withEntry V.cur))
    {lim : Nat × Nat} (hlim : e.platform.stackLimits V.me = lim) (hframes : V.frames.length + 2 < lim.1) (hwords : (stackUse (.java g :: V.frames.tail)).2 + 43 ≤ lim.2)
    (hdg : decode c.code g.pc = .ok (ig, len)) :
    ∃ vm', s₀.WarmedH vm' ∧ ∀ target, Steps p.tables e below (((V.setVm vm').setCell self (np_F T N cell V.cur u0)).setTop { g with pc := g.pc + len, stack := .ref self :: g.stack }) target →
      Steps p.tables e below (doInvoke e (V.setTop g) [] N.fill #[.ref self]).1 target := by
  have hlt : self < V.heap.size := (Array.getElem?_eq_some_iff.mp hcell).1
  have hheld : ((npeCell N.toNpeT cell V.cur).withEntry V.cur).left = npeCell N.toNpeT cell V.cur := Cell.left_withEntry_held _ rfl (by show 0 < cell.monitor.count + 1; omega)
  have hFmon : (((npeCell N.toNpeT cell V.cur).withEntry V.cur).setSlot T.fStack.slot u0.v).left.monitor = (npeCell N.toNpeT cell V.cur).monitor := by
    exact (Cell.left_monitor_congr (x := ((npeCell N.toNpeT cell V.cur).withEntry V.cur).setSlot T.fStack.slot u0.v) (y := (npeCell N.toNpeT cell V.cur).withEntry V.cur) rfl).trans (by rw [hheld])
  obtain ⟨vm', hW', st⟩ := Steps.npeFillColdBy p (V := V) (g := g) (c := c) (self := self) hA hexec T L N LN hW (Fi := fun u => u.setCell self (((npeCell N.toNpeT cell V.cur).withEntry V.cur).setSlot T.fStack.slot u0.v).left) (heapOnly_id.thenSetCell self _) (fun _ => rfl)
    (fun u x y => by simp only [setCell_twice]) (cell := cell) (cFi := (((npeCell N.toNpeT cell V.cur).withEntry V.cur).setSlot T.fStack.slot u0.v).left) (kcell := kcell) (ig := ig) (len := len) []
    hcell hobj hknown hfree hkcell hv0 ht1 (fun u hu => heapAt_setCell_self _ (Array.getElem?_eq_some_iff.mp hu).1) hFmon hdg (fun vm1 hW1 hB => by
      have hX : (npeInside (V.setVm vm1) g N.toNpeT self cell).heap[self]? = some (npeCell N.toNpeT cell V.cur) := heapAt_setCell_self _ (by show self < (V.heap.setIfInBounds self _).size; simpa using hlt)
      have hXS : (npeInside (V.setVm vm1) g N.toNpeT self cell).heap[T.aS]? = some cellS := by
        show ((V.heap.setIfInBounds self _).setIfInBounds self _)[T.aS]? = _
        simp [Ne.symm hneS, hcellS]
      have hXv : (npeCell N.toNpeT cell V.cur).slots[T.fStack.slot]? = some u0.v := by
        simp [npeCell, Cell.setSlot, Cell.withEntry, Ne.symm hneSt, hvS]
      obtain ⟨vm2, hW2, st⟩ := Steps.fillColdAnyV p (V := npeInside (V.setVm vm1) g N.toNpeT self cell) (g := fillJ N.fill self 37 []) (c := N.codeFill) (self := self) hB hexec T L (show s₀.WarmedH (npeInside (V.setVm vm1) g N.toNpeT self cell).vm from hW1) heapOnly_id (fun _ _ => rfl) (fun _ => rfl) (fun u x y => setCell_twice _ _ _ _)
        (cell := npeCell N.toNpeT cell V.cur) (cellS := cellS) (cN := (npeCell N.toNpeT cell V.cur).withEntry V.cur) (u0 := u0) (ig := .invokespecial 24) (len := 3) [] hX hobj hknown (Or.inr rfl) hXv hsel0 hXS hneS hknownS hvU (fun _ hu => hu) (fun _ hu => hu) rfl rfl rfl (by simp [npeCell, Cell.setSlot, Cell.withEntry])
        ⟨by simpa [npeCell, Cell.setSlot, Cell.withEntry] using htS.1, htS.2⟩ (by rw [LN.fillBytes]; exact LibCode.NullPointerException.Fill.at_37)
        (fun _ vm3 hW3 hAt t' hs => L.nativeOff p htr hAt hW3 (np_rooms (V := (V.setVm vm1).setVm vm3) (e := e) (g := g) (self := self) hA.top T N cell (npeCell N.toNpeT cell V.cur) hlim hframes hwords).2.2 hs)
        (np_rooms (V := V.setVm vm1) (e := e) (g := g) (self := self) hA.top T N cell (npeCell N.toNpeT cell V.cur) hlim hframes hwords).2.1 hskip
      exact ⟨vm2, hW2, fun t' hs => st t' hs⟩)
    (np_rooms (V := V) (e := e) (g := g) (self := self) hA.top T N cell cell hlim hframes hwords).1
  refine ⟨vm', hW', fun target hrest => st target ?_⟩
  show Steps p.tables e below ((((V.setVm vm').setCell self _).setCell self _).setTop _) target
  rw [setCell_twice]
  exact hrest
theorem np_initS (h : At V g.method c below) (hexec : p.tables.exec = Jvm.exec) (htr : e.platform.stackTraces = false) (T : ThrowableC) (L : T.Links e.platform s₀) (Z : Init0T) (LZ : Z.LaidS T.toThrowableT) (M : MsgC) (LM : M.Links T e.platform s₀) (N : NpeC) (LN : N.Links T e.platform s₀) (hW : s₀.WarmedH V.vm) {t : ThreadId} (ht : V.cur = t)
    {u0 sen : RefV} {msg : Value} (hmsg : msg.isRef = true) {cell cellS : Cell} {kcell : Class} {ig : Instr} {len : Nat} (acts : List Action)
    (hcell : V.heap[self]? = some cell) (hobj : ∀ k, cell.vm ≠ .statics k) (hknown : cell.vm ≠ .unknown) (hfree : cell.monitor.owner = none)
    (hkcell : s₀.vm.classes[cell.cls]? = some kcell) (hsel0 : selectMethod e.platform s₀.vm cell.cls T.fill0 = .method T.fill0) (hselF : selectMethod e.platform s₀.vm cell.cls T.fill = .method N.fill)
    (hcellS : V.heap[T.aS]? = some cellS) (hneS : T.aS ≠ self) (hknownS : cellS.vm ≠ .unknown) (hvU : cellS.slots[T.fUnassigned.slot]? = some u0.v) (hvSen : cellS.slots[T.fSentinel.slot]? = some sen.v)
    (hv0 : cell.slots[N.fState.slot]? = some (.int 0)) (hneC : T.fCause.slot ≠ N.fState.slot) (hneSt : T.fStack.slot ≠ N.fState.slot) (hneP : T.fSupp.slot ≠ N.fState.slot)
    (htC : Takes s₀ cell T.fCause (.ref self)) (htS : Takes s₀ cell T.fStack u0.v) (htP : Takes s₀ cell T.fSupp sen.v) (ht1 : Takes s₀ cell N.fState (.int 1)) (htM : Takes s₀ cell T.fMsg msg) (hobjLocals : T.codeObj.maxLocals = 1)
    (hskip : SkipFacts T e.platform s₀ (fun u => u) u0 ((npeCell N.toNpeT (preparedCellV T.toThrowableT cell self u0 sen) t).withEntry t))
    {lim : Nat × Nat} (hlim : e.platform.stackLimits V.me = lim) (hframes : V.frames.length + 3 < lim.1) (hwords : (stackUse (.java g :: V.frames.tail)).2 + 56 ≤ lim.2)
    (hdg : decode c.code g.pc = .ok (ig, len)) :
    ∃ vm', s₀.WarmedH vm' ∧ ∀ target, Steps p.tables e below (((V.setVm vm').setCell self ((np_F T N (preparedCellV T.toThrowableT cell self u0 sen) t u0).setSlot T.fMsg.slot msg)).setTop { g with pc := g.pc + len }) target →
      Steps p.tables e below (doInvoke e (V.setTop g) acts (Z.m T.toThrowableT) #[.ref self, msg]).1 target := by
  subst ht
  obtain ⟨g₀, hg⟩ := Option.isSome_iff_exists.mp h.top
  obtain ⟨tl, htl⟩ := State.topJava?_eq_some.mp hg
  have hlt : self < V.heap.size := (Array.getElem?_eq_some_iff.mp hcell).1
  have hlen : V.frames.length = (Frame.java g :: V.frames.tail).length := by rw [htl]; rfl
  have hfg : (V.setTop g).frames = .java g :: V.frames.tail := by rw [State.frames_setTop _ htl, htl]; rfl
  have hlimg : e.platform.stackLimits (V.setTop g).me = lim := by rw [State.stackLimits_setTop _ h.top]; exact hlim
  have hfU : ∀ vm1, (initSInside (V.setVm vm1) g T.toThrowableT Z self msg).frames = .java (initSJ T.toThrowableT Z self msg 0 []) :: .java g :: V.frames.tail := fun vm1 => frames_entered (show (V.setVm vm1).topJava?.isSome from h.top) _
  have hlU : ∀ vm1, e.platform.stackLimits (initSInside (V.setVm vm1) g T.toThrowableT Z self msg).me = lim := fun vm1 => by rw [State.stackLimits_pushFrame]; exact hlimg
  have hfU0 : (initSInside V g T.toThrowableT Z self msg).frames = .java (initSJ T.toThrowableT Z self msg 0 []) :: .java g :: V.frames.tail := frames_entered h.top _
  have htU0 : (initSInside V g T.toThrowableT Z self msg).topJava?.isSome := by rw [State.topJava?_of_frames hfU0]; rfl
  have hlU0 : e.platform.stackLimits (initSInside V g T.toThrowableT Z self msg).me = lim := by rw [State.stackLimits_pushFrame]; exact hlimg
  have hw13 : ∀ pc, (stackUse [Frame.java (initSJ T.toThrowableT Z self msg pc [])]).2 = 13 := by
    intro pc
    rw [stackUse_java, stackUse_nil]
    simp [operandWords]
  have tk : ∀ {f : Field} {v : Value}, Takes s₀ cell f v → Takes s₀ (preparedCellV T.toThrowableT cell self u0 sen) f v := fun h' => ⟨by simpa [preparedCellV, Cell.setSlot] using h'.1, h'.2⟩
  have hv0P : (preparedCellV T.toThrowableT cell self u0 sen).slots[N.fState.slot]? = some (.int 0) := by
    simp [preparedCellV, Cell.setSlot, hneC, hneSt, hneP, hv0]
  have hvSP : (preparedCellV T.toThrowableT cell self u0 sen).slots[T.fStack.slot]? = some u0.v := by
    have h1 : T.fStack.slot < cell.slots.size := htS.1
    simp [preparedCellV, Cell.setSlot, Ne.symm L.stackApartSupp, h1]
  have hsz : (np_F T N (preparedCellV T.toThrowableT cell self u0 sen) V.cur u0).slots.size = cell.slots.size := by
    rw [np_ls, np_ls]
    simp [npeCell, preparedCellV, Cell.setSlot, Cell.withEntry]
  obtain ⟨vm', hW', st⟩ := Steps.throwableInitSColdByV p h hexec T L Z LZ M LM hW (F := fun u => u.setCell self (np_F T N (preparedCellV T.toThrowableT cell self u0 sen) V.cur u0)) (heapOnly_id.thenSetCell self _) (fun _ _ => rfl) hmsg
    (cF := np_F T N (preparedCellV T.toThrowableT cell self u0 sen) V.cur u0) (u0 := u0) (sen := sen) (self := self) hcell hknown (fun u hu => heapAt_setCell_self _ (Array.getElem?_eq_some_iff.mp hu).1) (by rw [np_lc, np_lc]; rfl) (by rw [np_lv, np_lv]; rfl) hsz htM hdg
    (mSel := N.fill) (methSel := N.methFill) (kSel := N.kN) hobj hselF LN.method LN.fillAbstract LN.cls LN.notInterface
    (fun vm1 hW1 hA => by
      obtain ⟨vm2, hW2, st⟩ := np_fill (p := p) (e := e) (V := (initSInside (V.setVm vm1) g T.toThrowableT Z self msg).setCell self (preparedCellV T.toThrowableT cell self u0 sen)) (g := initSJ T.toThrowableT Z self msg 24 []) (c := Z.code) (self := self) hA hexec htr T L N LN (show s₀.WarmedH vm1 from hW1)
        (u0 := u0) (cell := preparedCellV T.toThrowableT cell self u0 sen) (cellS := cellS) (kcell := kcell) (ig := .invokevirtual 27) (len := 3) (heapAt_setCell_self (s := initSInside (V.setVm vm1) g T.toThrowableT Z self msg) _ hlt) hobj hknown hfree hkcell hsel0
        (by rw [heapAt_setCell_ne _ (Ne.symm hneS)]; exact hcellS) hneS hknownS hvU hv0P hneSt hvSP (tk htS) (tk ht1) hskip (lim := lim) (hlU vm1)
        (by show (initSInside (V.setVm vm1) g T.toThrowableT Z self msg).frames.length + 2 < lim.1; rw [hfU vm1]; simp only [List.length_cons] at hlen ⊢; omega)
        (by show (stackUse (.java (initSJ T.toThrowableT Z self msg 24 []) :: (initSInside (V.setVm vm1) g T.toThrowableT Z self msg).frames.tail)).2 + 43 ≤ lim.2
            rw [hfU vm1, List.tail_cons, stackUse_java]
            show (stackUse (Frame.java g :: V.frames.tail)).2 + (2 + 11 + 2 * 0 + operandWords []) + 43 ≤ lim.2
            simp only [operandWords, List.foldl_nil]
            omega)
        (by rw [LZ.bytes]; exact LibCode.Throwable.InitS.at_24)
      exact ⟨vm2, hW2, fun t' hs => st t' hs⟩)
    acts hcellS hneS hknownS hvU hvSen htC htS htP
    (Jvm.roomAbove (pushed := []) (base := .java g :: V.frames.tail) (free := 56) (lim := lim) hfg hlimg (by rw [← hlen]; simp only [List.length_nil]; omega) hwords (by simp only [stackUse_nil]; omega))
    (Jvm.roomAbove (pushed := [.java (initSJ T.toThrowableT Z self msg 1 [])]) (base := .java g :: V.frames.tail) (free := 56) (lim := lim) (State.frames_setTop _ hfU0) (by rw [State.stackLimits_setTop _ htU0]; exact hlU0)
      (by rw [← hlen]; simp only [List.length_cons, List.length_nil]; omega) hwords (by rw [hw13, hobjLocals]; omega))
  refine ⟨vm', hW', fun target hrest => st target ?_⟩
  show Steps p.tables e below (((((V.setVm vm').setCell self _).setCell self _).setCell self _).setTop _) target
  rw [setCell_twice, setCell_twice]
  exact hrest
theorem np_chain (h : At V g.method c below) (hexec : p.tables.exec = Jvm.exec) (htr : e.platform.stackTraces = false) (T : ThrowableC) (L : T.Links e.platform s₀) (Z : Init0T) (LZ : Z.LaidS T.toThrowableT) (M : MsgC) (LM : M.Links T e.platform s₀) (N : NpeC) (LN : N.Links T e.platform s₀) (hW : s₀.WarmedH V.vm) {t : ThreadId} (ht : V.cur = t)
    {u0 sen : RefV} {msg : Value} (hmsg : msg.isRef = true) {cell cellS : Cell} {kcell : Class} {ig : Instr} {len : Nat} (acts : List Action)
    (hcell : V.heap[self]? = some cell) (hobj : ∀ k, cell.vm ≠ .statics k) (hknown : cell.vm ≠ .unknown) (hfree : cell.monitor.owner = none)
    (hkcell : s₀.vm.classes[cell.cls]? = some kcell) (hsel0 : selectMethod e.platform s₀.vm cell.cls T.fill0 = .method T.fill0) (hselF : selectMethod e.platform s₀.vm cell.cls T.fill = .method N.fill)
    (hcellS : V.heap[T.aS]? = some cellS) (hneS : T.aS ≠ self) (hknownS : cellS.vm ≠ .unknown) (hvU : cellS.slots[T.fUnassigned.slot]? = some u0.v) (hvSen : cellS.slots[T.fSentinel.slot]? = some sen.v)
    (hv0 : cell.slots[N.fState.slot]? = some (.int 0)) (hneC : T.fCause.slot ≠ N.fState.slot) (hneSt : T.fStack.slot ≠ N.fState.slot) (hneP : T.fSupp.slot ≠ N.fState.slot)
    (htC : Takes s₀ cell T.fCause (.ref self)) (htS : Takes s₀ cell T.fStack u0.v) (htP : Takes s₀ cell T.fSupp sen.v) (ht1 : Takes s₀ cell N.fState (.int 1)) (htM : Takes s₀ cell T.fMsg msg) (hobjLocals : T.codeObj.maxLocals = 1)
    (hskip : SkipFacts T e.platform s₀ (fun u => u) u0 ((npeCell N.toNpeT (preparedCellV T.toThrowableT cell self u0 sen) t).withEntry t))
    (Ps : List PassC) (hL : ∀ P, P ∈ Ps → P.LinksS e.platform s₀) (hlink : PassesOn (Z.m T.toThrowableT) (Ps.map (·.toPassT)))
    {lim : Nat × Nat} (hlim : e.platform.stackLimits V.me = lim) (hframes : V.frames.length + Ps.length + 3 < lim.1) (hwords : (stackUse (.java g :: V.frames.tail)).2 + 13 * Ps.length + 56 ≤ lim.2)
    (hdg : decode c.code g.pc = .ok (ig, len)) :
    ∃ vm', s₀.WarmedH vm' ∧ ∀ target, Steps p.tables e below (((V.setVm vm').setCell self ((np_F T N (preparedCellV T.toThrowableT cell self u0 sen) t u0).setSlot T.fMsg.slot msg)).setTop { g with pc := g.pc + len }) target →
      Steps p.tables e below (doInvoke e (V.setTop g) acts (firstOf (Z.m T.toThrowableT) (Ps.map (·.toPassT))) #[.ref self, msg]).1 target := by
  obtain ⟨f1, -, -, f4, f5, f6⟩ := chainEnd_facts e.platform self msg (Ps.map (·.toPassT)) V g h.top
  have fc := chainEnd_cur self msg (Ps.map (·.toPassT)) V g
  rw [List.length_map] at f5 f6
  refine Steps.initChainSCold hexec (H := fun u => u.setCell self ((np_F T N (preparedCellV T.toThrowableT cell self u0 sen) t u0).setSlot T.fMsg.slot msg)) (heapOnly_id.thenSetCell self _) (Z.m T.toThrowableT) hmsg lim Ps V g c ig len acts h hW hL hlink hdg hlim (by omega) (by omega) (fun vm1 hW1 c' ig' len' hA' hdg' => ?_)
  simp only [chainEnd_setVm] at hA' hdg' ⊢
  generalize chainEnd self msg V g (Ps.map (·.toPassT)) = E at f1 f4 f5 f6 fc hA' hdg' ⊢
  obtain ⟨vm2, hW2, st⟩ := np_initS (p := p) (e := e) (V := E.1.setVm vm1) (g := E.2) (self := self) hA' hexec htr T L Z LZ M LM N LN hW1 (t := t) (fc.trans ht) hmsg []
    (by show E.1.heap[self]? = _; rw [f1]; exact hcell) hobj hknown hfree hkcell hsel0 hselF (by show E.1.heap[T.aS]? = _; rw [f1]; exact hcellS) hneS hknownS hvU hvSen hv0 hneC hneSt hneP htC htS htP ht1 htM hobjLocals hskip
    (lim := lim) (by show e.platform.stackLimits E.1.me = lim; rw [f4]; exact hlim) (by show E.1.frames.length + 3 < lim.1; rw [f5]; omega)
    (by show (stackUse (.java E.2 :: E.1.frames.tail)).2 + 56 ≤ lim.2; rw [f6]; omega) hdg'
  exact ⟨vm2, hW2, fun t' hs => st t' (by rw [State.setVm_twice]; exact hs)⟩
end NPA
section NPB
variable {p : Program} {l : Launch} {e : Env} {R : Room} {s : State} {m₀ : MethodId} {args : Array Value} {below : List Frame} {meth : Method} {c : Code} {T' W : State} {locs : List Loc} {cells slots : Nat}
theorem np_ctor (X : Stand p l e R s m₀ args below meth c T' locs cells slots) (hexec : p.tables.exec = Jvm.exec) (htr : e.platform.stackTraces = false) {g : JFrame} (hg : g.method = m₀) (hsize : g.locals.size = c.maxLocals)
    (T : ThrowableC) (L : T.Links e.platform s) (Z : Init0T) (LZ : Z.LaidS T.toThrowableT) (M : MsgC) (LM : M.Links T e.platform s) (N : NpeC) (LN : N.Links T e.platform s)
    (Ps : List PassC) (hL : ∀ P, P ∈ Ps → P.LinksS e.platform s) (hlink : PassesOn (Z.m T.toThrowableT) (Ps.map (·.toPassT)))
    {u0 sen : RefV} {self : Addr} {msg : Value} (hmsg : msg.isRef = true) {cell cellS : Cell} {kcell : Class}
    (hcell : T'.heap[self]? = some cell) (hobj : ∀ k, cell.vm ≠ .statics k) (hknown : cell.vm ≠ .unknown) (hfree : cell.monitor.owner = none) (hcount : cell.monitor.count = 0)
    (hkcell : s.vm.classes[cell.cls]? = some kcell) (hsel0 : selectMethod e.platform s.vm cell.cls T.fill0 = .method T.fill0) (hselF : selectMethod e.platform s.vm cell.cls T.fill = .method N.fill)
    (hcellS : T'.heap[T.aS]? = some cellS) (hneS : T.aS ≠ self) (hknownS : cellS.vm ≠ .unknown) (hvU : cellS.slots[T.fUnassigned.slot]? = some u0.v) (hvSen : cellS.slots[T.fSentinel.slot]? = some sen.v)
    (hv0 : cell.slots[N.fState.slot]? = some (.int 0)) (hneC : T.fCause.slot ≠ N.fState.slot) (hneSt : T.fStack.slot ≠ N.fState.slot) (hneP : T.fSupp.slot ≠ N.fState.slot)
    (htC : Takes s cell T.fCause (.ref self)) (htS : Takes s cell T.fStack u0.v) (htP : Takes s cell T.fSupp sen.v) (ht1 : Takes s cell N.fState (.int 1)) (htM : Takes s cell T.fMsg msg) (hobjLocals : T.codeObj.maxLocals = 1)
    (hskip : SkipFacts T e.platform s (fun u => u) u0 ((npeCell N.toNpeT (preparedCellV T.toThrowableT cell self u0 sen) T'.cur).withEntry T'.cur))
    {ig : Instr} {len : Nat} (acts : List Action) (hdg : decode c.code g.pc = .ok (ig, len))
    (hRframes : Ps.length + 3 < R.frames) (hRlocals : 2 * g.monitorRoom + (g.stack.map fun v => v.category).sum + (13 * Ps.length + 56) ≤ R.locals) :
    ∃ vm', Stand p l e R s m₀ args below meth c ((T'.setVm vm').setCell self ((npeBareV T.toThrowableT N.toNpeT cell self u0 sen).setSlot T.fMsg.slot msg)) (locs ++ [⟨self, T.fCause.slot⟩, ⟨self, T.fStack.slot⟩, ⟨self, T.fSupp.slot⟩, ⟨self, N.fState.slot⟩, ⟨self, T.fStack.slot⟩, ⟨self, T.fMsg.slot⟩]) cells slots ∧
      ∀ target, Steps p.tables e below (((T'.setVm vm').setCell self ((npeBareV T.toThrowableT N.toNpeT cell self u0 sen).setSlot T.fMsg.slot msg)).setTop { g with pc := g.pc + len }) target →
        Steps p.tables e below (doInvoke e (T'.setTop g) acts (firstOf (Z.m T.toThrowableT) (Ps.map (·.toPassT))) #[.ref self, msg]).1 target := by
  have h : At T' g.method c below := by rw [hg]; exact X.here
  have hfr' : T'.frames.length + Ps.length + 3 < (e.platform.stackLimits T'.me).1 := by have := X.framesAbove hRframes; omega
  have hwd' : (stackUse (.java g :: T'.frames.tail)).2 + 13 * Ps.length + 56 ≤ (e.platform.stackLimits T'.me).2 := by have := X.stackAbove hsize (K := 13 * Ps.length + 56) hRlocals; omega
  obtain ⟨vm', hW', st⟩ := np_chain (p := p) (e := e) (s₀ := s) (V := T') (g := g) (self := self) h hexec htr T L Z LZ M LM N LN X.warmed (t := T'.cur) rfl hmsg acts hcell hobj hknown hfree hkcell hsel0 hselF hcellS hneS hknownS hvU hvSen hv0 hneC hneSt hneP htC htS htP ht1 htM hobjLocals hskip Ps hL hlink rfl hfr' hwd' hdg
  have hF : np_F T N (preparedCellV T.toThrowableT cell self u0 sen) T'.cur u0 = npeBareV T.toThrowableT N.toNpeT cell self u0 sen := npeBareV_eq T.toThrowableT N.toNpeT self u0 sen T'.cur hfree hcount
  rw [hF] at st
  have X2 := X.noted hW'
  have ha : self < (T'.setVm vm').heap.size := (Array.getElem?_eq_some_iff.mp hcell).1
  have X3 := (((((X2.stored (a := self) hcell T.fCause.slot (.ref self)).storedAgain ha T.fStack.slot u0.v).storedAgain ha T.fSupp.slot sen.v).storedAgain ha N.fState.slot (.int 1)).storedAgain ha T.fStack.slot u0.v).storedAgain ha T.fMsg.slot msg
  refine ⟨vm', ?_, st⟩
  simpa only [List.append_assoc, List.cons_append, List.nil_append] using X3
def np_at (own : String) (ic : Nat) : List Cond := Bundle.throwableAtoms ++ Bundle.throwableSAtoms ++ Bundle.chainSAtoms Bundle.nN [Bundle.rN, Bundle.eN] ++ Bundle.npeAtoms ++
  [.methodLink own ic (Bundle.initS Bundle.nN), .instantiable Bundle.nN 8, .selects Bundle.nN Bundle.tFill0 Bundle.tFill0, .selects Bundle.nN Bundle.tFill Bundle.nFill,
   .lays Bundle.nN Bundle.tN "cause" "Ljava/lang/Throwable;", .lays Bundle.nN Bundle.tN "stackTrace" Bundle.steD, .lays Bundle.nN Bundle.tN "suppressedExceptions" Bundle.listD, .lays Bundle.nN Bundle.tN "detailMessage" "Ljava/lang/String;",
   .isRef (.static Bundle.tN "UNASSIGNED_STACK" Bundle.steD), .isRef (.static Bundle.tN "SUPPRESSED_SENTINEL" Bundle.listD),
   .fieldLink Bundle.tN 198 Bundle.tN "backtrace" "Ljava/lang/Object;", .lays Bundle.tN Bundle.tN "backtrace" "Ljava/lang/Object;", .lays Bundle.nN Bundle.tN "backtrace" "Ljava/lang/Object;"]
theorem np_inl {own : String} {ic : Nat} {x : Cond} (h : x ∈ Bundle.throwableAtoms ∨ x ∈ Bundle.throwableSAtoms ∨ x ∈ Bundle.chainSAtoms Bundle.nN [Bundle.rN, Bundle.eN] ∨ x ∈ Bundle.npeAtoms) : x ∈ np_at own ic := by
  unfold np_at
  simp only [List.mem_append]
  rcases h with h | h | h | h
  · exact Or.inl (Or.inl (Or.inl (Or.inl h)))
  · exact Or.inl (Or.inl (Or.inl (Or.inr h)))
  · exact Or.inl (Or.inl (Or.inr h))
  · exact Or.inl (Or.inr h)
theorem np_inr {own : String} {ic : Nat} {x : Cond} {i : Nat} (h : ([.methodLink own ic (Bundle.initS Bundle.nN), .instantiable Bundle.nN 8, .selects Bundle.nN Bundle.tFill0 Bundle.tFill0, .selects Bundle.nN Bundle.tFill Bundle.nFill,
   .lays Bundle.nN Bundle.tN "cause" "Ljava/lang/Throwable;", .lays Bundle.nN Bundle.tN "stackTrace" Bundle.steD, .lays Bundle.nN Bundle.tN "suppressedExceptions" Bundle.listD, .lays Bundle.nN Bundle.tN "detailMessage" "Ljava/lang/String;",
   .isRef (.static Bundle.tN "UNASSIGNED_STACK" Bundle.steD), .isRef (.static Bundle.tN "SUPPRESSED_SENTINEL" Bundle.listD),
   .fieldLink Bundle.tN 198 Bundle.tN "backtrace" "Ljava/lang/Object;", .lays Bundle.tN Bundle.tN "backtrace" "Ljava/lang/Object;", .lays Bundle.nN Bundle.tN "backtrace" "Ljava/lang/Object;"] : List Cond)[i]? = some x) : x ∈ np_at own ic := List.mem_append_right _ (List.mem_of_getElem? h)
set_option maxHeartbeats 2000000 in
theorem np_throw (X : Stand p l e R s m₀ args below meth c W locs cells slots) (hexec : p.tables.exec = Jvm.exec) (htr : e.platform.stackTraces = false) {own : String} {ic : Nat}
    (hown : s.vm.findClass own = some m₀.cls) (h : ∀ a ∈ np_at own ic, a.before args s = true)
    (hlocs : ∀ x ∈ locs, ∀ cell, s.heap[x.base]? = some cell → cell.vm.isStatics = false)
    {a : Addr} {cX : ClassId} {kX : Class} (hfoundX : s.vm.findClass Bundle.nN = some cX) (hkX : s.vm.classes[cX]? = some kX) (hcell : W.heap[a]? = some (freshCell cX kX)) (hnew : s.heap.size ≤ a)
    {msg : Value} (hmsg : msg.isRef = true)
    {g : JFrame} (hg : g.method = m₀) (hsize : g.locals.size = c.maxLocals) (hlocked : g.locked = none) (hentered : g.entered = []) {rest : List Value} (hstack : g.stack = msg :: .ref a :: .ref a :: rest)
    (hd6 : decode c.code g.pc = .ok (.invokespecial ic, 3)) (hd9 : decode c.code (g.pc + 3) = .ok (.athrow, 1)) (hout : ∀ x ∈ c.exceptionTable.toList, covers x (g.pc + 3) = false)
    (hRframes : 6 < R.frames) (hRlocals : 2 * g.monitorRoom + ((Value.ref a :: rest).map fun v => v.category).sum + 95 ≤ R.locals) (hlocks : meth.locks = false) :
    ∃ U : State, Steps p.tables e below (W.setTop g) U ∧ U.status = .running ∧ Ended U below (.threw a) ∧ s.WarmedH U.vm ∧ s.sameButNew ({ U with vm := s.vm } : State) locs cells slots ∧
      ∃ ce, U.heap[a]? = some ce ∧ ce.vm = .none ∧ s.vm.findClass Bundle.nN = some ce.cls := by
  have howns : e.platform.frameOwnsMonitors = true := by rw [X.admits.platform]
  have hfin : e.platform.finalization = false := by rw [X.admits.platform]
  have hpl : e.platform.magicAccessors = ({} : Platform).magicAccessors := by rw [X.admits.platform]
  have hpl2 : e.platform.arrayCloneIsPublic = true := by rw [X.admits.platform]
  have a' : ∀ x, x ∈ np_at own ic → x.holds args s none s [] = true := fun x hx => h x hx
  obtain ⟨T, Z0, L, -, Y⟩ := ThrowableC.of_atoms (args := args) howns hfin hpl (fun x hx => h x (np_inl (Or.inl hx)))
  obtain ⟨Z, M, LZ, LM, hnZ⟩ := Init0T.ofS_atoms (args := args) hpl L Y (fun x hx => h x (np_inl (Or.inr (Or.inl hx))))
  obtain ⟨N, LN, hcN, hnNF, hordN, hffS⟩ := NpeC.of_atoms (args := args) hpl hpl2 L Y (fun x hx => h x (np_inl (Or.inr (Or.inr (Or.inr hx)))))
  obtain ⟨P1, Ps, hlen, L1, hL, hP1m, hlink1, hlink⟩ := Bundle.chainS (args := args) hpl hnZ [Bundle.rN, Bundle.eN] Bundle.nN (by decide +kernel) (by decide +kernel) (fun x hx => h x (np_inl (Or.inr (Or.inr (Or.inl hx)))))
  have hlen : Ps.length = 2 := hlen
  have hfound : s.vm.findClass Bundle.nN = some P1.m.cls := findClass_of_methodNamed hP1m
  cases Option.some.inj (hfoundX.symm.trans hfound)
  obtain ⟨c1, kX', hc1, hk, hord, -, -, hn8⟩ := Cond.instantiable_spec (a' (.instantiable Bundle.nN 8) (np_inr (i := 1) rfl))
  cases Option.some.inj (hc1.symm.trans hfound)
  cases Option.some.inj (hkX.symm.trans hk)
  have ecls : N.cN = P1.m.cls := Option.some.inj (hcN.symm.trans hfound)
  have hkN : N.kN = kX := Option.some.inj (LN.cls.symm.trans (by rw [ecls]; exact hkX))
  have hsel0 : selectMethod e.platform s.vm P1.m.cls T.fill0 = .method T.fill0 := by
    obtain ⟨c2, r2, m2, q1, q2, q3, q4, -⟩ := Cond.selects_spec (a' (.selects Bundle.nN Bundle.tFill0 Bundle.tFill0) (np_inr (i := 2) rfl))
    cases Option.some.inj (q1.symm.trans hfound)
    cases Option.some.inj (q2.symm.trans (State.methodFound?_of_named Y.fill0 (by decide)))
    cases Option.some.inj (q3.symm.trans Y.fill0)
    rw [Launch.admits_selectMethod X.admits]; exact q4
  have hselF : selectMethod e.platform s.vm P1.m.cls T.fill = .method N.fill := by
    obtain ⟨c2, r2, m2, q1, q2, q3, q4, -⟩ := Cond.selects_spec (a' (.selects Bundle.nN Bundle.tFill Bundle.nFill) (np_inr (i := 3) rfl))
    cases Option.some.inj (q1.symm.trans hfound)
    cases Option.some.inj (q2.symm.trans (State.methodFound?_of_named Y.fill (by decide)))
    cases Option.some.inj (q3.symm.trans hnNF)
    rw [Launch.admits_selectMethod X.admits]; exact q4
  obtain ⟨cellS0, hcS0, hiss⟩ := Y.statics
  obtain ⟨u0, hu0⟩ := Cond.staticRefV Y.unassigned L.unassignedStatic L.statics hcS0 hiss (a' (.isRef (.static Bundle.tN "UNASSIGNED_STACK" Bundle.steD)) (np_inr (i := 8) rfl))
  obtain ⟨sen, hsen⟩ := Cond.staticRefV Y.sentinel L.sentinelStatic L.statics hcS0 hiss (a' (.isRef (.static Bundle.tN "SUPPRESSED_SENTINEL" Bundle.listD)) (np_inr (i := 9) rfl))
  obtain ⟨ci198, i198, fB, hk198, hg198, ha198, hsB, -, hnB, htB, hffB⟩ := Cond.ownField (t := .object "java/lang/Object") Y.found L.cls (by decide +kernel) (a' (.fieldLink Bundle.tN 198 Bundle.tN "backtrace" "Ljava/lang/Object;") (np_inr (i := 10) rfl)) (a' (.lays Bundle.tN Bundle.tN "backtrace" "Ljava/lang/Object;") (np_inr (i := 11) rfl)) e.platform hpl
  obtain ⟨cellS, hcS', heS, -, hkeep⟩ := X.same.2.2.2.2.2 T.aS cellS0 hcS0
  have hcellS : W.heap[T.aS]? = some cellS := hcS'
  have hout' : ∀ i, (⟨T.aS, i⟩ : Loc) ∉ locs := fun i hmem => by
    have := hlocs _ hmem cellS0 hcS0
    rw [hiss] at this; cases this
  have hknownS : cellS.vm ≠ .unknown := by
    rw [heS]; intro hu
    rw [show cellS0.vm = .unknown from hu] at hiss
    cases hiss
  have hneS : T.aS ≠ a := Nat.ne_of_lt (Nat.lt_of_lt_of_le (Array.getElem?_eq_some_iff.mp hcS0).1 hnew)
  obtain ⟨iM, hffM⟩ := Y.msg
  obtain ⟨tyC, dC, hdC, hdnC⟩ := Cond.laysAt hfound hk Y.cause (a' (.lays Bundle.nN Bundle.tN "cause" "Ljava/lang/Throwable;") (np_inr (i := 4) rfl))
  obtain ⟨tyS, dS, hdS, hdnS⟩ := Cond.laysAt hfound hk Y.stack (a' (.lays Bundle.nN Bundle.tN "stackTrace" Bundle.steD) (np_inr (i := 5) rfl))
  obtain ⟨tyP, dP, hdP, hdnP⟩ := Cond.laysAt hfound hk Y.supp (a' (.lays Bundle.nN Bundle.tN "suppressedExceptions" Bundle.listD) (np_inr (i := 6) rfl))
  obtain ⟨tyM, dM, hdM, hdnM⟩ := Cond.laysAt hfound hk hffM (a' (.lays Bundle.nN Bundle.tN "detailMessage" "Ljava/lang/String;") (np_inr (i := 7) rfl))
  obtain ⟨tyX, dX, hdX, hdnX⟩ := Cond.laysAt hfound hk hffS (a' (.lays Bundle.nN Bundle.nN "extendedMessageState" "I") (np_inl (Or.inr (Or.inr (Or.inr (by simp [Bundle.npeAtoms]))))))
  have hnX : N.fState.name = "extendedMessageState" := (State.fieldFound?_type hffS (t := .int) (by decide +kernel)).1
  obtain ⟨tyB, dB, hdB, hdnB⟩ := Cond.laysAt hfound hk hffB (a' (.lays Bundle.nN Bundle.tN "backtrace" "Ljava/lang/Object;") (np_inr (i := 12) rfl))
  have bC := Cond.laysApart hdB hdC hdnB hdnC (by rw [hnB, Y.causeName]; decide)
  have bS := Cond.laysApart hdB hdS hdnB hdnS (by rw [hnB, Y.stackName]; decide)
  have bP := Cond.laysApart hdB hdP hdnB hdnP (by rw [hnB, Y.suppName]; decide)
  have bX := Cond.laysApart hdB hdX hdnB hdnX (by rw [hnB, hnX]; decide)
  have hskip : SkipFacts T e.platform s (fun u => u) u0 ((npeCell N.toNpeT (preparedCellV T.toThrowableT (freshCell P1.m.cls kX) a u0 sen) W.cur).withEntry W.cur) :=
    ⟨{ ci198 := ci198, i198 := i198, fBack := fB }, ⟨hk198, hg198, ha198, hsB⟩, by
      have := fresh_default (c := P1.m.cls) tyB
      rw [htB] at this
      simpa [npeCell, preparedCellV, Cell.setSlot, Cell.withEntry, Array.getElem?_setIfInBounds, bC, bS, bP, bX, bC.symm, bS.symm, bP.symm, bX.symm, defaultValue] using this, fun _ _ => rfl⟩
  obtain ⟨tm, methC, cdC, kC, vm₁, hnC, -, -, -, -, -, -, -, hW₁, st1⟩ := Steps.initColdS (tb := p.tables) (e := e) (below := below) (s := s) (U := W) X.here hexec X.warmed hpl hown (t := Bundle.initS Bundle.nN) rfl rfl (Bundle.fit_spec (n := Bundle.nN) (by decide +kernel)).2
    (a' (.methodLink own ic (Bundle.initS Bundle.nN)) (np_inr (i := 0) rfl)) (h (.instanceMethod (Bundle.initS Bundle.nN)) (np_inl (Or.inr (Or.inr (Or.inl (by simp [Bundle.chainSAtoms, Bundle.passSAtoms])))))) (bytes := Bundle.six) (maxL := 2) (h (.code (Bundle.initS Bundle.nN) Bundle.six 2 none) (np_inl (Or.inr (Or.inr (Or.inl (by simp [Bundle.chainSAtoms, Bundle.passSAtoms]))))))
    (f := g) hg (a := a) (msg := msg) (rest := .ref a :: rest) hstack hd6
  cases Option.some.inj (hnC.symm.trans hP1m)
  have X₁ := X.noted hW₁
  obtain ⟨vm₂, X₂, st2⟩ := np_ctor X₁ hexec htr (g := { g with stack := .ref a :: rest }) hg hsize T L Z LZ M LM N LN (P1 :: Ps)
    (fun P hP => by rcases List.mem_cons.mp hP with rfl | hP; exact L1; exact hL P hP) ⟨hlink1, hlink⟩ (u0 := u0) (sen := sen) (self := a) hmsg (cell := freshCell P1.m.cls kX) (cellS := cellS) (kcell := kX)
    hcell (fun _ => by simp) (by simp) rfl rfl hkX hsel0 hselF hcellS hneS hknownS (by rw [hkeep _ (hout' _)]; exact hu0) (by rw [hkeep _ (hout' _)]; exact hsen)
    (by rw [fresh_default tyX, LN.stateInt]; rfl)
    (Cond.laysApart hdC hdX hdnC hdnX (by rw [Y.causeName, hnX]; decide)) (Cond.laysApart hdS hdX hdnS hdnX (by rw [Y.stackName, hnX]; decide)) (Cond.laysApart hdP hdX hdnP hdnX (by rw [Y.suppName, hnX]; decide))
    (Takes.of_laid hk hord tyC (by rw [Y.causeType]; rfl)) (Takes.of_laid hk hord tyS (by rw [Y.stackType]; exact fits_refV_array _ u0)) (Takes.of_laid hk hord tyP (by rw [Y.suppType]; exact fits_refV_object _ sen))
    (Takes.of_laid hk hord tyX (by rw [LN.stateInt]; rfl)) (Takes.of_laid hk hord tyM (by rw [Y.msgType]; exact fits_refV_object _ ⟨msg, hmsg⟩)) Y.objLocals hskip [] hd6
    (by simp only [List.length_cons, hlen]; omega) (by simp only [List.length_cons, hlen]; exact hRlocals)
  obtain ⟨hwalk, hrun, hended, hWU, hsame⟩ := X₂.athrowLeaves hexec (g := { g with stack := .ref a :: rest, pc := g.pc + 3 }) hg hlocked hentered hout (a := a) (rest := rest) rfl hd9
  have hlt : a < ((W.setVm vm₁).setVm vm₂).heap.size := (Array.getElem?_eq_some_iff.mp hcell).1
  have hU := heapAt_setCell_self (s := (W.setVm vm₁).setVm vm₂) ((npeBareV T.toThrowableT N.toNpeT (freshCell P1.m.cls kX) a u0 sen).setSlot T.fMsg.slot msg) hlt
  refine ⟨_, st1 _ (fun acts => ?_), hrun, hended, hWU, hsame.weaken (fun y hy hlt' => ?_) (Nat.le_refl _) (Nat.le_refl _), _, hU, rfl, hfound⟩
  · rw [doInvoke_state]
    exact st2 _ hwalk
  · rcases List.mem_append.mp hy with h1 | h1
    · exact h1
    · exfalso
      have hb : y.base = a := by
        simp only [List.mem_cons, List.not_mem_nil, or_false] at h1
        rcases h1 with rfl | rfl | rfl | rfl | rfl | rfl <;> rfl
      rw [hb] at hlt'
      exact Nat.not_lt.mpr hnew hlt'
end NPB
theorem np_hat : ∀ w ∈ (np_at RX10 74).filter vx_no, w ∈ (lw_tblx.filter goodWord) ∨ w ∈ xw := by decide +kernel
theorem np_good : ∀ w ∈ Cond.classLink RX10 70 Bundle.nN :: Cond.initialized Bundle.nN :: (np_at RX10 74).filter vx_no, vx_ot w = true := by decide +kernel
set_option maxHeartbeats 2000000 in
theorem npe_row (l : Launch) : NpeRow l := by
  intro p e R s m args below meth c H locs cells slots mc ms Qc XC free A ls hexec hb hl hown hg hE hS hsize htb hRf hRl hRc hRs hlocks hx hf hc hs T hT X
  obtain ⟨hE1, hU, hN, -, ⟨sa, hstr⟩⟩ := hE
  have hat : ∀ w ∈ (np_at RX10 74).filter vx_no, w.before args s = true := fun w hw => (np_hat w hw).elim (fun h => hg w h) (fun h => (hE1 w h).use (xw_on (List.mem_filter.mp h).2))
  have htr : e.platform.stackTraces = false := (show e.platform.stackTraces = l.stackTraces by rw [X.admits.platform]).trans hl
  have Y := vx_rebase X (R' := { frames := R.frames, locals := R.locals, cells := 1, slots := 8 }) (Nat.le_refl _) (Nat.le_refl _) hRc hRs
  obtain ⟨s', hA⟩ : ∃ z, z = (T.setVm s.vm).setFrames (.invoking m args :: below) := ⟨_, rfl⟩
  rw [← hA] at Y
  have hvm : s'.vm = s.vm := by rw [hA]; rfl
  have hhp : s'.heap = H := by rw [hA]; exact hT
  have hW0 : s.WarmedH s'.vm := by rw [hvm]; exact State.WarmedH.refl s
  have hat' : ∀ w ∈ (np_at RX10 74).filter vx_no, w.before args s' = true := fun w hw => vx_ot_at hW0 hvm.symm (np_good w (List.mem_cons_of_mem _ (List.mem_cons_of_mem _ hw))) (hat w hw)
  have hk' : (Cond.classLink RX10 70 Bundle.nN).before args s' = true := vx_ot_at hW0 hvm.symm (np_good _ List.mem_cons_self) (hg _ g_674)
  have hini' : (Cond.initialized Bundle.nN).before args s' = true := vx_ot_at hW0 hvm.symm (np_good _ (List.mem_cons_of_mem _ List.mem_cons_self)) (hg _ g_18)
  have hU' : vx_Zq Bundle.tN "UNASSIGNED_STACK" Bundle.steD A s' s'.heap := by rw [hhp]; exact vx_Zq.moved hW0.alike (hU.kept hS.2.1)
  have hN' : vx_Zq Bundle.tN "SUPPRESSED_SENTINEL" Bundle.listD A s' s'.heap := by rw [hhp]; exact vx_Zq.moved hW0.alike (hN.kept hS.2.1)
  have h : ∀ w ∈ np_at RX10 74, w.before args s' = true := vx_own hat' (vx_isRefq hU'.1) (vx_isRefq hN'.1) hU'.2.word hN'.2.word
  have hown' : s'.vm.findClass RX10 = some m.cls := by rw [hvm]; exact hown
  have hins : (Cond.instantiable Bundle.nN 8).before args s' = true := h _ (np_inr (i := 1) rfl)
  obtain ⟨vm₁, cX, kX, hfX, hkX, -, -, X₁, st1⟩ := Y.newCold hexec (own := RX10) (C := Bundle.nN) (index := 70) (n := 8) hown' hk' hins hini'
    (g := F0 m 24 ls []) rfl (by rw [hb]; exact dX10_take_24) (Nat.le_refl _) (Nat.le_refl _)
  generalize hT1 : (T.setVm vm₁).pushCell { cls := cX, slots := kX.instanceTypes.map defaultValue, vm := .none } = T1 at X₁ st1
  have hcat : (Value.ref T.heap.size).category = 1 := rfl
  have hcellA : T1.heap[T.heap.size]? = some (freshCell cX kX) := by rw [← hT1]; exact State.heap_pushCell_size _ _
  have d3' : decode c.code (24 + 3) = .ok (.dup, 1) := by rw [hb]; exact dX10_take_27
  have d4' : decode c.code (24 + 4) = .ok (.ldc 72, 2) := by rw [hb]; exact dX10_take_28
  have hstr' : vk_R RX10 72 "NOTHING" sa s' := vk_R.warm hW0 hstr
  obtain ⟨U, hsteps, hrun, hend, hW, hsame, ce, hce, hOv, hOc⟩ := np_throw X₁ hexec htr (own := RX10) (ic := 74) hown' h (fun x hx => nomatch hx) hfX hkX hcellA (by rw [hhp, hT]; exact Nat.le_refl _) (msg := .ref sa) rfl
    (g := { method := m, pc := 24 + 6, locals := ls, stack := .ref sa :: .ref T.heap.size :: .ref T.heap.size :: [], locked := none }) rfl hsize rfl rfl (rest := []) rfl
    (by rw [hb]; exact dX10_take_30) (by rw [hb]; exact dX10_take_33) (fun x9 h9 => (htb x9 h9).elim) (by show 6 < R.frames; omega) (by show 2 * 0 + 1 + 95 ≤ R.locals; omega) hlocks
  obtain ⟨f1, f2⟩ := vx_frame hsame
  rw [hhp] at f1 f2
  have hWs : s.WarmedH U.vm := State.WarmedH.trans hW0 hW
  have hcl : s.vm.findClass Bundle.nN = some ce.cls := by
    have h9 := hOc
    rw [hvm] at h9
    exact h9
  have hall : s.sameButNew ({ U with vm := s.vm } : State) locs mc ms := by
    subst hA
    obtain ⟨e1, e2⟩ := hsame
    rw [State.setFrames_setFrames] at e1
    have h2 : (T.setVm s.vm).sameButNew ({ U with vm := s.vm } : State) [] (0 + 1) (0 + 8) := ⟨e1, e2⟩
    have h3 := X.same.trans h2
    rw [List.append_nil] at h3
    exact h3.mono hc hs
  refine ⟨U, ?_, .threw T.heap.size, hrun, hend, Or.inr ⟨T.heap.size, rfl, Bundle.nN, ce, locs, hx U hWs.alike f1 (fun q hq => f2 q hq (fun z hz => nomatch hz)), hce, hOv, hcl, hWs, hall, hf⟩⟩
  refine st1 _ ?_
  show Steps p.tables e below (T1.setTop { method := m, pc := 24 + 3, locals := ls, stack := .ref T.heap.size :: [], locked := none }) _
  jvm_step X₁.here [X₁.here.top, hexec, d3', Value.category]
  exact X₁.ldcString hexec (own := RX10) (text := "NOTHING") (index := 72) (a := sa) hown' hstr'.1 hstr'.2
    (g := { method := m, pc := 24 + 4, locals := ls, stack := .ref T.heap.size :: .ref T.heap.size :: [], locked := none }) rfl d4' _ hsteps
