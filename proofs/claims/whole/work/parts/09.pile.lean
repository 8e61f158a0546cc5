/-! calls on a pile: its class is one of eight -/
def vn (ci : Nat) : String := ((vwCl[ci]?).map (fun q => q.1)).getD ""
def pkAll (ci : Nat) : Prop := ci = 1 ∨ ci = 2 ∨ ci = 3 ∨ ci = 4 ∨ ci = 5 ∨ ci = 6 ∨ ci = 7 ∨ ci = 10
def pkMa (ci : Nat) : Prop := ci = 1 ∨ ci = 2 ∨ ci = 3 ∨ ci = 4 ∨ ci = 6 ∨ ci = 7 ∨ ci = 10
def pkSo (ci : Nat) : Prop := ci = 1 ∨ ci = 4 ∨ ci = 6
def pkSt (ci : Nat) : Prop := ci = 2 ∨ ci = 7 ∨ ci = 10
def pkDr (ci : Nat) : Prop := ci = 1 ∨ ci = 4
def pkTw (ci : Nat) : Prop := ci = 2 ∨ ci = 10
def pkOp (ci : Nat) : Prop := ci = 4
def pkLe (ci : Nat) : Prop := ci = 2
theorem pkMa_pkAll {ci : Nat} (h : pkMa ci) : pkAll ci := by
  rcases h with rfl | rfl | rfl | rfl | rfl | rfl | rfl <;> simp [pkAll]
theorem pkSo_pkMa {ci : Nat} (h : pkSo ci) : pkMa ci := by
  rcases h with rfl | rfl | rfl <;> simp [pkMa]
theorem pkSo_pkAll {ci : Nat} (h : pkSo ci) : pkAll ci := by
  rcases h with rfl | rfl | rfl <;> simp [pkAll]
theorem pkSt_pkMa {ci : Nat} (h : pkSt ci) : pkMa ci := by
  rcases h with rfl | rfl | rfl <;> simp [pkMa]
theorem pkSt_pkAll {ci : Nat} (h : pkSt ci) : pkAll ci := by
  rcases h with rfl | rfl | rfl <;> simp [pkAll]
theorem pkDr_pkMa {ci : Nat} (h : pkDr ci) : pkMa ci := by
  rcases h with rfl | rfl <;> simp [pkMa]
theorem pkDr_pkSo {ci : Nat} (h : pkDr ci) : pkSo ci := by
  rcases h with rfl | rfl <;> simp [pkSo]
theorem pkDr_pkAll {ci : Nat} (h : pkDr ci) : pkAll ci := by
  rcases h with rfl | rfl <;> simp [pkAll]
theorem pkTw_pkMa {ci : Nat} (h : pkTw ci) : pkMa ci := by
  rcases h with rfl | rfl <;> simp [pkMa]
theorem pkTw_pkSt {ci : Nat} (h : pkTw ci) : pkSt ci := by
  rcases h with rfl | rfl <;> simp [pkSt]
theorem pkTw_pkAll {ci : Nat} (h : pkTw ci) : pkAll ci := by
  rcases h with rfl | rfl <;> simp [pkAll]
theorem pkOp_pkMa {ci : Nat} (h : pkOp ci) : pkMa ci := by
  rcases h with rfl <;> simp [pkMa]
theorem pkOp_pkSo {ci : Nat} (h : pkOp ci) : pkSo ci := by
  rcases h with rfl <;> simp [pkSo]
theorem pkOp_pkDr {ci : Nat} (h : pkOp ci) : pkDr ci := by
  rcases h with rfl <;> simp [pkDr]
theorem pkOp_pkAll {ci : Nat} (h : pkOp ci) : pkAll ci := by
  rcases h with rfl <;> simp [pkAll]
theorem pkLe_pkMa {ci : Nat} (h : pkLe ci) : pkMa ci := by
  rcases h with rfl <;> simp [pkMa]
theorem pkLe_pkSt {ci : Nat} (h : pkLe ci) : pkSt ci := by
  rcases h with rfl <;> simp [pkSt]
theorem pkLe_pkTw {ci : Nat} (h : pkLe ci) : pkTw ci := by
  rcases h with rfl <;> simp [pkTw]
theorem pkLe_pkAll {ci : Nat} (h : pkLe ci) : pkAll ci := by
  rcases h with rfl <;> simp [pkAll]
theorem pq_cl {ci : Nat} (h : pkAll ci) : vwCl[ci]? = some (vn ci, TX4, 7) := by
  rcases h with rfl | rfl | rfl | rfl | rfl | rfl | rfl | rfl <;> rfl
theorem pq_in {ci : Nat} (h : pkAll ci) : ∀ w ∈ u_ws (vn ci) TX4 7, w ∈ GW := by
  rcases h with rfl | rfl | rfl | rfl | rfl | rfl | rfl | rfl
  · exact in_X0
  · exact in_X1
  · exact in_X2
  · exact in_X3
  · exact in_X4
  · exact in_X5
  · exact in_X6
  · exact in_X9
theorem two_lt {n a b : Nat} (h1 : a < n) (h2 : b < n) (h : a ≠ b) : ∃ k, n = k + 2 := ⟨n - 2, by omega⟩
theorem three_lt {n a b c : Nat} (h1 : a < n) (h2 : b < n) (h3 : c < n) (h : a ≠ b) (h' : a ≠ c) (h'' : b ≠ c) : ∃ k, n = k + 3 := ⟨n - 3, by omega⟩
section ZC
variable {p : Program} {l : Launch} {e : Env} {R : Room} {s : State} {m : MethodId} {args : Array Value} {below : List Frame} {meth : Method} {c : Code} {H : Heap} {locs : List Loc} {cells slots : Nat}
variable {y x y0 : MethodName} {bytes b0 b1 cc : ByteArray} {maxL n0 n1 nL n index : Nat} {ret r0 r1 : Option FieldType} {rm : Room} {own C owner : String}
theorem z_St (n : Nat) (hts : ∀ w ∈ wd y0 b0 n0 r0, w.before args s = true) (hc : Cond.code y bytes maxL ret ∈ GW) (hini : Cond.initialized y.cls ∈ GW) (hl : Cond.methodLink own index y ∈ GW) (hs : Cond.static y ∈ GW)
    (hd : y.cls ≠ "java/lang/invoke/MethodHandle" ∧ y.cls ≠ "java/lang/invoke/VarHandle" ∧ (parseMethodDescriptor y.desc).map (fun d => d.parameters.length) = some n) (hR : rm.frames + 1 ≤ R.frames ∧ 8 + (maxL + 11) + rm.locals ≤ R.locals) :
    CallB R s args own index y bytes maxL ret (wd y bytes maxL ret) rm rm.cells rm.slots n ∧ (Cond.static y).before args s = true :=
  ⟨z_B n hts hc hini hl hd hR, hts _ (List.mem_cons_of_mem _ hs)⟩
/-- a method named through a class that may only inherit it; the receiver's class selects y -/
theorem z_U (n : Nat) (hts : ∀ w ∈ wd y0 b0 n0 r0, w.before args s = true) (hc : Cond.code y bytes maxL ret ∈ GW) (hini : Cond.initialized y.cls ∈ GW) (hl : Cond.methodLink own index x ∈ GW) (hsm : Cond.sameMethod x.cls owner x.name x.desc ∈ GW)
    (hdi : Cond.instanceMethod ⟨owner, x.name, x.desc⟩ ∈ GW) (hdc : Cond.code ⟨owner, x.name, x.desc⟩ b1 n1 r1 ∈ GW) (hs : Cond.selects C x y ∈ GW) (hi : Cond.instanceMethod y ∈ GW)
    (hd : owner ≠ "java/lang/invoke/MethodHandle" ∧ owner ≠ "java/lang/invoke/VarHandle" ∧ (parseMethodDescriptor x.desc).map (fun d => d.parameters.length) = some n) (hR : rm.frames + 1 ≤ R.frames ∧ 8 + (maxL + 11) + rm.locals ≤ R.locals) :
    va_CU R s args own C owner index x y bytes maxL ret (wd y bytes maxL ret) rm rm.cells rm.slots n := by
  have hg := Tb.of hts
  refine ⟨⟨rfl, rfl, hR.1, hR.2, pay_in hts (wd_good hc), List.mem_cons_self⟩, hg _ hc, hg _ hini, ⟨hd.1, hd.2.1⟩, fun sig h => ?_, hg _ hl, hg _ hsm, va_Decl.of (hg _ hdi) (hg _ hdc), hg _ hs, hg _ hi⟩
  have h2 := hd.2.2
  rw [h] at h2
  exact (Option.some.inj h2).symm
/-- super.m(..), where m may be inherited by the superclass x.cls from owner -/
abbrev z_CSU (R : Room) (s : State) (args : Array Value) (own owner : String) (index : Nat) (x y : MethodName) (bytes : ByteArray) (maxL : Nat) (ret : Option FieldType) (ws : List Cond) (rm : Room) (n : Nat) : Prop :=
  y = ⟨owner, x.name, x.desc⟩ ∧ (rm.frames + 1 ≤ R.frames ∧ 8 + (maxL + 11) + rm.locals ≤ R.locals ∧ (∀ w ∈ ws, ∀ (a' : Array Value) (U : State), s.WarmedH U.vm → w.before a' U = true) ∧ Cond.code y bytes maxL ret ∈ ws) ∧
  (Cond.methodLink own index x).before args s = true ∧ (Cond.sameMethod x.cls owner x.name x.desc).before args s = true ∧ (Cond.superclass own x.cls).before args s = true ∧ (Cond.instanceMethod y).before args s = true ∧ (Cond.initialized y.cls).before args s = true ∧ (Cond.code y bytes maxL ret).before args s = true ∧ x.name ≠ "<init>" ∧ (∀ sig, parseMethodDescriptor x.desc = some sig → n = sig.parameters.length)
theorem z_SU (n : Nat) (hts : ∀ w ∈ wd y0 b0 n0 r0, w.before args s = true) (hc : Cond.code ⟨owner, x.name, x.desc⟩ bytes maxL ret ∈ GW) (hini : Cond.initialized owner ∈ GW) (hl : Cond.methodLink own index x ∈ GW) (hsm : Cond.sameMethod x.cls owner x.name x.desc ∈ GW)
    (hsup : Cond.superclass own x.cls ∈ GW) (hi : Cond.instanceMethod ⟨owner, x.name, x.desc⟩ ∈ GW) (hno : x.name ≠ "<init>")
    (hd : owner ≠ "java/lang/invoke/MethodHandle" ∧ owner ≠ "java/lang/invoke/VarHandle" ∧ (parseMethodDescriptor x.desc).map (fun d => d.parameters.length) = some n) (hR : rm.frames + 1 ≤ R.frames ∧ 8 + (maxL + 11) + rm.locals ≤ R.locals) :
    z_CSU R s args own owner index x ⟨owner, x.name, x.desc⟩ bytes maxL ret (wd ⟨owner, x.name, x.desc⟩ bytes maxL ret) rm n := by
  have hg := Tb.of hts
  refine ⟨rfl, ⟨hR.1, hR.2, pay_in hts (wd_good hc), List.mem_cons_self⟩, hg _ hl, hg _ hsm, hg _ hsup, hg _ hi, hg _ hini, hg _ hc, hno, fun sig h => ?_⟩
  have h2 := hd.2.2
  rw [h] at h2
  exact (Option.some.inj h2).symm
def z_Sub (s : State) (a b : String) : Prop := ∀ ca cb : ClassId, s.vm.findClass a = some ca → s.vm.findClass b = some cb → s.vm.isSubclass ca cb = true
theorem z_runSU {Pc : Array Value → State → Prop} {Qc : Array Value → State → Outcome → State → Prop} {free : Addr → Prop} {Ts : List Cond} {cC : ClassId} {b : Addr} {As rest : List Value} {g : JFrame} {ws : List Cond}
    (hat : ClassAt s C cC) (S : CallFix p m c cc nL s args Ts own) (hM : Met l y ws rm Pc Qc rm.cells rm.slots free) (cw : z_CSU R s args own owner index x y bytes maxL ret ws rm n) (hsub : z_Sub s x.cls owner) (hp : PreV s H C b Pc As)
    (hg : g.method = m) (hn : As.length = n) (hsize : g.locals.size = nL) (hstack : g.stack = As.reverse ++ .ref b :: rest) (hW : 2 * g.monitorRoom + (rest.map fun v => v.category).sum ≤ 8) (hdg : decode cc g.pc = .ok (.invokespecial index, 3)) (hf : cells + rm.cells ≤ R.cells ∧ slots + rm.slots ≤ R.slots) :
    va_Run p l e R s m args below meth c H locs cells slots rm.cells rm.slots g rest (Qc (Value.ref b :: As).toArray) (free) := by
  obtain ⟨hy, ⟨hfr, hlo, hws, hcw⟩, hl1, hl2, hl3, hl4, hini, hcode, hno, hlen⟩ := cw
  have hK : Back l R p e below s args y 3 8 (PreOf R rm.cells rm.slots Pc) (PostOf Qc rm.cells rm.slots free) := back_of (bytes := bytes) (maxL := maxL) (ret := ret) hM hp.1 rfl rfl hfr hlo hws hcw (fun a' U hW => word_at hW (Or.inl (by first | rfl | simp [Cond.onTables, Cond.keeps, Cond.steady])) hini)
  obtain ⟨hx, hb, hml, ho, -⟩ := S
  obtain ⟨-, ⟨cellB, hcB, hoB, hclB⟩, hPc⟩ := hp
  obtain ⟨hfc, kB, hkB, -⟩ := hat
  cases hfc.symm.trans hclB
  intro T hT X
  obtain ⟨mk, methM, hnamed, hmethM, hstM, habM⟩ := Cond.instanceMethod_spec hl4
  obtain ⟨methM', cM, hmethM', -, -, -, -, -, -, hsigM⟩ := Cond.code_spec hnamed hcode
  cases hmethM.symm.trans hmethM'
  obtain ⟨ps, dk, kp, hps, hdk, hkp, hsuper, -, -, hnid⟩ := Cond.superclass_spec ho hl3
  have hn' : s.methodNamed? ⟨owner, x.name, x.desc⟩ = some mk := by rw [← hy]; exact hnamed
  have hmk : s.vm.findClass owner = some mk.cls := findClass_of_methodNamed hn'
  have hsubc : s.vm.isSubclass ps mk.cls = true := hsub _ _ hps hmk
  have hdesc : parseMethodDescriptor x.desc = some methM.sig := by rw [hy] at hsigM; exact hsigM
  obtain ⟨vm₁, X₁, hstep₁⟩ := X.invokespecialUp hx ho hl1 hl2 hn' hmethM hstM habM hno hdk hnid hps hsuper hsubc (a := b) (cell := cellB) (by rw [hT]; exact hcB)
    (fun z h => by rw [h] at hoB; cases hoB) hkB (g := g) hg (argsL := As) (rest := rest) (hn.trans (hlen _ hdesc)) hstack (by rw [hb]; exact hdg)
  obtain ⟨v, ⟨U', l2, c2, s2⟩, X', ⟨g', mk', t, L, e1, e2, hq, h1, hL, h2, h3⟩, hsteps⟩ := hK m meth c ⟨T.setVm vm₁, locs, cells, slots⟩ { g with stack := rest } (.invokespecial index) mk (Value.ref b :: As).toArray X₁ hg (hsize.trans hml.symm) (by rw [hb]; exact hdg) hW (X₁.named hnamed) ⟨hf.1, hf.2, hPc (T.setVm vm₁) hT X₁.warmed⟩
  dsimp only [Pt.U, Pt.locs, Pt.cells, Pt.slots] at X' e1 e2 h1 h2 h3 hsteps
  subst h1; subst h2; subst h3
  exact ⟨v, (T.setVm vm₁).calling g' mk' (Value.ref b :: As).toArray, t, U', L, hT, X', hL, e1, e2, hq, fun target h => hstep₁ _ (by rw [doInvoke_state]; exact hsteps.trans h)⟩
/-- a loop at pc, by a measure n -/
theorem z_loop {Q : State → Prop} {σ : Type} {pc : Nat} (Inv : Nat → σ → Heap → List Loc → Array Slot → Prop) (h0 : ∀ x H locs ls, ¬ Inv 0 x H locs ls)
    (step : ∀ n x H locs ls, Inv (n + 1) x H locs ls → (∀ x' H' locs' ls', Inv n x' H' locs' ls' → W p l e R s m args below meth c H' locs' cells slots Q (F0 m pc ls' [])) → W p l e R s m args below meth c H locs cells slots Q (F0 m pc ls [])) :
    ∀ n x H locs ls, Inv n x H locs ls → W p l e R s m args below meth c H locs cells slots Q (F0 m pc ls []) := by
  intro n
  induction n with
  | zero => intro x H locs ls h; exact absurd h (h0 x H locs ls)
  | succ n ih => intro x H locs ls h; exact step n x H locs ls h (fun x' H' locs' ls' h' => ih x' H' locs' ls' h')
/-- the chain of superclasses, out of the tables' words -/
theorem sb1 {a b : String} (h1 : (Cond.superclass a b).before args s = true) : z_Sub s a b := by
  intro ca cb ha hb
  obtain ⟨p1, k1, -, hp1, hk1, -, hs1, -⟩ := Cond.superclass_spec ha h1
  cases hb.symm.trans hp1
  have hz : ∃ n, s.vm.classes.size = n + 1 := ⟨s.vm.classes.size - 1, by have := (Array.getElem?_eq_some_iff.mp hk1).1; omega⟩
  obtain ⟨n, hz⟩ := hz
  simp [Vm.isSubclass, hz, Vm.isSubclassAux, hk1, hs1]
theorem z_ne {a b : String} {ca cb : ClassId} (h : a ≠ b) (ha : s.vm.findClass a = some ca) (hb : s.vm.findClass b = some cb) : ca ≠ cb := by
  intro e
  subst e
  obtain ⟨k, hk, hn⟩ := Vm.findClass_spec ha
  obtain ⟨k2, hk2, hn2⟩ := Vm.findClass_spec hb
  cases hk.symm.trans hk2
  exact h (hn.symm.trans hn2)
theorem sb2 {a b d : String} (hab : a ≠ b) (h1 : (Cond.superclass a b).before args s = true) (h2 : (Cond.superclass b d).before args s = true) : z_Sub s a d := by
  intro ca cd ha hd
  obtain ⟨p1, k1, k1', hp1, hk1, hk1', hs1, -⟩ := Cond.superclass_spec ha h1
  obtain ⟨p2, k2, -, hp2, hk2, -, hs2, -⟩ := Cond.superclass_spec hp1 h2
  cases hd.symm.trans hp2
  have hne : ¬ (ca : Nat) = p1 := z_ne hab ha hp1
  have l1 := (Array.getElem?_eq_some_iff.mp hk1).1
  have l2 := (Array.getElem?_eq_some_iff.mp hk2).1
  obtain ⟨n, hz⟩ := two_lt l1 l2 hne
  simp [Vm.isSubclass, hz, Vm.isSubclassAux, hk1, hs1, hk2, hs2]
theorem sb3 {a b d f : String} (hab : a ≠ b) (had : a ≠ d) (hbd : b ≠ d) (h1 : (Cond.superclass a b).before args s = true) (h2 : (Cond.superclass b d).before args s = true) (h3 : (Cond.superclass d f).before args s = true) : z_Sub s a f := by
  intro ca cf ha hf
  obtain ⟨p1, k1, k1', hp1, hk1, hk1', hs1, -⟩ := Cond.superclass_spec ha h1
  obtain ⟨p2, k2, -, hp2, hk2, -, hs2, -⟩ := Cond.superclass_spec hp1 h2
  obtain ⟨p3, k3, -, hp3, hk3, -, hs3, -⟩ := Cond.superclass_spec hp2 h3
  cases hf.symm.trans hp3
  have n1 : ¬ (ca : Nat) = p1 := z_ne hab ha hp1
  have n2 : ¬ (ca : Nat) = p2 := z_ne had ha hp2
  have n3 : ¬ (p1 : Nat) = p2 := z_ne hbd hp1 hp2
  have l1 := (Array.getElem?_eq_some_iff.mp hk1).1
  have l2 := (Array.getElem?_eq_some_iff.mp hk2).1
  have l3 := (Array.getElem?_eq_some_iff.mp hk3).1
  obtain ⟨n, hz⟩ := three_lt l1 l2 l3 n1 n2 n3
  simp [Vm.isSubclass, hz, Vm.isSubclassAux, hk1, hs1, hk2, hs2, hk3, hs3]
end ZC
theorem lp_up {a b : Int32} {n : Nat} (h : ¬ b ≤ a) (hn : (b.toInt - a.toInt).toNat < n + 1) : (b.toInt - (a + 1).toInt).toNat < n := by
  rw [Int32.le_iff_toInt_le] at h
  have h1 := Int32.toInt_lt b
  have h2 := Int32.le_toInt a
  have e : (a + 1).toInt = a.toInt + 1 := by
    rw [Int32.toInt_add, show (1 : Int32).toInt = 1 from rfl]
    exact Int.bmod_eq_of_le (by omega) (by omega)
  rw [e]
  omega
theorem lp_st (b : Int32) : (b.toInt - (0 : Int32).toInt).toNat < b.toNatClampNeg + 1 := by
  rw [Int32.toInt_zero]
  show (b.toInt - 0).toNat < b.toInt.toNat + 1
  omega
theorem sb_Drying_Plain {args : Array Value} {s : State} (hg : Tb args s) : z_Sub s RX0 RX4 := sb3 (by decide) (by decide) (by decide) (hg _ g_206) (hg _ g_178) (hg _ g_164)
theorem sb_Drying_Sorted {args : Array Value} {s : State} (hg : Tb args s) : z_Sub s RX0 RX5 := sb1  (hg _ g_206)
theorem sb_Marked_Plain {args : Array Value} {s : State} (hg : Tb args s) : z_Sub s RX2 RX4 := sb1  (hg _ g_164)
theorem sb_Sorted_Plain {args : Array Value} {s : State} (hg : Tb args s) : z_Sub s RX5 RX4 := sb2 (by decide) (hg _ g_178) (hg _ g_164)
theorem sb_Strict_Plain {args : Array Value} {s : State} (hg : Tb args s) : z_Sub s RX6 RX4 := sb2 (by decide) (hg _ g_192) (hg _ g_164)
theorem sb_Twofold_Plain {args : Array Value} {s : State} (hg : Tb args s) : z_Sub s RX9 RX4 := sb3 (by decide) (by decide) (by decide) (hg _ g_220) (hg _ g_192) (hg _ g_164)
theorem sb_Twofold_Strict {args : Array Value} {s : State} (hg : Tb args s) : z_Sub s RX9 RX6 := sb1  (hg _ g_220)
theorem sl_Plain_timberAt {ci : Nat} (h : pkAll ci) : Cond.selects (vn ci) ⟨"PileHeirs$Plain", "timberAt", "(I)I"⟩ yX4_timberAt ∈ GW := by
  rcases h with rfl | rfl | rfl | rfl | rfl | rfl | rfl | rfl
  · exact g_847
  · exact g_848
  · exact g_849
  · exact g_850
  · exact g_851
  · exact g_852
  · exact g_853
  · exact g_854
theorem sl_Sorted_timberAt {ci : Nat} (h : pkSo ci) : Cond.selects (vn ci) ⟨"PileHeirs$Sorted", "timberAt", "(I)I"⟩ yX4_timberAt ∈ GW := by
  rcases h with rfl | rfl | rfl
  · exact g_474
  · exact g_475
  · exact g_476
theorem sl_Drying_timberAt {ci : Nat} (h : pkDr ci) : Cond.selects (vn ci) ⟨"PileHeirs$Drying", "timberAt", "(I)I"⟩ yX4_timberAt ∈ GW := by
  rcases h with rfl | rfl
  · exact g_339
  · exact g_340
theorem sl_Open_timberAt {ci : Nat} (h : pkOp ci) : Cond.selects (vn ci) ⟨"PileHeirs$Open", "timberAt", "(I)I"⟩ yX4_timberAt ∈ GW := by
  rcases h with rfl
  · exact g_301
theorem sl_Sorted_howMany {ci : Nat} (h : pkSo ci) : Cond.selects (vn ci) ⟨"PileHeirs$Sorted", "howMany", "()I"⟩ yX4_howMany ∈ GW := by
  rcases h with rfl | rfl | rfl
  · exact g_469
  · exact g_470
  · exact g_471
theorem sl_Open_howMany {ci : Nat} (h : pkOp ci) : Cond.selects (vn ci) ⟨"PileHeirs$Open", "howMany", "()I"⟩ yX4_howMany ∈ GW := by
  rcases h with rfl
  · exact g_295
theorem sl_Sorted_swapWithUnder {ci : Nat} (h : pkSo ci) : Cond.selects (vn ci) ⟨"PileHeirs$Sorted", "swapWithUnder", "(I)V"⟩ yX4_swapWithUnder ∈ GW := by
  rcases h with rfl | rfl | rfl
  · exact g_480
  · exact g_481
  · exact g_482
theorem sl_Sorted_sinkTopmost {ci : Nat} (h : pkSo ci) : Cond.selects (vn ci) ⟨"PileHeirs$Sorted", "sinkTopmost", "(I)V"⟩ yX5_sinkTopmost ∈ GW := by
  rcases h with rfl | rfl | rfl
  · exact gx_0
  · exact gx_1
  · exact gp_2
