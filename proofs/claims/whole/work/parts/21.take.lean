/-- STILL OPEN: `throw new NullPointerException("NOTHING")` in take (pc 24 .. 33), as vx_throwS has it for other classes -/
def NpeRow (l : Launch) : Prop := ∀ (p : Program) (e : Env) (R : Room) (s : State) (m : MethodId) (args : Array Value) (below : List Frame) (meth : Method) (c : Code) (H : Heap) (locs : List Loc) (cells slots mc ms : Nat) (Qc : Array Value → State → Outcome → State → Prop) (XC : String → State → State → Prop) (free : Addr → Prop) (A : Nat → Prop) (ls : Array Slot),
  p.tables.exec = Jvm.exec → c.code = cX10_take → l.stackTraces = false → s.vm.findClass RX10 = some m.cls → Tb args s → EX A s s.heap → va_S A s.heap H locs → ls.size = c.maxLocals → (∀ x ∈ c.exceptionTable.toList, False) → 10 ≤ R.frames → 200 ≤ R.locals → cells + 1 ≤ R.cells → slots + 8 ≤ R.slots → meth.locks = false →
  (∀ t : State, s.vm.Alike t.vm → H.size ≤ t.heap.size → (∀ q : Nat, q < H.size → t.heap[q]? = H[q]?) → XC "java/lang/NullPointerException" s t) → (∀ z ∈ locs, free z.base) → cells + 1 ≤ mc → slots + 8 ≤ ms →
  W p l e R s m args below meth c H locs cells slots (vx_MQ below Qc XC args s mc ms free) (F0 m 24 ls [])

def fX10_takeR (n : Nat) (C : CZ) (P : Nat → PP) (T : TT) (X : DD) (pl : Int32) : Int32 := (match fz n pl with | none => (-101) | some i_2 => (if (ktakeActR (C i_2).1 (P i_2) T X) = (-2) then 0 else (ktakeActR (C i_2).1 (P i_2) T X)))
def fX10_takeS (n : Nat) (C : CZ) (P : Nat → PP) (T : TT) (X : DD) (pl : Int32) : (Nat → PP) × TT × DD := (match fz n pl with | none => (P, T, X) | some i_2 => (if (ktakeActR (C i_2).1 (P i_2) T X) = (-2) then (va_up P i_2 ((ktakeActS (C i_2).1 (P i_2) T X).1), (ktakeActS (C i_2).1 (P i_2) T X).2.1, (ktakeActS (C i_2).1 (P i_2) T X).2.2) else (va_up P i_2 ((ktakeActS (C i_2).1 (P i_2) T X).1), (ktakeActS (C i_2).1 (P i_2) T X).2.1, (ktakeActS (C i_2).1 (P i_2) T X).2.2)))
def fX10_takeH (n : Nat) (C : CZ) (P : Nat → PP) (T : TT) (X : DD) (pl : Int32) : Bool := (match fz n pl with | none => false | some i_2 => (if (ktakeActR (C i_2).1 (P i_2) T X) = (-2) then true else false))
set_option maxHeartbeats 4000000 in
set_option maxRecDepth 100000 in
theorem c_X10_take (l : Launch) (hlt : l.stackTraces = false) (hNpe : NpeRow l) (D : va_G) (g : GA) (x : GX) (n : Nat) (hn : n ≤ 12) (C : CZ) (hC : ∀ i, i < n → pkAll (C i).1) (P : Nat → PP) (T : TT) (X : DD) (pl : Int32) (sz : Nat) : vx_Met l yX10_take (wd yX10_take cX10_take 4 (Option.some Jvm.ClassFile.FieldType.int)) { frames := 10, cells := 1, slots := 8, locals := 200 } (va_Pc [.ref x.xo, .int pl] (ctE D (tyX g x) (wX g x n C P T X) sz (va_A (wX g x n C P T X) sz))) (va_Qi (fun r w => r = fX10_takeR n C P T X pl ∧ w = wX g x n C (fX10_takeS n C P T X pl).1 (fX10_takeS n C P T X pl).2.1 (fX10_takeS n C P T X pl).2.2 ∧ fX10_takeH n C P T X pl = false) (ctB D (tyX g x) (va_A (wX g x n C P T X) sz)) (va_A (wX g x n C P T X) sz)) (ctX D (tyX g x) (va_A (wX g x n C P T X) sz) "java/lang/NullPointerException" (fun w => w = wX g x n C (fX10_takeS n C P T X pl).1 (fX10_takeS n C P T X pl).2.1 (fX10_takeS n C P T X pl).2.2 ∧ fX10_takeH n C P T X pl = true)) 1 8 (va_A (wX g x n C P T X) sz) := by
  refine vx_ofW (cc := cX10_take) (maxL := 4) (ret := (Option.some Jvm.ClassFile.FieldType.int)) (by decide) rfl ?_
  intro p e s m args below meth c s₁ B hml htb hv
  obtain ⟨rfl, ⟨hsz, hP, hK, hD0⟩, hE⟩ := hv
  have hx := B.exec
  have hb := B.bytes
  have hr := B.returns
  have hts := atoms_spec (ws := (wd yX10_take cX10_take 4 (Option.some Jvm.ClassFile.FieldType.int))) B.pre
  have hg := Tb.of hts
  have hown : s.vm.findClass RX10 = some m.cls := findClass_of_methodNamed B.named
  have hlocks := B.notSynchronized
  subst hsz
  have hD := hD0.self (sz := s.heap.size)
  generalize hAe : va_A (wX g x n C P T X) s.heap.size = A at hD hE ⊢
  have hA : ∀ q : Nat, s.heap.size ≤ q → A q := fun q h => by rw [← hAe]; exact Or.inr h
  have hS : va_S A s.heap s.heap [] := va_S.rf
  have hP : va_P D vwCl (wX g x n C P T X) s.heap := hP
  have hl := lv_entry ([.ref x.xo, .int pl]) (n := 4) (Nat.le_of_ble_eq_true rfl)
  rw [lg_entry_eq]
  generalize (lg_sl ([.ref x.xo, .int pl]) ++ List.replicate (4 - (lg_sl ([.ref x.xo, .int pl])).length) Slot.unset).toArray = ls at hl ⊢
  have hl : lv_has ls 4 [(0, .ref x.xo), (1, .int pl)] := hl
  refine lv_aload_n hx hb dX10_take_0 rfl (lv_at hl 0 rfl) ?_
  refine lv_iload_n hx hb dX10_take_1 rfl (lv_at hl 1 rfl) ?_
  refine z_qeQ (ws := wX0 g x n C T X) (pl := wL g n C P) (va_runV (As := [.int pl]) (rest := []) ⟨hx, hb, hml, hown, hts⟩ (c_X10_pileOf l D g x n hn C pl _) (z_V 1 hts g_266 g_1 g_263 g_265 gp_1 ⟨by decide, by decide, by decide +kernel⟩ ⟨Nat.le_of_ble_eq_true rfl, Nat.le_of_ble_eq_true rfl⟩) (z_preV (ci := 11) (q0 := 0) (hP.subm [0, 1] rfl) (hD.sub [0, 1] (by decide) rfl) hK rfl rfl) rfl rfl hl.1 rfl (lv_room (Nat.le_of_ble_eq_true rfl)) dX10_take_2 ⟨Nat.le_of_ble_eq_true rfl, Nat.le_of_ble_eq_true rfl⟩) hP hD hS hA (wT g T ++ wD g X) (wX0 g x n C T X) [0, 1] [2, 3, 4, 5, 6, 7, 8] [7, 8, 0, 1, 2, 3, 4, 5, 6] rfl rfl (by decide) (by decide) rfl (by decide) (fun H locs hP hD hS => ?_)
  cases hz_1 : fz n pl with
  | none =>
    refine W.eq (g2 := F0 m 5 ls [.null]) rfl ?_
    refine lv_astore_nN (lv' := [(2, .null), (0, .ref x.xo), (1, .int pl)]) hx hb dX10_take_5 rfl hl (by decide) rfl (fun ls hl => ?_)
    refine lv_aload_nN hx hb dX10_take_6 rfl (lv_at hl 0 rfl) ?_
    refine lv_ifnonnullN hx hb dX10_take_7 ?_
    refine lv_bipush (v := (-101)) hx hb dX10_take_10 (by decide) ?_
    refine W.widen (k := 1) (n := 8) (by decide) (by decide) ?_
    exact vx_ret (W.iret (v := (-101)) hx hb hr (fun t9 ht hW => ⟨⟨(-101), wX g x n C P T X, rfl, ⟨by simp only [fX10_takeR, hz_1], by simp only [fX10_takeS, hz_1], by simp only [fX10_takeH, hz_1]⟩, by rw [ht]; exact hP, va_K.moved hW.alike hK, hD⟩, hS.F ht⟩) hS.2.2 dX10_take_12)
  | some i_2 =>
    refine W.eq (g2 := F0 m 5 ls [.ref (C i_2).2.1]) rfl ?_
    have hi_2 := fz_lt hz_1
    refine lv_astore_n (lv' := [(2, .ref (C i_2).2.1), (0, .ref x.xo), (1, .int pl)]) hx hb dX10_take_5 rfl hl (by decide) rfl (fun ls hl => ?_)
    refine lv_aload_n hx hb dX10_take_6 rfl (lv_at hl 0 rfl) ?_
    refine lv_ifnonnull (tgt := 13) hx hb dX10_take_7 (by decide) ?_
    refine lv_aload_n hx hb dX10_take_13 rfl (lv_at hl 0 rfl) ?_
    have hP := vP_perm (wF_perm g x C P T X hi_2) hP
    have hD := vD_perm (wF_perm g x C P T X hi_2) hD
    refine z_ieQ (ws := wF0 g x n C (C i_2).1 (C i_2).2.1 (C i_2).2.2 (P i_2) T X) (pl := wO g n C P i_2) (rv_X10_takeAct (rest := []) (hC i_2 hi_2) ⟨hx, hb, hml, hown, hts⟩ (hP.subm [2, 3, 4, 5, 6, 7, 8, 9, 10] rfl) (hD.sub [2, 3, 4, 5, 6, 7, 8, 9, 10] (by decide) rfl) (hK.sub (tys' := tyA g) [0, 1] rfl) ⟨Nat.le_of_ble_eq_true rfl, Nat.le_of_ble_eq_true rfl⟩ rfl hl.1 rfl (lv_room (Nat.le_of_ble_eq_true rfl)) dX10_take_14 ⟨Nat.le_of_ble_eq_true rfl, Nat.le_of_ble_eq_true rfl⟩) hP hD hS hA (wY g x n C) (wF0 g x n C (C i_2).1 (C i_2).2.1 (C i_2).2.2 ((ktakeActS (C i_2).1 (P i_2) T X).1) ((ktakeActS (C i_2).1 (P i_2) T X).2.1) ((ktakeActS (C i_2).1 (P i_2) T X).2.2)) [2, 3, 4, 5, 6, 7, 8, 9, 10] [0, 1] [0, 1, 2, 3, 4, 5, 6, 7, 8, 9, 10] rfl rfl (by decide) (by decide) rfl (by decide) (fun H locs hP hD hS => ?_)
    have hP := vP_perm (wU_perm g x C P ((ktakeActS (C i_2).1 (P i_2) T X).1) ((ktakeActS (C i_2).1 (P i_2) T X).2.1) ((ktakeActS (C i_2).1 (P i_2) T X).2.2) hi_2) hP
    have hD := vD_perm (wU_perm g x C P ((ktakeActS (C i_2).1 (P i_2) T X).1) ((ktakeActS (C i_2).1 (P i_2) T X).2.1) ((ktakeActS (C i_2).1 (P i_2) T X).2.2) hi_2) hD
    refine lv_istore_n (lv' := [(3, .int (ktakeActR (C i_2).1 (P i_2) T X)), (2, .ref (C i_2).2.1), (0, .ref x.xo), (1, .int pl)]) hx hb dX10_take_17 rfl hl (by decide) rfl (fun ls hl => ?_)
    refine lv_iload_n hx hb dX10_take_18 rfl (lv_at hl 0 rfl) ?_
    refine lv_bipush (v := (-2)) hx hb dX10_take_19 (by decide) ?_
    refine lv_icmp_ne (tgt := 34) hx hb dX10_take_21 (by decide) (fun c_3 => ?_) (fun c_3 => ?_)
    · -- not (ktakeActR (C i_2).1 (P i_2) T X) = (-2)
      refine lv_iload_n hx hb dX10_take_34 rfl (lv_at hl 0 rfl) ?_
      refine W.widen (k := 1) (n := 8) (by decide) (by decide) ?_
      exact vx_ret (W.iret (v := (ktakeActR (C i_2).1 (P i_2) T X)) hx hb hr (fun t9 ht hW => ⟨⟨(ktakeActR (C i_2).1 (P i_2) T X), wX g x n C (va_up P i_2 ((ktakeActS (C i_2).1 (P i_2) T X).1)) ((ktakeActS (C i_2).1 (P i_2) T X).2.1) ((ktakeActS (C i_2).1 (P i_2) T X).2.2), rfl, ⟨by simp only [fX10_takeR, if_neg c_3, hz_1], by simp only [fX10_takeS, if_neg c_3, hz_1], by simp only [fX10_takeH, if_neg c_3, hz_1]⟩, by rw [ht]; exact hP, va_K.moved hW.alike hK, hD⟩, hS.F ht⟩) hS.2.2 dX10_take_35)
    · -- (ktakeActR (C i_2).1 (P i_2) T X) = (-2)
      exact hNpe _ _ _ _ _ _ _ _ _ _ _ _ _ _ _ _ _ _ _ _ hx hb hlt hown hg hE hS (hl.1.trans hml.symm) htb (Nat.le_of_ble_eq_true rfl) (Nat.le_of_ble_eq_true rfl) (Nat.le_of_ble_eq_true rfl) (Nat.le_of_ble_eq_true rfl) hlocks (fun t9 hal hsz hkp => ⟨wX g x n C (va_up P i_2 ((ktakeActS (C i_2).1 (P i_2) T X).1)) ((ktakeActS (C i_2).1 (P i_2) T X).2.1) ((ktakeActS (C i_2).1 (P i_2) T X).2.2), ⟨by simp only [fX10_takeS, if_pos c_3, hz_1], by simp only [fX10_takeH, if_pos c_3, hz_1]⟩, ⟨rfl, hP.kept (fun k q hk => hkp q.1 (hP k q hk).lt), va_K.moved hal hK, hD⟩, ⟨Nat.le_trans hS.1 hsz, fun q h1 h2 => (hkp q (Nat.lt_of_lt_of_le h1 hS.1)).trans (hS.2.1 q h1 h2)⟩⟩) hS.2.2 (by decide) (by decide)
