def fX10_isOutsideR  (v : Int32) (a : Int32) (b : Int32) : Int32 := (if v < a then 1 else (if v ≤ b then 0 else 1))
set_option maxHeartbeats 4000000 in
set_option maxRecDepth 100000 in
theorem c_X10_isOutside (l : Launch) (D : va_G) (tys : List (ClassId × FieldType))  (v : Int32) (a : Int32) (b : Int32) : ctI l D (tys) yX10_isOutside (wd yX10_isOutside cX10_isOutside 3 (Option.some Jvm.ClassFile.FieldType.boolean)) { frames := 0, cells := 0, slots := 0, locals := 0 } [.int v, .int a, .int b] (([] : va_W)) (fun r w => r = fX10_isOutsideR v a b ∧ w = ([] : va_W)) := by
  intro sz
  refine Met.ofW (cc := cX10_isOutside) (maxL := 3) (ret := (Option.some Jvm.ClassFile.FieldType.boolean)) (by decide) rfl ?_
  intro p e s m args below meth c s₁ B hml hv
  obtain ⟨rfl, hsz, hP, hK, hD0⟩ := hv
  have hx := B.exec
  have hb := B.bytes
  have hr := B.returns
  have hts := atoms_spec (ws := (wd yX10_isOutside cX10_isOutside 3 (Option.some Jvm.ClassFile.FieldType.boolean))) B.pre
  have hg := Tb.of hts
  have hown : s.vm.findClass RX10 = some m.cls := findClass_of_methodNamed B.named
  have hlocks := B.notSynchronized
  subst hsz
  have hD := hD0.self (sz := s.heap.size)
  generalize hAe : va_A (([] : va_W)) s.heap.size = A at hD ⊢
  have hA : ∀ q : Nat, s.heap.size ≤ q → A q := fun q h => by rw [← hAe]; exact Or.inr h
  have hS : va_S A s.heap s.heap [] := va_S.rf
  have hP : va_P D vwCl (([] : va_W)) s.heap := hP
  have hl := lv_entry ([.int v, .int a, .int b]) (n := 3) (Nat.le_of_ble_eq_true rfl)
  rw [lg_entry_eq]
  generalize (lg_sl ([.int v, .int a, .int b]) ++ List.replicate (3 - (lg_sl ([.int v, .int a, .int b])).length) Slot.unset).toArray = ls at hl ⊢
  have hl : lv_has ls 3 [(0, .int v), (1, .int a), (2, .int b)] := hl
  refine lv_iload_n hx hb dX10_isOutside_0 rfl (lv_at hl 0 rfl) ?_
  refine lv_iload_n hx hb dX10_isOutside_1 rfl (lv_at hl 1 rfl) ?_
  refine lv_icmp_lt (tgt := 10) hx hb dX10_isOutside_2 (by decide) (fun c_1 => ?_) (fun c_1 => ?_)
  · -- v < a
    refine lv_iconst (v := 1) hx hb dX10_isOutside_10 (by decide) ?_
    refine lv_goto (tgt := 15) hx hb dX10_isOutside_11 (by decide) ?_
    exact W.zret (v := 1) (ty := .boolean) hx hb hr rfl (fun t9 ht hW => ⟨⟨1, ([] : va_W), rfl, ⟨by simp only [fX10_isOutsideR, if_pos c_1], rfl⟩, by rw [ht]; exact hP, va_K.moved hW.alike hK, hD⟩, hS.F ht⟩) hS.2.2 dX10_isOutside_15
  · -- not v < a
    refine lv_iload_n hx hb dX10_isOutside_5 rfl (lv_at hl 0 rfl) ?_
    refine lv_iload_n hx hb dX10_isOutside_6 rfl (lv_at hl 2 rfl) ?_
    refine lv_icmp_le (tgt := 14) hx hb dX10_isOutside_7 (by decide) (fun c_2 => ?_) (fun c_2 => ?_)
    · -- v ≤ b
      refine lv_iconst (v := 0) hx hb dX10_isOutside_14 (by decide) ?_
      exact W.zret (v := 0) (ty := .boolean) hx hb hr rfl (fun t9 ht hW => ⟨⟨0, ([] : va_W), rfl, ⟨by simp only [fX10_isOutsideR, if_neg c_1, if_pos c_2], rfl⟩, by rw [ht]; exact hP, va_K.moved hW.alike hK, hD⟩, hS.F ht⟩) hS.2.2 dX10_isOutside_15
    · -- not v ≤ b
      refine lv_iconst (v := 1) hx hb dX10_isOutside_10 (by decide) ?_
      refine lv_goto (tgt := 15) hx hb dX10_isOutside_11 (by decide) ?_
      exact W.zret (v := 1) (ty := .boolean) hx hb hr rfl (fun t9 ht hW => ⟨⟨1, ([] : va_W), rfl, ⟨by simp only [fX10_isOutsideR, if_neg c_1, if_neg c_2], rfl⟩, by rw [ht]; exact hP, va_K.moved hW.alike hK, hD⟩, hS.F ht⟩) hS.2.2 dX10_isOutside_15

set_option maxHeartbeats 4000000 in
set_option maxRecDepth 100000 in
theorem c_X10_pileOf (l : Launch) (D : va_G) (g : GA) (x : GX) (n : Nat) (hn : n ≤ 12) (C : CZ) (pl : Int32) : ctQ l D (tyX g x) yX10_pileOf (wd yX10_pileOf cX10_pileOf 2 (Option.some (Jvm.ClassFile.FieldType.object "PileHeirs$Plain"))) { frames := 0, cells := 0, slots := 0, locals := 0 } [.ref x.xo, .int pl] (wY g x n C) (fun r w => r = (fz n pl).map (fun i => (C i).2.1) ∧ w = wY g x n C) := by
  intro sz
  refine Met.ofW (cc := cX10_pileOf) (maxL := 2) (ret := (Option.some (Jvm.ClassFile.FieldType.object "PileHeirs$Plain"))) (by decide) rfl ?_
  intro p e s m args below meth c s₁ B hml hv
  obtain ⟨rfl, hsz, hP, hK, hD0⟩ := hv
  have hx := B.exec
  have hb := B.bytes
  have hr := B.returns
  have hts := atoms_spec (ws := wd yX10_pileOf cX10_pileOf 2 (Option.some (Jvm.ClassFile.FieldType.object "PileHeirs$Plain"))) B.pre
  have hg := Tb.of hts
  have hown : s.vm.findClass RX10 = some m.cls := findClass_of_methodNamed B.named
  have hlocks := B.notSynchronized
  subst hsz
  have hD := hD0.self (sz := s.heap.size)
  generalize hAe : va_A (wY g x n C) s.heap.size = A at hD ⊢
  have hA : ∀ q : Nat, s.heap.size ≤ q → A q := fun q h => by rw [← hAe]; exact Or.inr h
  have hS : va_S A s.heap s.heap [] := va_S.rf
  have hP : va_P D vwCl (wY g x n C) s.heap := hP
  have hl := lv_entry ([.ref x.xo, .int pl]) (n := 2) (Nat.le_of_ble_eq_true rfl)
  rw [lg_entry_eq]
  generalize (lg_sl ([.ref x.xo, .int pl]) ++ List.replicate (2 - (lg_sl ([.ref x.xo, .int pl])).length) Slot.unset).toArray = ls at hl ⊢
  have hl : lv_has ls 2 [(0, .ref x.xo), (1, .int pl)] := hl
  refine lv_iload_n hx hb dX10_pileOf_0 rfl (lv_at hl 1 rfl) ?_
  refine lv_if_lt (tgt := 21) hx hb dX10_pileOf_1 (by decide) (fun c_1 => ?_) (fun c_1 => ?_)
  · refine lv_null hx hb dX10_pileOf_21 ?_
    exact W.aret (v := va_rf (none : Option Nat)) hx hb hr (Or.inl ⟨_, rfl⟩) (va_rf_or _) (fun t9 ht hW => ⟨⟨(none : Option Nat), wY g x n C, rfl, ⟨by rw [fz_neg c_1]; rfl, rfl⟩, by rw [ht]; exact hP, va_K.moved hW.alike hK, hD⟩, hS.F ht⟩) hS.2.2 dX10_pileOf_22
  · refine lv_iload_n hx hb dX10_pileOf_4 rfl (lv_at hl 1 rfl) ?_
    refine lv_aload_n hx hb dX10_pileOf_5 rfl (lv_at hl 0 rfl) ?_
    refine va_get (D := D) (ci := 11) (v := .int (nI n)) (C := RX10) (T := TX10) (N := 4) hx hb hg in_X10 hown hK hP 0 rfl rfl 3 (by decide) (hg _ g_81) (fun _ h9 => h9) rfl dX10_pileOf_6 ?_
    refine lv_icmp_ge (tgt := 21) hx hb dX10_pileOf_9 (by decide) (fun c_2 => ?_) (fun c_2 => ?_)
    · refine lv_null hx hb dX10_pileOf_21 ?_
      exact W.aret (v := va_rf (none : Option Nat)) hx hb hr (Or.inl ⟨_, rfl⟩) (va_rf_or _) (fun t9 ht hW => ⟨⟨(none : Option Nat), wY g x n C, rfl, ⟨by rw [fz_ge hn c_2]; rfl, rfl⟩, by rw [ht]; exact hP, va_K.moved hW.alike hK, hD⟩, hS.F ht⟩) hS.2.2 dX10_pileOf_22
    · have hz : fz n pl = some pl.toNatClampNeg := fz_in hn c_1 c_2
      have hlt := fz_lt hz
      have h12 : pl < 12 := by
        rw [Int32.le_iff_toInt_le, nI_toInt (by omega)] at c_2
        rw [Int32.lt_iff_toInt_lt, show (12 : Int32).toInt = 12 from rfl]
        omega
      refine lv_iload_n hx hb dX10_pileOf_12 rfl (lv_at hl 1 rfl) ?_
      refine lv_aload_n hx hb dX10_pileOf_13 rfl (lv_at hl 0 rfl) ?_
      refine va_get (D := D) (ci := 11) (v := .ref x.pa) (C := RX10) (T := TX10) (N := 4) hx hb hg in_X10 hown hK hP 0 rfl rfl 2 (by decide) (hg _ g_80) (fun _ h9 => h9) rfl dX10_pileOf_14 ?_
      refine va_alen hx hb hK hP 1 2 rfl rfl (v := 12) rfl dX10_pileOf_17 ?_
      refine lv_icmp_lt (tgt := 23) hx hb dX10_pileOf_18 (by decide) (fun _ => ?_) (fun c_3 => absurd h12 c_3)
      refine lv_aload_n hx hb dX10_pileOf_23 rfl (lv_at hl 0 rfl) ?_
      refine va_get (D := D) (ci := 11) (v := .ref x.pa) (C := RX10) (T := TX10) (N := 4) hx hb hg in_X10 hown hK hP 0 rfl rfl 2 (by decide) (hg _ g_80) (fun _ h9 => h9) rfl dX10_pileOf_24 ?_
      refine lv_iload_n hx hb dX10_pileOf_27 rfl (lv_at hl 1 rfl) ?_
      refine va_aldq (C := "PileHeirs$Plain") hx hb hK hP 1 2 rfl rfl (in_lt (v := 12) (by decide) c_1 h12) dX10_pileOf_28 ?_
      exact W.aret (v := va_rf (pfn n C pl.toNatClampNeg)) hx hb hr (Or.inl ⟨_, rfl⟩) (va_rf_or _) (fun t9 ht hW => ⟨⟨(pfn n C pl.toNatClampNeg), wY g x n C, rfl, ⟨by rw [hz]; show pfn n C _ = _; unfold pfn; rw [if_pos hlt]; rfl, rfl⟩, by rw [ht]; exact hP, va_K.moved hW.alike hK, hD⟩, hS.F ht⟩) hS.2.2 dX10_pileOf_29

set_option maxHeartbeats 4000000 in
set_option maxRecDepth 100000 in
theorem rv_X10_putAct {p : Program} {l : Launch} {e : Env} {R : Room} {s : State} {m : MethodId} {args : Array Value} {below : List Frame} {meth : Method} {c : Code} {H : Heap} {locs : List Loc} {cells slots : Nat} {y0 : MethodName} {b0 cc : ByteArray} {n0 nL : Nat} {r0 : Option FieldType} {D : va_G} {g : GA} {ci h rw : Nat} {P : PP} {T : TT} {X : DD} {B : Nat → Prop} {rest : List Value} {fr : JFrame} {t : Int32}
    (hci : pkAll ci) (S : CallFix p m c cc nL s args (wd y0 b0 n0 r0) RX10) (hP : va_P D vwCl (wA g ci h rw P T X) H) (hD : va_D B (wA g ci h rw P T X)) (hK : va_K D vwCl (tyA g) s) (hR : 5 ≤ R.frames ∧ 107 ≤ R.locals) (hg : fr.method = m) (hsize : fr.locals.size = nL) (hstack : fr.stack = [.int t].reverse ++ .ref h :: rest) (hW : 2 * fr.monitorRoom + (rest.map fun v => v.category).sum ≤ 8) (hdg : decode cc fr.pc = .ok (.invokevirtual 56, 3)) (hf : cells + 0 ≤ R.cells ∧ slots + 0 ≤ R.slots) :
    va_Run p l e R s m args below meth c H locs cells slots 0 0 fr rest (va_Qi (fun r w => r = kputActR ci P T X t ∧ w = wA g ci h rw (kputActS ci P T X t).1 (kputActS ci P T X t).2.1 (kputActS ci P T X t).2.2) (ctB D (tyA g) (va_A (wA g ci h rw P T X) H.size)) (va_A (wA g ci h rw P T X) H.size) (Value.ref h :: [.int t]).toArray) (va_A (wA g ci h rw P T X) H.size) := by
  rcases hci with rfl | rfl | rfl | rfl | rfl | rfl | rfl | rfl
  · exact va_runU (C := vn 1) (As := [.int t]) S (c_X5_putAct l D g 1 h rw (by simp [pkSo]) P T X t _) (z_U (x := ⟨"PileHeirs$Plain", "putAct", "(I)I"⟩) (owner := RX4) 1 S.2.2.2.2 g_451 g_7 g_502 g_856 g_456 g_457 g_857 g_450 ⟨by decide, by decide, by decide +kernel⟩ ⟨Nat.le_trans (Nat.le_of_ble_eq_true rfl) hR.1, Nat.le_trans (Nat.le_of_ble_eq_true rfl) hR.2⟩) (z_preV (ci := 1) (q0 := 0) hP hD hK (pq_cl (by simp [pkAll])) rfl) hg rfl hsize hstack hW hdg hf
  · exact va_runU (C := vn 2) (As := [.int t]) S (c_X6_putAct l D g 2 h rw (by simp [pkSt]) P T X t _) (z_U (x := ⟨"PileHeirs$Plain", "putAct", "(I)I"⟩) (owner := RX4) 1 S.2.2.2.2 g_504 g_8 g_502 g_856 g_456 g_457 g_858 g_503 ⟨by decide, by decide, by decide +kernel⟩ ⟨Nat.le_trans (Nat.le_of_ble_eq_true rfl) hR.1, Nat.le_trans (Nat.le_of_ble_eq_true rfl) hR.2⟩) (z_preV (ci := 2) (q0 := 0) hP hD hK (pq_cl (by simp [pkAll])) rfl) hg rfl hsize hstack hW hdg hf
  · exact va_runU (C := vn 3) (As := [.int t]) S (c_X4_putAct l D g 3 h rw (by simp [pkAll]) P T X t _) (z_U (x := ⟨"PileHeirs$Plain", "putAct", "(I)I"⟩) (owner := RX4) 1 S.2.2.2.2 g_457 g_5 g_502 g_856 g_456 g_457 g_859 g_456 ⟨by decide, by decide, by decide +kernel⟩ ⟨Nat.le_trans (Nat.le_of_ble_eq_true rfl) hR.1, Nat.le_trans (Nat.le_of_ble_eq_true rfl) hR.2⟩) (z_preV (ci := 3) (q0 := 0) hP hD hK (pq_cl (by simp [pkAll])) rfl) hg rfl hsize hstack hW hdg hf
  · exact va_runU (C := vn 4) (As := [.int t]) S (c_X3_putAct l D g 4 h rw (by simp [pkOp]) P T X t _) (z_U (x := ⟨"PileHeirs$Plain", "putAct", "(I)I"⟩) (owner := RX4) 1 S.2.2.2.2 g_446 g_11 g_502 g_856 g_456 g_457 g_860 g_445 ⟨by decide, by decide, by decide +kernel⟩ ⟨Nat.le_trans (Nat.le_of_ble_eq_true rfl) hR.1, Nat.le_trans (Nat.le_of_ble_eq_true rfl) hR.2⟩) (z_preV (ci := 4) (q0 := 0) hP hD hK (pq_cl (by simp [pkAll])) rfl) hg rfl hsize hstack hW hdg hf
  · exact va_runU (C := vn 5) (As := [.int t]) S (c_X4_putAct l D g 5 h rw (by simp [pkAll]) P T X t _) (z_U (x := ⟨"PileHeirs$Plain", "putAct", "(I)I"⟩) (owner := RX4) 1 S.2.2.2.2 g_457 g_5 g_502 g_856 g_456 g_457 g_861 g_456 ⟨by decide, by decide, by decide +kernel⟩ ⟨Nat.le_trans (Nat.le_of_ble_eq_true rfl) hR.1, Nat.le_trans (Nat.le_of_ble_eq_true rfl) hR.2⟩) (z_preV (ci := 5) (q0 := 0) hP hD hK (pq_cl (by simp [pkAll])) rfl) hg rfl hsize hstack hW hdg hf
  · exact va_runU (C := vn 6) (As := [.int t]) S (c_X5_putAct l D g 6 h rw (by simp [pkSo]) P T X t _) (z_U (x := ⟨"PileHeirs$Plain", "putAct", "(I)I"⟩) (owner := RX4) 1 S.2.2.2.2 g_451 g_7 g_502 g_856 g_456 g_457 g_862 g_450 ⟨by decide, by decide, by decide +kernel⟩ ⟨Nat.le_trans (Nat.le_of_ble_eq_true rfl) hR.1, Nat.le_trans (Nat.le_of_ble_eq_true rfl) hR.2⟩) (z_preV (ci := 6) (q0 := 0) hP hD hK (pq_cl (by simp [pkAll])) rfl) hg rfl hsize hstack hW hdg hf
  · exact va_runU (C := vn 7) (As := [.int t]) S (c_X6_putAct l D g 7 h rw (by simp [pkSt]) P T X t _) (z_U (x := ⟨"PileHeirs$Plain", "putAct", "(I)I"⟩) (owner := RX4) 1 S.2.2.2.2 g_504 g_8 g_502 g_856 g_456 g_457 g_863 g_503 ⟨by decide, by decide, by decide +kernel⟩ ⟨Nat.le_trans (Nat.le_of_ble_eq_true rfl) hR.1, Nat.le_trans (Nat.le_of_ble_eq_true rfl) hR.2⟩) (z_preV (ci := 7) (q0 := 0) hP hD hK (pq_cl (by simp [pkAll])) rfl) hg rfl hsize hstack hW hdg hf
  · exact va_runU (C := vn 10) (As := [.int t]) S (c_X6_putAct l D g 10 h rw (by simp [pkSt]) P T X t _) (z_U (x := ⟨"PileHeirs$Plain", "putAct", "(I)I"⟩) (owner := RX4) 1 S.2.2.2.2 g_504 g_8 g_502 g_856 g_456 g_457 g_864 g_503 ⟨by decide, by decide, by decide +kernel⟩ ⟨Nat.le_trans (Nat.le_of_ble_eq_true rfl) hR.1, Nat.le_trans (Nat.le_of_ble_eq_true rfl) hR.2⟩) (z_preV (ci := 10) (q0 := 0) hP hD hK (pq_cl (by simp [pkAll])) rfl) hg rfl hsize hstack hW hdg hf

set_option maxHeartbeats 4000000 in
set_option maxRecDepth 100000 in
theorem rv_X10_takeAct {p : Program} {l : Launch} {e : Env} {R : Room} {s : State} {m : MethodId} {args : Array Value} {below : List Frame} {meth : Method} {c : Code} {H : Heap} {locs : List Loc} {cells slots : Nat} {y0 : MethodName} {b0 cc : ByteArray} {n0 nL : Nat} {r0 : Option FieldType} {D : va_G} {g : GA} {ci h rw : Nat} {P : PP} {T : TT} {X : DD} {B : Nat → Prop} {rest : List Value} {fr : JFrame} 
    (hci : pkAll ci) (S : CallFix p m c cc nL s args (wd y0 b0 n0 r0) RX10) (hP : va_P D vwCl (wA g ci h rw P T X) H) (hD : va_D B (wA g ci h rw P T X)) (hK : va_K D vwCl (tyA g) s) (hR : 6 ≤ R.frames ∧ 128 ≤ R.locals) (hg : fr.method = m) (hsize : fr.locals.size = nL) (hstack : fr.stack = [].reverse ++ .ref h :: rest) (hW : 2 * fr.monitorRoom + (rest.map fun v => v.category).sum ≤ 8) (hdg : decode cc fr.pc = .ok (.invokevirtual 66, 3)) (hf : cells + 0 ≤ R.cells ∧ slots + 0 ≤ R.slots) :
    va_Run p l e R s m args below meth c H locs cells slots 0 0 fr rest (va_Qi (fun r w => r = ktakeActR ci P T X  ∧ w = wA g ci h rw (ktakeActS ci P T X ).1 (ktakeActS ci P T X ).2.1 (ktakeActS ci P T X ).2.2) (ctB D (tyA g) (va_A (wA g ci h rw P T X) H.size)) (va_A (wA g ci h rw P T X) H.size) (Value.ref h :: []).toArray) (va_A (wA g ci h rw P T X) H.size) := by
  rcases hci with rfl | rfl | rfl | rfl | rfl | rfl | rfl | rfl
  · exact va_runU (C := vn 1) (As := []) S (c_X0_takeAct l D g 1 h rw (by simp [pkDr]) P T X  _) (z_U (x := ⟨"PileHeirs$Plain", "takeAct", "()I"⟩) (owner := RX4) 0 S.2.2.2.2 g_428 g_9 g_422 g_425 g_423 g_501 g_426 g_427 ⟨by decide, by decide, by decide +kernel⟩ ⟨Nat.le_trans (Nat.le_of_ble_eq_true rfl) hR.1, Nat.le_trans (Nat.le_of_ble_eq_true rfl) hR.2⟩) (z_preV (ci := 1) (q0 := 0) hP hD hK (pq_cl (by simp [pkAll])) rfl) hg rfl hsize hstack hW hdg hf
  · exact va_runU (C := vn 2) (As := []) S (c_X1_takeAct l D g 2 h rw (by simp [pkLe]) P T X  _) (z_U (x := ⟨"PileHeirs$Plain", "takeAct", "()I"⟩) (owner := RX4) 0 S.2.2.2.2 g_487 g_12 g_422 g_425 g_423 g_501 g_485 g_486 ⟨by decide, by decide, by decide +kernel⟩ ⟨Nat.le_trans (Nat.le_of_ble_eq_true rfl) hR.1, Nat.le_trans (Nat.le_of_ble_eq_true rfl) hR.2⟩) (z_preV (ci := 2) (q0 := 0) hP hD hK (pq_cl (by simp [pkAll])) rfl) hg rfl hsize hstack hW hdg hf
  · exact va_runU (C := vn 3) (As := []) S (c_X4_takeAct l D g 3 h rw (by simp [pkAll]) P T X  _) (z_U (x := ⟨"PileHeirs$Plain", "takeAct", "()I"⟩) (owner := RX4) 0 S.2.2.2.2 g_501 g_5 g_422 g_425 g_423 g_501 g_496 g_423 ⟨by decide, by decide, by decide +kernel⟩ ⟨Nat.le_trans (Nat.le_of_ble_eq_true rfl) hR.1, Nat.le_trans (Nat.le_of_ble_eq_true rfl) hR.2⟩) (z_preV (ci := 3) (q0 := 0) hP hD hK (pq_cl (by simp [pkAll])) rfl) hg rfl hsize hstack hW hdg hf
  · exact va_runU (C := vn 4) (As := []) S (c_X0_takeAct l D g 4 h rw (by simp [pkDr]) P T X  _) (z_U (x := ⟨"PileHeirs$Plain", "takeAct", "()I"⟩) (owner := RX4) 0 S.2.2.2.2 g_428 g_9 g_422 g_425 g_423 g_501 g_497 g_427 ⟨by decide, by decide, by decide +kernel⟩ ⟨Nat.le_trans (Nat.le_of_ble_eq_true rfl) hR.1, Nat.le_trans (Nat.le_of_ble_eq_true rfl) hR.2⟩) (z_preV (ci := 4) (q0 := 0) hP hD hK (pq_cl (by simp [pkAll])) rfl) hg rfl hsize hstack hW hdg hf
  · exact va_runU (C := vn 5) (As := []) S (c_X4_takeAct l D g 5 h rw (by simp [pkAll]) P T X  _) (z_U (x := ⟨"PileHeirs$Plain", "takeAct", "()I"⟩) (owner := RX4) 0 S.2.2.2.2 g_501 g_5 g_422 g_425 g_423 g_501 g_424 g_423 ⟨by decide, by decide, by decide +kernel⟩ ⟨Nat.le_trans (Nat.le_of_ble_eq_true rfl) hR.1, Nat.le_trans (Nat.le_of_ble_eq_true rfl) hR.2⟩) (z_preV (ci := 5) (q0 := 0) hP hD hK (pq_cl (by simp [pkAll])) rfl) hg rfl hsize hstack hW hdg hf
  · exact va_runU (C := vn 6) (As := []) S (c_X4_takeAct l D g 6 h rw (by simp [pkAll]) P T X  _) (z_U (x := ⟨"PileHeirs$Plain", "takeAct", "()I"⟩) (owner := RX4) 0 S.2.2.2.2 g_501 g_5 g_422 g_425 g_423 g_501 g_498 g_423 ⟨by decide, by decide, by decide +kernel⟩ ⟨Nat.le_trans (Nat.le_of_ble_eq_true rfl) hR.1, Nat.le_trans (Nat.le_of_ble_eq_true rfl) hR.2⟩) (z_preV (ci := 6) (q0 := 0) hP hD hK (pq_cl (by simp [pkAll])) rfl) hg rfl hsize hstack hW hdg hf
  · exact va_runU (C := vn 7) (As := []) S (c_X4_takeAct l D g 7 h rw (by simp [pkAll]) P T X  _) (z_U (x := ⟨"PileHeirs$Plain", "takeAct", "()I"⟩) (owner := RX4) 0 S.2.2.2.2 g_501 g_5 g_422 g_425 g_423 g_501 g_499 g_423 ⟨by decide, by decide, by decide +kernel⟩ ⟨Nat.le_trans (Nat.le_of_ble_eq_true rfl) hR.1, Nat.le_trans (Nat.le_of_ble_eq_true rfl) hR.2⟩) (z_preV (ci := 7) (q0 := 0) hP hD hK (pq_cl (by simp [pkAll])) rfl) hg rfl hsize hstack hW hdg hf
  · exact va_runU (C := vn 10) (As := []) S (c_X4_takeAct l D g 10 h rw (by simp [pkAll]) P T X  _) (z_U (x := ⟨"PileHeirs$Plain", "takeAct", "()I"⟩) (owner := RX4) 0 S.2.2.2.2 g_501 g_5 g_422 g_425 g_423 g_501 g_500 g_423 ⟨by decide, by decide, by decide +kernel⟩ ⟨Nat.le_trans (Nat.le_of_ble_eq_true rfl) hR.1, Nat.le_trans (Nat.le_of_ble_eq_true rfl) hR.2⟩) (z_preV (ci := 10) (q0 := 0) hP hD hK (pq_cl (by simp [pkAll])) rfl) hg rfl hsize hstack hW hdg hf

set_option maxHeartbeats 4000000 in
set_option maxRecDepth 100000 in
theorem rv_X10_loadAct {p : Program} {l : Launch} {e : Env} {R : Room} {s : State} {m : MethodId} {args : Array Value} {below : List Frame} {meth : Method} {c : Code} {H : Heap} {locs : List Loc} {cells slots : Nat} {y0 : MethodName} {b0 cc : ByteArray} {n0 nL : Nat} {r0 : Option FieldType} {D : va_G} {g : GA} {ci h rw : Nat} {P : PP} {T : TT} {X : DD} {B : Nat → Prop} {rest : List Value} {fr : JFrame} 
    (hci : pkAll ci) (S : CallFix p m c cc nL s args (wd y0 b0 n0 r0) RX10) (hP : va_P D vwCl (wA g ci h rw P T X) H) (hD : va_D B (wA g ci h rw P T X)) (hK : va_K D vwCl (tyA g) s) (hR : 4 ≤ R.frames ∧ 86 ≤ R.locals) (hg : fr.method = m) (hsize : fr.locals.size = nL) (hstack : fr.stack = [].reverse ++ .ref h :: rest) (hW : 2 * fr.monitorRoom + (rest.map fun v => v.category).sum ≤ 8) (hdg : decode cc fr.pc = .ok (.invokevirtual 75, 3)) (hf : cells + 0 ≤ R.cells ∧ slots + 0 ≤ R.slots) :
    va_Run p l e R s m args below meth c H locs cells slots 0 0 fr rest (va_Qi (fun r w => r = kloadActR ci P T X  ∧ w = wA g ci h rw (kloadActS ci P T X ).1 (kloadActS ci P T X ).2.1 (kloadActS ci P T X ).2.2) (ctB D (tyA g) (va_A (wA g ci h rw P T X) H.size)) (va_A (wA g ci h rw P T X) H.size) (Value.ref h :: []).toArray) (va_A (wA g ci h rw P T X) H.size) := by
  rcases hci with rfl | rfl | rfl | rfl | rfl | rfl | rfl | rfl
  · exact va_runU (C := vn 1) (As := []) S (c_X4_loadAct l D g 1 h rw (by simp [pkAll]) P T X  _) (z_U (x := ⟨"PileHeirs$Plain", "loadAct", "()I"⟩) (owner := RX4) 0 S.2.2.2.2 g_315 g_5 g_267 g_270 g_268 g_315 g_271 g_268 ⟨by decide, by decide, by decide +kernel⟩ ⟨Nat.le_trans (Nat.le_of_ble_eq_true rfl) hR.1, Nat.le_trans (Nat.le_of_ble_eq_true rfl) hR.2⟩) (z_preV (ci := 1) (q0 := 0) hP hD hK (pq_cl (by simp [pkAll])) rfl) hg rfl hsize hstack hW hdg hf
  · exact va_runU (C := vn 2) (As := []) S (c_X9_loadAct l D g 2 h rw (by simp [pkTw]) P T X  _) (z_U (x := ⟨"PileHeirs$Plain", "loadAct", "()I"⟩) (owner := RX4) 0 S.2.2.2.2 g_274 g_10 g_267 g_270 g_268 g_315 g_272 g_273 ⟨by decide, by decide, by decide +kernel⟩ ⟨Nat.le_trans (Nat.le_of_ble_eq_true rfl) hR.1, Nat.le_trans (Nat.le_of_ble_eq_true rfl) hR.2⟩) (z_preV (ci := 2) (q0 := 0) hP hD hK (pq_cl (by simp [pkAll])) rfl) hg rfl hsize hstack hW hdg hf
  · exact va_runU (C := vn 3) (As := []) S (c_X4_loadAct l D g 3 h rw (by simp [pkAll]) P T X  _) (z_U (x := ⟨"PileHeirs$Plain", "loadAct", "()I"⟩) (owner := RX4) 0 S.2.2.2.2 g_315 g_5 g_267 g_270 g_268 g_315 g_285 g_268 ⟨by decide, by decide, by decide +kernel⟩ ⟨Nat.le_trans (Nat.le_of_ble_eq_true rfl) hR.1, Nat.le_trans (Nat.le_of_ble_eq_true rfl) hR.2⟩) (z_preV (ci := 3) (q0 := 0) hP hD hK (pq_cl (by simp [pkAll])) rfl) hg rfl hsize hstack hW hdg hf
  · exact va_runU (C := vn 4) (As := []) S (c_X3_loadAct l D g 4 h rw (by simp [pkOp]) P T X  _) (z_U (x := ⟨"PileHeirs$Plain", "loadAct", "()I"⟩) (owner := RX4) 0 S.2.2.2.2 g_288 g_11 g_267 g_270 g_268 g_315 g_286 g_287 ⟨by decide, by decide, by decide +kernel⟩ ⟨Nat.le_trans (Nat.le_of_ble_eq_true rfl) hR.1, Nat.le_trans (Nat.le_of_ble_eq_true rfl) hR.2⟩) (z_preV (ci := 4) (q0 := 0) hP hD hK (pq_cl (by simp [pkAll])) rfl) hg rfl hsize hstack hW hdg hf
  · exact va_runU (C := vn 5) (As := []) S (c_X4_loadAct l D g 5 h rw (by simp [pkAll]) P T X  _) (z_U (x := ⟨"PileHeirs$Plain", "loadAct", "()I"⟩) (owner := RX4) 0 S.2.2.2.2 g_315 g_5 g_267 g_270 g_268 g_315 g_269 g_268 ⟨by decide, by decide, by decide +kernel⟩ ⟨Nat.le_trans (Nat.le_of_ble_eq_true rfl) hR.1, Nat.le_trans (Nat.le_of_ble_eq_true rfl) hR.2⟩) (z_preV (ci := 5) (q0 := 0) hP hD hK (pq_cl (by simp [pkAll])) rfl) hg rfl hsize hstack hW hdg hf
  · exact va_runU (C := vn 6) (As := []) S (c_X4_loadAct l D g 6 h rw (by simp [pkAll]) P T X  _) (z_U (x := ⟨"PileHeirs$Plain", "loadAct", "()I"⟩) (owner := RX4) 0 S.2.2.2.2 g_315 g_5 g_267 g_270 g_268 g_315 g_312 g_268 ⟨by decide, by decide, by decide +kernel⟩ ⟨Nat.le_trans (Nat.le_of_ble_eq_true rfl) hR.1, Nat.le_trans (Nat.le_of_ble_eq_true rfl) hR.2⟩) (z_preV (ci := 6) (q0 := 0) hP hD hK (pq_cl (by simp [pkAll])) rfl) hg rfl hsize hstack hW hdg hf
  · exact va_runU (C := vn 7) (As := []) S (c_X4_loadAct l D g 7 h rw (by simp [pkAll]) P T X  _) (z_U (x := ⟨"PileHeirs$Plain", "loadAct", "()I"⟩) (owner := RX4) 0 S.2.2.2.2 g_315 g_5 g_267 g_270 g_268 g_315 g_313 g_268 ⟨by decide, by decide, by decide +kernel⟩ ⟨Nat.le_trans (Nat.le_of_ble_eq_true rfl) hR.1, Nat.le_trans (Nat.le_of_ble_eq_true rfl) hR.2⟩) (z_preV (ci := 7) (q0 := 0) hP hD hK (pq_cl (by simp [pkAll])) rfl) hg rfl hsize hstack hW hdg hf
  · exact va_runU (C := vn 10) (As := []) S (c_X9_loadAct l D g 10 h rw (by simp [pkTw]) P T X  _) (z_U (x := ⟨"PileHeirs$Plain", "loadAct", "()I"⟩) (owner := RX4) 0 S.2.2.2.2 g_274 g_10 g_267 g_270 g_268 g_315 g_314 g_273 ⟨by decide, by decide, by decide +kernel⟩ ⟨Nat.le_trans (Nat.le_of_ble_eq_true rfl) hR.1, Nat.le_trans (Nat.le_of_ble_eq_true rfl) hR.2⟩) (z_preV (ci := 10) (q0 := 0) hP hD hK (pq_cl (by simp [pkAll])) rfl) hg rfl hsize hstack hW hdg hf

set_option maxHeartbeats 4000000 in
set_option maxRecDepth 100000 in
theorem rv_X10_searchAct {p : Program} {l : Launch} {e : Env} {R : Room} {s : State} {m : MethodId} {args : Array Value} {below : List Frame} {meth : Method} {c : Code} {H : Heap} {locs : List Loc} {cells slots : Nat} {y0 : MethodName} {b0 cc : ByteArray} {n0 nL : Nat} {r0 : Option FieldType} {D : va_G} {g : GA} {ci h rw : Nat} {P : PP} {T : TT} {X : DD} {B : Nat → Prop} {rest : List Value} {fr : JFrame} {i : Int32}
    (hci : pkAll ci) (S : CallFix p m c cc nL s args (wd y0 b0 n0 r0) RX10) (hP : va_P D vwCl (wA g ci h rw P T X) H) (hD : va_D B (wA g ci h rw P T X)) (hK : va_K D vwCl (tyA g) s) (hR : 4 ≤ R.frames ∧ 86 ≤ R.locals) (hg : fr.method = m) (hsize : fr.locals.size = nL) (hstack : fr.stack = [.int i].reverse ++ .ref h :: rest) (hW : 2 * fr.monitorRoom + (rest.map fun v => v.category).sum ≤ 8) (hdg : decode cc fr.pc = .ok (.invokevirtual 78, 3)) (hf : cells + 0 ≤ R.cells ∧ slots + 0 ≤ R.slots) :
    va_Run p l e R s m args below meth c H locs cells slots 0 0 fr rest (va_Qi (fun r w => r = ksearchActR ci P T X i ∧ w = wA g ci h rw (ksearchActS ci P T X i).1 (ksearchActS ci P T X i).2.1 (ksearchActS ci P T X i).2.2) (ctB D (tyA g) (va_A (wA g ci h rw P T X) H.size)) (va_A (wA g ci h rw P T X) H.size) (Value.ref h :: [.int i]).toArray) (va_A (wA g ci h rw P T X) H.size) := by
  rcases hci with rfl | rfl | rfl | rfl | rfl | rfl | rfl | rfl
  · exact va_runU (C := vn 1) (As := [.int i]) S (c_X0_searchAct l D g 1 h rw (by simp [pkDr]) P T X i _) (z_U (x := ⟨"PileHeirs$Plain", "searchAct", "(I)I"⟩) (owner := RX4) 1 S.2.2.2.2 g_332 g_9 g_326 g_329 g_327 g_352 g_330 g_331 ⟨by decide, by decide, by decide +kernel⟩ ⟨Nat.le_trans (Nat.le_of_ble_eq_true rfl) hR.1, Nat.le_trans (Nat.le_of_ble_eq_true rfl) hR.2⟩) (z_preV (ci := 1) (q0 := 0) hP hD hK (pq_cl (by simp [pkAll])) rfl) hg rfl hsize hstack hW hdg hf
  · exact va_runU (C := vn 2) (As := [.int i]) S (c_X9_searchAct l D g 2 h rw (by simp [pkTw]) P T X i _) (z_U (x := ⟨"PileHeirs$Plain", "searchAct", "(I)I"⟩) (owner := RX4) 1 S.2.2.2.2 g_344 g_10 g_326 g_329 g_327 g_352 g_342 g_343 ⟨by decide, by decide, by decide +kernel⟩ ⟨Nat.le_trans (Nat.le_of_ble_eq_true rfl) hR.1, Nat.le_trans (Nat.le_of_ble_eq_true rfl) hR.2⟩) (z_preV (ci := 2) (q0 := 0) hP hD hK (pq_cl (by simp [pkAll])) rfl) hg rfl hsize hstack hW hdg hf
  · exact va_runU (C := vn 3) (As := [.int i]) S (c_X4_searchAct l D g 3 h rw (by simp [pkAll]) P T X i _) (z_U (x := ⟨"PileHeirs$Plain", "searchAct", "(I)I"⟩) (owner := RX4) 1 S.2.2.2.2 g_352 g_5 g_326 g_329 g_327 g_352 g_347 g_327 ⟨by decide, by decide, by decide +kernel⟩ ⟨Nat.le_trans (Nat.le_of_ble_eq_true rfl) hR.1, Nat.le_trans (Nat.le_of_ble_eq_true rfl) hR.2⟩) (z_preV (ci := 3) (q0 := 0) hP hD hK (pq_cl (by simp [pkAll])) rfl) hg rfl hsize hstack hW hdg hf
  · exact va_runU (C := vn 4) (As := [.int i]) S (c_X0_searchAct l D g 4 h rw (by simp [pkDr]) P T X i _) (z_U (x := ⟨"PileHeirs$Plain", "searchAct", "(I)I"⟩) (owner := RX4) 1 S.2.2.2.2 g_332 g_9 g_326 g_329 g_327 g_352 g_348 g_331 ⟨by decide, by decide, by decide +kernel⟩ ⟨Nat.le_trans (Nat.le_of_ble_eq_true rfl) hR.1, Nat.le_trans (Nat.le_of_ble_eq_true rfl) hR.2⟩) (z_preV (ci := 4) (q0 := 0) hP hD hK (pq_cl (by simp [pkAll])) rfl) hg rfl hsize hstack hW hdg hf
  · exact va_runU (C := vn 5) (As := [.int i]) S (c_X4_searchAct l D g 5 h rw (by simp [pkAll]) P T X i _) (z_U (x := ⟨"PileHeirs$Plain", "searchAct", "(I)I"⟩) (owner := RX4) 1 S.2.2.2.2 g_352 g_5 g_326 g_329 g_327 g_352 g_328 g_327 ⟨by decide, by decide, by decide +kernel⟩ ⟨Nat.le_trans (Nat.le_of_ble_eq_true rfl) hR.1, Nat.le_trans (Nat.le_of_ble_eq_true rfl) hR.2⟩) (z_preV (ci := 5) (q0 := 0) hP hD hK (pq_cl (by simp [pkAll])) rfl) hg rfl hsize hstack hW hdg hf
  · exact va_runU (C := vn 6) (As := [.int i]) S (c_X4_searchAct l D g 6 h rw (by simp [pkAll]) P T X i _) (z_U (x := ⟨"PileHeirs$Plain", "searchAct", "(I)I"⟩) (owner := RX4) 1 S.2.2.2.2 g_352 g_5 g_326 g_329 g_327 g_352 g_349 g_327 ⟨by decide, by decide, by decide +kernel⟩ ⟨Nat.le_trans (Nat.le_of_ble_eq_true rfl) hR.1, Nat.le_trans (Nat.le_of_ble_eq_true rfl) hR.2⟩) (z_preV (ci := 6) (q0 := 0) hP hD hK (pq_cl (by simp [pkAll])) rfl) hg rfl hsize hstack hW hdg hf
  · exact va_runU (C := vn 7) (As := [.int i]) S (c_X4_searchAct l D g 7 h rw (by simp [pkAll]) P T X i _) (z_U (x := ⟨"PileHeirs$Plain", "searchAct", "(I)I"⟩) (owner := RX4) 1 S.2.2.2.2 g_352 g_5 g_326 g_329 g_327 g_352 g_350 g_327 ⟨by decide, by decide, by decide +kernel⟩ ⟨Nat.le_trans (Nat.le_of_ble_eq_true rfl) hR.1, Nat.le_trans (Nat.le_of_ble_eq_true rfl) hR.2⟩) (z_preV (ci := 7) (q0 := 0) hP hD hK (pq_cl (by simp [pkAll])) rfl) hg rfl hsize hstack hW hdg hf
  · exact va_runU (C := vn 10) (As := [.int i]) S (c_X9_searchAct l D g 10 h rw (by simp [pkTw]) P T X i _) (z_U (x := ⟨"PileHeirs$Plain", "searchAct", "(I)I"⟩) (owner := RX4) 1 S.2.2.2.2 g_344 g_10 g_326 g_329 g_327 g_352 g_351 g_343 ⟨by decide, by decide, by decide +kernel⟩ ⟨Nat.le_trans (Nat.le_of_ble_eq_true rfl) hR.1, Nat.le_trans (Nat.le_of_ble_eq_true rfl) hR.2⟩) (z_preV (ci := 10) (q0 := 0) hP hD hK (pq_cl (by simp [pkAll])) rfl) hg rfl hsize hstack hW hdg hf

set_option maxHeartbeats 4000000 in
set_option maxRecDepth 100000 in
theorem rv_X10_freeAct {p : Program} {l : Launch} {e : Env} {R : Room} {s : State} {m : MethodId} {args : Array Value} {below : List Frame} {meth : Method} {c : Code} {H : Heap} {locs : List Loc} {cells slots : Nat} {y0 : MethodName} {b0 cc : ByteArray} {n0 nL : Nat} {r0 : Option FieldType} {D : va_G} {g : GA} {ci h rw : Nat} {P : PP} {T : TT} {X : DD} {B : Nat → Prop} {rest : List Value} {fr : JFrame} 
    (hci : pkAll ci) (S : CallFix p m c cc nL s args (wd y0 b0 n0 r0) RX10) (hP : va_P D vwCl (wA g ci h rw P T X) H) (hD : va_D B (wA g ci h rw P T X)) (hK : va_K D vwCl (tyA g) s) (hR : 6 ≤ R.frames ∧ 124 ≤ R.locals) (hg : fr.method = m) (hsize : fr.locals.size = nL) (hstack : fr.stack = [].reverse ++ .ref h :: rest) (hW : 2 * fr.monitorRoom + (rest.map fun v => v.category).sum ≤ 8) (hdg : decode cc fr.pc = .ok (.invokevirtual 81, 3)) (hf : cells + 0 ≤ R.cells ∧ slots + 0 ≤ R.slots) :
    va_Run p l e R s m args below meth c H locs cells slots 0 0 fr rest (va_Qi (fun r w => r = kfreeActR ci P T X  ∧ w = wA g ci h rw (kfreeActS ci P T X ).1 (kfreeActS ci P T X ).2.1 (kfreeActS ci P T X ).2.2) (ctB D (tyA g) (va_A (wA g ci h rw P T X) H.size)) (va_A (wA g ci h rw P T X) H.size) (Value.ref h :: []).toArray) (va_A (wA g ci h rw P T X) H.size) := by
  rcases hci with rfl | rfl | rfl | rfl | rfl | rfl | rfl | rfl
  · exact va_runU (C := vn 1) (As := []) S (c_X4_freeAct l D g 1 h rw (by simp [pkAll]) P T X  _) (z_U (x := ⟨"PileHeirs$Plain", "freeAct", "()I"⟩) (owner := RX4) 0 S.2.2.2.2 g_391 g_5 g_361 g_364 g_362 g_391 g_365 g_362 ⟨by decide, by decide, by decide +kernel⟩ ⟨Nat.le_trans (Nat.le_of_ble_eq_true rfl) hR.1, Nat.le_trans (Nat.le_of_ble_eq_true rfl) hR.2⟩) (z_preV (ci := 1) (q0 := 0) hP hD hK (pq_cl (by simp [pkAll])) rfl) hg rfl hsize hstack hW hdg hf
  · exact va_runU (C := vn 2) (As := []) S (c_X1_freeAct l D g 2 h rw (by simp [pkLe]) P T X  _) (z_U (x := ⟨"PileHeirs$Plain", "freeAct", "()I"⟩) (owner := RX4) 0 S.2.2.2.2 g_368 g_12 g_361 g_364 g_362 g_391 g_366 g_367 ⟨by decide, by decide, by decide +kernel⟩ ⟨Nat.le_trans (Nat.le_of_ble_eq_true rfl) hR.1, Nat.le_trans (Nat.le_of_ble_eq_true rfl) hR.2⟩) (z_preV (ci := 2) (q0 := 0) hP hD hK (pq_cl (by simp [pkAll])) rfl) hg rfl hsize hstack hW hdg hf
  · exact va_runU (C := vn 3) (As := []) S (c_X4_freeAct l D g 3 h rw (by simp [pkAll]) P T X  _) (z_U (x := ⟨"PileHeirs$Plain", "freeAct", "()I"⟩) (owner := RX4) 0 S.2.2.2.2 g_391 g_5 g_361 g_364 g_362 g_391 g_386 g_362 ⟨by decide, by decide, by decide +kernel⟩ ⟨Nat.le_trans (Nat.le_of_ble_eq_true rfl) hR.1, Nat.le_trans (Nat.le_of_ble_eq_true rfl) hR.2⟩) (z_preV (ci := 3) (q0 := 0) hP hD hK (pq_cl (by simp [pkAll])) rfl) hg rfl hsize hstack hW hdg hf
  · exact va_runU (C := vn 4) (As := []) S (c_X4_freeAct l D g 4 h rw (by simp [pkAll]) P T X  _) (z_U (x := ⟨"PileHeirs$Plain", "freeAct", "()I"⟩) (owner := RX4) 0 S.2.2.2.2 g_391 g_5 g_361 g_364 g_362 g_391 g_387 g_362 ⟨by decide, by decide, by decide +kernel⟩ ⟨Nat.le_trans (Nat.le_of_ble_eq_true rfl) hR.1, Nat.le_trans (Nat.le_of_ble_eq_true rfl) hR.2⟩) (z_preV (ci := 4) (q0 := 0) hP hD hK (pq_cl (by simp [pkAll])) rfl) hg rfl hsize hstack hW hdg hf
  · exact va_runU (C := vn 5) (As := []) S (c_X4_freeAct l D g 5 h rw (by simp [pkAll]) P T X  _) (z_U (x := ⟨"PileHeirs$Plain", "freeAct", "()I"⟩) (owner := RX4) 0 S.2.2.2.2 g_391 g_5 g_361 g_364 g_362 g_391 g_363 g_362 ⟨by decide, by decide, by decide +kernel⟩ ⟨Nat.le_trans (Nat.le_of_ble_eq_true rfl) hR.1, Nat.le_trans (Nat.le_of_ble_eq_true rfl) hR.2⟩) (z_preV (ci := 5) (q0 := 0) hP hD hK (pq_cl (by simp [pkAll])) rfl) hg rfl hsize hstack hW hdg hf
  · exact va_runU (C := vn 6) (As := []) S (c_X4_freeAct l D g 6 h rw (by simp [pkAll]) P T X  _) (z_U (x := ⟨"PileHeirs$Plain", "freeAct", "()I"⟩) (owner := RX4) 0 S.2.2.2.2 g_391 g_5 g_361 g_364 g_362 g_391 g_388 g_362 ⟨by decide, by decide, by decide +kernel⟩ ⟨Nat.le_trans (Nat.le_of_ble_eq_true rfl) hR.1, Nat.le_trans (Nat.le_of_ble_eq_true rfl) hR.2⟩) (z_preV (ci := 6) (q0 := 0) hP hD hK (pq_cl (by simp [pkAll])) rfl) hg rfl hsize hstack hW hdg hf
  · exact va_runU (C := vn 7) (As := []) S (c_X6_freeAct l D g 7 h rw (by simp [pkSt]) P T X  _) (z_U (x := ⟨"PileHeirs$Plain", "freeAct", "()I"⟩) (owner := RX4) 0 S.2.2.2.2 g_374 g_8 g_361 g_364 g_362 g_391 g_389 g_373 ⟨by decide, by decide, by decide +kernel⟩ ⟨Nat.le_trans (Nat.le_of_ble_eq_true rfl) hR.1, Nat.le_trans (Nat.le_of_ble_eq_true rfl) hR.2⟩) (z_preV (ci := 7) (q0 := 0) hP hD hK (pq_cl (by simp [pkAll])) rfl) hg rfl hsize hstack hW hdg hf
  · exact va_runU (C := vn 10) (As := []) S (c_X6_freeAct l D g 10 h rw (by simp [pkSt]) P T X  _) (z_U (x := ⟨"PileHeirs$Plain", "freeAct", "()I"⟩) (owner := RX4) 0 S.2.2.2.2 g_374 g_8 g_361 g_364 g_362 g_391 g_390 g_373 ⟨by decide, by decide, by decide +kernel⟩ ⟨Nat.le_trans (Nat.le_of_ble_eq_true rfl) hR.1, Nat.le_trans (Nat.le_of_ble_eq_true rfl) hR.2⟩) (z_preV (ci := 10) (q0 := 0) hP hD hK (pq_cl (by simp [pkAll])) rfl) hg rfl hsize hstack hW hdg hf

set_option maxHeartbeats 4000000 in
set_option maxRecDepth 100000 in
theorem rv_X10_isFull {p : Program} {l : Launch} {e : Env} {R : Room} {s : State} {m : MethodId} {args : Array Value} {below : List Frame} {meth : Method} {c : Code} {H : Heap} {locs : List Loc} {cells slots : Nat} {y0 : MethodName} {b0 cc : ByteArray} {n0 nL : Nat} {r0 : Option FieldType} {D : va_G} {g : GA} {ci h rw : Nat} {P : PP} {T : TT} {X : DD} {B : Nat → Prop} {rest : List Value} {fr : JFrame} 
    (hci : pkAll ci) (S : CallFix p m c cc nL s args (wd y0 b0 n0 r0) RX10) (hP : va_P D vwCl (wA g ci h rw P T X) H) (hD : va_D B (wA g ci h rw P T X)) (hK : va_K D vwCl (tyA g) s) (hR : 7 ≤ R.frames ∧ 144 ≤ R.locals) (hg : fr.method = m) (hsize : fr.locals.size = nL) (hstack : fr.stack = [].reverse ++ .ref h :: rest) (hW : 2 * fr.monitorRoom + (rest.map fun v => v.category).sum ≤ 8) (hdg : decode cc fr.pc = .ok (.invokevirtual 84, 3)) (hf : cells + 0 ≤ R.cells ∧ slots + 0 ≤ R.slots) :
    va_Run p l e R s m args below meth c H locs cells slots 0 0 fr rest (va_Qi (fun r w => r = kisFullR ci P T X  ∧ w = wA g ci h rw (kisFullS ci P T X ).1 (kisFullS ci P T X ).2.1 (kisFullS ci P T X ).2.2) (ctB D (tyA g) (va_A (wA g ci h rw P T X) H.size)) (va_A (wA g ci h rw P T X) H.size) (Value.ref h :: []).toArray) (va_A (wA g ci h rw P T X) H.size) := by
  rcases hci with rfl | rfl | rfl | rfl | rfl | rfl | rfl | rfl
  · exact va_runU (C := vn 1) (As := []) S (c_X2_isFull l D g 1 h rw (by simp [pkMa]) P T X  _) (z_U (x := ⟨"PileHeirs$Plain", "isFull", "()Z"⟩) (owner := RX4) 0 S.2.2.2.2 g_402 g_6 g_396 g_399 g_397 g_417 g_400 g_401 ⟨by decide, by decide, by decide +kernel⟩ ⟨Nat.le_trans (Nat.le_of_ble_eq_true rfl) hR.1, Nat.le_trans (Nat.le_of_ble_eq_true rfl) hR.2⟩) (z_preV (ci := 1) (q0 := 0) hP hD hK (pq_cl (by simp [pkAll])) rfl) hg rfl hsize hstack hW hdg hf
  · exact va_runU (C := vn 2) (As := []) S (c_X2_isFull l D g 2 h rw (by simp [pkMa]) P T X  _) (z_U (x := ⟨"PileHeirs$Plain", "isFull", "()Z"⟩) (owner := RX4) 0 S.2.2.2.2 g_402 g_6 g_396 g_399 g_397 g_417 g_411 g_401 ⟨by decide, by decide, by decide +kernel⟩ ⟨Nat.le_trans (Nat.le_of_ble_eq_true rfl) hR.1, Nat.le_trans (Nat.le_of_ble_eq_true rfl) hR.2⟩) (z_preV (ci := 2) (q0 := 0) hP hD hK (pq_cl (by simp [pkAll])) rfl) hg rfl hsize hstack hW hdg hf
  · exact va_runU (C := vn 3) (As := []) S (c_X2_isFull l D g 3 h rw (by simp [pkMa]) P T X  _) (z_U (x := ⟨"PileHeirs$Plain", "isFull", "()Z"⟩) (owner := RX4) 0 S.2.2.2.2 g_402 g_6 g_396 g_399 g_397 g_417 g_412 g_401 ⟨by decide, by decide, by decide +kernel⟩ ⟨Nat.le_trans (Nat.le_of_ble_eq_true rfl) hR.1, Nat.le_trans (Nat.le_of_ble_eq_true rfl) hR.2⟩) (z_preV (ci := 3) (q0 := 0) hP hD hK (pq_cl (by simp [pkAll])) rfl) hg rfl hsize hstack hW hdg hf
  · exact va_runU (C := vn 4) (As := []) S (c_X2_isFull l D g 4 h rw (by simp [pkMa]) P T X  _) (z_U (x := ⟨"PileHeirs$Plain", "isFull", "()Z"⟩) (owner := RX4) 0 S.2.2.2.2 g_402 g_6 g_396 g_399 g_397 g_417 g_413 g_401 ⟨by decide, by decide, by decide +kernel⟩ ⟨Nat.le_trans (Nat.le_of_ble_eq_true rfl) hR.1, Nat.le_trans (Nat.le_of_ble_eq_true rfl) hR.2⟩) (z_preV (ci := 4) (q0 := 0) hP hD hK (pq_cl (by simp [pkAll])) rfl) hg rfl hsize hstack hW hdg hf
  · exact va_runU (C := vn 5) (As := []) S (c_X4_isFull l D g 5 h rw (by simp [pkAll]) P T X  _) (z_U (x := ⟨"PileHeirs$Plain", "isFull", "()Z"⟩) (owner := RX4) 0 S.2.2.2.2 g_417 g_5 g_396 g_399 g_397 g_417 g_398 g_397 ⟨by decide, by decide, by decide +kernel⟩ ⟨Nat.le_trans (Nat.le_of_ble_eq_true rfl) hR.1, Nat.le_trans (Nat.le_of_ble_eq_true rfl) hR.2⟩) (z_preV (ci := 5) (q0 := 0) hP hD hK (pq_cl (by simp [pkAll])) rfl) hg rfl hsize hstack hW hdg hf
  · exact va_runU (C := vn 6) (As := []) S (c_X2_isFull l D g 6 h rw (by simp [pkMa]) P T X  _) (z_U (x := ⟨"PileHeirs$Plain", "isFull", "()Z"⟩) (owner := RX4) 0 S.2.2.2.2 g_402 g_6 g_396 g_399 g_397 g_417 g_414 g_401 ⟨by decide, by decide, by decide +kernel⟩ ⟨Nat.le_trans (Nat.le_of_ble_eq_true rfl) hR.1, Nat.le_trans (Nat.le_of_ble_eq_true rfl) hR.2⟩) (z_preV (ci := 6) (q0 := 0) hP hD hK (pq_cl (by simp [pkAll])) rfl) hg rfl hsize hstack hW hdg hf
  · exact va_runU (C := vn 7) (As := []) S (c_X2_isFull l D g 7 h rw (by simp [pkMa]) P T X  _) (z_U (x := ⟨"PileHeirs$Plain", "isFull", "()Z"⟩) (owner := RX4) 0 S.2.2.2.2 g_402 g_6 g_396 g_399 g_397 g_417 g_415 g_401 ⟨by decide, by decide, by decide +kernel⟩ ⟨Nat.le_trans (Nat.le_of_ble_eq_true rfl) hR.1, Nat.le_trans (Nat.le_of_ble_eq_true rfl) hR.2⟩) (z_preV (ci := 7) (q0 := 0) hP hD hK (pq_cl (by simp [pkAll])) rfl) hg rfl hsize hstack hW hdg hf
  · exact va_runU (C := vn 10) (As := []) S (c_X2_isFull l D g 10 h rw (by simp [pkMa]) P T X  _) (z_U (x := ⟨"PileHeirs$Plain", "isFull", "()Z"⟩) (owner := RX4) 0 S.2.2.2.2 g_402 g_6 g_396 g_399 g_397 g_417 g_416 g_401 ⟨by decide, by decide, by decide +kernel⟩ ⟨Nat.le_trans (Nat.le_of_ble_eq_true rfl) hR.1, Nat.le_trans (Nat.le_of_ble_eq_true rfl) hR.2⟩) (z_preV (ci := 10) (q0 := 0) hP hD hK (pq_cl (by simp [pkAll])) rfl) hg rfl hsize hstack hW hdg hf

def fX10_loadR (n : Nat) (C : CZ) (P : Nat → PP) (T : TT) (X : DD) (pl : Int32) : Int32 := (match fz n pl with | none => (-101) | some i_2 => (kloadActR (C i_2).1 (P i_2) T X))
def fX10_loadS (n : Nat) (C : CZ) (P : Nat → PP) (T : TT) (X : DD) (pl : Int32) : (Nat → PP) × TT × DD := (match fz n pl with | none => (P, T, X) | some i_2 => (va_up P i_2 (P i_2), T, (kloadActS (C i_2).1 (P i_2) T X).2.2))
set_option maxHeartbeats 4000000 in
set_option maxRecDepth 100000 in
theorem c_X10_load (l : Launch) (D : va_G) (g : GA) (x : GX) (n : Nat) (hn : n ≤ 12) (C : CZ) (hC : ∀ i, i < n → pkAll (C i).1) (P : Nat → PP) (T : TT) (X : DD) (pl : Int32) : ctI l D (tyX g x) yX10_load (wd yX10_load cX10_load 3 (Option.some Jvm.ClassFile.FieldType.int)) { frames := 4, cells := 0, slots := 0, locals := 86 } [.ref x.xo, .int pl] (wX g x n C P T X) (fun r w => r = fX10_loadR n C P T X pl ∧ w = wX g x n C (fX10_loadS n C P T X pl).1 (fX10_loadS n C P T X pl).2.1 (fX10_loadS n C P T X pl).2.2) := by
  intro sz
  refine Met.ofW (cc := cX10_load) (maxL := 3) (ret := (Option.some Jvm.ClassFile.FieldType.int)) (by decide) rfl ?_
  intro p e s m args below meth c s₁ B hml hv
  obtain ⟨rfl, hsz, hP, hK, hD0⟩ := hv
  have hx := B.exec
  have hb := B.bytes
  have hr := B.returns
  have hts := atoms_spec (ws := (wd yX10_load cX10_load 3 (Option.some Jvm.ClassFile.FieldType.int))) B.pre
  have hg := Tb.of hts
  have hown : s.vm.findClass RX10 = some m.cls := findClass_of_methodNamed B.named
  have hlocks := B.notSynchronized
  subst hsz
  have hD := hD0.self (sz := s.heap.size)
  generalize hAe : va_A (wX g x n C P T X) s.heap.size = A at hD ⊢
  have hA : ∀ q : Nat, s.heap.size ≤ q → A q := fun q h => by rw [← hAe]; exact Or.inr h
  have hS : va_S A s.heap s.heap [] := va_S.rf
  have hP : va_P D vwCl (wX g x n C P T X) s.heap := hP
  have hl := lv_entry ([.ref x.xo, .int pl]) (n := 3) (Nat.le_of_ble_eq_true rfl)
  rw [lg_entry_eq]
  generalize (lg_sl ([.ref x.xo, .int pl]) ++ List.replicate (3 - (lg_sl ([.ref x.xo, .int pl])).length) Slot.unset).toArray = ls at hl ⊢
  have hl : lv_has ls 3 [(0, .ref x.xo), (1, .int pl)] := hl
  refine lv_aload_n hx hb dX10_load_0 rfl (lv_at hl 0 rfl) ?_
  refine lv_iload_n hx hb dX10_load_1 rfl (lv_at hl 1 rfl) ?_
  refine z_qeQ (ws := wX0 g x n C T X) (pl := wL g n C P) (va_runV (As := [.int pl]) (rest := []) ⟨hx, hb, hml, hown, hts⟩ (c_X10_pileOf l D g x n hn C pl _) (z_V 1 hts g_266 g_1 g_263 g_265 gp_1 ⟨by decide, by decide, by decide +kernel⟩ ⟨Nat.le_of_ble_eq_true rfl, Nat.le_of_ble_eq_true rfl⟩) (z_preV (ci := 11) (q0 := 0) (hP.subm [0, 1] rfl) (hD.sub [0, 1] (by decide) rfl) hK rfl rfl) rfl rfl hl.1 rfl (lv_room (Nat.le_of_ble_eq_true rfl)) dX10_load_2 ⟨Nat.le_of_ble_eq_true rfl, Nat.le_of_ble_eq_true rfl⟩) hP hD hS hA (wT g T ++ wD g X) (wX0 g x n C T X) [0, 1] [2, 3, 4, 5, 6, 7, 8] [7, 8, 0, 1, 2, 3, 4, 5, 6] rfl rfl (by decide) (by decide) rfl (by decide) (fun H locs hP hD hS => ?_)
  cases hz_1 : fz n pl with
  | none =>
    refine W.eq (g2 := F0 m 5 ls [.null]) rfl ?_
    refine lv_astore_nN (lv' := [(2, .null), (0, .ref x.xo), (1, .int pl)]) hx hb dX10_load_5 rfl hl (by decide) rfl (fun ls hl => ?_)
    refine lv_aload_nN hx hb dX10_load_6 rfl (lv_at hl 0 rfl) ?_
    refine lv_ifnonnullN hx hb dX10_load_7 ?_
    refine lv_bipush (v := (-101)) hx hb dX10_load_10 (by decide) ?_
    refine lv_goto (tgt := 19) hx hb dX10_load_12 (by decide) ?_
    exact W.iret (v := (-101)) hx hb hr (fun t9 ht hW => ⟨⟨(-101), wX g x n C P T X, rfl, ⟨(by simp only [fX10_loadR, hz_1]), (by simp only [fX10_loadS, hz_1])⟩, by rw [ht]; exact hP, va_K.moved hW.alike hK, hD⟩, hS.F ht⟩) hS.2.2 dX10_load_19
  | some i_2 =>
    refine W.eq (g2 := F0 m 5 ls [.ref (C i_2).2.1]) rfl ?_
    have hi_2 := fz_lt hz_1
    refine lv_astore_n (lv' := [(2, .ref (C i_2).2.1), (0, .ref x.xo), (1, .int pl)]) hx hb dX10_load_5 rfl hl (by decide) rfl (fun ls hl => ?_)
    refine lv_aload_n hx hb dX10_load_6 rfl (lv_at hl 0 rfl) ?_
    refine lv_ifnonnull (tgt := 15) hx hb dX10_load_7 (by decide) ?_
    refine lv_aload_n hx hb dX10_load_15 rfl (lv_at hl 0 rfl) ?_
    have hP := vP_perm (wF_perm g x C P T X hi_2) hP
    have hD := vD_perm (wF_perm g x C P T X hi_2) hD
    refine z_ieQ (ws := wF0 g x n C (C i_2).1 (C i_2).2.1 (C i_2).2.2 (P i_2) T X) (pl := wO g n C P i_2) (rv_X10_loadAct (rest := []) (hC i_2 hi_2) ⟨hx, hb, hml, hown, hts⟩ (hP.subm [2, 3, 4, 5, 6, 7, 8, 9, 10] rfl) (hD.sub [2, 3, 4, 5, 6, 7, 8, 9, 10] (by decide) rfl) (hK.sub (tys' := tyA g) [0, 1] rfl) ⟨Nat.le_of_ble_eq_true rfl, Nat.le_of_ble_eq_true rfl⟩ rfl hl.1 rfl (lv_room (Nat.le_of_ble_eq_true rfl)) dX10_load_16 ⟨Nat.le_of_ble_eq_true rfl, Nat.le_of_ble_eq_true rfl⟩) hP hD hS hA (wY g x n C) (wF0 g x n C (C i_2).1 (C i_2).2.1 (C i_2).2.2 (P i_2) T ((kloadActS (C i_2).1 (P i_2) T X).2.2)) [2, 3, 4, 5, 6, 7, 8, 9, 10] [0, 1] [0, 1, 2, 3, 4, 5, 6, 7, 8, 9, 10] rfl rfl (by decide) (by decide) rfl (by decide) (fun H locs hP hD hS => ?_)
    have hP := vP_perm (wU_perm g x C P (P i_2) T ((kloadActS (C i_2).1 (P i_2) T X).2.2) hi_2) hP
    have hD := vD_perm (wU_perm g x C P (P i_2) T ((kloadActS (C i_2).1 (P i_2) T X).2.2) hi_2) hD
    exact W.iret (v := (kloadActR (C i_2).1 (P i_2) T X)) hx hb hr (fun t9 ht hW => ⟨⟨(kloadActR (C i_2).1 (P i_2) T X), wX g x n C (va_up P i_2 (P i_2)) T ((kloadActS (C i_2).1 (P i_2) T X).2.2), rfl, ⟨(by simp only [fX10_loadR, hz_1]), (by simp only [fX10_loadS, hz_1])⟩, by rw [ht]; exact hP, va_K.moved hW.alike hK, hD⟩, hS.F ht⟩) hS.2.2 dX10_load_19

def fX10_searchR (n : Nat) (C : CZ) (P : Nat → PP) (T : TT) (X : DD) (pl : Int32) (i : Int32) : Int32 := (match fz n pl with | none => (-101) | some i_2 => (if (fX10_isOutsideR i 1 1000) = 0 then (ksearchActR (C i_2).1 (P i_2) T X i) else (-102)))
def fX10_searchS (n : Nat) (C : CZ) (P : Nat → PP) (T : TT) (X : DD) (pl : Int32) (i : Int32) : (Nat → PP) × TT × DD := (match fz n pl with | none => (P, T, X) | some i_2 => (if (fX10_isOutsideR i 1 1000) = 0 then (va_up P i_2 (P i_2), T, (ksearchActS (C i_2).1 (P i_2) T X i).2.2) else (P, T, X)))
set_option maxHeartbeats 4000000 in
set_option maxRecDepth 100000 in
theorem c_X10_search (l : Launch) (D : va_G) (g : GA) (x : GX) (n : Nat) (hn : n ≤ 12) (C : CZ) (hC : ∀ i, i < n → pkAll (C i).1) (P : Nat → PP) (T : TT) (X : DD) (pl : Int32) (i : Int32) : ctI l D (tyX g x) yX10_search (wd yX10_search cX10_search 4 (Option.some Jvm.ClassFile.FieldType.int)) { frames := 4, cells := 0, slots := 0, locals := 86 } [.ref x.xo, .int pl, .int i] (wX g x n C P T X) (fun r w => r = fX10_searchR n C P T X pl i ∧ w = wX g x n C (fX10_searchS n C P T X pl i).1 (fX10_searchS n C P T X pl i).2.1 (fX10_searchS n C P T X pl i).2.2) := by
  intro sz
  refine Met.ofW (cc := cX10_search) (maxL := 4) (ret := (Option.some Jvm.ClassFile.FieldType.int)) (by decide) rfl ?_
  intro p e s m args below meth c s₁ B hml hv
  obtain ⟨rfl, hsz, hP, hK, hD0⟩ := hv
  have hx := B.exec
  have hb := B.bytes
  have hr := B.returns
  have hts := atoms_spec (ws := (wd yX10_search cX10_search 4 (Option.some Jvm.ClassFile.FieldType.int))) B.pre
  have hg := Tb.of hts
  have hown : s.vm.findClass RX10 = some m.cls := findClass_of_methodNamed B.named
  have hlocks := B.notSynchronized
  subst hsz
  have hD := hD0.self (sz := s.heap.size)
  generalize hAe : va_A (wX g x n C P T X) s.heap.size = A at hD ⊢
  have hA : ∀ q : Nat, s.heap.size ≤ q → A q := fun q h => by rw [← hAe]; exact Or.inr h
  have hS : va_S A s.heap s.heap [] := va_S.rf
  have hP : va_P D vwCl (wX g x n C P T X) s.heap := hP
  have hl := lv_entry ([.ref x.xo, .int pl, .int i]) (n := 4) (Nat.le_of_ble_eq_true rfl)
  rw [lg_entry_eq]
  generalize (lg_sl ([.ref x.xo, .int pl, .int i]) ++ List.replicate (4 - (lg_sl ([.ref x.xo, .int pl, .int i])).length) Slot.unset).toArray = ls at hl ⊢
  have hl : lv_has ls 4 [(0, .ref x.xo), (1, .int pl), (2, .int i)] := hl
  refine lv_aload_n hx hb dX10_search_0 rfl (lv_at hl 0 rfl) ?_
  refine lv_iload_n hx hb dX10_search_1 rfl (lv_at hl 1 rfl) ?_
  refine z_qeQ (ws := wX0 g x n C T X) (pl := wL g n C P) (va_runV (As := [.int pl]) (rest := []) ⟨hx, hb, hml, hown, hts⟩ (c_X10_pileOf l D g x n hn C pl _) (z_V 1 hts g_266 g_1 g_263 g_265 gp_1 ⟨by decide, by decide, by decide +kernel⟩ ⟨Nat.le_of_ble_eq_true rfl, Nat.le_of_ble_eq_true rfl⟩) (z_preV (ci := 11) (q0 := 0) (hP.subm [0, 1] rfl) (hD.sub [0, 1] (by decide) rfl) hK rfl rfl) rfl rfl hl.1 rfl (lv_room (Nat.le_of_ble_eq_true rfl)) dX10_search_2 ⟨Nat.le_of_ble_eq_true rfl, Nat.le_of_ble_eq_true rfl⟩) hP hD hS hA (wT g T ++ wD g X) (wX0 g x n C T X) [0, 1] [2, 3, 4, 5, 6, 7, 8] [7, 8, 0, 1, 2, 3, 4, 5, 6] rfl rfl (by decide) (by decide) rfl (by decide) (fun H locs hP hD hS => ?_)
  cases hz_1 : fz n pl with
  | none =>
    refine W.eq (g2 := F0 m 5 ls [.null]) rfl ?_
    refine lv_astore_nN (lv' := [(3, .null), (0, .ref x.xo), (1, .int pl), (2, .int i)]) hx hb dX10_search_5 rfl hl (by decide) rfl (fun ls hl => ?_)
    refine lv_aload_nN hx hb dX10_search_6 rfl (lv_at hl 0 rfl) ?_
    refine lv_ifnonnullN hx hb dX10_search_7 ?_
    refine lv_bipush (v := (-101)) hx hb dX10_search_10 (by decide) ?_
    exact W.iret (v := (-101)) hx hb hr (fun t9 ht hW => ⟨⟨(-101), wX g x n C P T X, rfl, ⟨(by simp only [fX10_searchR, hz_1]), (by simp only [fX10_searchS, hz_1])⟩, by rw [ht]; exact hP, va_K.moved hW.alike hK, hD⟩, hS.F ht⟩) hS.2.2 dX10_search_12
  | some i_2 =>
    refine W.eq (g2 := F0 m 5 ls [.ref (C i_2).2.1]) rfl ?_
    have hi_2 := fz_lt hz_1
    refine lv_astore_n (lv' := [(3, .ref (C i_2).2.1), (0, .ref x.xo), (1, .int pl), (2, .int i)]) hx hb dX10_search_5 rfl hl (by decide) rfl (fun ls hl => ?_)
    refine lv_aload_n hx hb dX10_search_6 rfl (lv_at hl 0 rfl) ?_
    refine lv_ifnonnull (tgt := 13) hx hb dX10_search_7 (by decide) ?_
    refine lv_iload_n hx hb dX10_search_13 rfl (lv_at hl 3 rfl) ?_
    refine lv_iconst (v := 1) hx hb dX10_search_14 (by decide) ?_
    refine lv_sipush (v := 1000) hx hb dX10_search_15 (by decide) ?_
    refine z_ieQ (ws := wX0 g x n C T X) (pl := wL g n C P) (va_runS (As := [.int i, .int 1, .int 1000]) (rest := []) ⟨hx, hb, hml, hown, hts⟩ (c_X10_isOutside l D (tyA g) i 1 1000 _) (z_St 3 hts g_97 g_1 g_95 g_96 ⟨by decide, by decide, by decide +kernel⟩ ⟨Nat.le_of_ble_eq_true rfl, Nat.le_of_ble_eq_true rfl⟩) (z_preS (hP.subm [] rfl) (hD.sub [] (by decide) rfl) (hK.sub (tys' := tyA g) [0, 1] rfl)) rfl rfl hl.1 rfl (lv_room (Nat.le_of_ble_eq_true rfl)) dX10_search_18 ⟨Nat.le_of_ble_eq_true rfl, Nat.le_of_ble_eq_true rfl⟩) hP hD hS hA (wX0 g x n C T X) (wX0 g x n C T X) [] [0, 1, 2, 3, 4, 5, 6, 7, 8] [0, 1, 2, 3, 4, 5, 6, 7, 8] rfl rfl (by decide) (by decide) rfl (by decide) (fun H locs hP hD hS => ?_)
    refine lv_if_eq (tgt := 27) hx hb dX10_search_21 (by decide) (fun c_3 => ?_) (fun c_3 => ?_)
    · -- (fX10_isOutsideR i 1 1000) = 0
      refine lv_aload_n hx hb dX10_search_27 rfl (lv_at hl 0 rfl) ?_
      refine lv_iload_n hx hb dX10_search_28 rfl (lv_at hl 3 rfl) ?_
      have hP := vP_perm (wF_perm g x C P T X hi_2) hP
      have hD := vD_perm (wF_perm g x C P T X hi_2) hD
      refine z_ieQ (ws := wF0 g x n C (C i_2).1 (C i_2).2.1 (C i_2).2.2 (P i_2) T X) (pl := wO g n C P i_2) (rv_X10_searchAct (rest := []) (hC i_2 hi_2) ⟨hx, hb, hml, hown, hts⟩ (hP.subm [2, 3, 4, 5, 6, 7, 8, 9, 10] rfl) (hD.sub [2, 3, 4, 5, 6, 7, 8, 9, 10] (by decide) rfl) (hK.sub (tys' := tyA g) [0, 1] rfl) ⟨Nat.le_of_ble_eq_true rfl, Nat.le_of_ble_eq_true rfl⟩ rfl hl.1 rfl (lv_room (Nat.le_of_ble_eq_true rfl)) dX10_search_29 ⟨Nat.le_of_ble_eq_true rfl, Nat.le_of_ble_eq_true rfl⟩) hP hD hS hA (wY g x n C) (wF0 g x n C (C i_2).1 (C i_2).2.1 (C i_2).2.2 (P i_2) T ((ksearchActS (C i_2).1 (P i_2) T X i).2.2)) [2, 3, 4, 5, 6, 7, 8, 9, 10] [0, 1] [0, 1, 2, 3, 4, 5, 6, 7, 8, 9, 10] rfl rfl (by decide) (by decide) rfl (by decide) (fun H locs hP hD hS => ?_)
      have hP := vP_perm (wU_perm g x C P (P i_2) T ((ksearchActS (C i_2).1 (P i_2) T X i).2.2) hi_2) hP
      have hD := vD_perm (wU_perm g x C P (P i_2) T ((ksearchActS (C i_2).1 (P i_2) T X i).2.2) hi_2) hD
      exact W.iret (v := (ksearchActR (C i_2).1 (P i_2) T X i)) hx hb hr (fun t9 ht hW => ⟨⟨(ksearchActR (C i_2).1 (P i_2) T X i), wX g x n C (va_up P i_2 (P i_2)) T ((ksearchActS (C i_2).1 (P i_2) T X i).2.2), rfl, ⟨(by simp only [fX10_searchR, if_pos c_3, hz_1]), (by simp only [fX10_searchS, if_pos c_3, hz_1])⟩, by rw [ht]; exact hP, va_K.moved hW.alike hK, hD⟩, hS.F ht⟩) hS.2.2 dX10_search_32
    · -- not (fX10_isOutsideR i 1 1000) = 0
      refine lv_bipush (v := (-102)) hx hb dX10_search_24 (by decide) ?_
      exact W.iret (v := (-102)) hx hb hr (fun t9 ht hW => ⟨⟨(-102), wX g x n C P T X, rfl, ⟨(by simp only [fX10_searchR, if_neg c_3, hz_1]), (by simp only [fX10_searchS, if_neg c_3, hz_1])⟩, by rw [ht]; exact hP, va_K.moved hW.alike hK, hD⟩, hS.F ht⟩) hS.2.2 dX10_search_26

def fX10_freeR (n : Nat) (C : CZ) (P : Nat → PP) (T : TT) (X : DD) (pl : Int32) : Int32 := (match fz n pl with | none => (-101) | some i_2 => (kfreeActR (C i_2).1 (P i_2) T X))
def fX10_freeS (n : Nat) (C : CZ) (P : Nat → PP) (T : TT) (X : DD) (pl : Int32) : (Nat → PP) × TT × DD := (match fz n pl with | none => (P, T, X) | some i_2 => (va_up P i_2 (P i_2), T, (kfreeActS (C i_2).1 (P i_2) T X).2.2))
set_option maxHeartbeats 4000000 in
set_option maxRecDepth 100000 in
theorem c_X10_free (l : Launch) (D : va_G) (g : GA) (x : GX) (n : Nat) (hn : n ≤ 12) (C : CZ) (hC : ∀ i, i < n → pkAll (C i).1) (P : Nat → PP) (T : TT) (X : DD) (pl : Int32) : ctI l D (tyX g x) yX10_free (wd yX10_free cX10_free 3 (Option.some Jvm.ClassFile.FieldType.int)) { frames := 6, cells := 0, slots := 0, locals := 124 } [.ref x.xo, .int pl] (wX g x n C P T X) (fun r w => r = fX10_freeR n C P T X pl ∧ w = wX g x n C (fX10_freeS n C P T X pl).1 (fX10_freeS n C P T X pl).2.1 (fX10_freeS n C P T X pl).2.2) := by
  intro sz
  refine Met.ofW (cc := cX10_free) (maxL := 3) (ret := (Option.some Jvm.ClassFile.FieldType.int)) (by decide) rfl ?_
  intro p e s m args below meth c s₁ B hml hv
  obtain ⟨rfl, hsz, hP, hK, hD0⟩ := hv
  have hx := B.exec
  have hb := B.bytes
  have hr := B.returns
  have hts := atoms_spec (ws := (wd yX10_free cX10_free 3 (Option.some Jvm.ClassFile.FieldType.int))) B.pre
  have hg := Tb.of hts
  have hown : s.vm.findClass RX10 = some m.cls := findClass_of_methodNamed B.named
  have hlocks := B.notSynchronized
  subst hsz
  have hD := hD0.self (sz := s.heap.size)
  generalize hAe : va_A (wX g x n C P T X) s.heap.size = A at hD ⊢
  have hA : ∀ q : Nat, s.heap.size ≤ q → A q := fun q h => by rw [← hAe]; exact Or.inr h
  have hS : va_S A s.heap s.heap [] := va_S.rf
  have hP : va_P D vwCl (wX g x n C P T X) s.heap := hP
  have hl := lv_entry ([.ref x.xo, .int pl]) (n := 3) (Nat.le_of_ble_eq_true rfl)
  rw [lg_entry_eq]
  generalize (lg_sl ([.ref x.xo, .int pl]) ++ List.replicate (3 - (lg_sl ([.ref x.xo, .int pl])).length) Slot.unset).toArray = ls at hl ⊢
  have hl : lv_has ls 3 [(0, .ref x.xo), (1, .int pl)] := hl
  refine lv_aload_n hx hb dX10_free_0 rfl (lv_at hl 0 rfl) ?_
  refine lv_iload_n hx hb dX10_free_1 rfl (lv_at hl 1 rfl) ?_
  refine z_qeQ (ws := wX0 g x n C T X) (pl := wL g n C P) (va_runV (As := [.int pl]) (rest := []) ⟨hx, hb, hml, hown, hts⟩ (c_X10_pileOf l D g x n hn C pl _) (z_V 1 hts g_266 g_1 g_263 g_265 gp_1 ⟨by decide, by decide, by decide +kernel⟩ ⟨Nat.le_of_ble_eq_true rfl, Nat.le_of_ble_eq_true rfl⟩) (z_preV (ci := 11) (q0 := 0) (hP.subm [0, 1] rfl) (hD.sub [0, 1] (by decide) rfl) hK rfl rfl) rfl rfl hl.1 rfl (lv_room (Nat.le_of_ble_eq_true rfl)) dX10_free_2 ⟨Nat.le_of_ble_eq_true rfl, Nat.le_of_ble_eq_true rfl⟩) hP hD hS hA (wT g T ++ wD g X) (wX0 g x n C T X) [0, 1] [2, 3, 4, 5, 6, 7, 8] [7, 8, 0, 1, 2, 3, 4, 5, 6] rfl rfl (by decide) (by decide) rfl (by decide) (fun H locs hP hD hS => ?_)
  cases hz_1 : fz n pl with
  | none =>
    refine W.eq (g2 := F0 m 5 ls [.null]) rfl ?_
    refine lv_astore_nN (lv' := [(2, .null), (0, .ref x.xo), (1, .int pl)]) hx hb dX10_free_5 rfl hl (by decide) rfl (fun ls hl => ?_)
    refine lv_aload_nN hx hb dX10_free_6 rfl (lv_at hl 0 rfl) ?_
    refine lv_ifnonnullN hx hb dX10_free_7 ?_
    refine lv_bipush (v := (-101)) hx hb dX10_free_10 (by decide) ?_
    refine lv_goto (tgt := 19) hx hb dX10_free_12 (by decide) ?_
    exact W.iret (v := (-101)) hx hb hr (fun t9 ht hW => ⟨⟨(-101), wX g x n C P T X, rfl, ⟨(by simp only [fX10_freeR, hz_1]), (by simp only [fX10_freeS, hz_1])⟩, by rw [ht]; exact hP, va_K.moved hW.alike hK, hD⟩, hS.F ht⟩) hS.2.2 dX10_free_19
  | some i_2 =>
    refine W.eq (g2 := F0 m 5 ls [.ref (C i_2).2.1]) rfl ?_
    have hi_2 := fz_lt hz_1
    refine lv_astore_n (lv' := [(2, .ref (C i_2).2.1), (0, .ref x.xo), (1, .int pl)]) hx hb dX10_free_5 rfl hl (by decide) rfl (fun ls hl => ?_)
    refine lv_aload_n hx hb dX10_free_6 rfl (lv_at hl 0 rfl) ?_
    refine lv_ifnonnull (tgt := 15) hx hb dX10_free_7 (by decide) ?_
    refine lv_aload_n hx hb dX10_free_15 rfl (lv_at hl 0 rfl) ?_
    have hP := vP_perm (wF_perm g x C P T X hi_2) hP
    have hD := vD_perm (wF_perm g x C P T X hi_2) hD
    refine z_ieQ (ws := wF0 g x n C (C i_2).1 (C i_2).2.1 (C i_2).2.2 (P i_2) T X) (pl := wO g n C P i_2) (rv_X10_freeAct (rest := []) (hC i_2 hi_2) ⟨hx, hb, hml, hown, hts⟩ (hP.subm [2, 3, 4, 5, 6, 7, 8, 9, 10] rfl) (hD.sub [2, 3, 4, 5, 6, 7, 8, 9, 10] (by decide) rfl) (hK.sub (tys' := tyA g) [0, 1] rfl) ⟨Nat.le_of_ble_eq_true rfl, Nat.le_of_ble_eq_true rfl⟩ rfl hl.1 rfl (lv_room (Nat.le_of_ble_eq_true rfl)) dX10_free_16 ⟨Nat.le_of_ble_eq_true rfl, Nat.le_of_ble_eq_true rfl⟩) hP hD hS hA (wY g x n C) (wF0 g x n C (C i_2).1 (C i_2).2.1 (C i_2).2.2 (P i_2) T ((kfreeActS (C i_2).1 (P i_2) T X).2.2)) [2, 3, 4, 5, 6, 7, 8, 9, 10] [0, 1] [0, 1, 2, 3, 4, 5, 6, 7, 8, 9, 10] rfl rfl (by decide) (by decide) rfl (by decide) (fun H locs hP hD hS => ?_)
    have hP := vP_perm (wU_perm g x C P (P i_2) T ((kfreeActS (C i_2).1 (P i_2) T X).2.2) hi_2) hP
    have hD := vD_perm (wU_perm g x C P (P i_2) T ((kfreeActS (C i_2).1 (P i_2) T X).2.2) hi_2) hD
    exact W.iret (v := (kfreeActR (C i_2).1 (P i_2) T X)) hx hb hr (fun t9 ht hW => ⟨⟨(kfreeActR (C i_2).1 (P i_2) T X), wX g x n C (va_up P i_2 (P i_2)) T ((kfreeActS (C i_2).1 (P i_2) T X).2.2), rfl, ⟨(by simp only [fX10_freeR, hz_1]), (by simp only [fX10_freeS, hz_1])⟩, by rw [ht]; exact hP, va_K.moved hW.alike hK, hD⟩, hS.F ht⟩) hS.2.2 dX10_free_19

def fX10_fullR (n : Nat) (C : CZ) (P : Nat → PP) (T : TT) (X : DD) (pl : Int32) : Int32 := (match fz n pl with | none => (-101) | some i_2 => (if (kisFullR (C i_2).1 (P i_2) T X) = 0 then 0 else 1))
def fX10_fullS (n : Nat) (C : CZ) (P : Nat → PP) (T : TT) (X : DD) (pl : Int32) : (Nat → PP) × TT × DD := (match fz n pl with | none => (P, T, X) | some i_2 => (if (kisFullR (C i_2).1 (P i_2) T X) = 0 then (va_up P i_2 (P i_2), T, (kisFullS (C i_2).1 (P i_2) T X).2.2) else (va_up P i_2 (P i_2), T, (kisFullS (C i_2).1 (P i_2) T X).2.2)))
set_option maxHeartbeats 4000000 in
set_option maxRecDepth 100000 in
theorem c_X10_full (l : Launch) (D : va_G) (g : GA) (x : GX) (n : Nat) (hn : n ≤ 12) (C : CZ) (hC : ∀ i, i < n → pkAll (C i).1) (P : Nat → PP) (T : TT) (X : DD) (pl : Int32) : ctI l D (tyX g x) yX10_full (wd yX10_full cX10_full 3 (Option.some Jvm.ClassFile.FieldType.int)) { frames := 7, cells := 0, slots := 0, locals := 144 } [.ref x.xo, .int pl] (wX g x n C P T X) (fun r w => r = fX10_fullR n C P T X pl ∧ w = wX g x n C (fX10_fullS n C P T X pl).1 (fX10_fullS n C P T X pl).2.1 (fX10_fullS n C P T X pl).2.2) := by
  intro sz
  refine Met.ofW (cc := cX10_full) (maxL := 3) (ret := (Option.some Jvm.ClassFile.FieldType.int)) (by decide) rfl ?_
  intro p e s m args below meth c s₁ B hml hv
  obtain ⟨rfl, hsz, hP, hK, hD0⟩ := hv
  have hx := B.exec
  have hb := B.bytes
  have hr := B.returns
  have hts := atoms_spec (ws := (wd yX10_full cX10_full 3 (Option.some Jvm.ClassFile.FieldType.int))) B.pre
  have hg := Tb.of hts
  have hown : s.vm.findClass RX10 = some m.cls := findClass_of_methodNamed B.named
  have hlocks := B.notSynchronized
  subst hsz
  have hD := hD0.self (sz := s.heap.size)
  generalize hAe : va_A (wX g x n C P T X) s.heap.size = A at hD ⊢
  have hA : ∀ q : Nat, s.heap.size ≤ q → A q := fun q h => by rw [← hAe]; exact Or.inr h
  have hS : va_S A s.heap s.heap [] := va_S.rf
  have hP : va_P D vwCl (wX g x n C P T X) s.heap := hP
  have hl := lv_entry ([.ref x.xo, .int pl]) (n := 3) (Nat.le_of_ble_eq_true rfl)
  rw [lg_entry_eq]
  generalize (lg_sl ([.ref x.xo, .int pl]) ++ List.replicate (3 - (lg_sl ([.ref x.xo, .int pl])).length) Slot.unset).toArray = ls at hl ⊢
  have hl : lv_has ls 3 [(0, .ref x.xo), (1, .int pl)] := hl
  refine lv_aload_n hx hb dX10_full_0 rfl (lv_at hl 0 rfl) ?_
  refine lv_iload_n hx hb dX10_full_1 rfl (lv_at hl 1 rfl) ?_
  refine z_qeQ (ws := wX0 g x n C T X) (pl := wL g n C P) (va_runV (As := [.int pl]) (rest := []) ⟨hx, hb, hml, hown, hts⟩ (c_X10_pileOf l D g x n hn C pl _) (z_V 1 hts g_266 g_1 g_263 g_265 gp_1 ⟨by decide, by decide, by decide +kernel⟩ ⟨Nat.le_of_ble_eq_true rfl, Nat.le_of_ble_eq_true rfl⟩) (z_preV (ci := 11) (q0 := 0) (hP.subm [0, 1] rfl) (hD.sub [0, 1] (by decide) rfl) hK rfl rfl) rfl rfl hl.1 rfl (lv_room (Nat.le_of_ble_eq_true rfl)) dX10_full_2 ⟨Nat.le_of_ble_eq_true rfl, Nat.le_of_ble_eq_true rfl⟩) hP hD hS hA (wT g T ++ wD g X) (wX0 g x n C T X) [0, 1] [2, 3, 4, 5, 6, 7, 8] [7, 8, 0, 1, 2, 3, 4, 5, 6] rfl rfl (by decide) (by decide) rfl (by decide) (fun H locs hP hD hS => ?_)
  cases hz_1 : fz n pl with
  | none =>
    refine W.eq (g2 := F0 m 5 ls [.null]) rfl ?_
    refine lv_astore_nN (lv' := [(2, .null), (0, .ref x.xo), (1, .int pl)]) hx hb dX10_full_5 rfl hl (by decide) rfl (fun ls hl => ?_)
    refine lv_aload_nN hx hb dX10_full_6 rfl (lv_at hl 0 rfl) ?_
    refine lv_ifnonnullN hx hb dX10_full_7 ?_
    refine lv_bipush (v := (-101)) hx hb dX10_full_10 (by decide) ?_
    exact W.iret (v := (-101)) hx hb hr (fun t9 ht hW => ⟨⟨(-101), wX g x n C P T X, rfl, ⟨(by simp only [fX10_fullR, hz_1]), (by simp only [fX10_fullS, hz_1])⟩, by rw [ht]; exact hP, va_K.moved hW.alike hK, hD⟩, hS.F ht⟩) hS.2.2 dX10_full_12
  | some i_2 =>
    refine W.eq (g2 := F0 m 5 ls [.ref (C i_2).2.1]) rfl ?_
    have hi_2 := fz_lt hz_1
    refine lv_astore_n (lv' := [(2, .ref (C i_2).2.1), (0, .ref x.xo), (1, .int pl)]) hx hb dX10_full_5 rfl hl (by decide) rfl (fun ls hl => ?_)
    refine lv_aload_n hx hb dX10_full_6 rfl (lv_at hl 0 rfl) ?_
    refine lv_ifnonnull (tgt := 13) hx hb dX10_full_7 (by decide) ?_
    refine lv_aload_n hx hb dX10_full_13 rfl (lv_at hl 0 rfl) ?_
    have hP := vP_perm (wF_perm g x C P T X hi_2) hP
    have hD := vD_perm (wF_perm g x C P T X hi_2) hD
    refine z_ieQ (ws := wF0 g x n C (C i_2).1 (C i_2).2.1 (C i_2).2.2 (P i_2) T X) (pl := wO g n C P i_2) (rv_X10_isFull (rest := []) (hC i_2 hi_2) ⟨hx, hb, hml, hown, hts⟩ (hP.subm [2, 3, 4, 5, 6, 7, 8, 9, 10] rfl) (hD.sub [2, 3, 4, 5, 6, 7, 8, 9, 10] (by decide) rfl) (hK.sub (tys' := tyA g) [0, 1] rfl) ⟨Nat.le_of_ble_eq_true rfl, Nat.le_of_ble_eq_true rfl⟩ rfl hl.1 rfl (lv_room (Nat.le_of_ble_eq_true rfl)) dX10_full_14 ⟨Nat.le_of_ble_eq_true rfl, Nat.le_of_ble_eq_true rfl⟩) hP hD hS hA (wY g x n C) (wF0 g x n C (C i_2).1 (C i_2).2.1 (C i_2).2.2 (P i_2) T ((kisFullS (C i_2).1 (P i_2) T X).2.2)) [2, 3, 4, 5, 6, 7, 8, 9, 10] [0, 1] [0, 1, 2, 3, 4, 5, 6, 7, 8, 9, 10] rfl rfl (by decide) (by decide) rfl (by decide) (fun H locs hP hD hS => ?_)
    have hP := vP_perm (wU_perm g x C P (P i_2) T ((kisFullS (C i_2).1 (P i_2) T X).2.2) hi_2) hP
    have hD := vD_perm (wU_perm g x C P (P i_2) T ((kisFullS (C i_2).1 (P i_2) T X).2.2) hi_2) hD
    refine lv_if_eq (tgt := 24) hx hb dX10_full_17 (by decide) (fun c_3 => ?_) (fun c_3 => ?_)
    · -- (kisFullR (C i_2).1 (P i_2) T X) = 0
      refine lv_iconst (v := 0) hx hb dX10_full_24 (by decide) ?_
      exact W.iret (v := 0) hx hb hr (fun t9 ht hW => ⟨⟨0, wX g x n C (va_up P i_2 (P i_2)) T ((kisFullS (C i_2).1 (P i_2) T X).2.2), rfl, ⟨(by simp only [fX10_fullR, if_pos c_3, hz_1]), (by simp only [fX10_fullS, if_pos c_3, hz_1])⟩, by rw [ht]; exact hP, va_K.moved hW.alike hK, hD⟩, hS.F ht⟩) hS.2.2 dX10_full_25
    · -- not (kisFullR (C i_2).1 (P i_2) T X) = 0
      refine lv_iconst (v := 1) hx hb dX10_full_20 (by decide) ?_
      refine lv_goto (tgt := 25) hx hb dX10_full_21 (by decide) ?_
      exact W.iret (v := 1) hx hb hr (fun t9 ht hW => ⟨⟨1, wX g x n C (va_up P i_2 (P i_2)) T ((kisFullS (C i_2).1 (P i_2) T X).2.2), rfl, ⟨(by simp only [fX10_fullR, if_neg c_3, hz_1]), (by simp only [fX10_fullS, if_neg c_3, hz_1])⟩, by rw [ht]; exact hP, va_K.moved hW.alike hK, hD⟩, hS.F ht⟩) hS.2.2 dX10_full_25

def fX10_moveR (n : Nat) (C : CZ) (P : Nat → PP) (T : TT) (X : DD) (f : Int32) (t : Int32) : Int32 := (match fz n f with | none => (match fz n t with | none => (-101) | some i_4 => (-101)) | some i_2 => (match fz n t with | none => (-101) | some i_6 => (if (ktakeActR (C i_2).1 (P i_2) T X) = (-1) then (-1) else (if (ktakeActR (C i_2).1 (P i_2) T X) = (-2) then (-1) else (if (kputActR (C i_6).1 ((va_up P i_2 ((ktakeActS (C i_2).1 (P i_2) T X).1)) i_6) ((ktakeActS (C i_2).1 (P i_2) T X).2.1) ((ktakeActS (C i_2).1 (P i_2) T X).2.2) (ktakeActR (C i_2).1 (P i_2) T X)) = 1 then (ktakeActR (C i_2).1 (P i_2) T X) else ((-2) - (ktakeActR (C i_2).1 (P i_2) T X)))))))
def fX10_moveS (n : Nat) (C : CZ) (P : Nat → PP) (T : TT) (X : DD) (f : Int32) (t : Int32) : (Nat → PP) × TT × DD := (match fz n f with | none => (match fz n t with | none => (P, T, X) | some i_4 => (P, T, X)) | some i_2 => (match fz n t with | none => (P, T, X) | some i_6 => (if (ktakeActR (C i_2).1 (P i_2) T X) = (-1) then (va_up P i_2 ((ktakeActS (C i_2).1 (P i_2) T X).1), (ktakeActS (C i_2).1 (P i_2) T X).2.1, (ktakeActS (C i_2).1 (P i_2) T X).2.2) else (if (ktakeActR (C i_2).1 (P i_2) T X) = (-2) then (va_up P i_2 ((ktakeActS (C i_2).1 (P i_2) T X).1), (ktakeActS (C i_2).1 (P i_2) T X).2.1, (ktakeActS (C i_2).1 (P i_2) T X).2.2) else (if (kputActR (C i_6).1 ((va_up P i_2 ((ktakeActS (C i_2).1 (P i_2) T X).1)) i_6) ((ktakeActS (C i_2).1 (P i_2) T X).2.1) ((ktakeActS (C i_2).1 (P i_2) T X).2.2) (ktakeActR (C i_2).1 (P i_2) T X)) = 1 then (va_up (va_up P i_2 ((ktakeActS (C i_2).1 (P i_2) T X).1)) i_6 ((kputActS (C i_6).1 ((va_up P i_2 ((ktakeActS (C i_2).1 (P i_2) T X).1)) i_6) ((ktakeActS (C i_2).1 (P i_2) T X).2.1) ((ktakeActS (C i_2).1 (P i_2) T X).2.2) (ktakeActR (C i_2).1 (P i_2) T X)).1), (kputActS (C i_6).1 ((va_up P i_2 ((ktakeActS (C i_2).1 (P i_2) T X).1)) i_6) ((ktakeActS (C i_2).1 (P i_2) T X).2.1) ((ktakeActS (C i_2).1 (P i_2) T X).2.2) (ktakeActR (C i_2).1 (P i_2) T X)).2.1, (kputActS (C i_6).1 ((va_up P i_2 ((ktakeActS (C i_2).1 (P i_2) T X).1)) i_6) ((ktakeActS (C i_2).1 (P i_2) T X).2.1) ((ktakeActS (C i_2).1 (P i_2) T X).2.2) (ktakeActR (C i_2).1 (P i_2) T X)).2.2) else (va_up (va_up P i_2 ((ktakeActS (C i_2).1 (P i_2) T X).1)) i_6 ((kputActS (C i_6).1 ((va_up P i_2 ((ktakeActS (C i_2).1 (P i_2) T X).1)) i_6) ((ktakeActS (C i_2).1 (P i_2) T X).2.1) ((ktakeActS (C i_2).1 (P i_2) T X).2.2) (ktakeActR (C i_2).1 (P i_2) T X)).1), (kputActS (C i_6).1 ((va_up P i_2 ((ktakeActS (C i_2).1 (P i_2) T X).1)) i_6) ((ktakeActS (C i_2).1 (P i_2) T X).2.1) ((ktakeActS (C i_2).1 (P i_2) T X).2.2) (ktakeActR (C i_2).1 (P i_2) T X)).2.1, (kputActS (C i_6).1 ((va_up P i_2 ((ktakeActS (C i_2).1 (P i_2) T X).1)) i_6) ((ktakeActS (C i_2).1 (P i_2) T X).2.1) ((ktakeActS (C i_2).1 (P i_2) T X).2.2) (ktakeActR (C i_2).1 (P i_2) T X)).2.2))))))
set_option maxHeartbeats 4000000 in
set_option maxRecDepth 100000 in
theorem c_X10_move (l : Launch) (D : va_G) (g : GA) (x : GX) (n : Nat) (hn : n ≤ 12) (C : CZ) (hC : ∀ i, i < n → pkAll (C i).1) (P : Nat → PP) (T : TT) (X : DD) (f : Int32) (t : Int32) : ctI l D (tyX g x) yX10_move (wd yX10_move cX10_move 6 (Option.some Jvm.ClassFile.FieldType.int)) { frames := 6, cells := 0, slots := 0, locals := 128 } [.ref x.xo, .int f, .int t] (wX g x n C P T X) (fun r w => r = fX10_moveR n C P T X f t ∧ w = wX g x n C (fX10_moveS n C P T X f t).1 (fX10_moveS n C P T X f t).2.1 (fX10_moveS n C P T X f t).2.2) := by
  intro sz
  refine Met.ofW (cc := cX10_move) (maxL := 6) (ret := (Option.some Jvm.ClassFile.FieldType.int)) (by decide) rfl ?_
  intro p e s m args below meth c s₁ B hml hv
  obtain ⟨rfl, hsz, hP, hK, hD0⟩ := hv
  have hx := B.exec
  have hb := B.bytes
  have hr := B.returns
  have hts := atoms_spec (ws := (wd yX10_move cX10_move 6 (Option.some Jvm.ClassFile.FieldType.int))) B.pre
  have hg := Tb.of hts
  have hown : s.vm.findClass RX10 = some m.cls := findClass_of_methodNamed B.named
  have hlocks := B.notSynchronized
  subst hsz
  have hD := hD0.self (sz := s.heap.size)
  generalize hAe : va_A (wX g x n C P T X) s.heap.size = A at hD ⊢
  have hA : ∀ q : Nat, s.heap.size ≤ q → A q := fun q h => by rw [← hAe]; exact Or.inr h
  have hS : va_S A s.heap s.heap [] := va_S.rf
  have hP : va_P D vwCl (wX g x n C P T X) s.heap := hP
  have hl := lv_entry ([.ref x.xo, .int f, .int t]) (n := 6) (Nat.le_of_ble_eq_true rfl)
  rw [lg_entry_eq]
  generalize (lg_sl ([.ref x.xo, .int f, .int t]) ++ List.replicate (6 - (lg_sl ([.ref x.xo, .int f, .int t])).length) Slot.unset).toArray = ls at hl ⊢
  have hl : lv_has ls 6 [(0, .ref x.xo), (1, .int f), (2, .int t)] := hl
  refine lv_aload_n hx hb dX10_move_0 rfl (lv_at hl 0 rfl) ?_
  refine lv_iload_n hx hb dX10_move_1 rfl (lv_at hl 1 rfl) ?_
  refine z_qeQ (ws := wX0 g x n C T X) (pl := wL g n C P) (va_runV (As := [.int f]) (rest := []) ⟨hx, hb, hml, hown, hts⟩ (c_X10_pileOf l D g x n hn C f _) (z_V 1 hts g_266 g_1 g_263 g_265 gp_1 ⟨by decide, by decide, by decide +kernel⟩ ⟨Nat.le_of_ble_eq_true rfl, Nat.le_of_ble_eq_true rfl⟩) (z_preV (ci := 11) (q0 := 0) (hP.subm [0, 1] rfl) (hD.sub [0, 1] (by decide) rfl) hK rfl rfl) rfl rfl hl.1 rfl (lv_room (Nat.le_of_ble_eq_true rfl)) dX10_move_2 ⟨Nat.le_of_ble_eq_true rfl, Nat.le_of_ble_eq_true rfl⟩) hP hD hS hA (wT g T ++ wD g X) (wX0 g x n C T X) [0, 1] [2, 3, 4, 5, 6, 7, 8] [7, 8, 0, 1, 2, 3, 4, 5, 6] rfl rfl (by decide) (by decide) rfl (by decide) (fun H locs hP hD hS => ?_)
  cases hz_1 : fz n f with
  | none =>
    refine W.eq (g2 := F0 m 5 ls [.null]) rfl ?_
    refine lv_astore_nN (lv' := [(3, .null), (0, .ref x.xo), (1, .int f), (2, .int t)]) hx hb dX10_move_5 rfl hl (by decide) rfl (fun ls hl => ?_)
    refine lv_aload_n hx hb dX10_move_6 rfl (lv_at hl 1 rfl) ?_
    refine lv_iload_n hx hb dX10_move_7 rfl (lv_at hl 3 rfl) ?_
    refine z_qeQ (ws := wX0 g x n C T X) (pl := wL g n C P) (va_runV (As := [.int t]) (rest := []) ⟨hx, hb, hml, hown, hts⟩ (c_X10_pileOf l D g x n hn C t _) (z_V 1 hts g_266 g_1 g_263 g_265 gp_1 ⟨by decide, by decide, by decide +kernel⟩ ⟨Nat.le_of_ble_eq_true rfl, Nat.le_of_ble_eq_true rfl⟩) (z_preV (ci := 11) (q0 := 0) (hP.subm [0, 1] rfl) (hD.sub [0, 1] (by decide) rfl) hK rfl rfl) rfl rfl hl.1 rfl (lv_room (Nat.le_of_ble_eq_true rfl)) dX10_move_8 ⟨Nat.le_of_ble_eq_true rfl, Nat.le_of_ble_eq_true rfl⟩) hP hD hS hA (wT g T ++ wD g X) (wX0 g x n C T X) [0, 1] [2, 3, 4, 5, 6, 7, 8] [7, 8, 0, 1, 2, 3, 4, 5, 6] rfl rfl (by decide) (by decide) rfl (by decide) (fun H locs hP hD hS => ?_)
    cases hz_3 : fz n t with
    | none =>
      refine W.eq (g2 := F0 m 11 ls [.null]) rfl ?_
      refine lv_astoreN (lv' := [(4, .null), (3, .null), (0, .ref x.xo), (1, .int f), (2, .int t)]) hx hb dX10_move_11 hl (by decide) rfl (fun ls hl => ?_)
      refine lv_aload_nN hx hb dX10_move_13 rfl (lv_at hl 1 rfl) ?_
      refine lv_ifnullN (tgt := 22) hx hb dX10_move_14 (by decide) ?_
      refine lv_bipush (v := (-101)) hx hb dX10_move_22 (by decide) ?_
      exact W.iret (v := (-101)) hx hb hr (fun t9 ht hW => ⟨⟨(-101), wX g x n C P T X, rfl, ⟨(by simp only [fX10_moveR, hz_1, hz_3]), (by simp only [fX10_moveS, hz_1, hz_3])⟩, by rw [ht]; exact hP, va_K.moved hW.alike hK, hD⟩, hS.F ht⟩) hS.2.2 dX10_move_24
    | some i_4 =>
      refine W.eq (g2 := F0 m 11 ls [.ref (C i_4).2.1]) rfl ?_
      have hi_4 := fz_lt hz_3
      refine lv_astore (lv' := [(4, .ref (C i_4).2.1), (3, .null), (0, .ref x.xo), (1, .int f), (2, .int t)]) hx hb dX10_move_11 hl (by decide) rfl (fun ls hl => ?_)
      refine lv_aload_nN hx hb dX10_move_13 rfl (lv_at hl 1 rfl) ?_
      refine lv_ifnullN (tgt := 22) hx hb dX10_move_14 (by decide) ?_
      refine lv_bipush (v := (-101)) hx hb dX10_move_22 (by decide) ?_
      exact W.iret (v := (-101)) hx hb hr (fun t9 ht hW => ⟨⟨(-101), wX g x n C P T X, rfl, ⟨(by simp only [fX10_moveR, hz_1, hz_3]), (by simp only [fX10_moveS, hz_1, hz_3])⟩, by rw [ht]; exact hP, va_K.moved hW.alike hK, hD⟩, hS.F ht⟩) hS.2.2 dX10_move_24
  | some i_2 =>
    refine W.eq (g2 := F0 m 5 ls [.ref (C i_2).2.1]) rfl ?_
    have hi_2 := fz_lt hz_1
    refine lv_astore_n (lv' := [(3, .ref (C i_2).2.1), (0, .ref x.xo), (1, .int f), (2, .int t)]) hx hb dX10_move_5 rfl hl (by decide) rfl (fun ls hl => ?_)
    refine lv_aload_n hx hb dX10_move_6 rfl (lv_at hl 1 rfl) ?_
    refine lv_iload_n hx hb dX10_move_7 rfl (lv_at hl 3 rfl) ?_
    refine z_qeQ (ws := wX0 g x n C T X) (pl := wL g n C P) (va_runV (As := [.int t]) (rest := []) ⟨hx, hb, hml, hown, hts⟩ (c_X10_pileOf l D g x n hn C t _) (z_V 1 hts g_266 g_1 g_263 g_265 gp_1 ⟨by decide, by decide, by decide +kernel⟩ ⟨Nat.le_of_ble_eq_true rfl, Nat.le_of_ble_eq_true rfl⟩) (z_preV (ci := 11) (q0 := 0) (hP.subm [0, 1] rfl) (hD.sub [0, 1] (by decide) rfl) hK rfl rfl) rfl rfl hl.1 rfl (lv_room (Nat.le_of_ble_eq_true rfl)) dX10_move_8 ⟨Nat.le_of_ble_eq_true rfl, Nat.le_of_ble_eq_true rfl⟩) hP hD hS hA (wT g T ++ wD g X) (wX0 g x n C T X) [0, 1] [2, 3, 4, 5, 6, 7, 8] [7, 8, 0, 1, 2, 3, 4, 5, 6] rfl rfl (by decide) (by decide) rfl (by decide) (fun H locs hP hD hS => ?_)
    cases hz_5 : fz n t with
    | none =>
      refine W.eq (g2 := F0 m 11 ls [.null]) rfl ?_
      refine lv_astoreN (lv' := [(4, .null), (3, .ref (C i_2).2.1), (0, .ref x.xo), (1, .int f), (2, .int t)]) hx hb dX10_move_11 hl (by decide) rfl (fun ls hl => ?_)
      refine lv_aload_n hx hb dX10_move_13 rfl (lv_at hl 1 rfl) ?_
      refine lv_ifnull hx hb dX10_move_14 ?_
      refine lv_aloadN hx hb dX10_move_17 (lv_at hl 0 rfl) ?_
      refine lv_ifnonnullN hx hb dX10_move_19 ?_
      refine lv_bipush (v := (-101)) hx hb dX10_move_22 (by decide) ?_
      exact W.iret (v := (-101)) hx hb hr (fun t9 ht hW => ⟨⟨(-101), wX g x n C P T X, rfl, ⟨(by simp only [fX10_moveR, hz_1, hz_5]), (by simp only [fX10_moveS, hz_1, hz_5])⟩, by rw [ht]; exact hP, va_K.moved hW.alike hK, hD⟩, hS.F ht⟩) hS.2.2 dX10_move_24
    | some i_6 =>
      refine W.eq (g2 := F0 m 11 ls [.ref (C i_6).2.1]) rfl ?_
      have hi_6 := fz_lt hz_5
      refine lv_astore (lv' := [(4, .ref (C i_6).2.1), (3, .ref (C i_2).2.1), (0, .ref x.xo), (1, .int f), (2, .int t)]) hx hb dX10_move_11 hl (by decide) rfl (fun ls hl => ?_)
      refine lv_aload_n hx hb dX10_move_13 rfl (lv_at hl 1 rfl) ?_
      refine lv_ifnull hx hb dX10_move_14 ?_
      refine lv_aload hx hb dX10_move_17 (lv_at hl 0 rfl) ?_
      refine lv_ifnonnull (tgt := 25) hx hb dX10_move_19 (by decide) ?_
      refine lv_aload_n hx hb dX10_move_25 rfl (lv_at hl 1 rfl) ?_
      have hP := vP_perm (wF_perm g x C P T X hi_2) hP
      have hD := vD_perm (wF_perm g x C P T X hi_2) hD
      refine z_ieQ (ws := wF0 g x n C (C i_2).1 (C i_2).2.1 (C i_2).2.2 (P i_2) T X) (pl := wO g n C P i_2) (rv_X10_takeAct (rest := []) (hC i_2 hi_2) ⟨hx, hb, hml, hown, hts⟩ (hP.subm [2, 3, 4, 5, 6, 7, 8, 9, 10] rfl) (hD.sub [2, 3, 4, 5, 6, 7, 8, 9, 10] (by decide) rfl) (hK.sub (tys' := tyA g) [0, 1] rfl) ⟨Nat.le_of_ble_eq_true rfl, Nat.le_of_ble_eq_true rfl⟩ rfl hl.1 rfl (lv_room (Nat.le_of_ble_eq_true rfl)) dX10_move_26 ⟨Nat.le_of_ble_eq_true rfl, Nat.le_of_ble_eq_true rfl⟩) hP hD hS hA (wY g x n C) (wF0 g x n C (C i_2).1 (C i_2).2.1 (C i_2).2.2 ((ktakeActS (C i_2).1 (P i_2) T X).1) ((ktakeActS (C i_2).1 (P i_2) T X).2.1) ((ktakeActS (C i_2).1 (P i_2) T X).2.2)) [2, 3, 4, 5, 6, 7, 8, 9, 10] [0, 1] [0, 1, 2, 3, 4, 5, 6, 7, 8, 9, 10] rfl rfl (by decide) (by decide) rfl (by decide) (fun H locs hP hD hS => ?_)
      have hP := vP_perm (wU_perm g x C P ((ktakeActS (C i_2).1 (P i_2) T X).1) ((ktakeActS (C i_2).1 (P i_2) T X).2.1) ((ktakeActS (C i_2).1 (P i_2) T X).2.2) hi_2) hP
      have hD := vD_perm (wU_perm g x C P ((ktakeActS (C i_2).1 (P i_2) T X).1) ((ktakeActS (C i_2).1 (P i_2) T X).2.1) ((ktakeActS (C i_2).1 (P i_2) T X).2.2) hi_2) hD
      refine lv_istore (lv' := [(5, .int (ktakeActR (C i_2).1 (P i_2) T X)), (4, .ref (C i_6).2.1), (3, .ref (C i_2).2.1), (0, .ref x.xo), (1, .int f), (2, .int t)]) hx hb dX10_move_29 hl (by decide) rfl (fun ls hl => ?_)
      refine lv_iload hx hb dX10_move_31 (lv_at hl 0 rfl) ?_
      refine lv_iconst (v := (-1)) hx hb dX10_move_33 (by decide) ?_
      refine lv_icmp_eq (tgt := 44) hx hb dX10_move_34 (by decide) (fun c_7 => ?_) (fun c_7 => ?_)
      · -- (ktakeActR (C i_2).1 (P i_2) T X) = (-1)
        refine lv_iconst (v := (-1)) hx hb dX10_move_44 (by decide) ?_
        exact W.iret (v := (-1)) hx hb hr (fun t9 ht hW => ⟨⟨(-1), wX g x n C (va_up P i_2 ((ktakeActS (C i_2).1 (P i_2) T X).1)) ((ktakeActS (C i_2).1 (P i_2) T X).2.1) ((ktakeActS (C i_2).1 (P i_2) T X).2.2), rfl, ⟨(by simp only [fX10_moveR, if_pos c_7, hz_1, hz_5]), (by simp only [fX10_moveS, if_pos c_7, hz_1, hz_5])⟩, by rw [ht]; exact hP, va_K.moved hW.alike hK, hD⟩, hS.F ht⟩) hS.2.2 dX10_move_45
      · -- not (ktakeActR (C i_2).1 (P i_2) T X) = (-1)
        refine lv_iload hx hb dX10_move_37 (lv_at hl 0 rfl) ?_
        refine lv_bipush (v := (-2)) hx hb dX10_move_39 (by decide) ?_
        refine lv_icmp_ne (tgt := 46) hx hb dX10_move_41 (by decide) (fun c_8 => ?_) (fun c_8 => ?_)
        · -- not (ktakeActR (C i_2).1 (P i_2) T X) = (-2)
          refine lv_aload hx hb dX10_move_46 (lv_at hl 1 rfl) ?_
          refine lv_iload hx hb dX10_move_48 (lv_at hl 0 rfl) ?_
          have hP := vP_perm (wF_perm g x C (va_up P i_2 ((ktakeActS (C i_2).1 (P i_2) T X).1)) ((ktakeActS (C i_2).1 (P i_2) T X).2.1) ((ktakeActS (C i_2).1 (P i_2) T X).2.2) hi_6) hP
          have hD := vD_perm (wF_perm g x C (va_up P i_2 ((ktakeActS (C i_2).1 (P i_2) T X).1)) ((ktakeActS (C i_2).1 (P i_2) T X).2.1) ((ktakeActS (C i_2).1 (P i_2) T X).2.2) hi_6) hD
          refine z_ieQ (ws := wF0 g x n C (C i_6).1 (C i_6).2.1 (C i_6).2.2 ((va_up P i_2 ((ktakeActS (C i_2).1 (P i_2) T X).1)) i_6) ((ktakeActS (C i_2).1 (P i_2) T X).2.1) ((ktakeActS (C i_2).1 (P i_2) T X).2.2)) (pl := wO g n C (va_up P i_2 ((ktakeActS (C i_2).1 (P i_2) T X).1)) i_6) (rv_X10_putAct (rest := []) (hC i_6 hi_6) ⟨hx, hb, hml, hown, hts⟩ (hP.subm [2, 3, 4, 5, 6, 7, 8, 9, 10] rfl) (hD.sub [2, 3, 4, 5, 6, 7, 8, 9, 10] (by decide) rfl) (hK.sub (tys' := tyA g) [0, 1] rfl) ⟨Nat.le_of_ble_eq_true rfl, Nat.le_of_ble_eq_true rfl⟩ rfl hl.1 rfl (lv_room (Nat.le_of_ble_eq_true rfl)) dX10_move_50 ⟨Nat.le_of_ble_eq_true rfl, Nat.le_of_ble_eq_true rfl⟩) hP hD hS hA (wY g x n C) (wF0 g x n C (C i_6).1 (C i_6).2.1 (C i_6).2.2 ((kputActS (C i_6).1 ((va_up P i_2 ((ktakeActS (C i_2).1 (P i_2) T X).1)) i_6) ((ktakeActS (C i_2).1 (P i_2) T X).2.1) ((ktakeActS (C i_2).1 (P i_2) T X).2.2) (ktakeActR (C i_2).1 (P i_2) T X)).1) ((kputActS (C i_6).1 ((va_up P i_2 ((ktakeActS (C i_2).1 (P i_2) T X).1)) i_6) ((ktakeActS (C i_2).1 (P i_2) T X).2.1) ((ktakeActS (C i_2).1 (P i_2) T X).2.2) (ktakeActR (C i_2).1 (P i_2) T X)).2.1) ((kputActS (C i_6).1 ((va_up P i_2 ((ktakeActS (C i_2).1 (P i_2) T X).1)) i_6) ((ktakeActS (C i_2).1 (P i_2) T X).2.1) ((ktakeActS (C i_2).1 (P i_2) T X).2.2) (ktakeActR (C i_2).1 (P i_2) T X)).2.2)) [2, 3, 4, 5, 6, 7, 8, 9, 10] [0, 1] [0, 1, 2, 3, 4, 5, 6, 7, 8, 9, 10] rfl rfl (by decide) (by decide) rfl (by decide) (fun H locs hP hD hS => ?_)
          have hP := vP_perm (wU_perm g x C (va_up P i_2 ((ktakeActS (C i_2).1 (P i_2) T X).1)) ((kputActS (C i_6).1 ((va_up P i_2 ((ktakeActS (C i_2).1 (P i_2) T X).1)) i_6) ((ktakeActS (C i_2).1 (P i_2) T X).2.1) ((ktakeActS (C i_2).1 (P i_2) T X).2.2) (ktakeActR (C i_2).1 (P i_2) T X)).1) ((kputActS (C i_6).1 ((va_up P i_2 ((ktakeActS (C i_2).1 (P i_2) T X).1)) i_6) ((ktakeActS (C i_2).1 (P i_2) T X).2.1) ((ktakeActS (C i_2).1 (P i_2) T X).2.2) (ktakeActR (C i_2).1 (P i_2) T X)).2.1) ((kputActS (C i_6).1 ((va_up P i_2 ((ktakeActS (C i_2).1 (P i_2) T X).1)) i_6) ((ktakeActS (C i_2).1 (P i_2) T X).2.1) ((ktakeActS (C i_2).1 (P i_2) T X).2.2) (ktakeActR (C i_2).1 (P i_2) T X)).2.2) hi_6) hP
          have hD := vD_perm (wU_perm g x C (va_up P i_2 ((ktakeActS (C i_2).1 (P i_2) T X).1)) ((kputActS (C i_6).1 ((va_up P i_2 ((ktakeActS (C i_2).1 (P i_2) T X).1)) i_6) ((ktakeActS (C i_2).1 (P i_2) T X).2.1) ((ktakeActS (C i_2).1 (P i_2) T X).2.2) (ktakeActR (C i_2).1 (P i_2) T X)).1) ((kputActS (C i_6).1 ((va_up P i_2 ((ktakeActS (C i_2).1 (P i_2) T X).1)) i_6) ((ktakeActS (C i_2).1 (P i_2) T X).2.1) ((ktakeActS (C i_2).1 (P i_2) T X).2.2) (ktakeActR (C i_2).1 (P i_2) T X)).2.1) ((kputActS (C i_6).1 ((va_up P i_2 ((ktakeActS (C i_2).1 (P i_2) T X).1)) i_6) ((ktakeActS (C i_2).1 (P i_2) T X).2.1) ((ktakeActS (C i_2).1 (P i_2) T X).2.2) (ktakeActR (C i_2).1 (P i_2) T X)).2.2) hi_6) hD
          refine lv_iconst (v := 1) hx hb dX10_move_53 (by decide) ?_
          refine lv_icmp_ne (tgt := 62) hx hb dX10_move_54 (by decide) (fun c_9 => ?_) (fun c_9 => ?_)
          · -- not (kputActR (C i_6).1 ((va_up P i_2 ((ktakeActS (C i_2).1 (P i_2) T X).1)) i_6) ((ktakeActS (C i_2).1 (P i_2) T X).2.1) ((ktakeActS (C i_2).1 (P i_2) T X).2.2) (ktakeActR (C i_2).1 (P i_2) T X)) = 1
            refine lv_bipush (v := (-2)) hx hb dX10_move_62 (by decide) ?_
            refine lv_iload hx hb dX10_move_64 (lv_at hl 0 rfl) ?_
            refine lv_isub hx hb dX10_move_66 ?_
            exact W.iret (v := ((-2) - (ktakeActR (C i_2).1 (P i_2) T X))) hx hb hr (fun t9 ht hW => ⟨⟨((-2) - (ktakeActR (C i_2).1 (P i_2) T X)), wX g x n C (va_up (va_up P i_2 ((ktakeActS (C i_2).1 (P i_2) T X).1)) i_6 ((kputActS (C i_6).1 ((va_up P i_2 ((ktakeActS (C i_2).1 (P i_2) T X).1)) i_6) ((ktakeActS (C i_2).1 (P i_2) T X).2.1) ((ktakeActS (C i_2).1 (P i_2) T X).2.2) (ktakeActR (C i_2).1 (P i_2) T X)).1)) ((kputActS (C i_6).1 ((va_up P i_2 ((ktakeActS (C i_2).1 (P i_2) T X).1)) i_6) ((ktakeActS (C i_2).1 (P i_2) T X).2.1) ((ktakeActS (C i_2).1 (P i_2) T X).2.2) (ktakeActR (C i_2).1 (P i_2) T X)).2.1) ((kputActS (C i_6).1 ((va_up P i_2 ((ktakeActS (C i_2).1 (P i_2) T X).1)) i_6) ((ktakeActS (C i_2).1 (P i_2) T X).2.1) ((ktakeActS (C i_2).1 (P i_2) T X).2.2) (ktakeActR (C i_2).1 (P i_2) T X)).2.2), rfl, ⟨(by simp only [fX10_moveR, if_neg c_7, if_neg c_8, if_neg c_9, hz_1, hz_5]), (by simp only [fX10_moveS, if_neg c_7, if_neg c_8, if_neg c_9, hz_1, hz_5])⟩, by rw [ht]; exact hP, va_K.moved hW.alike hK, hD⟩, hS.F ht⟩) hS.2.2 dX10_move_67
          · -- (kputActR (C i_6).1 ((va_up P i_2 ((ktakeActS (C i_2).1 (P i_2) T X).1)) i_6) ((ktakeActS (C i_2).1 (P i_2) T X).2.1) ((ktakeActS (C i_2).1 (P i_2) T X).2.2) (ktakeActR (C i_2).1 (P i_2) T X)) = 1
            refine lv_iload hx hb dX10_move_57 (lv_at hl 0 rfl) ?_
            refine lv_goto (tgt := 67) hx hb dX10_move_59 (by decide) ?_
            exact W.iret (v := (ktakeActR (C i_2).1 (P i_2) T X)) hx hb hr (fun t9 ht hW => ⟨⟨(ktakeActR (C i_2).1 (P i_2) T X), wX g x n C (va_up (va_up P i_2 ((ktakeActS (C i_2).1 (P i_2) T X).1)) i_6 ((kputActS (C i_6).1 ((va_up P i_2 ((ktakeActS (C i_2).1 (P i_2) T X).1)) i_6) ((ktakeActS (C i_2).1 (P i_2) T X).2.1) ((ktakeActS (C i_2).1 (P i_2) T X).2.2) (ktakeActR (C i_2).1 (P i_2) T X)).1)) ((kputActS (C i_6).1 ((va_up P i_2 ((ktakeActS (C i_2).1 (P i_2) T X).1)) i_6) ((ktakeActS (C i_2).1 (P i_2) T X).2.1) ((ktakeActS (C i_2).1 (P i_2) T X).2.2) (ktakeActR (C i_2).1 (P i_2) T X)).2.1) ((kputActS (C i_6).1 ((va_up P i_2 ((ktakeActS (C i_2).1 (P i_2) T X).1)) i_6) ((ktakeActS (C i_2).1 (P i_2) T X).2.1) ((ktakeActS (C i_2).1 (P i_2) T X).2.2) (ktakeActR (C i_2).1 (P i_2) T X)).2.2), rfl, ⟨(by simp only [fX10_moveR, if_neg c_7, if_neg c_8, if_pos c_9, hz_1, hz_5]), (by simp only [fX10_moveS, if_neg c_7, if_neg c_8, if_pos c_9, hz_1, hz_5])⟩, by rw [ht]; exact hP, va_K.moved hW.alike hK, hD⟩, hS.F ht⟩) hS.2.2 dX10_move_67
        · -- (ktakeActR (C i_2).1 (P i_2) T X) = (-2)
          refine lv_iconst (v := (-1)) hx hb dX10_move_44 (by decide) ?_
          exact W.iret (v := (-1)) hx hb hr (fun t9 ht hW => ⟨⟨(-1), wX g x n C (va_up P i_2 ((ktakeActS (C i_2).1 (P i_2) T X).1)) ((ktakeActS (C i_2).1 (P i_2) T X).2.1) ((ktakeActS (C i_2).1 (P i_2) T X).2.2), rfl, ⟨(by simp only [fX10_moveR, if_neg c_7, if_pos c_8, hz_1, hz_5]), (by simp only [fX10_moveS, if_neg c_7, if_pos c_8, hz_1, hz_5])⟩, by rw [ht]; exact hP, va_K.moved hW.alike hK, hD⟩, hS.F ht⟩) hS.2.2 dX10_move_45

def fX10_atR (n : Nat) (C : CZ) (P : Nat → PP) (T : TT) (X : DD) (pl : Int32) (i : Int32) : Int32 := (match fz n pl with | none => (-101) | some i_2 => (if (fX4_timberAtR (P i_2) T X i) = (-1) then (-101) else (fX4_timberAtR (P i_2) T X i)))
def fX10_atS (n : Nat) (C : CZ) (P : Nat → PP) (T : TT) (X : DD) (pl : Int32) (i : Int32) : (Nat → PP) × TT × DD := (match fz n pl with | none => (P, T, X) | some i_2 => (if (fX4_timberAtR (P i_2) T X i) = (-1) then (va_up P i_2 (P i_2), T, X) else (va_up P i_2 (P i_2), T, X)))
set_option maxHeartbeats 4000000 in
set_option maxRecDepth 100000 in
theorem c_X10_at (l : Launch) (D : va_G) (g : GA) (x : GX) (n : Nat) (hn : n ≤ 12) (C : CZ) (hC : ∀ i, i < n → pkAll (C i).1) (P : Nat → PP) (T : TT) (X : DD) (pl : Int32) (i : Int32) : ctI l D (tyX g x) yX10_at (wd yX10_at cX10_at 5 (Option.some Jvm.ClassFile.FieldType.int)) { frames := 1, cells := 0, slots := 0, locals := 21 } [.ref x.xo, .int pl, .int i] (wX g x n C P T X) (fun r w => r = fX10_atR n C P T X pl i ∧ w = wX g x n C (fX10_atS n C P T X pl i).1 (fX10_atS n C P T X pl i).2.1 (fX10_atS n C P T X pl i).2.2) := by
  intro sz
  refine Met.ofW (cc := cX10_at) (maxL := 5) (ret := (Option.some Jvm.ClassFile.FieldType.int)) (by decide) rfl ?_
  intro p e s m args below meth c s₁ B hml hv
  obtain ⟨rfl, hsz, hP, hK, hD0⟩ := hv
  have hx := B.exec
  have hb := B.bytes
  have hr := B.returns
  have hts := atoms_spec (ws := (wd yX10_at cX10_at 5 (Option.some Jvm.ClassFile.FieldType.int))) B.pre
  have hg := Tb.of hts
  have hown : s.vm.findClass RX10 = some m.cls := findClass_of_methodNamed B.named
  have hlocks := B.notSynchronized
  subst hsz
  have hD := hD0.self (sz := s.heap.size)
  generalize hAe : va_A (wX g x n C P T X) s.heap.size = A at hD ⊢
  have hA : ∀ q : Nat, s.heap.size ≤ q → A q := fun q h => by rw [← hAe]; exact Or.inr h
  have hS : va_S A s.heap s.heap [] := va_S.rf
  have hP : va_P D vwCl (wX g x n C P T X) s.heap := hP
  have hl := lv_entry ([.ref x.xo, .int pl, .int i]) (n := 5) (Nat.le_of_ble_eq_true rfl)
  rw [lg_entry_eq]
  generalize (lg_sl ([.ref x.xo, .int pl, .int i]) ++ List.replicate (5 - (lg_sl ([.ref x.xo, .int pl, .int i])).length) Slot.unset).toArray = ls at hl ⊢
  have hl : lv_has ls 5 [(0, .ref x.xo), (1, .int pl), (2, .int i)] := hl
  refine lv_aload_n hx hb dX10_at_0 rfl (lv_at hl 0 rfl) ?_
  refine lv_iload_n hx hb dX10_at_1 rfl (lv_at hl 1 rfl) ?_
  refine z_qeQ (ws := wX0 g x n C T X) (pl := wL g n C P) (va_runV (As := [.int pl]) (rest := []) ⟨hx, hb, hml, hown, hts⟩ (c_X10_pileOf l D g x n hn C pl _) (z_V 1 hts g_266 g_1 g_263 g_265 gp_1 ⟨by decide, by decide, by decide +kernel⟩ ⟨Nat.le_of_ble_eq_true rfl, Nat.le_of_ble_eq_true rfl⟩) (z_preV (ci := 11) (q0 := 0) (hP.subm [0, 1] rfl) (hD.sub [0, 1] (by decide) rfl) hK rfl rfl) rfl rfl hl.1 rfl (lv_room (Nat.le_of_ble_eq_true rfl)) dX10_at_2 ⟨Nat.le_of_ble_eq_true rfl, Nat.le_of_ble_eq_true rfl⟩) hP hD hS hA (wT g T ++ wD g X) (wX0 g x n C T X) [0, 1] [2, 3, 4, 5, 6, 7, 8] [7, 8, 0, 1, 2, 3, 4, 5, 6] rfl rfl (by decide) (by decide) rfl (by decide) (fun H locs hP hD hS => ?_)
  cases hz_1 : fz n pl with
  | none =>
    refine W.eq (g2 := F0 m 5 ls [.null]) rfl ?_
    refine lv_astore_nN (lv' := [(3, .null), (0, .ref x.xo), (1, .int pl), (2, .int i)]) hx hb dX10_at_5 rfl hl (by decide) rfl (fun ls hl => ?_)
    refine lv_aload_nN hx hb dX10_at_6 rfl (lv_at hl 0 rfl) ?_
    refine lv_ifnonnullN hx hb dX10_at_7 ?_
    refine lv_bipush (v := (-101)) hx hb dX10_at_10 (by decide) ?_
    exact W.iret (v := (-101)) hx hb hr (fun t9 ht hW => ⟨⟨(-101), wX g x n C P T X, rfl, ⟨(by simp only [fX10_atR, hz_1]), (by simp only [fX10_atS, hz_1])⟩, by rw [ht]; exact hP, va_K.moved hW.alike hK, hD⟩, hS.F ht⟩) hS.2.2 dX10_at_12
  | some i_2 =>
    refine W.eq (g2 := F0 m 5 ls [.ref (C i_2).2.1]) rfl ?_
    have hi_2 := fz_lt hz_1
    refine lv_astore_n (lv' := [(3, .ref (C i_2).2.1), (0, .ref x.xo), (1, .int pl), (2, .int i)]) hx hb dX10_at_5 rfl hl (by decide) rfl (fun ls hl => ?_)
    refine lv_aload_n hx hb dX10_at_6 rfl (lv_at hl 0 rfl) ?_
    refine lv_ifnonnull (tgt := 13) hx hb dX10_at_7 (by decide) ?_
    refine lv_aload_n hx hb dX10_at_13 rfl (lv_at hl 0 rfl) ?_
    refine lv_iload_n hx hb dX10_at_14 rfl (lv_at hl 3 rfl) ?_
    have hP := vP_perm (wF_perm g x C P T X hi_2) hP
    have hD := vD_perm (wF_perm g x C P T X hi_2) hD
    refine z_ieQ (ws := wF0 g x n C (C i_2).1 (C i_2).2.1 (C i_2).2.2 (P i_2) T X) (pl := wO g n C P i_2) (va_runU (C := vn (C i_2).1) (As := [.int i]) (rest := []) ⟨hx, hb, hml, hown, hts⟩ (c_X4_timberAt l D g (C i_2).1 (C i_2).2.1 (C i_2).2.2 (hC i_2 hi_2) (P i_2) T X i _) (z_U (x := ⟨"PileHeirs$Plain", "timberAt", "(I)I"⟩) (owner := RX4) 1 hts g_303 g_5 g_515 g_846 g_302 g_303 (sl_Plain_timberAt (hC i_2 hi_2)) g_302 ⟨by decide, by decide, by decide +kernel⟩ ⟨Nat.le_of_ble_eq_true rfl, Nat.le_of_ble_eq_true rfl⟩) (z_preV (ci := (C i_2).1) (q0 := 0) (hP.subm [2, 3, 4, 5, 6, 7, 8, 9, 10] rfl) (hD.sub [2, 3, 4, 5, 6, 7, 8, 9, 10] (by decide) rfl) (hK.sub (tys' := tyA g) [0, 1] rfl) (pq_cl (hC i_2 hi_2)) rfl) rfl rfl hl.1 rfl (lv_room (Nat.le_of_ble_eq_true rfl)) dX10_at_15 ⟨Nat.le_of_ble_eq_true rfl, Nat.le_of_ble_eq_true rfl⟩) hP hD hS hA (wY g x n C) (wF0 g x n C (C i_2).1 (C i_2).2.1 (C i_2).2.2 (P i_2) T X) [2, 3, 4, 5, 6, 7, 8, 9, 10] [0, 1] [0, 1, 2, 3, 4, 5, 6, 7, 8, 9, 10] rfl rfl (by decide) (by decide) rfl (by decide) (fun H locs hP hD hS => ?_)
    have hP := vP_perm (wU_perm g x C P (P i_2) T X hi_2) hP
    have hD := vD_perm (wU_perm g x C P (P i_2) T X hi_2) hD
    refine lv_istore (lv' := [(4, .int (fX4_timberAtR (P i_2) T X i)), (3, .ref (C i_2).2.1), (0, .ref x.xo), (1, .int pl), (2, .int i)]) hx hb dX10_at_18 hl (by decide) rfl (fun ls hl => ?_)
    refine lv_iload hx hb dX10_at_20 (lv_at hl 0 rfl) ?_
    refine lv_iconst (v := (-1)) hx hb dX10_at_22 (by decide) ?_
    refine lv_icmp_ne (tgt := 31) hx hb dX10_at_23 (by decide) (fun c_3 => ?_) (fun c_3 => ?_)
    · -- not (fX4_timberAtR (P i_2) T X i) = (-1)
      refine lv_iload hx hb dX10_at_31 (lv_at hl 0 rfl) ?_
      exact W.iret (v := (fX4_timberAtR (P i_2) T X i)) hx hb hr (fun t9 ht hW => ⟨⟨(fX4_timberAtR (P i_2) T X i), wX g x n C (va_up P i_2 (P i_2)) T X, rfl, ⟨(by simp only [fX10_atR, if_neg c_3, hz_1]), (by simp only [fX10_atS, if_neg c_3, hz_1])⟩, by rw [ht]; exact hP, va_K.moved hW.alike hK, hD⟩, hS.F ht⟩) hS.2.2 dX10_at_33
    · -- (fX4_timberAtR (P i_2) T X i) = (-1)
      refine lv_bipush (v := (-101)) hx hb dX10_at_26 (by decide) ?_
      refine lv_goto (tgt := 33) hx hb dX10_at_28 (by decide) ?_
      exact W.iret (v := (-101)) hx hb hr (fun t9 ht hW => ⟨⟨(-101), wX g x n C (va_up P i_2 (P i_2)) T X, rfl, ⟨(by simp only [fX10_atR, if_pos c_3, hz_1]), (by simp only [fX10_atS, if_pos c_3, hz_1])⟩, by rw [ht]; exact hP, va_K.moved hW.alike hK, hD⟩, hS.F ht⟩) hS.2.2 dX10_at_33

def fX10_ofR (n : Nat) (C : CZ) (P : Nat → PP) (T : TT) (X : DD) (tb : Int32) (i : Int32) : Int32 := (if (fX7_hasR T tb) = 0 then (-101) else (if i = 0 then (fX7_lengthOfR T tb) else (if i = 1 then (fX7_weightOfR T tb) else (if i = 2 then (if (fX7_isWetR T tb) = 0 then 0 else 1) else (if i = 3 then (fX7_pileOfR T tb) else (-102))))))
set_option maxHeartbeats 4000000 in
set_option maxRecDepth 100000 in
theorem c_X10_of (l : Launch) (D : va_G) (g : GA) (x : GX) (n : Nat) (hn : n ≤ 12) (C : CZ) (hC : ∀ i, i < n → pkAll (C i).1) (P : Nat → PP) (T : TT) (X : DD) (tb : Int32) (i : Int32) : ctI l D (tyX g x) yX10_of (wd yX10_of cX10_of 3 (Option.some Jvm.ClassFile.FieldType.int)) { frames := 2, cells := 0, slots := 0, locals := 42 } [.ref x.xo, .int tb, .int i] (wX g x n C P T X) (fun r w => r = fX10_ofR n C P T X tb i ∧ w = wX g x n C P T X) := by
  intro sz
  refine Met.ofW (cc := cX10_of) (maxL := 3) (ret := (Option.some Jvm.ClassFile.FieldType.int)) (by decide) rfl ?_
  intro p e s m args below meth c s₁ B hml hv
  obtain ⟨rfl, hsz, hP, hK, hD0⟩ := hv
  have hx := B.exec
  have hb := B.bytes
  have hr := B.returns
  have hts := atoms_spec (ws := (wd yX10_of cX10_of 3 (Option.some Jvm.ClassFile.FieldType.int))) B.pre
  have hg := Tb.of hts
  have hown : s.vm.findClass RX10 = some m.cls := findClass_of_methodNamed B.named
  have hlocks := B.notSynchronized
  subst hsz
  have hD := hD0.self (sz := s.heap.size)
  generalize hAe : va_A (wX g x n C P T X) s.heap.size = A at hD ⊢
  have hA : ∀ q : Nat, s.heap.size ≤ q → A q := fun q h => by rw [← hAe]; exact Or.inr h
  have hS : va_S A s.heap s.heap [] := va_S.rf
  have hP : va_P D vwCl (wX g x n C P T X) s.heap := hP
  have hl := lv_entry ([.ref x.xo, .int tb, .int i]) (n := 3) (Nat.le_of_ble_eq_true rfl)
  rw [lg_entry_eq]
  generalize (lg_sl ([.ref x.xo, .int tb, .int i]) ++ List.replicate (3 - (lg_sl ([.ref x.xo, .int tb, .int i])).length) Slot.unset).toArray = ls at hl ⊢
  have hl : lv_has ls 3 [(0, .ref x.xo), (1, .int tb), (2, .int i)] := hl
  refine lv_aload_n hx hb dX10_of_0 rfl (lv_at hl 0 rfl) ?_
  refine va_get (D := D) (ci := 11) (v := .ref g.tm) (C := RX10) (T := TX10) (N := 4) hx hb hg in_X10 hown hK hP 0 rfl rfl 0 (by decide) (hg _ g_78) (fun _ h9 => h9) rfl dX10_of_1 ?_
  refine lv_iload_n hx hb dX10_of_4 rfl (lv_at hl 1 rfl) ?_
  refine z_ieQ (ws := wX0 g x n C T X) (pl := wL g n C P) (va_runV (As := [.int tb]) (rest := []) ⟨hx, hb, hml, hown, hts⟩ (c_X7_has l D g T tb _) (z_V 1 hts g_311 g_2 g_520 g_309 g_310 ⟨by decide, by decide, by decide +kernel⟩ ⟨Nat.le_of_ble_eq_true rfl, Nat.le_of_ble_eq_true rfl⟩) (z_preV (ci := 8) (q0 := 0) (hP.subm [2, 3, 4, 5, 6] rfl) (hD.sub [2, 3, 4, 5, 6] (by decide) rfl) (hK.sub (tys' := tyA g) [0, 1] rfl) rfl rfl) rfl rfl hl.1 rfl (lv_room (Nat.le_of_ble_eq_true rfl)) dX10_of_5 ⟨Nat.le_of_ble_eq_true rfl, Nat.le_of_ble_eq_true rfl⟩) hP hD hS hA (wY g x n C ++ wD g X) (wX0 g x n C T X) [2, 3, 4, 5, 6] [0, 1, 7, 8] [0, 1, 4, 5, 6, 7, 8, 2, 3] rfl rfl (by decide) (by decide) rfl (by decide) (fun H locs hP hD hS => ?_)
  refine lv_if_ne (tgt := 14) hx hb dX10_of_8 (by decide) (fun c_1 => ?_) (fun c_1 => ?_)
  · -- not (fX7_hasR T tb) = 0
    refine lv_iload_n hx hb dX10_of_14 rfl (lv_at hl 2 rfl) ?_
    by_cases c_2 : i = 0
    · refine lv_tableIn (tgt := 44) (off := 29) hx hb dX10_of_15 (by rw [c_2]; decide) (by rw [c_2]; decide) (by rw [c_2]; rfl) (by decide) ?_
      refine lv_aload_n hx hb dX10_of_44 rfl (lv_at hl 0 rfl) ?_
      refine va_get (D := D) (ci := 11) (v := .ref g.tm) (C := RX10) (T := TX10) (N := 4) hx hb hg in_X10 hown hK hP 0 rfl rfl 0 (by decide) (hg _ g_78) (fun _ h9 => h9) rfl dX10_of_45 ?_
      refine lv_iload_n hx hb dX10_of_48 rfl (lv_at hl 1 rfl) ?_
      refine z_ieQ (ws := wX0 g x n C T X) (pl := wL g n C P) (va_runV (As := [.int tb]) (rest := []) ⟨hx, hb, hml, hown, hts⟩ (c_X7_lengthOf l D g T tb _) (z_V 1 hts g_356 g_2 g_521 g_354 g_355 ⟨by decide, by decide, by decide +kernel⟩ ⟨Nat.le_of_ble_eq_true rfl, Nat.le_of_ble_eq_true rfl⟩) (z_preV (ci := 8) (q0 := 0) (hP.subm [2, 3, 4, 5, 6] rfl) (hD.sub [2, 3, 4, 5, 6] (by decide) rfl) (hK.sub (tys' := tyA g) [0, 1] rfl) rfl rfl) rfl rfl hl.1 rfl (lv_room (Nat.le_of_ble_eq_true rfl)) dX10_of_49 ⟨Nat.le_of_ble_eq_true rfl, Nat.le_of_ble_eq_true rfl⟩) hP hD hS hA (wY g x n C ++ wD g X) (wX0 g x n C T X) [2, 3, 4, 5, 6] [0, 1, 7, 8] [0, 1, 4, 5, 6, 7, 8, 2, 3] rfl rfl (by decide) (by decide) rfl (by decide) (fun H locs hP hD hS => ?_)
      exact W.iret (v := (fX7_lengthOfR T tb)) hx hb hr (fun t9 ht hW => ⟨⟨(fX7_lengthOfR T tb), wX g x n C P T X, rfl, ⟨(by simp only [fX10_ofR, if_neg c_1, if_pos c_2]), rfl⟩, by rw [ht]; exact hP, va_K.moved hW.alike hK, hD⟩, hS.F ht⟩) hS.2.2 dX10_of_52
    · skip
      by_cases c_3 : i = 1
      · refine lv_tableIn (tgt := 53) (off := 38) hx hb dX10_of_15 (by rw [c_3]; decide) (by rw [c_3]; decide) (by rw [c_3]; rfl) (by decide) ?_
        refine lv_aload_n hx hb dX10_of_53 rfl (lv_at hl 0 rfl) ?_
        refine va_get (D := D) (ci := 11) (v := .ref g.tm) (C := RX10) (T := TX10) (N := 4) hx hb hg in_X10 hown hK hP 0 rfl rfl 0 (by decide) (hg _ g_78) (fun _ h9 => h9) rfl dX10_of_54 ?_
        refine lv_iload_n hx hb dX10_of_57 rfl (lv_at hl 1 rfl) ?_
        refine z_ieQ (ws := wX0 g x n C T X) (pl := wL g n C P) (va_runV (As := [.int tb]) (rest := []) ⟨hx, hb, hml, hown, hts⟩ (c_X7_weightOf l D g T tb _) (z_V 1 hts g_321 g_2 g_522 g_319 g_320 ⟨by decide, by decide, by decide +kernel⟩ ⟨Nat.le_of_ble_eq_true rfl, Nat.le_of_ble_eq_true rfl⟩) (z_preV (ci := 8) (q0 := 0) (hP.subm [2, 3, 4, 5, 6] rfl) (hD.sub [2, 3, 4, 5, 6] (by decide) rfl) (hK.sub (tys' := tyA g) [0, 1] rfl) rfl rfl) rfl rfl hl.1 rfl (lv_room (Nat.le_of_ble_eq_true rfl)) dX10_of_58 ⟨Nat.le_of_ble_eq_true rfl, Nat.le_of_ble_eq_true rfl⟩) hP hD hS hA (wY g x n C ++ wD g X) (wX0 g x n C T X) [2, 3, 4, 5, 6] [0, 1, 7, 8] [0, 1, 4, 5, 6, 7, 8, 2, 3] rfl rfl (by decide) (by decide) rfl (by decide) (fun H locs hP hD hS => ?_)
        exact W.iret (v := (fX7_weightOfR T tb)) hx hb hr (fun t9 ht hW => ⟨⟨(fX7_weightOfR T tb), wX g x n C P T X, rfl, ⟨(by simp only [fX10_ofR, if_neg c_1, if_neg c_2, if_pos c_3]), rfl⟩, by rw [ht]; exact hP, va_K.moved hW.alike hK, hD⟩, hS.F ht⟩) hS.2.2 dX10_of_61
      · skip
        by_cases c_4 : i = 2
        · refine lv_tableIn (tgt := 62) (off := 47) hx hb dX10_of_15 (by rw [c_4]; decide) (by rw [c_4]; decide) (by rw [c_4]; rfl) (by decide) ?_
          refine lv_aload_n hx hb dX10_of_62 rfl (lv_at hl 0 rfl) ?_
          refine va_get (D := D) (ci := 11) (v := .ref g.tm) (C := RX10) (T := TX10) (N := 4) hx hb hg in_X10 hown hK hP 0 rfl rfl 0 (by decide) (hg _ g_78) (fun _ h9 => h9) rfl dX10_of_63 ?_
          refine lv_iload_n hx hb dX10_of_66 rfl (lv_at hl 1 rfl) ?_
          refine z_ieQ (ws := wX0 g x n C T X) (pl := wL g n C P) (va_runV (As := [.int tb]) (rest := []) ⟨hx, hb, hml, hown, hts⟩ (c_X7_isWet l D g T tb _) (z_V 1 hts g_307 g_2 g_523 g_305 g_306 ⟨by decide, by decide, by decide +kernel⟩ ⟨Nat.le_of_ble_eq_true rfl, Nat.le_of_ble_eq_true rfl⟩) (z_preV (ci := 8) (q0 := 0) (hP.subm [2, 3, 4, 5, 6] rfl) (hD.sub [2, 3, 4, 5, 6] (by decide) rfl) (hK.sub (tys' := tyA g) [0, 1] rfl) rfl rfl) rfl rfl hl.1 rfl (lv_room (Nat.le_of_ble_eq_true rfl)) dX10_of_67 ⟨Nat.le_of_ble_eq_true rfl, Nat.le_of_ble_eq_true rfl⟩) hP hD hS hA (wY g x n C ++ wD g X) (wX0 g x n C T X) [2, 3, 4, 5, 6] [0, 1, 7, 8] [0, 1, 4, 5, 6, 7, 8, 2, 3] rfl rfl (by decide) (by decide) rfl (by decide) (fun H locs hP hD hS => ?_)
          refine lv_if_eq (tgt := 77) hx hb dX10_of_70 (by decide) (fun c_5 => ?_) (fun c_5 => ?_)
          · -- (fX7_isWetR T tb) = 0
            refine lv_iconst (v := 0) hx hb dX10_of_77 (by decide) ?_
            exact W.iret (v := 0) hx hb hr (fun t9 ht hW => ⟨⟨0, wX g x n C P T X, rfl, ⟨(by simp only [fX10_ofR, if_neg c_1, if_neg c_2, if_neg c_3, if_pos c_4, if_pos c_5]), rfl⟩, by rw [ht]; exact hP, va_K.moved hW.alike hK, hD⟩, hS.F ht⟩) hS.2.2 dX10_of_78
          · -- not (fX7_isWetR T tb) = 0
            refine lv_iconst (v := 1) hx hb dX10_of_73 (by decide) ?_
            refine lv_goto (tgt := 78) hx hb dX10_of_74 (by decide) ?_
            exact W.iret (v := 1) hx hb hr (fun t9 ht hW => ⟨⟨1, wX g x n C P T X, rfl, ⟨(by simp only [fX10_ofR, if_neg c_1, if_neg c_2, if_neg c_3, if_pos c_4, if_neg c_5]), rfl⟩, by rw [ht]; exact hP, va_K.moved hW.alike hK, hD⟩, hS.F ht⟩) hS.2.2 dX10_of_78
        · skip
          by_cases c_6 : i = 3
          · refine lv_tableIn (tgt := 79) (off := 64) hx hb dX10_of_15 (by rw [c_6]; decide) (by rw [c_6]; decide) (by rw [c_6]; rfl) (by decide) ?_
            refine lv_aload_n hx hb dX10_of_79 rfl (lv_at hl 0 rfl) ?_
            refine va_get (D := D) (ci := 11) (v := .ref g.tm) (C := RX10) (T := TX10) (N := 4) hx hb hg in_X10 hown hK hP 0 rfl rfl 0 (by decide) (hg _ g_78) (fun _ h9 => h9) rfl dX10_of_80 ?_
            refine lv_iload_n hx hb dX10_of_83 rfl (lv_at hl 1 rfl) ?_
            refine z_ieQ (ws := wX0 g x n C T X) (pl := wL g n C P) (va_runV (As := [.int tb]) (rest := []) ⟨hx, hb, hml, hown, hts⟩ (c_X7_pileOf l D g T tb _) (z_V 1 hts g_527 g_2 g_524 g_525 g_526 ⟨by decide, by decide, by decide +kernel⟩ ⟨Nat.le_of_ble_eq_true rfl, Nat.le_of_ble_eq_true rfl⟩) (z_preV (ci := 8) (q0 := 0) (hP.subm [2, 3, 4, 5, 6] rfl) (hD.sub [2, 3, 4, 5, 6] (by decide) rfl) (hK.sub (tys' := tyA g) [0, 1] rfl) rfl rfl) rfl rfl hl.1 rfl (lv_room (Nat.le_of_ble_eq_true rfl)) dX10_of_84 ⟨Nat.le_of_ble_eq_true rfl, Nat.le_of_ble_eq_true rfl⟩) hP hD hS hA (wY g x n C ++ wD g X) (wX0 g x n C T X) [2, 3, 4, 5, 6] [0, 1, 7, 8] [0, 1, 4, 5, 6, 7, 8, 2, 3] rfl rfl (by decide) (by decide) rfl (by decide) (fun H locs hP hD hS => ?_)
            exact W.iret (v := (fX7_pileOfR T tb)) hx hb hr (fun t9 ht hW => ⟨⟨(fX7_pileOfR T tb), wX g x n C P T X, rfl, ⟨(by simp only [fX10_ofR, if_neg c_1, if_neg c_2, if_neg c_3, if_neg c_4, if_pos c_6]), rfl⟩, by rw [ht]; exact hP, va_K.moved hW.alike hK, hD⟩, hS.F ht⟩) hS.2.2 dX10_of_87
          · skip
            refine lv_tableOut (tgt := 88) hx hb dX10_of_15 (by have a0 := sw_ne c_2 (by decide : (0 : Int32).toInt = 0); have a1 := sw_ne c_3 (by decide : (1 : Int32).toInt = 1); have a2 := sw_ne c_4 (by decide : (2 : Int32).toInt = 2); have a3 := sw_ne c_6 (by decide : (3 : Int32).toInt = 3); omega) (by decide) ?_
            refine lv_bipush (v := (-102)) hx hb dX10_of_88 (by decide) ?_
            exact W.iret (v := (-102)) hx hb hr (fun t9 ht hW => ⟨⟨(-102), wX g x n C P T X, rfl, ⟨(by simp only [fX10_ofR, if_neg c_1, if_neg c_2, if_neg c_3, if_neg c_4, if_neg c_6]), rfl⟩, by rw [ht]; exact hP, va_K.moved hW.alike hK, hD⟩, hS.F ht⟩) hS.2.2 dX10_of_90
  · -- (fX7_hasR T tb) = 0
    refine lv_bipush (v := (-101)) hx hb dX10_of_11 (by decide) ?_
    exact W.iret (v := (-101)) hx hb hr (fun t9 ht hW => ⟨⟨(-101), wX g x n C P T X, rfl, ⟨(by simp only [fX10_ofR, if_pos c_1]), rfl⟩, by rw [ht]; exact hP, va_K.moved hW.alike hK, hD⟩, hS.F ht⟩) hS.2.2 dX10_of_13

def fX10_traceR (n : Nat) (C : CZ) (P : Nat → PP) (T : TT) (X : DD) (i : Int32) : Int32 := (fX8_latestR X i)
set_option maxHeartbeats 4000000 in
set_option maxRecDepth 100000 in
theorem c_X10_trace (l : Launch) (D : va_G) (g : GA) (x : GX) (n : Nat) (hn : n ≤ 12) (C : CZ) (hC : ∀ i, i < n → pkAll (C i).1) (P : Nat → PP) (T : TT) (X : DD) (i : Int32) : ctI l D (tyX g x) yX10_trace (wd yX10_trace cX10_trace 2 (Option.some Jvm.ClassFile.FieldType.int)) { frames := 1, cells := 0, slots := 0, locals := 22 } [.ref x.xo, .int i] (wX g x n C P T X) (fun r w => r = fX10_traceR n C P T X i ∧ w = wX g x n C P T X) := by
  intro sz
  refine Met.ofW (cc := cX10_trace) (maxL := 2) (ret := (Option.some Jvm.ClassFile.FieldType.int)) (by decide) rfl ?_
  intro p e s m args below meth c s₁ B hml hv
  obtain ⟨rfl, hsz, hP, hK, hD0⟩ := hv
  have hx := B.exec
  have hb := B.bytes
  have hr := B.returns
  have hts := atoms_spec (ws := (wd yX10_trace cX10_trace 2 (Option.some Jvm.ClassFile.FieldType.int))) B.pre
  have hg := Tb.of hts
  have hown : s.vm.findClass RX10 = some m.cls := findClass_of_methodNamed B.named
  have hlocks := B.notSynchronized
  subst hsz
  have hD := hD0.self (sz := s.heap.size)
  generalize hAe : va_A (wX g x n C P T X) s.heap.size = A at hD ⊢
  have hA : ∀ q : Nat, s.heap.size ≤ q → A q := fun q h => by rw [← hAe]; exact Or.inr h
  have hS : va_S A s.heap s.heap [] := va_S.rf
  have hP : va_P D vwCl (wX g x n C P T X) s.heap := hP
  have hl := lv_entry ([.ref x.xo, .int i]) (n := 2) (Nat.le_of_ble_eq_true rfl)
  rw [lg_entry_eq]
  generalize (lg_sl ([.ref x.xo, .int i]) ++ List.replicate (2 - (lg_sl ([.ref x.xo, .int i])).length) Slot.unset).toArray = ls at hl ⊢
  have hl : lv_has ls 2 [(0, .ref x.xo), (1, .int i)] := hl
  refine lv_aload_n hx hb dX10_trace_0 rfl (lv_at hl 0 rfl) ?_
  refine va_get (D := D) (ci := 11) (v := .ref g.dn) (C := RX10) (T := TX10) (N := 4) hx hb hg in_X10 hown hK hP 0 rfl rfl 1 (by decide) (hg _ g_79) (fun _ h9 => h9) rfl dX10_trace_1 ?_
  refine lv_iload_n hx hb dX10_trace_4 rfl (lv_at hl 1 rfl) ?_
  refine z_ieQ (ws := wX0 g x n C T X) (pl := wL g n C P) (va_runV (As := [.int i]) (rest := []) ⟨hx, hb, hml, hown, hts⟩ (c_X8_latest l D g X i _) (z_V 1 hts g_535 g_3 g_532 g_533 g_534 ⟨by decide, by decide, by decide +kernel⟩ ⟨Nat.le_of_ble_eq_true rfl, Nat.le_of_ble_eq_true rfl⟩) (z_preV (ci := 9) (q0 := 0) (hP.subm [7, 8] rfl) (hD.sub [7, 8] (by decide) rfl) (hK.sub (tys' := tyA g) [0, 1] rfl) rfl rfl) rfl rfl hl.1 rfl (lv_room (Nat.le_of_ble_eq_true rfl)) dX10_trace_5 ⟨Nat.le_of_ble_eq_true rfl, Nat.le_of_ble_eq_true rfl⟩) hP hD hS hA (wY g x n C ++ wT g T) (wX0 g x n C T X) [7, 8] [0, 1, 2, 3, 4, 5, 6] [0, 1, 2, 3, 4, 5, 6, 7, 8] rfl rfl (by decide) (by decide) rfl (by decide) (fun H locs hP hD hS => ?_)
  exact W.iret (v := (fX8_latestR X i)) hx hb hr (fun t9 ht hW => ⟨⟨(fX8_latestR X i), wX g x n C P T X, rfl, ⟨rfl, rfl⟩, by rw [ht]; exact hP, va_K.moved hW.alike hK, hD⟩, hS.F ht⟩) hS.2.2 dX10_trace_8

def fX10_countR (n : Nat) (C : CZ) (P : Nat → PP) (T : TT) (X : DD) (i : Int32) : Int32 := (if i = 0 then (fX7_howManyR T) else (if i = 1 then (nI n) else (if i = 2 then (fX8_rulesEverR X) else (if i = 3 then (fX8_heavyEverR X) else (if i = 4 then (fX8_nothingEverR X) else (-102))))))
set_option maxHeartbeats 4000000 in
set_option maxRecDepth 100000 in
theorem c_X10_count (l : Launch) (D : va_G) (g : GA) (x : GX) (n : Nat) (hn : n ≤ 12) (C : CZ) (hC : ∀ i, i < n → pkAll (C i).1) (P : Nat → PP) (T : TT) (X : DD) (i : Int32) : ctI l D (tyX g x) yX10_count (wd yX10_count cX10_count 2 (Option.some Jvm.ClassFile.FieldType.int)) { frames := 1, cells := 0, slots := 0, locals := 20 } [.ref x.xo, .int i] (wX g x n C P T X) (fun r w => r = fX10_countR n C P T X i ∧ w = wX g x n C P T X) := by
  intro sz
  refine Met.ofW (cc := cX10_count) (maxL := 2) (ret := (Option.some Jvm.ClassFile.FieldType.int)) (by decide) rfl ?_
  intro p e s m args below meth c s₁ B hml hv
  obtain ⟨rfl, hsz, hP, hK, hD0⟩ := hv
  have hx := B.exec
  have hb := B.bytes
  have hr := B.returns
  have hts := atoms_spec (ws := (wd yX10_count cX10_count 2 (Option.some Jvm.ClassFile.FieldType.int))) B.pre
  have hg := Tb.of hts
  have hown : s.vm.findClass RX10 = some m.cls := findClass_of_methodNamed B.named
  have hlocks := B.notSynchronized
  subst hsz
  have hD := hD0.self (sz := s.heap.size)
  generalize hAe : va_A (wX g x n C P T X) s.heap.size = A at hD ⊢
  have hA : ∀ q : Nat, s.heap.size ≤ q → A q := fun q h => by rw [← hAe]; exact Or.inr h
  have hS : va_S A s.heap s.heap [] := va_S.rf
  have hP : va_P D vwCl (wX g x n C P T X) s.heap := hP
  have hl := lv_entry ([.ref x.xo, .int i]) (n := 2) (Nat.le_of_ble_eq_true rfl)
  rw [lg_entry_eq]
  generalize (lg_sl ([.ref x.xo, .int i]) ++ List.replicate (2 - (lg_sl ([.ref x.xo, .int i])).length) Slot.unset).toArray = ls at hl ⊢
  have hl : lv_has ls 2 [(0, .ref x.xo), (1, .int i)] := hl
  refine lv_iload_n hx hb dX10_count_0 rfl (lv_at hl 1 rfl) ?_
  by_cases c_1 : i = 0
  · refine lv_tableIn (tgt := 36) (off := 35) hx hb dX10_count_1 (by rw [c_1]; decide) (by rw [c_1]; decide) (by rw [c_1]; rfl) (by decide) ?_
    refine lv_aload_n hx hb dX10_count_36 rfl (lv_at hl 0 rfl) ?_
    refine va_get (D := D) (ci := 11) (v := .ref g.tm) (C := RX10) (T := TX10) (N := 4) hx hb hg in_X10 hown hK hP 0 rfl rfl 0 (by decide) (hg _ g_78) (fun _ h9 => h9) rfl dX10_count_37 ?_
    refine z_ieQ (ws := wX0 g x n C T X) (pl := wL g n C P) (va_runV (As := []) (rest := []) ⟨hx, hb, hml, hown, hts⟩ (c_X7_howMany l D g T _) (z_V 0 hts g_543 g_2 g_540 g_541 g_542 ⟨by decide, by decide, by decide +kernel⟩ ⟨Nat.le_of_ble_eq_true rfl, Nat.le_of_ble_eq_true rfl⟩) (z_preV (ci := 8) (q0 := 0) (hP.subm [2, 3, 4, 5, 6] rfl) (hD.sub [2, 3, 4, 5, 6] (by decide) rfl) (hK.sub (tys' := tyA g) [0, 1] rfl) rfl rfl) rfl rfl hl.1 rfl (lv_room (Nat.le_of_ble_eq_true rfl)) dX10_count_40 ⟨Nat.le_of_ble_eq_true rfl, Nat.le_of_ble_eq_true rfl⟩) hP hD hS hA (wY g x n C ++ wD g X) (wX0 g x n C T X) [2, 3, 4, 5, 6] [0, 1, 7, 8] [0, 1, 4, 5, 6, 7, 8, 2, 3] rfl rfl (by decide) (by decide) rfl (by decide) (fun H locs hP hD hS => ?_)
    exact W.iret (v := (fX7_howManyR T)) hx hb hr (fun t9 ht hW => ⟨⟨(fX7_howManyR T), wX g x n C P T X, rfl, ⟨(by simp only [fX10_countR, if_pos c_1]), rfl⟩, by rw [ht]; exact hP, va_K.moved hW.alike hK, hD⟩, hS.F ht⟩) hS.2.2 dX10_count_43
  · skip
    by_cases c_2 : i = 1
    · refine lv_tableIn (tgt := 44) (off := 43) hx hb dX10_count_1 (by rw [c_2]; decide) (by rw [c_2]; decide) (by rw [c_2]; rfl) (by decide) ?_
      refine lv_aload_n hx hb dX10_count_44 rfl (lv_at hl 0 rfl) ?_
      refine va_get (D := D) (ci := 11) (v := .int (nI n)) (C := RX10) (T := TX10) (N := 4) hx hb hg in_X10 hown hK hP 0 rfl rfl 3 (by decide) (hg _ g_81) (fun _ h9 => h9) rfl dX10_count_45 ?_
      exact W.iret (v := (nI n)) hx hb hr (fun t9 ht hW => ⟨⟨(nI n), wX g x n C P T X, rfl, ⟨(by simp only [fX10_countR, if_neg c_1, if_pos c_2]), rfl⟩, by rw [ht]; exact hP, va_K.moved hW.alike hK, hD⟩, hS.F ht⟩) hS.2.2 dX10_count_48
    · skip
      by_cases c_3 : i = 2
      · refine lv_tableIn (tgt := 49) (off := 48) hx hb dX10_count_1 (by rw [c_3]; decide) (by rw [c_3]; decide) (by rw [c_3]; rfl) (by decide) ?_
        refine lv_aload_n hx hb dX10_count_49 rfl (lv_at hl 0 rfl) ?_
        refine va_get (D := D) (ci := 11) (v := .ref g.dn) (C := RX10) (T := TX10) (N := 4) hx hb hg in_X10 hown hK hP 0 rfl rfl 1 (by decide) (hg _ g_79) (fun _ h9 => h9) rfl dX10_count_50 ?_
        refine z_ieQ (ws := wX0 g x n C T X) (pl := wL g n C P) (va_runV (As := []) (rest := []) ⟨hx, hb, hml, hown, hts⟩ (c_X8_rulesEver l D g X _) (z_V 0 hts g_547 g_3 g_544 g_545 g_546 ⟨by decide, by decide, by decide +kernel⟩ ⟨Nat.le_of_ble_eq_true rfl, Nat.le_of_ble_eq_true rfl⟩) (z_preV (ci := 9) (q0 := 0) (hP.subm [7, 8] rfl) (hD.sub [7, 8] (by decide) rfl) (hK.sub (tys' := tyA g) [0, 1] rfl) rfl rfl) rfl rfl hl.1 rfl (lv_room (Nat.le_of_ble_eq_true rfl)) dX10_count_53 ⟨Nat.le_of_ble_eq_true rfl, Nat.le_of_ble_eq_true rfl⟩) hP hD hS hA (wY g x n C ++ wT g T) (wX0 g x n C T X) [7, 8] [0, 1, 2, 3, 4, 5, 6] [0, 1, 2, 3, 4, 5, 6, 7, 8] rfl rfl (by decide) (by decide) rfl (by decide) (fun H locs hP hD hS => ?_)
        exact W.iret (v := (fX8_rulesEverR X)) hx hb hr (fun t9 ht hW => ⟨⟨(fX8_rulesEverR X), wX g x n C P T X, rfl, ⟨(by simp only [fX10_countR, if_neg c_1, if_neg c_2, if_pos c_3]), rfl⟩, by rw [ht]; exact hP, va_K.moved hW.alike hK, hD⟩, hS.F ht⟩) hS.2.2 dX10_count_56
      · skip
        by_cases c_4 : i = 3
        · refine lv_tableIn (tgt := 57) (off := 56) hx hb dX10_count_1 (by rw [c_4]; decide) (by rw [c_4]; decide) (by rw [c_4]; rfl) (by decide) ?_
          refine lv_aload_n hx hb dX10_count_57 rfl (lv_at hl 0 rfl) ?_
          refine va_get (D := D) (ci := 11) (v := .ref g.dn) (C := RX10) (T := TX10) (N := 4) hx hb hg in_X10 hown hK hP 0 rfl rfl 1 (by decide) (hg _ g_79) (fun _ h9 => h9) rfl dX10_count_58 ?_
          refine z_ieQ (ws := wX0 g x n C T X) (pl := wL g n C P) (va_runV (As := []) (rest := []) ⟨hx, hb, hml, hown, hts⟩ (c_X8_heavyEver l D g X _) (z_V 0 hts g_551 g_3 g_548 g_549 g_550 ⟨by decide, by decide, by decide +kernel⟩ ⟨Nat.le_of_ble_eq_true rfl, Nat.le_of_ble_eq_true rfl⟩) (z_preV (ci := 9) (q0 := 0) (hP.subm [7, 8] rfl) (hD.sub [7, 8] (by decide) rfl) (hK.sub (tys' := tyA g) [0, 1] rfl) rfl rfl) rfl rfl hl.1 rfl (lv_room (Nat.le_of_ble_eq_true rfl)) dX10_count_61 ⟨Nat.le_of_ble_eq_true rfl, Nat.le_of_ble_eq_true rfl⟩) hP hD hS hA (wY g x n C ++ wT g T) (wX0 g x n C T X) [7, 8] [0, 1, 2, 3, 4, 5, 6] [0, 1, 2, 3, 4, 5, 6, 7, 8] rfl rfl (by decide) (by decide) rfl (by decide) (fun H locs hP hD hS => ?_)
          exact W.iret (v := (fX8_heavyEverR X)) hx hb hr (fun t9 ht hW => ⟨⟨(fX8_heavyEverR X), wX g x n C P T X, rfl, ⟨(by simp only [fX10_countR, if_neg c_1, if_neg c_2, if_neg c_3, if_pos c_4]), rfl⟩, by rw [ht]; exact hP, va_K.moved hW.alike hK, hD⟩, hS.F ht⟩) hS.2.2 dX10_count_64
        · skip
          by_cases c_5 : i = 4
          · refine lv_tableIn (tgt := 65) (off := 64) hx hb dX10_count_1 (by rw [c_5]; decide) (by rw [c_5]; decide) (by rw [c_5]; rfl) (by decide) ?_
            refine lv_aload_n hx hb dX10_count_65 rfl (lv_at hl 0 rfl) ?_
            refine va_get (D := D) (ci := 11) (v := .ref g.dn) (C := RX10) (T := TX10) (N := 4) hx hb hg in_X10 hown hK hP 0 rfl rfl 1 (by decide) (hg _ g_79) (fun _ h9 => h9) rfl dX10_count_66 ?_
            refine z_ieQ (ws := wX0 g x n C T X) (pl := wL g n C P) (va_runV (As := []) (rest := []) ⟨hx, hb, hml, hown, hts⟩ (c_X8_nothingEver l D g X _) (z_V 0 hts g_555 g_3 g_552 g_553 g_554 ⟨by decide, by decide, by decide +kernel⟩ ⟨Nat.le_of_ble_eq_true rfl, Nat.le_of_ble_eq_true rfl⟩) (z_preV (ci := 9) (q0 := 0) (hP.subm [7, 8] rfl) (hD.sub [7, 8] (by decide) rfl) (hK.sub (tys' := tyA g) [0, 1] rfl) rfl rfl) rfl rfl hl.1 rfl (lv_room (Nat.le_of_ble_eq_true rfl)) dX10_count_69 ⟨Nat.le_of_ble_eq_true rfl, Nat.le_of_ble_eq_true rfl⟩) hP hD hS hA (wY g x n C ++ wT g T) (wX0 g x n C T X) [7, 8] [0, 1, 2, 3, 4, 5, 6] [0, 1, 2, 3, 4, 5, 6, 7, 8] rfl rfl (by decide) (by decide) rfl (by decide) (fun H locs hP hD hS => ?_)
            exact W.iret (v := (fX8_nothingEverR X)) hx hb hr (fun t9 ht hW => ⟨⟨(fX8_nothingEverR X), wX g x n C P T X, rfl, ⟨(by simp only [fX10_countR, if_neg c_1, if_neg c_2, if_neg c_3, if_neg c_4, if_pos c_5]), rfl⟩, by rw [ht]; exact hP, va_K.moved hW.alike hK, hD⟩, hS.F ht⟩) hS.2.2 dX10_count_72
          · skip
            refine lv_tableOut (tgt := 73) hx hb dX10_count_1 (by have a0 := sw_ne c_1 (by decide : (0 : Int32).toInt = 0); have a1 := sw_ne c_2 (by decide : (1 : Int32).toInt = 1); have a2 := sw_ne c_3 (by decide : (2 : Int32).toInt = 2); have a3 := sw_ne c_4 (by decide : (3 : Int32).toInt = 3); have a4 := sw_ne c_5 (by decide : (4 : Int32).toInt = 4); omega) (by decide) ?_
            refine lv_bipush (v := (-102)) hx hb dX10_count_73 (by decide) ?_
            exact W.iret (v := (-102)) hx hb hr (fun t9 ht hW => ⟨⟨(-102), wX g x n C P T X, rfl, ⟨(by simp only [fX10_countR, if_neg c_1, if_neg c_2, if_neg c_3, if_neg c_4, if_neg c_5]), rfl⟩, by rw [ht]; exact hP, va_K.moved hW.alike hK, hD⟩, hS.F ht⟩) hS.2.2 dX10_count_75

def fX10_timberR (n : Nat) (C : CZ) (P : Nat → PP) (T : TT) (X : DD) (a : Int32) (b : Int32) (z : Int32) : Int32 := (if (fX10_isOutsideR a 1 1000) = 0 then (if (fX10_isOutsideR b 1 1000) = 0 then (fX7_addR T a b z) else (-102)) else (-102))
def fX10_timberS (n : Nat) (C : CZ) (P : Nat → PP) (T : TT) (X : DD) (a : Int32) (b : Int32) (z : Int32) : (Nat → PP) × TT × DD := (if (fX10_isOutsideR a 1 1000) = 0 then (if (fX10_isOutsideR b 1 1000) = 0 then (P, fX7_addS T a b z, X) else (P, T, X)) else (P, T, X))
set_option maxHeartbeats 4000000 in
set_option maxRecDepth 100000 in
theorem c_X10_timber (l : Launch) (D : va_G) (g : GA) (x : GX) (n : Nat) (hn : n ≤ 12) (C : CZ) (hC : ∀ i, i < n → pkAll (C i).1) (P : Nat → PP) (T : TT) (X : DD) (a : Int32) (b : Int32) (z : Int32) : ctI l D (tyX g x) yX10_timber (wd yX10_timber cX10_timber 4 (Option.some Jvm.ClassFile.FieldType.int)) { frames := 1, cells := 0, slots := 0, locals := 24 } [.ref x.xo, .int a, .int b, .int z] (wX g x n C P T X) (fun r w => r = fX10_timberR n C P T X a b z ∧ w = wX g x n C (fX10_timberS n C P T X a b z).1 (fX10_timberS n C P T X a b z).2.1 (fX10_timberS n C P T X a b z).2.2) := by
  intro sz
  refine Met.ofW (cc := cX10_timber) (maxL := 4) (ret := (Option.some Jvm.ClassFile.FieldType.int)) (by decide) rfl ?_
  intro p e s m args below meth c s₁ B hml hv
  obtain ⟨rfl, hsz, hP, hK, hD0⟩ := hv
  have hx := B.exec
  have hb := B.bytes
  have hr := B.returns
  have hts := atoms_spec (ws := (wd yX10_timber cX10_timber 4 (Option.some Jvm.ClassFile.FieldType.int))) B.pre
  have hg := Tb.of hts
  have hown : s.vm.findClass RX10 = some m.cls := findClass_of_methodNamed B.named
  have hlocks := B.notSynchronized
  subst hsz
  have hD := hD0.self (sz := s.heap.size)
  generalize hAe : va_A (wX g x n C P T X) s.heap.size = A at hD ⊢
  have hA : ∀ q : Nat, s.heap.size ≤ q → A q := fun q h => by rw [← hAe]; exact Or.inr h
  have hS : va_S A s.heap s.heap [] := va_S.rf
  have hP : va_P D vwCl (wX g x n C P T X) s.heap := hP
  have hl := lv_entry ([.ref x.xo, .int a, .int b, .int z]) (n := 4) (Nat.le_of_ble_eq_true rfl)
  rw [lg_entry_eq]
  generalize (lg_sl ([.ref x.xo, .int a, .int b, .int z]) ++ List.replicate (4 - (lg_sl ([.ref x.xo, .int a, .int b, .int z])).length) Slot.unset).toArray = ls at hl ⊢
  have hl : lv_has ls 4 [(0, .ref x.xo), (1, .int a), (2, .int b), (3, .int z)] := hl
  refine lv_iload_n hx hb dX10_timber_0 rfl (lv_at hl 1 rfl) ?_
  refine lv_iconst (v := 1) hx hb dX10_timber_1 (by decide) ?_
  refine lv_sipush (v := 1000) hx hb dX10_timber_2 (by decide) ?_
  refine z_ieQ (ws := wX0 g x n C T X) (pl := wL g n C P) (va_runS (As := [.int a, .int 1, .int 1000]) (rest := []) ⟨hx, hb, hml, hown, hts⟩ (c_X10_isOutside l D (tyA g) a 1 1000 _) (z_St 3 hts g_97 g_1 g_95 g_96 ⟨by decide, by decide, by decide +kernel⟩ ⟨Nat.le_of_ble_eq_true rfl, Nat.le_of_ble_eq_true rfl⟩) (z_preS (hP.subm [] rfl) (hD.sub [] (by decide) rfl) (hK.sub (tys' := tyA g) [0, 1] rfl)) rfl rfl hl.1 rfl (lv_room (Nat.le_of_ble_eq_true rfl)) dX10_timber_5 ⟨Nat.le_of_ble_eq_true rfl, Nat.le_of_ble_eq_true rfl⟩) hP hD hS hA (wX0 g x n C T X) (wX0 g x n C T X) [] [0, 1, 2, 3, 4, 5, 6, 7, 8] [0, 1, 2, 3, 4, 5, 6, 7, 8] rfl rfl (by decide) (by decide) rfl (by decide) (fun H locs hP hD hS => ?_)
  refine lv_if_ne (tgt := 22) hx hb dX10_timber_8 (by decide) (fun c_1 => ?_) (fun c_1 => ?_)
  · -- not (fX10_isOutsideR a 1 1000) = 0
    refine lv_bipush (v := (-102)) hx hb dX10_timber_22 (by decide) ?_
    exact W.iret (v := (-102)) hx hb hr (fun t9 ht hW => ⟨⟨(-102), wX g x n C P T X, rfl, ⟨(by simp only [fX10_timberR, if_neg c_1]), (by simp only [fX10_timberS, if_neg c_1])⟩, by rw [ht]; exact hP, va_K.moved hW.alike hK, hD⟩, hS.F ht⟩) hS.2.2 dX10_timber_24
  · -- (fX10_isOutsideR a 1 1000) = 0
    refine lv_iload_n hx hb dX10_timber_11 rfl (lv_at hl 2 rfl) ?_
    refine lv_iconst (v := 1) hx hb dX10_timber_12 (by decide) ?_
    refine lv_sipush (v := 1000) hx hb dX10_timber_13 (by decide) ?_
    refine z_ieQ (ws := wX0 g x n C T X) (pl := wL g n C P) (va_runS (As := [.int b, .int 1, .int 1000]) (rest := []) ⟨hx, hb, hml, hown, hts⟩ (c_X10_isOutside l D (tyA g) b 1 1000 _) (z_St 3 hts g_97 g_1 g_95 g_96 ⟨by decide, by decide, by decide +kernel⟩ ⟨Nat.le_of_ble_eq_true rfl, Nat.le_of_ble_eq_true rfl⟩) (z_preS (hP.subm [] rfl) (hD.sub [] (by decide) rfl) (hK.sub (tys' := tyA g) [0, 1] rfl)) rfl rfl hl.1 rfl (lv_room (Nat.le_of_ble_eq_true rfl)) dX10_timber_16 ⟨Nat.le_of_ble_eq_true rfl, Nat.le_of_ble_eq_true rfl⟩) hP hD hS hA (wX0 g x n C T X) (wX0 g x n C T X) [] [0, 1, 2, 3, 4, 5, 6, 7, 8] [0, 1, 2, 3, 4, 5, 6, 7, 8] rfl rfl (by decide) (by decide) rfl (by decide) (fun H locs hP hD hS => ?_)
    refine lv_if_eq (tgt := 25) hx hb dX10_timber_19 (by decide) (fun c_2 => ?_) (fun c_2 => ?_)
    · -- (fX10_isOutsideR b 1 1000) = 0
      refine lv_aload_n hx hb dX10_timber_25 rfl (lv_at hl 0 rfl) ?_
      refine va_get (D := D) (ci := 11) (v := .ref g.tm) (C := RX10) (T := TX10) (N := 4) hx hb hg in_X10 hown hK hP 0 rfl rfl 0 (by decide) (hg _ g_78) (fun _ h9 => h9) rfl dX10_timber_26 ?_
      refine lv_iload_n hx hb dX10_timber_29 rfl (lv_at hl 1 rfl) ?_
      refine lv_iload_n hx hb dX10_timber_30 rfl (lv_at hl 2 rfl) ?_
      refine lv_iload_n hx hb dX10_timber_31 rfl (lv_at hl 3 rfl) ?_
      refine z_ieQ (ws := wX0 g x n C T X) (pl := wL g n C P) (va_runV (As := [.int a, .int b, .int z]) (rest := []) ⟨hx, hb, hml, hown, hts⟩ (c_X7_add l D g T a b z _) (z_V 3 hts g_101 g_2 g_98 g_99 g_100 ⟨by decide, by decide, by decide +kernel⟩ ⟨Nat.le_of_ble_eq_true rfl, Nat.le_of_ble_eq_true rfl⟩) (z_preV (ci := 8) (q0 := 0) (hP.subm [2, 3, 4, 5, 6] rfl) (hD.sub [2, 3, 4, 5, 6] (by decide) rfl) (hK.sub (tys' := tyA g) [0, 1] rfl) rfl rfl) rfl rfl hl.1 rfl (lv_room (Nat.le_of_ble_eq_true rfl)) dX10_timber_32 ⟨Nat.le_of_ble_eq_true rfl, Nat.le_of_ble_eq_true rfl⟩) hP hD hS hA (wY g x n C ++ wD g X) (wX0 g x n C (fX7_addS T a b z) X) [2, 3, 4, 5, 6] [0, 1, 7, 8] [0, 1, 4, 5, 6, 7, 8, 2, 3] rfl rfl (by decide) (by decide) rfl (by decide) (fun H locs hP hD hS => ?_)
      exact W.iret (v := (fX7_addR T a b z)) hx hb hr (fun t9 ht hW => ⟨⟨(fX7_addR T a b z), wX g x n C P (fX7_addS T a b z) X, rfl, ⟨(by simp only [fX10_timberR, if_pos c_1, if_pos c_2]), (by simp only [fX10_timberS, if_pos c_1, if_pos c_2])⟩, by rw [ht]; exact hP, va_K.moved hW.alike hK, hD⟩, hS.F ht⟩) hS.2.2 dX10_timber_35
    · -- not (fX10_isOutsideR b 1 1000) = 0
      refine lv_bipush (v := (-102)) hx hb dX10_timber_22 (by decide) ?_
      exact W.iret (v := (-102)) hx hb hr (fun t9 ht hW => ⟨⟨(-102), wX g x n C P T X, rfl, ⟨(by simp only [fX10_timberR, if_pos c_1, if_neg c_2]), (by simp only [fX10_timberS, if_pos c_1, if_neg c_2])⟩, by rw [ht]; exact hP, va_K.moved hW.alike hK, hD⟩, hS.F ht⟩) hS.2.2 dX10_timber_24
