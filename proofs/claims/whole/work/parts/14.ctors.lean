/-! constructors -/
section ZN
variable {p : Program} {l : Launch} {e : Env} {R : Room} {s : State} {m : MethodId} {args : Array Value} {below : List Frame} {meth : Method} {c : Code} {H : Heap} {locs : List Loc} {cells slots : Nat} {Q : State → Prop}
variable {D : va_G} {cl : List vw_C} {tys : List (ClassId × FieldType)} {A : Nat → Prop} {H0 : Heap} {ws : va_W} {cc : ByteArray} {pc : Nat} {ls : Array Slot} {rest : List Value}
/-- newarray, its class known already -/
theorem z_newa (hexec : p.tables.exec = Jvm.exec) (hb : c.code = cc) {atype : ArrayType} (harr : (Cond.arrayClass (newarray.typeOf atype)).before args s = true) {ty : FieldType} (hty : newarray.typeOf atype = ty) {cA : ClassId} {t0 : Nat} (ht : tys[t0]? = some (cA, ty)) (hra : ∀ q : ClassId, va_RA s q ty → s.vm.findClass ("[" ++ ty.toString) = some q)
    (hK : va_K D cl tys s) (hP : va_P D cl ws H) (hD : va_D A ws) (hS : va_S A H0 H locs) (hA : ∀ q, H0.size ≤ q → A q)
    {n : Int32} {N' : Nat} {a0 : vp_A} (ha : ∀ cA : ClassId, vp_cell cA a0 = arrV cA N' (fun _ => defaultValue ty)) (hn : ¬ n < 0) (hN : n.toNatClampNeg = N') (hbytes : N' * componentBytes ty ≤ 536870912) (hcells : cells + 1 ≤ R.cells) (hslots : slots + N' ≤ R.slots) (hdg : decode cc pc = .ok (.newarray atype, 2))
    (kk : ∀ (q : Nat) (H : Heap), va_P D cl (ws ++ [(q, .inl (cA, a0))]) H → va_D A (ws ++ [(q, .inl (cA, a0))]) → va_S A H0 H locs →
      W p l e R s m args below meth c H locs (cells + 1) (slots + N') Q (F0 m (pc + 2) ls (.ref q :: rest))) : W p l e R s m args below meth c H locs cells slots Q (F0 m pc ls (.int n :: rest)) := by
  refine va_newa hexec hb harr hty hK hP hD hS hA ha hn hN hbytes hcells hslots hdg (fun q cA' H1 hK1 hP1 hD1 hS1 => ?_)
  have h1 : s.vm.findClass ("[" ++ ty.toString) = some cA' := hra _ (hK1.2 tys.length (cA', ty) (by simp)).2
  have h2 : s.vm.findClass ("[" ++ ty.toString) = some cA := hra _ (hK.2 t0 _ ht).2
  cases Option.some.inj (h1.symm.trans h2)
  exact kk q H1 hP1 hD1 hS1
end ZN
theorem ha_int (N : Nat) : ∀ cA : ClassId, vp_cell cA (N, .inl (fun _ => 0)) = arrV cA N (fun _ => defaultValue .int) := fun _ => rfl
theorem ha_boolean (N : Nat) : ∀ cA : ClassId, vp_cell cA (N, .inl (fun _ => 0)) = arrV cA N (fun _ => defaultValue .boolean) := fun _ => rfl
theorem va_init {p : Program} {l : Launch} {x : MethodName} {S : Spec} {code : ByteArray} {maxLocals : Nat} {ret : Option FieldType} {e : Env} {s : State} {m : MethodId} {args : Array Value} {below : List Frame} {meth : Method} {c : Code} {s₁ : State} (B : BodyLoose p l x S code maxLocals ret e s m args below meth c s₁) (h : x.name = "<init>") : meth.name = "<init>" := (name_of_methodNamed B.named B.method).1.trans h

set_option maxHeartbeats 4000000 in
set_option maxRecDepth 100000 in
theorem c_X7_init (l : Launch) (D : va_G) (cI cZ : ClassId) (h0 : Nat) : ctV l D [(cI, .int), (cZ, .boolean)] yX7_init (wd yX7_init cX7_init 1 (Option.none : Option Jvm.ClassFile.FieldType)) { frames := 1, cells := 4, slots := 240, locals := 12 } [.ref h0] [(h0, .inr (8, [.null, .null, .null, .null, .int 0]))] (fun w => ∃ q1 q2 q3 q4 : Nat, w = [(h0, .inr (8, [.ref q1, .ref q2, .ref q3, .ref q4, .int 0])), (q1, .inl (cI, 60, .inl (fun _ => 0))), (q2, .inl (cI, 60, .inl (fun _ => 0))), (q3, .inl (cZ, 60, .inl (fun _ => 0))), (q4, .inl (cI, 60, .inl (fun _ => 0)))]) := by
  intro sz
  refine Met.ofW (cc := cX7_init) (maxL := 1) (ret := (Option.none : Option Jvm.ClassFile.FieldType)) (by decide) rfl ?_
  intro p e s m args below meth c s₁ B hml hv
  obtain ⟨rfl, hsz, hP, hK, hD0⟩ := hv
  have hx := B.exec
  have hb := B.bytes
  have hr := B.returns
  have hts := atoms_spec (ws := (wd yX7_init cX7_init 1 (Option.none : Option Jvm.ClassFile.FieldType))) B.pre
  have hg := Tb.of hts
  have hown : s.vm.findClass RX7 = some m.cls := findClass_of_methodNamed B.named
  have hlocks := B.notSynchronized
  have hin : meth.name = "<init>" := va_init B rfl
  subst hsz
  have hD := hD0.self (sz := s.heap.size)
  generalize hAe : va_A ([(h0, .inr (8, [.null, .null, .null, .null, .int 0]))]) s.heap.size = A at hD ⊢
  have hA : ∀ q : Nat, s.heap.size ≤ q → A q := fun q h => by rw [← hAe]; exact Or.inr h
  have hS : va_S A s.heap s.heap [] := va_S.rf
  have hP : va_P D vwCl ([(h0, .inr (8, [.null, .null, .null, .null, .int 0]))]) s.heap := hP
  have hl := lv_entry ([.ref h0]) (n := 1) (Nat.le_of_ble_eq_true rfl)
  rw [lg_entry_eq]
  generalize (lg_sl ([.ref h0]) ++ List.replicate (1 - (lg_sl ([.ref h0])).length) Slot.unset).toArray = ls at hl ⊢
  have hl : lv_has ls 1 [(0, .ref h0)] := hl
  refine lv_aload_n hx hb dX7_init_0 rfl (lv_at hl 0 rfl) ?_
  refine W.objInit hx hb hown (hg _ g_32) (hg _ g_25) (hg _ g_26) rfl (by rw [hml]; exact hl.1) rfl dX7_init_1 (Nat.le_of_ble_eq_true rfl) (Nat.le_of_ble_eq_true rfl) ?_
  refine W.eq (g2 := F0 m 4 ls []) rfl ?_
  refine lv_aload_n hx hb dX7_init_4 rfl (lv_at hl 0 rfl) ?_
  refine lv_bipush (v := 60) hx hb dX7_init_5 (by decide) ?_
  refine z_newa (atype := .int) (ty := .int) (n := 60) (a0 := (60, .inl (fun _ => 0))) (N' := 60) hx hb (hg _ g_49) rfl (t0 := 0) rfl (fun _ h => h) hK hP hD hS hA (ha_int 60) (by decide) (by decide) (by decide) (Nat.le_of_ble_eq_true rfl) (Nat.le_of_ble_eq_true rfl) dX7_init_7 (fun q1 H hP hD hS => ?_)
  have hP : va_P D vwCl ([(h0, .inr (8, [.null, .null, .null, .null, .int 0])), (q1, .inl (cI, 60, .inl (fun _ => 0)))]) H := hP
  have hD : va_D A ([(h0, .inr (8, [.null, .null, .null, .null, .int 0])), (q1, .inl (cI, 60, .inl (fun _ => 0)))]) := hD
  refine W.widen (k := 1) (n := 60) (by decide) (by decide) ?_
  refine va_putF (D := D) (ci := 8) (v := .ref q1) (ty := .array .int) (C := RX7) (T := TX7) (N := 5) hx hb hg in_X7 tyX7 tyX7_ok nmX7 hown hK hP hD hS 0 rfl rfl 0 (by decide) (hg _ g_33) (fun _ h9 => h9) rfl hin rfl (by decide +kernel) rfl rfl (Nat.le_of_ble_eq_true rfl) dX7_init_9 (fun H locs hP hD hS => ?_)
  have hP : va_P D vwCl ([(h0, .inr (8, [.ref q1, .null, .null, .null, .int 0])), (q1, .inl (cI, 60, .inl (fun _ => 0)))]) H := hP
  have hD : va_D A ([(h0, .inr (8, [.ref q1, .null, .null, .null, .int 0])), (q1, .inl (cI, 60, .inl (fun _ => 0)))]) := hD
  refine lv_aload_n hx hb dX7_init_12 rfl (lv_at hl 0 rfl) ?_
  refine lv_bipush (v := 60) hx hb dX7_init_13 (by decide) ?_
  refine z_newa (atype := .int) (ty := .int) (n := 60) (a0 := (60, .inl (fun _ => 0))) (N' := 60) hx hb (hg _ g_49) rfl (t0 := 0) rfl (fun _ h => h) hK hP hD hS hA (ha_int 60) (by decide) (by decide) (by decide) (Nat.le_of_ble_eq_true rfl) (Nat.le_of_ble_eq_true rfl) dX7_init_15 (fun q2 H hP hD hS => ?_)
  have hP : va_P D vwCl ([(h0, .inr (8, [.ref q1, .null, .null, .null, .int 0])), (q1, .inl (cI, 60, .inl (fun _ => 0))), (q2, .inl (cI, 60, .inl (fun _ => 0)))]) H := hP
  have hD : va_D A ([(h0, .inr (8, [.ref q1, .null, .null, .null, .int 0])), (q1, .inl (cI, 60, .inl (fun _ => 0))), (q2, .inl (cI, 60, .inl (fun _ => 0)))]) := hD
  refine W.widen (k := 2) (n := 120) (by decide) (by decide) ?_
  refine va_putF (D := D) (ci := 8) (v := .ref q2) (ty := .array .int) (C := RX7) (T := TX7) (N := 5) hx hb hg in_X7 tyX7 tyX7_ok nmX7 hown hK hP hD hS 0 rfl rfl 1 (by decide) (hg _ g_34) (fun _ h9 => h9) rfl hin rfl (by decide +kernel) rfl rfl (Nat.le_of_ble_eq_true rfl) dX7_init_17 (fun H locs hP hD hS => ?_)
  have hP : va_P D vwCl ([(h0, .inr (8, [.ref q1, .ref q2, .null, .null, .int 0])), (q1, .inl (cI, 60, .inl (fun _ => 0))), (q2, .inl (cI, 60, .inl (fun _ => 0)))]) H := hP
  have hD : va_D A ([(h0, .inr (8, [.ref q1, .ref q2, .null, .null, .int 0])), (q1, .inl (cI, 60, .inl (fun _ => 0))), (q2, .inl (cI, 60, .inl (fun _ => 0)))]) := hD
  refine lv_aload_n hx hb dX7_init_20 rfl (lv_at hl 0 rfl) ?_
  refine lv_bipush (v := 60) hx hb dX7_init_21 (by decide) ?_
  refine z_newa (atype := .boolean) (ty := .boolean) (n := 60) (a0 := (60, .inl (fun _ => 0))) (N' := 60) hx hb (hg _ g_50) rfl (t0 := 1) rfl (fun _ h => h) hK hP hD hS hA (ha_boolean 60) (by decide) (by decide) (by decide) (Nat.le_of_ble_eq_true rfl) (Nat.le_of_ble_eq_true rfl) dX7_init_23 (fun q3 H hP hD hS => ?_)
  have hP : va_P D vwCl ([(h0, .inr (8, [.ref q1, .ref q2, .null, .null, .int 0])), (q1, .inl (cI, 60, .inl (fun _ => 0))), (q2, .inl (cI, 60, .inl (fun _ => 0))), (q3, .inl (cZ, 60, .inl (fun _ => 0)))]) H := hP
  have hD : va_D A ([(h0, .inr (8, [.ref q1, .ref q2, .null, .null, .int 0])), (q1, .inl (cI, 60, .inl (fun _ => 0))), (q2, .inl (cI, 60, .inl (fun _ => 0))), (q3, .inl (cZ, 60, .inl (fun _ => 0)))]) := hD
  refine W.widen (k := 3) (n := 180) (by decide) (by decide) ?_
  refine va_putF (D := D) (ci := 8) (v := .ref q3) (ty := .array .boolean) (C := RX7) (T := TX7) (N := 5) hx hb hg in_X7 tyX7 tyX7_ok nmX7 hown hK hP hD hS 0 rfl rfl 2 (by decide) (hg _ g_35) (fun _ h9 => h9) rfl hin rfl (by decide +kernel) rfl rfl (Nat.le_of_ble_eq_true rfl) dX7_init_25 (fun H locs hP hD hS => ?_)
  have hP : va_P D vwCl ([(h0, .inr (8, [.ref q1, .ref q2, .ref q3, .null, .int 0])), (q1, .inl (cI, 60, .inl (fun _ => 0))), (q2, .inl (cI, 60, .inl (fun _ => 0))), (q3, .inl (cZ, 60, .inl (fun _ => 0)))]) H := hP
  have hD : va_D A ([(h0, .inr (8, [.ref q1, .ref q2, .ref q3, .null, .int 0])), (q1, .inl (cI, 60, .inl (fun _ => 0))), (q2, .inl (cI, 60, .inl (fun _ => 0))), (q3, .inl (cZ, 60, .inl (fun _ => 0)))]) := hD
  refine lv_aload_n hx hb dX7_init_28 rfl (lv_at hl 0 rfl) ?_
  refine lv_bipush (v := 60) hx hb dX7_init_29 (by decide) ?_
  refine z_newa (atype := .int) (ty := .int) (n := 60) (a0 := (60, .inl (fun _ => 0))) (N' := 60) hx hb (hg _ g_49) rfl (t0 := 0) rfl (fun _ h => h) hK hP hD hS hA (ha_int 60) (by decide) (by decide) (by decide) (Nat.le_of_ble_eq_true rfl) (Nat.le_of_ble_eq_true rfl) dX7_init_31 (fun q4 H hP hD hS => ?_)
  have hP : va_P D vwCl ([(h0, .inr (8, [.ref q1, .ref q2, .ref q3, .null, .int 0])), (q1, .inl (cI, 60, .inl (fun _ => 0))), (q2, .inl (cI, 60, .inl (fun _ => 0))), (q3, .inl (cZ, 60, .inl (fun _ => 0))), (q4, .inl (cI, 60, .inl (fun _ => 0)))]) H := hP
  have hD : va_D A ([(h0, .inr (8, [.ref q1, .ref q2, .ref q3, .null, .int 0])), (q1, .inl (cI, 60, .inl (fun _ => 0))), (q2, .inl (cI, 60, .inl (fun _ => 0))), (q3, .inl (cZ, 60, .inl (fun _ => 0))), (q4, .inl (cI, 60, .inl (fun _ => 0)))]) := hD
  refine W.widen (k := 4) (n := 240) (by decide) (by decide) ?_
  refine va_putF (D := D) (ci := 8) (v := .ref q4) (ty := .array .int) (C := RX7) (T := TX7) (N := 5) hx hb hg in_X7 tyX7 tyX7_ok nmX7 hown hK hP hD hS 0 rfl rfl 3 (by decide) (hg _ g_36) (fun _ h9 => h9) rfl hin rfl (by decide +kernel) rfl rfl (Nat.le_of_ble_eq_true rfl) dX7_init_33 (fun H locs hP hD hS => ?_)
  have hP : va_P D vwCl ([(h0, .inr (8, [.ref q1, .ref q2, .ref q3, .ref q4, .int 0])), (q1, .inl (cI, 60, .inl (fun _ => 0))), (q2, .inl (cI, 60, .inl (fun _ => 0))), (q3, .inl (cZ, 60, .inl (fun _ => 0))), (q4, .inl (cI, 60, .inl (fun _ => 0)))]) H := hP
  have hD : va_D A ([(h0, .inr (8, [.ref q1, .ref q2, .ref q3, .ref q4, .int 0])), (q1, .inl (cI, 60, .inl (fun _ => 0))), (q2, .inl (cI, 60, .inl (fun _ => 0))), (q3, .inl (cZ, 60, .inl (fun _ => 0))), (q4, .inl (cI, 60, .inl (fun _ => 0)))]) := hD
  exact W.vret hx hb hr (fun t9 ht hW => ⟨⟨[(h0, .inr (8, [.ref q1, .ref q2, .ref q3, .ref q4, .int 0])), (q1, .inl (cI, 60, .inl (fun _ => 0))), (q2, .inl (cI, 60, .inl (fun _ => 0))), (q3, .inl (cZ, 60, .inl (fun _ => 0))), (q4, .inl (cI, 60, .inl (fun _ => 0)))], rfl, ⟨q1, q2, q3, q4, rfl⟩, by rw [ht]; exact hP, va_K.moved hW.alike hK, hD⟩, hS.F ht⟩) hS.2.2 dX7_init_36

set_option maxHeartbeats 4000000 in
set_option maxRecDepth 100000 in
theorem c_X8_init (l : Launch) (D : va_G) (cI cZ : ClassId) (h0 : Nat) : ctV l D [(cI, .int), (cZ, .boolean)] yX8_init (wd yX8_init cX8_init 1 (Option.none : Option Jvm.ClassFile.FieldType)) { frames := 1, cells := 1, slots := 200, locals := 12 } [.ref h0] [(h0, .inr (9, [.null, .int 0, .int 0, .int 0, .int 0, .int 0]))] (fun w => ∃ q1 : Nat, w = [(h0, .inr (9, [.ref q1, .int 0, .int 0, .int 0, .int 0, .int 0])), (q1, .inl (cI, 200, .inl (fun _ => 0)))]) := by
  intro sz
  refine Met.ofW (cc := cX8_init) (maxL := 1) (ret := (Option.none : Option Jvm.ClassFile.FieldType)) (by decide) rfl ?_
  intro p e s m args below meth c s₁ B hml hv
  obtain ⟨rfl, hsz, hP, hK, hD0⟩ := hv
  have hx := B.exec
  have hb := B.bytes
  have hr := B.returns
  have hts := atoms_spec (ws := (wd yX8_init cX8_init 1 (Option.none : Option Jvm.ClassFile.FieldType))) B.pre
  have hg := Tb.of hts
  have hown : s.vm.findClass RX8 = some m.cls := findClass_of_methodNamed B.named
  have hlocks := B.notSynchronized
  have hin : meth.name = "<init>" := va_init B rfl
  subst hsz
  have hD := hD0.self (sz := s.heap.size)
  generalize hAe : va_A ([(h0, .inr (9, [.null, .int 0, .int 0, .int 0, .int 0, .int 0]))]) s.heap.size = A at hD ⊢
  have hA : ∀ q : Nat, s.heap.size ≤ q → A q := fun q h => by rw [← hAe]; exact Or.inr h
  have hS : va_S A s.heap s.heap [] := va_S.rf
  have hP : va_P D vwCl ([(h0, .inr (9, [.null, .int 0, .int 0, .int 0, .int 0, .int 0]))]) s.heap := hP
  have hl := lv_entry ([.ref h0]) (n := 1) (Nat.le_of_ble_eq_true rfl)
  rw [lg_entry_eq]
  generalize (lg_sl ([.ref h0]) ++ List.replicate (1 - (lg_sl ([.ref h0])).length) Slot.unset).toArray = ls at hl ⊢
  have hl : lv_has ls 1 [(0, .ref h0)] := hl
  refine lv_aload_n hx hb dX8_init_0 rfl (lv_at hl 0 rfl) ?_
  refine W.objInit hx hb hown (hg _ g_56) (hg _ g_25) (hg _ g_26) rfl (by rw [hml]; exact hl.1) rfl dX8_init_1 (Nat.le_of_ble_eq_true rfl) (Nat.le_of_ble_eq_true rfl) ?_
  refine W.eq (g2 := F0 m 4 ls []) rfl ?_
  refine lv_aload_n hx hb dX8_init_4 rfl (lv_at hl 0 rfl) ?_
  refine lv_sipush (v := 200) hx hb dX8_init_5 (by decide) ?_
  refine z_newa (atype := .int) (ty := .int) (n := 200) (a0 := (200, .inl (fun _ => 0))) (N' := 200) hx hb (hg _ g_49) rfl (t0 := 0) rfl (fun _ h => h) hK hP hD hS hA (ha_int 200) (by decide) (by decide) (by decide) (Nat.le_of_ble_eq_true rfl) (Nat.le_of_ble_eq_true rfl) dX8_init_8 (fun q1 H hP hD hS => ?_)
  have hP : va_P D vwCl ([(h0, .inr (9, [.null, .int 0, .int 0, .int 0, .int 0, .int 0])), (q1, .inl (cI, 200, .inl (fun _ => 0)))]) H := hP
  have hD : va_D A ([(h0, .inr (9, [.null, .int 0, .int 0, .int 0, .int 0, .int 0])), (q1, .inl (cI, 200, .inl (fun _ => 0)))]) := hD
  refine W.widen (k := 1) (n := 200) (by decide) (by decide) ?_
  refine va_putF (D := D) (ci := 9) (v := .ref q1) (ty := .array .int) (C := RX8) (T := TX8) (N := 6) hx hb hg in_X8 tyX8 tyX8_ok nmX8 hown hK hP hD hS 0 rfl rfl 0 (by decide) (hg _ g_57) (fun _ h9 => h9) rfl hin rfl (by decide +kernel) rfl rfl (Nat.le_of_ble_eq_true rfl) dX8_init_10 (fun H locs hP hD hS => ?_)
  have hP : va_P D vwCl ([(h0, .inr (9, [.ref q1, .int 0, .int 0, .int 0, .int 0, .int 0])), (q1, .inl (cI, 200, .inl (fun _ => 0)))]) H := hP
  have hD : va_D A ([(h0, .inr (9, [.ref q1, .int 0, .int 0, .int 0, .int 0, .int 0])), (q1, .inl (cI, 200, .inl (fun _ => 0)))]) := hD
  exact W.vret hx hb hr (fun t9 ht hW => ⟨⟨[(h0, .inr (9, [.ref q1, .int 0, .int 0, .int 0, .int 0, .int 0])), (q1, .inl (cI, 200, .inl (fun _ => 0)))], rfl, ⟨q1, rfl⟩, by rw [ht]; exact hP, va_K.moved hW.alike hK, hD⟩, hS.F ht⟩) hS.2.2 dX8_init_13

set_option maxHeartbeats 4000000 in
set_option maxRecDepth 100000 in
theorem c_X11_init (l : Launch) (D : va_G) (cI cZ : ClassId) (h0 : Nat) : ctV l D [(cI, .int), (cZ, .boolean)] yX11_init (wd yX11_init cX11_init 1 (Option.none : Option Jvm.ClassFile.FieldType)) { frames := 1, cells := 10, slots := 632, locals := 12 } [.ref h0] [(h0, .inr (12, [.int 0, .int 0, .null, .null, .null, .null, .int 0, .null, .null, .null, .null, .null, .null, .int 0, .int 0, .int 0, .int 0]))] (fun w => ∃ q1 q2 q3 q4 q5 q6 q7 q8 q9 q10 : Nat, w = [(h0, .inr (12, [.int 0, .int 0, .ref q1, .ref q2, .ref q3, .ref q4, .int 0, .ref q5, .ref q6, .ref q7, .ref q8, .ref q9, .ref q10, .int 0, .int 0, .int 0, .int 0])), (q1, .inl (cI, 60, .inl (fun _ => 0))), (q2, .inl (cI, 60, .inl (fun _ => 0))), (q3, .inl (cZ, 60, .inl (fun _ => 0))), (q4, .inl (cI, 60, .inl (fun _ => 0))), (q5, .inl (cI, 12, .inl (fun _ => 0))), (q6, .inl (cI, 12, .inl (fun _ => 0))), (q7, .inl (cI, 12, .inl (fun _ => 0))), (q8, .inl (cI, 12, .inl (fun _ => 0))), (q9, .inl (cI, 144, .inl (fun _ => 0))), (q10, .inl (cI, 200, .inl (fun _ => 0)))]) := by
  intro sz
  refine Met.ofW (cc := cX11_init) (maxL := 1) (ret := (Option.none : Option Jvm.ClassFile.FieldType)) (by decide) rfl ?_
  intro p e s m args below meth c s₁ B hml hv
  obtain ⟨rfl, hsz, hP, hK, hD0⟩ := hv
  have hx := B.exec
  have hb := B.bytes
  have hr := B.returns
  have hts := atoms_spec (ws := (wd yX11_init cX11_init 1 (Option.none : Option Jvm.ClassFile.FieldType))) B.pre
  have hg := Tb.of hts
  have hown : s.vm.findClass RX11 = some m.cls := findClass_of_methodNamed B.named
  have hlocks := B.notSynchronized
  have hin : meth.name = "<init>" := va_init B rfl
  subst hsz
  have hD := hD0.self (sz := s.heap.size)
  generalize hAe : va_A ([(h0, .inr (12, [.int 0, .int 0, .null, .null, .null, .null, .int 0, .null, .null, .null, .null, .null, .null, .int 0, .int 0, .int 0, .int 0]))]) s.heap.size = A at hD ⊢
  have hA : ∀ q : Nat, s.heap.size ≤ q → A q := fun q h => by rw [← hAe]; exact Or.inr h
  have hS : va_S A s.heap s.heap [] := va_S.rf
  have hP : va_P D vwCl ([(h0, .inr (12, [.int 0, .int 0, .null, .null, .null, .null, .int 0, .null, .null, .null, .null, .null, .null, .int 0, .int 0, .int 0, .int 0]))]) s.heap := hP
  have hl := lv_entry ([.ref h0]) (n := 1) (Nat.le_of_ble_eq_true rfl)
  rw [lg_entry_eq]
  generalize (lg_sl ([.ref h0]) ++ List.replicate (1 - (lg_sl ([.ref h0])).length) Slot.unset).toArray = ls at hl ⊢
  have hl : lv_has ls 1 [(0, .ref h0)] := hl
  refine lv_aload_n hx hb dX11_init_0 rfl (lv_at hl 0 rfl) ?_
  refine W.objInit hx hb hown (hg _ g_685) (hg _ g_25) (hg _ g_26) rfl (by rw [hml]; exact hl.1) rfl dX11_init_1 (Nat.le_of_ble_eq_true rfl) (Nat.le_of_ble_eq_true rfl) ?_
  refine W.eq (g2 := F0 m 4 ls []) rfl ?_
  refine lv_aload_n hx hb dX11_init_4 rfl (lv_at hl 0 rfl) ?_
  refine lv_bipush (v := 60) hx hb dX11_init_5 (by decide) ?_
  refine z_newa (atype := .int) (ty := .int) (n := 60) (a0 := (60, .inl (fun _ => 0))) (N' := 60) hx hb (hg _ g_49) rfl (t0 := 0) rfl (fun _ h => h) hK hP hD hS hA (ha_int 60) (by decide) (by decide) (by decide) (Nat.le_of_ble_eq_true rfl) (Nat.le_of_ble_eq_true rfl) dX11_init_7 (fun q1 H hP hD hS => ?_)
  have hP : va_P D vwCl ([(h0, .inr (12, [.int 0, .int 0, .null, .null, .null, .null, .int 0, .null, .null, .null, .null, .null, .null, .int 0, .int 0, .int 0, .int 0])), (q1, .inl (cI, 60, .inl (fun _ => 0)))]) H := hP
  have hD : va_D A ([(h0, .inr (12, [.int 0, .int 0, .null, .null, .null, .null, .int 0, .null, .null, .null, .null, .null, .null, .int 0, .int 0, .int 0, .int 0])), (q1, .inl (cI, 60, .inl (fun _ => 0)))]) := hD
  refine W.widen (k := 1) (n := 60) (by decide) (by decide) ?_
  refine va_putF (D := D) (ci := 12) (v := .ref q1) (ty := .array .int) (C := RX11) (T := TX11) (N := 17) hx hb hg in_X11 tyX11 tyX11_ok nmX11 hown hK hP hD hS 0 rfl rfl 2 (by decide) (hg _ g_688) (fun _ h9 => h9) rfl hin rfl (by decide +kernel) rfl rfl (Nat.le_of_ble_eq_true rfl) dX11_init_9 (fun H locs hP hD hS => ?_)
  have hP : va_P D vwCl ([(h0, .inr (12, [.int 0, .int 0, .ref q1, .null, .null, .null, .int 0, .null, .null, .null, .null, .null, .null, .int 0, .int 0, .int 0, .int 0])), (q1, .inl (cI, 60, .inl (fun _ => 0)))]) H := hP
  have hD : va_D A ([(h0, .inr (12, [.int 0, .int 0, .ref q1, .null, .null, .null, .int 0, .null, .null, .null, .null, .null, .null, .int 0, .int 0, .int 0, .int 0])), (q1, .inl (cI, 60, .inl (fun _ => 0)))]) := hD
  refine lv_aload_n hx hb dX11_init_12 rfl (lv_at hl 0 rfl) ?_
  refine lv_bipush (v := 60) hx hb dX11_init_13 (by decide) ?_
  refine z_newa (atype := .int) (ty := .int) (n := 60) (a0 := (60, .inl (fun _ => 0))) (N' := 60) hx hb (hg _ g_49) rfl (t0 := 0) rfl (fun _ h => h) hK hP hD hS hA (ha_int 60) (by decide) (by decide) (by decide) (Nat.le_of_ble_eq_true rfl) (Nat.le_of_ble_eq_true rfl) dX11_init_15 (fun q2 H hP hD hS => ?_)
  have hP : va_P D vwCl ([(h0, .inr (12, [.int 0, .int 0, .ref q1, .null, .null, .null, .int 0, .null, .null, .null, .null, .null, .null, .int 0, .int 0, .int 0, .int 0])), (q1, .inl (cI, 60, .inl (fun _ => 0))), (q2, .inl (cI, 60, .inl (fun _ => 0)))]) H := hP
  have hD : va_D A ([(h0, .inr (12, [.int 0, .int 0, .ref q1, .null, .null, .null, .int 0, .null, .null, .null, .null, .null, .null, .int 0, .int 0, .int 0, .int 0])), (q1, .inl (cI, 60, .inl (fun _ => 0))), (q2, .inl (cI, 60, .inl (fun _ => 0)))]) := hD
  refine W.widen (k := 2) (n := 120) (by decide) (by decide) ?_
  refine va_putF (D := D) (ci := 12) (v := .ref q2) (ty := .array .int) (C := RX11) (T := TX11) (N := 17) hx hb hg in_X11 tyX11 tyX11_ok nmX11 hown hK hP hD hS 0 rfl rfl 3 (by decide) (hg _ g_689) (fun _ h9 => h9) rfl hin rfl (by decide +kernel) rfl rfl (Nat.le_of_ble_eq_true rfl) dX11_init_17 (fun H locs hP hD hS => ?_)
  have hP : va_P D vwCl ([(h0, .inr (12, [.int 0, .int 0, .ref q1, .ref q2, .null, .null, .int 0, .null, .null, .null, .null, .null, .null, .int 0, .int 0, .int 0, .int 0])), (q1, .inl (cI, 60, .inl (fun _ => 0))), (q2, .inl (cI, 60, .inl (fun _ => 0)))]) H := hP
  have hD : va_D A ([(h0, .inr (12, [.int 0, .int 0, .ref q1, .ref q2, .null, .null, .int 0, .null, .null, .null, .null, .null, .null, .int 0, .int 0, .int 0, .int 0])), (q1, .inl (cI, 60, .inl (fun _ => 0))), (q2, .inl (cI, 60, .inl (fun _ => 0)))]) := hD
  refine lv_aload_n hx hb dX11_init_20 rfl (lv_at hl 0 rfl) ?_
  refine lv_bipush (v := 60) hx hb dX11_init_21 (by decide) ?_
  refine z_newa (atype := .boolean) (ty := .boolean) (n := 60) (a0 := (60, .inl (fun _ => 0))) (N' := 60) hx hb (hg _ g_50) rfl (t0 := 1) rfl (fun _ h => h) hK hP hD hS hA (ha_boolean 60) (by decide) (by decide) (by decide) (Nat.le_of_ble_eq_true rfl) (Nat.le_of_ble_eq_true rfl) dX11_init_23 (fun q3 H hP hD hS => ?_)
  have hP : va_P D vwCl ([(h0, .inr (12, [.int 0, .int 0, .ref q1, .ref q2, .null, .null, .int 0, .null, .null, .null, .null, .null, .null, .int 0, .int 0, .int 0, .int 0])), (q1, .inl (cI, 60, .inl (fun _ => 0))), (q2, .inl (cI, 60, .inl (fun _ => 0))), (q3, .inl (cZ, 60, .inl (fun _ => 0)))]) H := hP
  have hD : va_D A ([(h0, .inr (12, [.int 0, .int 0, .ref q1, .ref q2, .null, .null, .int 0, .null, .null, .null, .null, .null, .null, .int 0, .int 0, .int 0, .int 0])), (q1, .inl (cI, 60, .inl (fun _ => 0))), (q2, .inl (cI, 60, .inl (fun _ => 0))), (q3, .inl (cZ, 60, .inl (fun _ => 0)))]) := hD
  refine W.widen (k := 3) (n := 180) (by decide) (by decide) ?_
  refine va_putF (D := D) (ci := 12) (v := .ref q3) (ty := .array .boolean) (C := RX11) (T := TX11) (N := 17) hx hb hg in_X11 tyX11 tyX11_ok nmX11 hown hK hP hD hS 0 rfl rfl 4 (by decide) (hg _ g_690) (fun _ h9 => h9) rfl hin rfl (by decide +kernel) rfl rfl (Nat.le_of_ble_eq_true rfl) dX11_init_25 (fun H locs hP hD hS => ?_)
  have hP : va_P D vwCl ([(h0, .inr (12, [.int 0, .int 0, .ref q1, .ref q2, .ref q3, .null, .int 0, .null, .null, .null, .null, .null, .null, .int 0, .int 0, .int 0, .int 0])), (q1, .inl (cI, 60, .inl (fun _ => 0))), (q2, .inl (cI, 60, .inl (fun _ => 0))), (q3, .inl (cZ, 60, .inl (fun _ => 0)))]) H := hP
  have hD : va_D A ([(h0, .inr (12, [.int 0, .int 0, .ref q1, .ref q2, .ref q3, .null, .int 0, .null, .null, .null, .null, .null, .null, .int 0, .int 0, .int 0, .int 0])), (q1, .inl (cI, 60, .inl (fun _ => 0))), (q2, .inl (cI, 60, .inl (fun _ => 0))), (q3, .inl (cZ, 60, .inl (fun _ => 0)))]) := hD
  refine lv_aload_n hx hb dX11_init_28 rfl (lv_at hl 0 rfl) ?_
  refine lv_bipush (v := 60) hx hb dX11_init_29 (by decide) ?_
  refine z_newa (atype := .int) (ty := .int) (n := 60) (a0 := (60, .inl (fun _ => 0))) (N' := 60) hx hb (hg _ g_49) rfl (t0 := 0) rfl (fun _ h => h) hK hP hD hS hA (ha_int 60) (by decide) (by decide) (by decide) (Nat.le_of_ble_eq_true rfl) (Nat.le_of_ble_eq_true rfl) dX11_init_31 (fun q4 H hP hD hS => ?_)
  have hP : va_P D vwCl ([(h0, .inr (12, [.int 0, .int 0, .ref q1, .ref q2, .ref q3, .null, .int 0, .null, .null, .null, .null, .null, .null, .int 0, .int 0, .int 0, .int 0])), (q1, .inl (cI, 60, .inl (fun _ => 0))), (q2, .inl (cI, 60, .inl (fun _ => 0))), (q3, .inl (cZ, 60, .inl (fun _ => 0))), (q4, .inl (cI, 60, .inl (fun _ => 0)))]) H := hP
  have hD : va_D A ([(h0, .inr (12, [.int 0, .int 0, .ref q1, .ref q2, .ref q3, .null, .int 0, .null, .null, .null, .null, .null, .null, .int 0, .int 0, .int 0, .int 0])), (q1, .inl (cI, 60, .inl (fun _ => 0))), (q2, .inl (cI, 60, .inl (fun _ => 0))), (q3, .inl (cZ, 60, .inl (fun _ => 0))), (q4, .inl (cI, 60, .inl (fun _ => 0)))]) := hD
  refine W.widen (k := 4) (n := 240) (by decide) (by decide) ?_
  refine va_putF (D := D) (ci := 12) (v := .ref q4) (ty := .array .int) (C := RX11) (T := TX11) (N := 17) hx hb hg in_X11 tyX11 tyX11_ok nmX11 hown hK hP hD hS 0 rfl rfl 5 (by decide) (hg _ g_691) (fun _ h9 => h9) rfl hin rfl (by decide +kernel) rfl rfl (Nat.le_of_ble_eq_true rfl) dX11_init_33 (fun H locs hP hD hS => ?_)
  have hP : va_P D vwCl ([(h0, .inr (12, [.int 0, .int 0, .ref q1, .ref q2, .ref q3, .ref q4, .int 0, .null, .null, .null, .null, .null, .null, .int 0, .int 0, .int 0, .int 0])), (q1, .inl (cI, 60, .inl (fun _ => 0))), (q2, .inl (cI, 60, .inl (fun _ => 0))), (q3, .inl (cZ, 60, .inl (fun _ => 0))), (q4, .inl (cI, 60, .inl (fun _ => 0)))]) H := hP
  have hD : va_D A ([(h0, .inr (12, [.int 0, .int 0, .ref q1, .ref q2, .ref q3, .ref q4, .int 0, .null, .null, .null, .null, .null, .null, .int 0, .int 0, .int 0, .int 0])), (q1, .inl (cI, 60, .inl (fun _ => 0))), (q2, .inl (cI, 60, .inl (fun _ => 0))), (q3, .inl (cZ, 60, .inl (fun _ => 0))), (q4, .inl (cI, 60, .inl (fun _ => 0)))]) := hD
  refine lv_aload_n hx hb dX11_init_36 rfl (lv_at hl 0 rfl) ?_
  refine lv_bipush (v := 12) hx hb dX11_init_37 (by decide) ?_
  refine z_newa (atype := .int) (ty := .int) (n := 12) (a0 := (12, .inl (fun _ => 0))) (N' := 12) hx hb (hg _ g_49) rfl (t0 := 0) rfl (fun _ h => h) hK hP hD hS hA (ha_int 12) (by decide) (by decide) (by decide) (Nat.le_of_ble_eq_true rfl) (Nat.le_of_ble_eq_true rfl) dX11_init_39 (fun q5 H hP hD hS => ?_)
  have hP : va_P D vwCl ([(h0, .inr (12, [.int 0, .int 0, .ref q1, .ref q2, .ref q3, .ref q4, .int 0, .null, .null, .null, .null, .null, .null, .int 0, .int 0, .int 0, .int 0])), (q1, .inl (cI, 60, .inl (fun _ => 0))), (q2, .inl (cI, 60, .inl (fun _ => 0))), (q3, .inl (cZ, 60, .inl (fun _ => 0))), (q4, .inl (cI, 60, .inl (fun _ => 0))), (q5, .inl (cI, 12, .inl (fun _ => 0)))]) H := hP
  have hD : va_D A ([(h0, .inr (12, [.int 0, .int 0, .ref q1, .ref q2, .ref q3, .ref q4, .int 0, .null, .null, .null, .null, .null, .null, .int 0, .int 0, .int 0, .int 0])), (q1, .inl (cI, 60, .inl (fun _ => 0))), (q2, .inl (cI, 60, .inl (fun _ => 0))), (q3, .inl (cZ, 60, .inl (fun _ => 0))), (q4, .inl (cI, 60, .inl (fun _ => 0))), (q5, .inl (cI, 12, .inl (fun _ => 0)))]) := hD
  refine W.widen (k := 5) (n := 252) (by decide) (by decide) ?_
  refine va_putF (D := D) (ci := 12) (v := .ref q5) (ty := .array .int) (C := RX11) (T := TX11) (N := 17) hx hb hg in_X11 tyX11 tyX11_ok nmX11 hown hK hP hD hS 0 rfl rfl 7 (by decide) (hg _ g_693) (fun _ h9 => h9) rfl hin rfl (by decide +kernel) rfl rfl (Nat.le_of_ble_eq_true rfl) dX11_init_41 (fun H locs hP hD hS => ?_)
  have hP : va_P D vwCl ([(h0, .inr (12, [.int 0, .int 0, .ref q1, .ref q2, .ref q3, .ref q4, .int 0, .ref q5, .null, .null, .null, .null, .null, .int 0, .int 0, .int 0, .int 0])), (q1, .inl (cI, 60, .inl (fun _ => 0))), (q2, .inl (cI, 60, .inl (fun _ => 0))), (q3, .inl (cZ, 60, .inl (fun _ => 0))), (q4, .inl (cI, 60, .inl (fun _ => 0))), (q5, .inl (cI, 12, .inl (fun _ => 0)))]) H := hP
  have hD : va_D A ([(h0, .inr (12, [.int 0, .int 0, .ref q1, .ref q2, .ref q3, .ref q4, .int 0, .ref q5, .null, .null, .null, .null, .null, .int 0, .int 0, .int 0, .int 0])), (q1, .inl (cI, 60, .inl (fun _ => 0))), (q2, .inl (cI, 60, .inl (fun _ => 0))), (q3, .inl (cZ, 60, .inl (fun _ => 0))), (q4, .inl (cI, 60, .inl (fun _ => 0))), (q5, .inl (cI, 12, .inl (fun _ => 0)))]) := hD
  refine lv_aload_n hx hb dX11_init_44 rfl (lv_at hl 0 rfl) ?_
  refine lv_bipush (v := 12) hx hb dX11_init_45 (by decide) ?_
  refine z_newa (atype := .int) (ty := .int) (n := 12) (a0 := (12, .inl (fun _ => 0))) (N' := 12) hx hb (hg _ g_49) rfl (t0 := 0) rfl (fun _ h => h) hK hP hD hS hA (ha_int 12) (by decide) (by decide) (by decide) (Nat.le_of_ble_eq_true rfl) (Nat.le_of_ble_eq_true rfl) dX11_init_47 (fun q6 H hP hD hS => ?_)
  have hP : va_P D vwCl ([(h0, .inr (12, [.int 0, .int 0, .ref q1, .ref q2, .ref q3, .ref q4, .int 0, .ref q5, .null, .null, .null, .null, .null, .int 0, .int 0, .int 0, .int 0])), (q1, .inl (cI, 60, .inl (fun _ => 0))), (q2, .inl (cI, 60, .inl (fun _ => 0))), (q3, .inl (cZ, 60, .inl (fun _ => 0))), (q4, .inl (cI, 60, .inl (fun _ => 0))), (q5, .inl (cI, 12, .inl (fun _ => 0))), (q6, .inl (cI, 12, .inl (fun _ => 0)))]) H := hP
  have hD : va_D A ([(h0, .inr (12, [.int 0, .int 0, .ref q1, .ref q2, .ref q3, .ref q4, .int 0, .ref q5, .null, .null, .null, .null, .null, .int 0, .int 0, .int 0, .int 0])), (q1, .inl (cI, 60, .inl (fun _ => 0))), (q2, .inl (cI, 60, .inl (fun _ => 0))), (q3, .inl (cZ, 60, .inl (fun _ => 0))), (q4, .inl (cI, 60, .inl (fun _ => 0))), (q5, .inl (cI, 12, .inl (fun _ => 0))), (q6, .inl (cI, 12, .inl (fun _ => 0)))]) := hD
  refine W.widen (k := 6) (n := 264) (by decide) (by decide) ?_
  refine va_putF (D := D) (ci := 12) (v := .ref q6) (ty := .array .int) (C := RX11) (T := TX11) (N := 17) hx hb hg in_X11 tyX11 tyX11_ok nmX11 hown hK hP hD hS 0 rfl rfl 8 (by decide) (hg _ g_694) (fun _ h9 => h9) rfl hin rfl (by decide +kernel) rfl rfl (Nat.le_of_ble_eq_true rfl) dX11_init_49 (fun H locs hP hD hS => ?_)
  have hP : va_P D vwCl ([(h0, .inr (12, [.int 0, .int 0, .ref q1, .ref q2, .ref q3, .ref q4, .int 0, .ref q5, .ref q6, .null, .null, .null, .null, .int 0, .int 0, .int 0, .int 0])), (q1, .inl (cI, 60, .inl (fun _ => 0))), (q2, .inl (cI, 60, .inl (fun _ => 0))), (q3, .inl (cZ, 60, .inl (fun _ => 0))), (q4, .inl (cI, 60, .inl (fun _ => 0))), (q5, .inl (cI, 12, .inl (fun _ => 0))), (q6, .inl (cI, 12, .inl (fun _ => 0)))]) H := hP
  have hD : va_D A ([(h0, .inr (12, [.int 0, .int 0, .ref q1, .ref q2, .ref q3, .ref q4, .int 0, .ref q5, .ref q6, .null, .null, .null, .null, .int 0, .int 0, .int 0, .int 0])), (q1, .inl (cI, 60, .inl (fun _ => 0))), (q2, .inl (cI, 60, .inl (fun _ => 0))), (q3, .inl (cZ, 60, .inl (fun _ => 0))), (q4, .inl (cI, 60, .inl (fun _ => 0))), (q5, .inl (cI, 12, .inl (fun _ => 0))), (q6, .inl (cI, 12, .inl (fun _ => 0)))]) := hD
  refine lv_aload_n hx hb dX11_init_52 rfl (lv_at hl 0 rfl) ?_
  refine lv_bipush (v := 12) hx hb dX11_init_53 (by decide) ?_
  refine z_newa (atype := .int) (ty := .int) (n := 12) (a0 := (12, .inl (fun _ => 0))) (N' := 12) hx hb (hg _ g_49) rfl (t0 := 0) rfl (fun _ h => h) hK hP hD hS hA (ha_int 12) (by decide) (by decide) (by decide) (Nat.le_of_ble_eq_true rfl) (Nat.le_of_ble_eq_true rfl) dX11_init_55 (fun q7 H hP hD hS => ?_)
  have hP : va_P D vwCl ([(h0, .inr (12, [.int 0, .int 0, .ref q1, .ref q2, .ref q3, .ref q4, .int 0, .ref q5, .ref q6, .null, .null, .null, .null, .int 0, .int 0, .int 0, .int 0])), (q1, .inl (cI, 60, .inl (fun _ => 0))), (q2, .inl (cI, 60, .inl (fun _ => 0))), (q3, .inl (cZ, 60, .inl (fun _ => 0))), (q4, .inl (cI, 60, .inl (fun _ => 0))), (q5, .inl (cI, 12, .inl (fun _ => 0))), (q6, .inl (cI, 12, .inl (fun _ => 0))), (q7, .inl (cI, 12, .inl (fun _ => 0)))]) H := hP
  have hD : va_D A ([(h0, .inr (12, [.int 0, .int 0, .ref q1, .ref q2, .ref q3, .ref q4, .int 0, .ref q5, .ref q6, .null, .null, .null, .null, .int 0, .int 0, .int 0, .int 0])), (q1, .inl (cI, 60, .inl (fun _ => 0))), (q2, .inl (cI, 60, .inl (fun _ => 0))), (q3, .inl (cZ, 60, .inl (fun _ => 0))), (q4, .inl (cI, 60, .inl (fun _ => 0))), (q5, .inl (cI, 12, .inl (fun _ => 0))), (q6, .inl (cI, 12, .inl (fun _ => 0))), (q7, .inl (cI, 12, .inl (fun _ => 0)))]) := hD
  refine W.widen (k := 7) (n := 276) (by decide) (by decide) ?_
  refine va_putF (D := D) (ci := 12) (v := .ref q7) (ty := .array .int) (C := RX11) (T := TX11) (N := 17) hx hb hg in_X11 tyX11 tyX11_ok nmX11 hown hK hP hD hS 0 rfl rfl 9 (by decide) (hg _ g_695) (fun _ h9 => h9) rfl hin rfl (by decide +kernel) rfl rfl (Nat.le_of_ble_eq_true rfl) dX11_init_57 (fun H locs hP hD hS => ?_)
  have hP : va_P D vwCl ([(h0, .inr (12, [.int 0, .int 0, .ref q1, .ref q2, .ref q3, .ref q4, .int 0, .ref q5, .ref q6, .ref q7, .null, .null, .null, .int 0, .int 0, .int 0, .int 0])), (q1, .inl (cI, 60, .inl (fun _ => 0))), (q2, .inl (cI, 60, .inl (fun _ => 0))), (q3, .inl (cZ, 60, .inl (fun _ => 0))), (q4, .inl (cI, 60, .inl (fun _ => 0))), (q5, .inl (cI, 12, .inl (fun _ => 0))), (q6, .inl (cI, 12, .inl (fun _ => 0))), (q7, .inl (cI, 12, .inl (fun _ => 0)))]) H := hP
  have hD : va_D A ([(h0, .inr (12, [.int 0, .int 0, .ref q1, .ref q2, .ref q3, .ref q4, .int 0, .ref q5, .ref q6, .ref q7, .null, .null, .null, .int 0, .int 0, .int 0, .int 0])), (q1, .inl (cI, 60, .inl (fun _ => 0))), (q2, .inl (cI, 60, .inl (fun _ => 0))), (q3, .inl (cZ, 60, .inl (fun _ => 0))), (q4, .inl (cI, 60, .inl (fun _ => 0))), (q5, .inl (cI, 12, .inl (fun _ => 0))), (q6, .inl (cI, 12, .inl (fun _ => 0))), (q7, .inl (cI, 12, .inl (fun _ => 0)))]) := hD
  refine lv_aload_n hx hb dX11_init_60 rfl (lv_at hl 0 rfl) ?_
  refine lv_bipush (v := 12) hx hb dX11_init_61 (by decide) ?_
  refine z_newa (atype := .int) (ty := .int) (n := 12) (a0 := (12, .inl (fun _ => 0))) (N' := 12) hx hb (hg _ g_49) rfl (t0 := 0) rfl (fun _ h => h) hK hP hD hS hA (ha_int 12) (by decide) (by decide) (by decide) (Nat.le_of_ble_eq_true rfl) (Nat.le_of_ble_eq_true rfl) dX11_init_63 (fun q8 H hP hD hS => ?_)
  have hP : va_P D vwCl ([(h0, .inr (12, [.int 0, .int 0, .ref q1, .ref q2, .ref q3, .ref q4, .int 0, .ref q5, .ref q6, .ref q7, .null, .null, .null, .int 0, .int 0, .int 0, .int 0])), (q1, .inl (cI, 60, .inl (fun _ => 0))), (q2, .inl (cI, 60, .inl (fun _ => 0))), (q3, .inl (cZ, 60, .inl (fun _ => 0))), (q4, .inl (cI, 60, .inl (fun _ => 0))), (q5, .inl (cI, 12, .inl (fun _ => 0))), (q6, .inl (cI, 12, .inl (fun _ => 0))), (q7, .inl (cI, 12, .inl (fun _ => 0))), (q8, .inl (cI, 12, .inl (fun _ => 0)))]) H := hP
  have hD : va_D A ([(h0, .inr (12, [.int 0, .int 0, .ref q1, .ref q2, .ref q3, .ref q4, .int 0, .ref q5, .ref q6, .ref q7, .null, .null, .null, .int 0, .int 0, .int 0, .int 0])), (q1, .inl (cI, 60, .inl (fun _ => 0))), (q2, .inl (cI, 60, .inl (fun _ => 0))), (q3, .inl (cZ, 60, .inl (fun _ => 0))), (q4, .inl (cI, 60, .inl (fun _ => 0))), (q5, .inl (cI, 12, .inl (fun _ => 0))), (q6, .inl (cI, 12, .inl (fun _ => 0))), (q7, .inl (cI, 12, .inl (fun _ => 0))), (q8, .inl (cI, 12, .inl (fun _ => 0)))]) := hD
  refine W.widen (k := 8) (n := 288) (by decide) (by decide) ?_
  refine va_putF (D := D) (ci := 12) (v := .ref q8) (ty := .array .int) (C := RX11) (T := TX11) (N := 17) hx hb hg in_X11 tyX11 tyX11_ok nmX11 hown hK hP hD hS 0 rfl rfl 10 (by decide) (hg _ g_696) (fun _ h9 => h9) rfl hin rfl (by decide +kernel) rfl rfl (Nat.le_of_ble_eq_true rfl) dX11_init_65 (fun H locs hP hD hS => ?_)
  have hP : va_P D vwCl ([(h0, .inr (12, [.int 0, .int 0, .ref q1, .ref q2, .ref q3, .ref q4, .int 0, .ref q5, .ref q6, .ref q7, .ref q8, .null, .null, .int 0, .int 0, .int 0, .int 0])), (q1, .inl (cI, 60, .inl (fun _ => 0))), (q2, .inl (cI, 60, .inl (fun _ => 0))), (q3, .inl (cZ, 60, .inl (fun _ => 0))), (q4, .inl (cI, 60, .inl (fun _ => 0))), (q5, .inl (cI, 12, .inl (fun _ => 0))), (q6, .inl (cI, 12, .inl (fun _ => 0))), (q7, .inl (cI, 12, .inl (fun _ => 0))), (q8, .inl (cI, 12, .inl (fun _ => 0)))]) H := hP
  have hD : va_D A ([(h0, .inr (12, [.int 0, .int 0, .ref q1, .ref q2, .ref q3, .ref q4, .int 0, .ref q5, .ref q6, .ref q7, .ref q8, .null, .null, .int 0, .int 0, .int 0, .int 0])), (q1, .inl (cI, 60, .inl (fun _ => 0))), (q2, .inl (cI, 60, .inl (fun _ => 0))), (q3, .inl (cZ, 60, .inl (fun _ => 0))), (q4, .inl (cI, 60, .inl (fun _ => 0))), (q5, .inl (cI, 12, .inl (fun _ => 0))), (q6, .inl (cI, 12, .inl (fun _ => 0))), (q7, .inl (cI, 12, .inl (fun _ => 0))), (q8, .inl (cI, 12, .inl (fun _ => 0)))]) := hD
  refine lv_aload_n hx hb dX11_init_68 rfl (lv_at hl 0 rfl) ?_
  refine lv_sipush (v := 144) hx hb dX11_init_69 (by decide) ?_
  refine z_newa (atype := .int) (ty := .int) (n := 144) (a0 := (144, .inl (fun _ => 0))) (N' := 144) hx hb (hg _ g_49) rfl (t0 := 0) rfl (fun _ h => h) hK hP hD hS hA (ha_int 144) (by decide) (by decide) (by decide) (Nat.le_of_ble_eq_true rfl) (Nat.le_of_ble_eq_true rfl) dX11_init_72 (fun q9 H hP hD hS => ?_)
  have hP : va_P D vwCl ([(h0, .inr (12, [.int 0, .int 0, .ref q1, .ref q2, .ref q3, .ref q4, .int 0, .ref q5, .ref q6, .ref q7, .ref q8, .null, .null, .int 0, .int 0, .int 0, .int 0])), (q1, .inl (cI, 60, .inl (fun _ => 0))), (q2, .inl (cI, 60, .inl (fun _ => 0))), (q3, .inl (cZ, 60, .inl (fun _ => 0))), (q4, .inl (cI, 60, .inl (fun _ => 0))), (q5, .inl (cI, 12, .inl (fun _ => 0))), (q6, .inl (cI, 12, .inl (fun _ => 0))), (q7, .inl (cI, 12, .inl (fun _ => 0))), (q8, .inl (cI, 12, .inl (fun _ => 0))), (q9, .inl (cI, 144, .inl (fun _ => 0)))]) H := hP
  have hD : va_D A ([(h0, .inr (12, [.int 0, .int 0, .ref q1, .ref q2, .ref q3, .ref q4, .int 0, .ref q5, .ref q6, .ref q7, .ref q8, .null, .null, .int 0, .int 0, .int 0, .int 0])), (q1, .inl (cI, 60, .inl (fun _ => 0))), (q2, .inl (cI, 60, .inl (fun _ => 0))), (q3, .inl (cZ, 60, .inl (fun _ => 0))), (q4, .inl (cI, 60, .inl (fun _ => 0))), (q5, .inl (cI, 12, .inl (fun _ => 0))), (q6, .inl (cI, 12, .inl (fun _ => 0))), (q7, .inl (cI, 12, .inl (fun _ => 0))), (q8, .inl (cI, 12, .inl (fun _ => 0))), (q9, .inl (cI, 144, .inl (fun _ => 0)))]) := hD
  refine W.widen (k := 9) (n := 432) (by decide) (by decide) ?_
  refine va_putF (D := D) (ci := 12) (v := .ref q9) (ty := .array .int) (C := RX11) (T := TX11) (N := 17) hx hb hg in_X11 tyX11 tyX11_ok nmX11 hown hK hP hD hS 0 rfl rfl 11 (by decide) (hg _ g_697) (fun _ h9 => h9) rfl hin rfl (by decide +kernel) rfl rfl (Nat.le_of_ble_eq_true rfl) dX11_init_74 (fun H locs hP hD hS => ?_)
  have hP : va_P D vwCl ([(h0, .inr (12, [.int 0, .int 0, .ref q1, .ref q2, .ref q3, .ref q4, .int 0, .ref q5, .ref q6, .ref q7, .ref q8, .ref q9, .null, .int 0, .int 0, .int 0, .int 0])), (q1, .inl (cI, 60, .inl (fun _ => 0))), (q2, .inl (cI, 60, .inl (fun _ => 0))), (q3, .inl (cZ, 60, .inl (fun _ => 0))), (q4, .inl (cI, 60, .inl (fun _ => 0))), (q5, .inl (cI, 12, .inl (fun _ => 0))), (q6, .inl (cI, 12, .inl (fun _ => 0))), (q7, .inl (cI, 12, .inl (fun _ => 0))), (q8, .inl (cI, 12, .inl (fun _ => 0))), (q9, .inl (cI, 144, .inl (fun _ => 0)))]) H := hP
  have hD : va_D A ([(h0, .inr (12, [.int 0, .int 0, .ref q1, .ref q2, .ref q3, .ref q4, .int 0, .ref q5, .ref q6, .ref q7, .ref q8, .ref q9, .null, .int 0, .int 0, .int 0, .int 0])), (q1, .inl (cI, 60, .inl (fun _ => 0))), (q2, .inl (cI, 60, .inl (fun _ => 0))), (q3, .inl (cZ, 60, .inl (fun _ => 0))), (q4, .inl (cI, 60, .inl (fun _ => 0))), (q5, .inl (cI, 12, .inl (fun _ => 0))), (q6, .inl (cI, 12, .inl (fun _ => 0))), (q7, .inl (cI, 12, .inl (fun _ => 0))), (q8, .inl (cI, 12, .inl (fun _ => 0))), (q9, .inl (cI, 144, .inl (fun _ => 0)))]) := hD
  refine lv_aload_n hx hb dX11_init_77 rfl (lv_at hl 0 rfl) ?_
  refine lv_sipush (v := 200) hx hb dX11_init_78 (by decide) ?_
  refine z_newa (atype := .int) (ty := .int) (n := 200) (a0 := (200, .inl (fun _ => 0))) (N' := 200) hx hb (hg _ g_49) rfl (t0 := 0) rfl (fun _ h => h) hK hP hD hS hA (ha_int 200) (by decide) (by decide) (by decide) (Nat.le_of_ble_eq_true rfl) (Nat.le_of_ble_eq_true rfl) dX11_init_81 (fun q10 H hP hD hS => ?_)
  have hP : va_P D vwCl ([(h0, .inr (12, [.int 0, .int 0, .ref q1, .ref q2, .ref q3, .ref q4, .int 0, .ref q5, .ref q6, .ref q7, .ref q8, .ref q9, .null, .int 0, .int 0, .int 0, .int 0])), (q1, .inl (cI, 60, .inl (fun _ => 0))), (q2, .inl (cI, 60, .inl (fun _ => 0))), (q3, .inl (cZ, 60, .inl (fun _ => 0))), (q4, .inl (cI, 60, .inl (fun _ => 0))), (q5, .inl (cI, 12, .inl (fun _ => 0))), (q6, .inl (cI, 12, .inl (fun _ => 0))), (q7, .inl (cI, 12, .inl (fun _ => 0))), (q8, .inl (cI, 12, .inl (fun _ => 0))), (q9, .inl (cI, 144, .inl (fun _ => 0))), (q10, .inl (cI, 200, .inl (fun _ => 0)))]) H := hP
  have hD : va_D A ([(h0, .inr (12, [.int 0, .int 0, .ref q1, .ref q2, .ref q3, .ref q4, .int 0, .ref q5, .ref q6, .ref q7, .ref q8, .ref q9, .null, .int 0, .int 0, .int 0, .int 0])), (q1, .inl (cI, 60, .inl (fun _ => 0))), (q2, .inl (cI, 60, .inl (fun _ => 0))), (q3, .inl (cZ, 60, .inl (fun _ => 0))), (q4, .inl (cI, 60, .inl (fun _ => 0))), (q5, .inl (cI, 12, .inl (fun _ => 0))), (q6, .inl (cI, 12, .inl (fun _ => 0))), (q7, .inl (cI, 12, .inl (fun _ => 0))), (q8, .inl (cI, 12, .inl (fun _ => 0))), (q9, .inl (cI, 144, .inl (fun _ => 0))), (q10, .inl (cI, 200, .inl (fun _ => 0)))]) := hD
  refine W.widen (k := 10) (n := 632) (by decide) (by decide) ?_
  refine va_putF (D := D) (ci := 12) (v := .ref q10) (ty := .array .int) (C := RX11) (T := TX11) (N := 17) hx hb hg in_X11 tyX11 tyX11_ok nmX11 hown hK hP hD hS 0 rfl rfl 12 (by decide) (hg _ g_698) (fun _ h9 => h9) rfl hin rfl (by decide +kernel) rfl rfl (Nat.le_of_ble_eq_true rfl) dX11_init_83 (fun H locs hP hD hS => ?_)
  have hP : va_P D vwCl ([(h0, .inr (12, [.int 0, .int 0, .ref q1, .ref q2, .ref q3, .ref q4, .int 0, .ref q5, .ref q6, .ref q7, .ref q8, .ref q9, .ref q10, .int 0, .int 0, .int 0, .int 0])), (q1, .inl (cI, 60, .inl (fun _ => 0))), (q2, .inl (cI, 60, .inl (fun _ => 0))), (q3, .inl (cZ, 60, .inl (fun _ => 0))), (q4, .inl (cI, 60, .inl (fun _ => 0))), (q5, .inl (cI, 12, .inl (fun _ => 0))), (q6, .inl (cI, 12, .inl (fun _ => 0))), (q7, .inl (cI, 12, .inl (fun _ => 0))), (q8, .inl (cI, 12, .inl (fun _ => 0))), (q9, .inl (cI, 144, .inl (fun _ => 0))), (q10, .inl (cI, 200, .inl (fun _ => 0)))]) H := hP
  have hD : va_D A ([(h0, .inr (12, [.int 0, .int 0, .ref q1, .ref q2, .ref q3, .ref q4, .int 0, .ref q5, .ref q6, .ref q7, .ref q8, .ref q9, .ref q10, .int 0, .int 0, .int 0, .int 0])), (q1, .inl (cI, 60, .inl (fun _ => 0))), (q2, .inl (cI, 60, .inl (fun _ => 0))), (q3, .inl (cZ, 60, .inl (fun _ => 0))), (q4, .inl (cI, 60, .inl (fun _ => 0))), (q5, .inl (cI, 12, .inl (fun _ => 0))), (q6, .inl (cI, 12, .inl (fun _ => 0))), (q7, .inl (cI, 12, .inl (fun _ => 0))), (q8, .inl (cI, 12, .inl (fun _ => 0))), (q9, .inl (cI, 144, .inl (fun _ => 0))), (q10, .inl (cI, 200, .inl (fun _ => 0)))]) := hD
  exact W.vret hx hb hr (fun t9 ht hW => ⟨⟨[(h0, .inr (12, [.int 0, .int 0, .ref q1, .ref q2, .ref q3, .ref q4, .int 0, .ref q5, .ref q6, .ref q7, .ref q8, .ref q9, .ref q10, .int 0, .int 0, .int 0, .int 0])), (q1, .inl (cI, 60, .inl (fun _ => 0))), (q2, .inl (cI, 60, .inl (fun _ => 0))), (q3, .inl (cZ, 60, .inl (fun _ => 0))), (q4, .inl (cI, 60, .inl (fun _ => 0))), (q5, .inl (cI, 12, .inl (fun _ => 0))), (q6, .inl (cI, 12, .inl (fun _ => 0))), (q7, .inl (cI, 12, .inl (fun _ => 0))), (q8, .inl (cI, 12, .inl (fun _ => 0))), (q9, .inl (cI, 144, .inl (fun _ => 0))), (q10, .inl (cI, 200, .inl (fun _ => 0)))], rfl, ⟨q1, q2, q3, q4, q5, q6, q7, q8, q9, q10, rfl⟩, by rw [ht]; exact hP, va_K.moved hW.alike hK, hD⟩, hS.F ht⟩) hS.2.2 dX11_init_86

set_option maxHeartbeats 4000000 in
set_option maxRecDepth 100000 in
theorem c_X4_init (l : Launch) (D : va_G) (cI cZ : ClassId) (ci : Nat) (hci : pkAll ci) (h0 tm dn : Nat) (nm cp lm : Int32) : ctV l D [(cI, .int), (cZ, .boolean)] yX4_init (wd yX4_init cX4_init 6 (Option.none : Option Jvm.ClassFile.FieldType)) { frames := 1, cells := 1, slots := 12, locals := 12 } [.ref h0, .ref tm, .ref dn, .int nm, .int cp, .int lm] [(h0, .inr (ci, [.null, .null, .int 0, .int 0, .int 0, .null, .int 0]))] (fun w => ∃ q1 : Nat, w = [(h0, .inr (ci, [.ref tm, .ref dn, .int nm, .int cp, .int lm, .ref q1, .int 0])), (q1, .inl (cI, 12, .inl (fun _ => 0)))]) := by
  intro sz
  refine Met.ofW (cc := cX4_init) (maxL := 6) (ret := (Option.none : Option Jvm.ClassFile.FieldType)) (by decide) rfl ?_
  intro p e s m args below meth c s₁ B hml hv
  obtain ⟨rfl, hsz, hP, hK, hD0⟩ := hv
  have hx := B.exec
  have hb := B.bytes
  have hr := B.returns
  have hts := atoms_spec (ws := (wd yX4_init cX4_init 6 (Option.none : Option Jvm.ClassFile.FieldType))) B.pre
  have hg := Tb.of hts
  have hown : s.vm.findClass RX4 = some m.cls := findClass_of_methodNamed B.named
  have hlocks := B.notSynchronized
  have hin : meth.name = "<init>" := va_init B rfl
  subst hsz
  have hD := hD0.self (sz := s.heap.size)
  generalize hAe : va_A ([(h0, .inr (ci, [.null, .null, .int 0, .int 0, .int 0, .null, .int 0]))]) s.heap.size = A at hD ⊢
  have hA : ∀ q : Nat, s.heap.size ≤ q → A q := fun q h => by rw [← hAe]; exact Or.inr h
  have hS : va_S A s.heap s.heap [] := va_S.rf
  have hP : va_P D vwCl ([(h0, .inr (ci, [.null, .null, .int 0, .int 0, .int 0, .null, .int 0]))]) s.heap := hP
  have hl := lv_entry ([.ref h0, .ref tm, .ref dn, .int nm, .int cp, .int lm]) (n := 6) (Nat.le_of_ble_eq_true rfl)
  rw [lg_entry_eq]
  generalize (lg_sl ([.ref h0, .ref tm, .ref dn, .int nm, .int cp, .int lm]) ++ List.replicate (6 - (lg_sl ([.ref h0, .ref tm, .ref dn, .int nm, .int cp, .int lm])).length) Slot.unset).toArray = ls at hl ⊢
  have hl : lv_has ls 6 [(0, .ref h0), (1, .ref tm), (2, .ref dn), (3, .int nm), (4, .int cp), (5, .int lm)] := hl
  have hca := hci
  refine lv_aload_n hx hb dX4_init_0 rfl (lv_at hl 0 rfl) ?_
  refine W.objInit hx hb hown (hg _ g_118) (hg _ g_25) (hg _ g_26) rfl (by rw [hml]; exact hl.1) rfl dX4_init_1 (Nat.le_of_ble_eq_true rfl) (Nat.le_of_ble_eq_true rfl) ?_
  refine W.eq (g2 := F0 m 4 ls []) rfl ?_
  refine lv_aload_n hx hb dX4_init_4 rfl (lv_at hl 0 rfl) ?_
  refine lv_aload_n hx hb dX4_init_5 rfl (lv_at hl 1 rfl) ?_
  refine va_putF (D := D) (ci := ci) (v := .ref tm) (ty := .object "PileHeirs$Timbers") (C := vn ci) (T := TX4) (N := 7) hx hb hg (pq_in hca) tyX4 tyX4_ok nmX4 hown hK hP hD hS 0 rfl (pq_cl hca) 0 (by decide) (hg _ g_119) (fun _ h9 => h9) rfl hin rfl (by decide +kernel) rfl rfl (Nat.le_of_ble_eq_true rfl) dX4_init_6 (fun H locs hP hD hS => ?_)
  have hP : va_P D vwCl ([(h0, .inr (ci, [.ref tm, .null, .int 0, .int 0, .int 0, .null, .int 0]))]) H := hP
  have hD : va_D A ([(h0, .inr (ci, [.ref tm, .null, .int 0, .int 0, .int 0, .null, .int 0]))]) := hD
  refine lv_aload_n hx hb dX4_init_9 rfl (lv_at hl 0 rfl) ?_
  refine lv_aload_n hx hb dX4_init_10 rfl (lv_at hl 2 rfl) ?_
  refine va_putF (D := D) (ci := ci) (v := .ref dn) (ty := .object "PileHeirs$Trace") (C := vn ci) (T := TX4) (N := 7) hx hb hg (pq_in hca) tyX4 tyX4_ok nmX4 hown hK hP hD hS 0 rfl (pq_cl hca) 1 (by decide) (hg _ g_130) (fun _ h9 => h9) rfl hin rfl (by decide +kernel) rfl rfl (Nat.le_of_ble_eq_true rfl) dX4_init_11 (fun H locs hP hD hS => ?_)
  have hP : va_P D vwCl ([(h0, .inr (ci, [.ref tm, .ref dn, .int 0, .int 0, .int 0, .null, .int 0]))]) H := hP
  have hD : va_D A ([(h0, .inr (ci, [.ref tm, .ref dn, .int 0, .int 0, .int 0, .null, .int 0]))]) := hD
  refine lv_aload_n hx hb dX4_init_14 rfl (lv_at hl 0 rfl) ?_
  refine lv_iload_n hx hb dX4_init_15 rfl (lv_at hl 3 rfl) ?_
  refine va_putF (D := D) (ci := ci) (v := .int nm) (ty := .int) (C := vn ci) (T := TX4) (N := 7) hx hb hg (pq_in hca) tyX4 tyX4_ok nmX4 hown hK hP hD hS 0 rfl (pq_cl hca) 2 (by decide) (hg _ g_143) (fun _ h9 => h9) rfl hin rfl (by decide +kernel) rfl rfl (Nat.le_of_ble_eq_true rfl) dX4_init_16 (fun H locs hP hD hS => ?_)
  have hP : va_P D vwCl ([(h0, .inr (ci, [.ref tm, .ref dn, .int nm, .int 0, .int 0, .null, .int 0]))]) H := hP
  have hD : va_D A ([(h0, .inr (ci, [.ref tm, .ref dn, .int nm, .int 0, .int 0, .null, .int 0]))]) := hD
  refine lv_aload_n hx hb dX4_init_19 rfl (lv_at hl 0 rfl) ?_
  refine lv_iload hx hb dX4_init_20 (lv_at hl 4 rfl) ?_
  refine va_putF (D := D) (ci := ci) (v := .int cp) (ty := .int) (C := vn ci) (T := TX4) (N := 7) hx hb hg (pq_in hca) tyX4 tyX4_ok nmX4 hown hK hP hD hS 0 rfl (pq_cl hca) 3 (by decide) (hg _ g_144) (fun _ h9 => h9) rfl hin rfl (by decide +kernel) rfl rfl (Nat.le_of_ble_eq_true rfl) dX4_init_22 (fun H locs hP hD hS => ?_)
  have hP : va_P D vwCl ([(h0, .inr (ci, [.ref tm, .ref dn, .int nm, .int cp, .int 0, .null, .int 0]))]) H := hP
  have hD : va_D A ([(h0, .inr (ci, [.ref tm, .ref dn, .int nm, .int cp, .int 0, .null, .int 0]))]) := hD
  refine lv_aload_n hx hb dX4_init_25 rfl (lv_at hl 0 rfl) ?_
  refine lv_iload hx hb dX4_init_26 (lv_at hl 5 rfl) ?_
  refine va_putF (D := D) (ci := ci) (v := .int lm) (ty := .int) (C := vn ci) (T := TX4) (N := 7) hx hb hg (pq_in hca) tyX4 tyX4_ok nmX4 hown hK hP hD hS 0 rfl (pq_cl hca) 4 (by decide) (hg _ g_145) (fun _ h9 => h9) rfl hin rfl (by decide +kernel) rfl rfl (Nat.le_of_ble_eq_true rfl) dX4_init_28 (fun H locs hP hD hS => ?_)
  have hP : va_P D vwCl ([(h0, .inr (ci, [.ref tm, .ref dn, .int nm, .int cp, .int lm, .null, .int 0]))]) H := hP
  have hD : va_D A ([(h0, .inr (ci, [.ref tm, .ref dn, .int nm, .int cp, .int lm, .null, .int 0]))]) := hD
  refine lv_aload_n hx hb dX4_init_31 rfl (lv_at hl 0 rfl) ?_
  refine lv_bipush (v := 12) hx hb dX4_init_32 (by decide) ?_
  refine z_newa (atype := .int) (ty := .int) (n := 12) (a0 := (12, .inl (fun _ => 0))) (N' := 12) hx hb (hg _ g_49) rfl (t0 := 0) rfl (fun _ h => h) hK hP hD hS hA (ha_int 12) (by decide) (by decide) (by decide) (Nat.le_of_ble_eq_true rfl) (Nat.le_of_ble_eq_true rfl) dX4_init_34 (fun q1 H hP hD hS => ?_)
  have hP : va_P D vwCl ([(h0, .inr (ci, [.ref tm, .ref dn, .int nm, .int cp, .int lm, .null, .int 0])), (q1, .inl (cI, 12, .inl (fun _ => 0)))]) H := hP
  have hD : va_D A ([(h0, .inr (ci, [.ref tm, .ref dn, .int nm, .int cp, .int lm, .null, .int 0])), (q1, .inl (cI, 12, .inl (fun _ => 0)))]) := hD
  refine W.widen (k := 1) (n := 12) (by decide) (by decide) ?_
  refine va_putF (D := D) (ci := ci) (v := .ref q1) (ty := .array .int) (C := vn ci) (T := TX4) (N := 7) hx hb hg (pq_in hca) tyX4 tyX4_ok nmX4 hown hK hP hD hS 0 rfl (pq_cl hca) 5 (by decide) (hg _ g_148) (fun _ h9 => h9) rfl hin rfl (by decide +kernel) rfl rfl (Nat.le_of_ble_eq_true rfl) dX4_init_36 (fun H locs hP hD hS => ?_)
  have hP : va_P D vwCl ([(h0, .inr (ci, [.ref tm, .ref dn, .int nm, .int cp, .int lm, .ref q1, .int 0])), (q1, .inl (cI, 12, .inl (fun _ => 0)))]) H := hP
  have hD : va_D A ([(h0, .inr (ci, [.ref tm, .ref dn, .int nm, .int cp, .int lm, .ref q1, .int 0])), (q1, .inl (cI, 12, .inl (fun _ => 0)))]) := hD
  exact W.vret hx hb hr (fun t9 ht hW => ⟨⟨[(h0, .inr (ci, [.ref tm, .ref dn, .int nm, .int cp, .int lm, .ref q1, .int 0])), (q1, .inl (cI, 12, .inl (fun _ => 0)))], rfl, ⟨q1, rfl⟩, by rw [ht]; exact hP, va_K.moved hW.alike hK, hD⟩, hS.F ht⟩) hS.2.2 dX4_init_39

set_option maxHeartbeats 4000000 in
set_option maxRecDepth 100000 in
theorem c_X2_init (l : Launch) (D : va_G) (cI cZ : ClassId) (ci : Nat) (hci : pkMa ci) (h0 tm dn : Nat) (nm cp lm : Int32) : ctV l D [(cI, .int), (cZ, .boolean)] yX2_init (wd yX2_init cX2_init 6 (Option.none : Option Jvm.ClassFile.FieldType)) { frames := 2, cells := 1, slots := 12, locals := 37 } [.ref h0, .ref tm, .ref dn, .int nm, .int cp, .int lm] [(h0, .inr (ci, [.null, .null, .int 0, .int 0, .int 0, .null, .int 0]))] (fun w => ∃ q1 : Nat, w = [(h0, .inr (ci, [.ref tm, .ref dn, .int nm, .int cp, .int lm, .ref q1, .int 0])), (q1, .inl (cI, 12, .inl (fun _ => 0)))]) := by
  intro sz
  refine Met.ofW (cc := cX2_init) (maxL := 6) (ret := (Option.none : Option Jvm.ClassFile.FieldType)) (by decide) rfl ?_
  intro p e s m args below meth c s₁ B hml hv
  obtain ⟨rfl, hsz, hP, hK, hD0⟩ := hv
  have hx := B.exec
  have hb := B.bytes
  have hr := B.returns
  have hts := atoms_spec (ws := (wd yX2_init cX2_init 6 (Option.none : Option Jvm.ClassFile.FieldType))) B.pre
  have hg := Tb.of hts
  have hown : s.vm.findClass RX2 = some m.cls := findClass_of_methodNamed B.named
  have hlocks := B.notSynchronized
  have hin : meth.name = "<init>" := va_init B rfl
  subst hsz
  have hD := hD0.self (sz := s.heap.size)
  generalize hAe : va_A ([(h0, .inr (ci, [.null, .null, .int 0, .int 0, .int 0, .null, .int 0]))]) s.heap.size = A at hD ⊢
  have hA : ∀ q : Nat, s.heap.size ≤ q → A q := fun q h => by rw [← hAe]; exact Or.inr h
  have hS : va_S A s.heap s.heap [] := va_S.rf
  have hP : va_P D vwCl ([(h0, .inr (ci, [.null, .null, .int 0, .int 0, .int 0, .null, .int 0]))]) s.heap := hP
  have hl := lv_entry ([.ref h0, .ref tm, .ref dn, .int nm, .int cp, .int lm]) (n := 6) (Nat.le_of_ble_eq_true rfl)
  rw [lg_entry_eq]
  generalize (lg_sl ([.ref h0, .ref tm, .ref dn, .int nm, .int cp, .int lm]) ++ List.replicate (6 - (lg_sl ([.ref h0, .ref tm, .ref dn, .int nm, .int cp, .int lm])).length) Slot.unset).toArray = ls at hl ⊢
  have hl : lv_has ls 6 [(0, .ref h0), (1, .ref tm), (2, .ref dn), (3, .int nm), (4, .int cp), (5, .int lm)] := hl
  refine lv_aload_n hx hb dX2_init_0 rfl (lv_at hl 0 rfl) ?_
  refine lv_aload_n hx hb dX2_init_1 rfl (lv_at hl 1 rfl) ?_
  refine lv_aload_n hx hb dX2_init_2 rfl (lv_at hl 2 rfl) ?_
  refine lv_iload_n hx hb dX2_init_3 rfl (lv_at hl 3 rfl) ?_
  refine lv_iload hx hb dX2_init_4 (lv_at hl 4 rfl) ?_
  refine lv_iload hx hb dX2_init_6 (lv_at hl 5 rfl) ?_
  refine z_v (va_runI (As := [.ref tm, .ref dn, .int nm, .int cp, .int lm]) (rest := []) ⟨hx, hb, hml, hown, hts⟩ (c_X4_init l D cI cZ ci (pkMa_pkAll hci) h0 tm dn nm cp lm _) ⟨z_B 5 hts g_117 g_5 g_115 ⟨by decide, by decide, by decide +kernel⟩ ⟨Nat.le_of_ble_eq_true rfl, Nat.le_of_ble_eq_true rfl⟩, rfl, hg _ g_116⟩ (z_preS hP hD hK) rfl rfl hl.1 rfl (lv_room (Nat.le_of_ble_eq_true rfl)) dX2_init_8 ⟨Nat.le_of_ble_eq_true rfl, Nat.le_of_ble_eq_true rfl⟩) hP hD hS hA [0] [] rfl rfl (by decide) (by decide) (wr := []) (fun w1 H locs hw hP hD hS => ?_)
  obtain ⟨q1, rfl⟩ := hw
  refine W.widen (k := 1) (n := 12) (by decide) (by decide) ?_
  exact W.vret hx hb hr (fun t9 ht hW => ⟨⟨_, rfl, ⟨q1, rfl⟩, by rw [ht]; exact hP, va_K.moved hW.alike hK, hD⟩, hS.F ht⟩) hS.2.2 dX2_init_11

set_option maxHeartbeats 4000000 in
set_option maxRecDepth 100000 in
theorem c_X5_init (l : Launch) (D : va_G) (cI cZ : ClassId) (ci : Nat) (hci : pkSo ci) (h0 tm dn : Nat) (nm cp lm : Int32) : ctV l D [(cI, .int), (cZ, .boolean)] yX5_init (wd yX5_init cX5_init 6 (Option.none : Option Jvm.ClassFile.FieldType)) { frames := 3, cells := 1, slots := 12, locals := 62 } [.ref h0, .ref tm, .ref dn, .int nm, .int cp, .int lm] [(h0, .inr (ci, [.null, .null, .int 0, .int 0, .int 0, .null, .int 0]))] (fun w => ∃ q1 : Nat, w = [(h0, .inr (ci, [.ref tm, .ref dn, .int nm, .int cp, .int lm, .ref q1, .int 0])), (q1, .inl (cI, 12, .inl (fun _ => 0)))]) := by
  intro sz
  refine Met.ofW (cc := cX5_init) (maxL := 6) (ret := (Option.none : Option Jvm.ClassFile.FieldType)) (by decide) rfl ?_
  intro p e s m args below meth c s₁ B hml hv
  obtain ⟨rfl, hsz, hP, hK, hD0⟩ := hv
  have hx := B.exec
  have hb := B.bytes
  have hr := B.returns
  have hts := atoms_spec (ws := (wd yX5_init cX5_init 6 (Option.none : Option Jvm.ClassFile.FieldType))) B.pre
  have hg := Tb.of hts
  have hown : s.vm.findClass RX5 = some m.cls := findClass_of_methodNamed B.named
  have hlocks := B.notSynchronized
  have hin : meth.name = "<init>" := va_init B rfl
  subst hsz
  have hD := hD0.self (sz := s.heap.size)
  generalize hAe : va_A ([(h0, .inr (ci, [.null, .null, .int 0, .int 0, .int 0, .null, .int 0]))]) s.heap.size = A at hD ⊢
  have hA : ∀ q : Nat, s.heap.size ≤ q → A q := fun q h => by rw [← hAe]; exact Or.inr h
  have hS : va_S A s.heap s.heap [] := va_S.rf
  have hP : va_P D vwCl ([(h0, .inr (ci, [.null, .null, .int 0, .int 0, .int 0, .null, .int 0]))]) s.heap := hP
  have hl := lv_entry ([.ref h0, .ref tm, .ref dn, .int nm, .int cp, .int lm]) (n := 6) (Nat.le_of_ble_eq_true rfl)
  rw [lg_entry_eq]
  generalize (lg_sl ([.ref h0, .ref tm, .ref dn, .int nm, .int cp, .int lm]) ++ List.replicate (6 - (lg_sl ([.ref h0, .ref tm, .ref dn, .int nm, .int cp, .int lm])).length) Slot.unset).toArray = ls at hl ⊢
  have hl : lv_has ls 6 [(0, .ref h0), (1, .ref tm), (2, .ref dn), (3, .int nm), (4, .int cp), (5, .int lm)] := hl
  refine lv_aload_n hx hb dX5_init_0 rfl (lv_at hl 0 rfl) ?_
  refine lv_aload_n hx hb dX5_init_1 rfl (lv_at hl 1 rfl) ?_
  refine lv_aload_n hx hb dX5_init_2 rfl (lv_at hl 2 rfl) ?_
  refine lv_iload_n hx hb dX5_init_3 rfl (lv_at hl 3 rfl) ?_
  refine lv_iload hx hb dX5_init_4 (lv_at hl 4 rfl) ?_
  refine lv_iload hx hb dX5_init_6 (lv_at hl 5 rfl) ?_
  refine z_v (va_runI (As := [.ref tm, .ref dn, .int nm, .int cp, .int lm]) (rest := []) ⟨hx, hb, hml, hown, hts⟩ (c_X2_init l D cI cZ ci (pkSo_pkMa hci) h0 tm dn nm cp lm _) ⟨z_B 5 hts g_114 g_6 g_170 ⟨by decide, by decide, by decide +kernel⟩ ⟨Nat.le_of_ble_eq_true rfl, Nat.le_of_ble_eq_true rfl⟩, rfl, hg _ g_113⟩ (z_preS hP hD hK) rfl rfl hl.1 rfl (lv_room (Nat.le_of_ble_eq_true rfl)) dX5_init_8 ⟨Nat.le_of_ble_eq_true rfl, Nat.le_of_ble_eq_true rfl⟩) hP hD hS hA [0] [] rfl rfl (by decide) (by decide) (wr := []) (fun w1 H locs hw hP hD hS => ?_)
  obtain ⟨q1, rfl⟩ := hw
  refine W.widen (k := 1) (n := 12) (by decide) (by decide) ?_
  exact W.vret hx hb hr (fun t9 ht hW => ⟨⟨_, rfl, ⟨q1, rfl⟩, by rw [ht]; exact hP, va_K.moved hW.alike hK, hD⟩, hS.F ht⟩) hS.2.2 dX5_init_11

set_option maxHeartbeats 4000000 in
set_option maxRecDepth 100000 in
theorem c_X6_init (l : Launch) (D : va_G) (cI cZ : ClassId) (ci : Nat) (hci : pkSt ci) (h0 tm dn : Nat) (nm cp lm : Int32) : ctV l D [(cI, .int), (cZ, .boolean)] yX6_init (wd yX6_init cX6_init 6 (Option.none : Option Jvm.ClassFile.FieldType)) { frames := 3, cells := 1, slots := 12, locals := 62 } [.ref h0, .ref tm, .ref dn, .int nm, .int cp, .int lm] [(h0, .inr (ci, [.null, .null, .int 0, .int 0, .int 0, .null, .int 0]))] (fun w => ∃ q1 : Nat, w = [(h0, .inr (ci, [.ref tm, .ref dn, .int nm, .int cp, .int lm, .ref q1, .int 0])), (q1, .inl (cI, 12, .inl (fun _ => 0)))]) := by
  intro sz
  refine Met.ofW (cc := cX6_init) (maxL := 6) (ret := (Option.none : Option Jvm.ClassFile.FieldType)) (by decide) rfl ?_
  intro p e s m args below meth c s₁ B hml hv
  obtain ⟨rfl, hsz, hP, hK, hD0⟩ := hv
  have hx := B.exec
  have hb := B.bytes
  have hr := B.returns
  have hts := atoms_spec (ws := (wd yX6_init cX6_init 6 (Option.none : Option Jvm.ClassFile.FieldType))) B.pre
  have hg := Tb.of hts
  have hown : s.vm.findClass RX6 = some m.cls := findClass_of_methodNamed B.named
  have hlocks := B.notSynchronized
  have hin : meth.name = "<init>" := va_init B rfl
  subst hsz
  have hD := hD0.self (sz := s.heap.size)
  generalize hAe : va_A ([(h0, .inr (ci, [.null, .null, .int 0, .int 0, .int 0, .null, .int 0]))]) s.heap.size = A at hD ⊢
  have hA : ∀ q : Nat, s.heap.size ≤ q → A q := fun q h => by rw [← hAe]; exact Or.inr h
  have hS : va_S A s.heap s.heap [] := va_S.rf
  have hP : va_P D vwCl ([(h0, .inr (ci, [.null, .null, .int 0, .int 0, .int 0, .null, .int 0]))]) s.heap := hP
  have hl := lv_entry ([.ref h0, .ref tm, .ref dn, .int nm, .int cp, .int lm]) (n := 6) (Nat.le_of_ble_eq_true rfl)
  rw [lg_entry_eq]
  generalize (lg_sl ([.ref h0, .ref tm, .ref dn, .int nm, .int cp, .int lm]) ++ List.replicate (6 - (lg_sl ([.ref h0, .ref tm, .ref dn, .int nm, .int cp, .int lm])).length) Slot.unset).toArray = ls at hl ⊢
  have hl : lv_has ls 6 [(0, .ref h0), (1, .ref tm), (2, .ref dn), (3, .int nm), (4, .int cp), (5, .int lm)] := hl
  refine lv_aload_n hx hb dX6_init_0 rfl (lv_at hl 0 rfl) ?_
  refine lv_aload_n hx hb dX6_init_1 rfl (lv_at hl 1 rfl) ?_
  refine lv_aload_n hx hb dX6_init_2 rfl (lv_at hl 2 rfl) ?_
  refine lv_iload_n hx hb dX6_init_3 rfl (lv_at hl 3 rfl) ?_
  refine lv_iload hx hb dX6_init_4 (lv_at hl 4 rfl) ?_
  refine lv_iload hx hb dX6_init_6 (lv_at hl 5 rfl) ?_
  refine z_v (va_runI (As := [.ref tm, .ref dn, .int nm, .int cp, .int lm]) (rest := []) ⟨hx, hb, hml, hown, hts⟩ (c_X2_init l D cI cZ ci (pkSt_pkMa hci) h0 tm dn nm cp lm _) ⟨z_B 5 hts g_114 g_6 g_184 ⟨by decide, by decide, by decide +kernel⟩ ⟨Nat.le_of_ble_eq_true rfl, Nat.le_of_ble_eq_true rfl⟩, rfl, hg _ g_113⟩ (z_preS hP hD hK) rfl rfl hl.1 rfl (lv_room (Nat.le_of_ble_eq_true rfl)) dX6_init_8 ⟨Nat.le_of_ble_eq_true rfl, Nat.le_of_ble_eq_true rfl⟩) hP hD hS hA [0] [] rfl rfl (by decide) (by decide) (wr := []) (fun w1 H locs hw hP hD hS => ?_)
  obtain ⟨q1, rfl⟩ := hw
  refine W.widen (k := 1) (n := 12) (by decide) (by decide) ?_
  exact W.vret hx hb hr (fun t9 ht hW => ⟨⟨_, rfl, ⟨q1, rfl⟩, by rw [ht]; exact hP, va_K.moved hW.alike hK, hD⟩, hS.F ht⟩) hS.2.2 dX6_init_11

set_option maxHeartbeats 4000000 in
set_option maxRecDepth 100000 in
theorem c_X0_init (l : Launch) (D : va_G) (cI cZ : ClassId) (ci : Nat) (hci : pkDr ci) (h0 tm dn : Nat) (nm cp lm : Int32) : ctV l D [(cI, .int), (cZ, .boolean)] yX0_init (wd yX0_init cX0_init 6 (Option.none : Option Jvm.ClassFile.FieldType)) { frames := 4, cells := 1, slots := 12, locals := 87 } [.ref h0, .ref tm, .ref dn, .int nm, .int cp, .int lm] [(h0, .inr (ci, [.null, .null, .int 0, .int 0, .int 0, .null, .int 0]))] (fun w => ∃ q1 : Nat, w = [(h0, .inr (ci, [.ref tm, .ref dn, .int nm, .int cp, .int lm, .ref q1, .int 0])), (q1, .inl (cI, 12, .inl (fun _ => 0)))]) := by
  intro sz
  refine Met.ofW (cc := cX0_init) (maxL := 6) (ret := (Option.none : Option Jvm.ClassFile.FieldType)) (by decide) rfl ?_
  intro p e s m args below meth c s₁ B hml hv
  obtain ⟨rfl, hsz, hP, hK, hD0⟩ := hv
  have hx := B.exec
  have hb := B.bytes
  have hr := B.returns
  have hts := atoms_spec (ws := (wd yX0_init cX0_init 6 (Option.none : Option Jvm.ClassFile.FieldType))) B.pre
  have hg := Tb.of hts
  have hown : s.vm.findClass RX0 = some m.cls := findClass_of_methodNamed B.named
  have hlocks := B.notSynchronized
  have hin : meth.name = "<init>" := va_init B rfl
  subst hsz
  have hD := hD0.self (sz := s.heap.size)
  generalize hAe : va_A ([(h0, .inr (ci, [.null, .null, .int 0, .int 0, .int 0, .null, .int 0]))]) s.heap.size = A at hD ⊢
  have hA : ∀ q : Nat, s.heap.size ≤ q → A q := fun q h => by rw [← hAe]; exact Or.inr h
  have hS : va_S A s.heap s.heap [] := va_S.rf
  have hP : va_P D vwCl ([(h0, .inr (ci, [.null, .null, .int 0, .int 0, .int 0, .null, .int 0]))]) s.heap := hP
  have hl := lv_entry ([.ref h0, .ref tm, .ref dn, .int nm, .int cp, .int lm]) (n := 6) (Nat.le_of_ble_eq_true rfl)
  rw [lg_entry_eq]
  generalize (lg_sl ([.ref h0, .ref tm, .ref dn, .int nm, .int cp, .int lm]) ++ List.replicate (6 - (lg_sl ([.ref h0, .ref tm, .ref dn, .int nm, .int cp, .int lm])).length) Slot.unset).toArray = ls at hl ⊢
  have hl : lv_has ls 6 [(0, .ref h0), (1, .ref tm), (2, .ref dn), (3, .int nm), (4, .int cp), (5, .int lm)] := hl
  refine lv_aload_n hx hb dX0_init_0 rfl (lv_at hl 0 rfl) ?_
  refine lv_aload_n hx hb dX0_init_1 rfl (lv_at hl 1 rfl) ?_
  refine lv_aload_n hx hb dX0_init_2 rfl (lv_at hl 2 rfl) ?_
  refine lv_iload_n hx hb dX0_init_3 rfl (lv_at hl 3 rfl) ?_
  refine lv_iload hx hb dX0_init_4 (lv_at hl 4 rfl) ?_
  refine lv_iload hx hb dX0_init_6 (lv_at hl 5 rfl) ?_
  refine z_v (va_runI (As := [.ref tm, .ref dn, .int nm, .int cp, .int lm]) (rest := []) ⟨hx, hb, hml, hown, hts⟩ (c_X5_init l D cI cZ ci (pkDr_pkSo hci) h0 tm dn nm cp lm _) ⟨z_B 5 hts g_169 g_7 g_198 ⟨by decide, by decide, by decide +kernel⟩ ⟨Nat.le_of_ble_eq_true rfl, Nat.le_of_ble_eq_true rfl⟩, rfl, hg _ g_168⟩ (z_preS hP hD hK) rfl rfl hl.1 rfl (lv_room (Nat.le_of_ble_eq_true rfl)) dX0_init_8 ⟨Nat.le_of_ble_eq_true rfl, Nat.le_of_ble_eq_true rfl⟩) hP hD hS hA [0] [] rfl rfl (by decide) (by decide) (wr := []) (fun w1 H locs hw hP hD hS => ?_)
  obtain ⟨q1, rfl⟩ := hw
  refine W.widen (k := 1) (n := 12) (by decide) (by decide) ?_
  exact W.vret hx hb hr (fun t9 ht hW => ⟨⟨_, rfl, ⟨q1, rfl⟩, by rw [ht]; exact hP, va_K.moved hW.alike hK, hD⟩, hS.F ht⟩) hS.2.2 dX0_init_11

set_option maxHeartbeats 4000000 in
set_option maxRecDepth 100000 in
theorem c_X9_init (l : Launch) (D : va_G) (cI cZ : ClassId) (ci : Nat) (hci : pkTw ci) (h0 tm dn : Nat) (nm cp lm : Int32) : ctV l D [(cI, .int), (cZ, .boolean)] yX9_init (wd yX9_init cX9_init 6 (Option.none : Option Jvm.ClassFile.FieldType)) { frames := 4, cells := 1, slots := 12, locals := 87 } [.ref h0, .ref tm, .ref dn, .int nm, .int cp, .int lm] [(h0, .inr (ci, [.null, .null, .int 0, .int 0, .int 0, .null, .int 0]))] (fun w => ∃ q1 : Nat, w = [(h0, .inr (ci, [.ref tm, .ref dn, .int nm, .int cp, .int lm, .ref q1, .int 0])), (q1, .inl (cI, 12, .inl (fun _ => 0)))]) := by
  intro sz
  refine Met.ofW (cc := cX9_init) (maxL := 6) (ret := (Option.none : Option Jvm.ClassFile.FieldType)) (by decide) rfl ?_
  intro p e s m args below meth c s₁ B hml hv
  obtain ⟨rfl, hsz, hP, hK, hD0⟩ := hv
  have hx := B.exec
  have hb := B.bytes
  have hr := B.returns
  have hts := atoms_spec (ws := (wd yX9_init cX9_init 6 (Option.none : Option Jvm.ClassFile.FieldType))) B.pre
  have hg := Tb.of hts
  have hown : s.vm.findClass RX9 = some m.cls := findClass_of_methodNamed B.named
  have hlocks := B.notSynchronized
  have hin : meth.name = "<init>" := va_init B rfl
  subst hsz
  have hD := hD0.self (sz := s.heap.size)
  generalize hAe : va_A ([(h0, .inr (ci, [.null, .null, .int 0, .int 0, .int 0, .null, .int 0]))]) s.heap.size = A at hD ⊢
  have hA : ∀ q : Nat, s.heap.size ≤ q → A q := fun q h => by rw [← hAe]; exact Or.inr h
  have hS : va_S A s.heap s.heap [] := va_S.rf
  have hP : va_P D vwCl ([(h0, .inr (ci, [.null, .null, .int 0, .int 0, .int 0, .null, .int 0]))]) s.heap := hP
  have hl := lv_entry ([.ref h0, .ref tm, .ref dn, .int nm, .int cp, .int lm]) (n := 6) (Nat.le_of_ble_eq_true rfl)
  rw [lg_entry_eq]
  generalize (lg_sl ([.ref h0, .ref tm, .ref dn, .int nm, .int cp, .int lm]) ++ List.replicate (6 - (lg_sl ([.ref h0, .ref tm, .ref dn, .int nm, .int cp, .int lm])).length) Slot.unset).toArray = ls at hl ⊢
  have hl : lv_has ls 6 [(0, .ref h0), (1, .ref tm), (2, .ref dn), (3, .int nm), (4, .int cp), (5, .int lm)] := hl
  refine lv_aload_n hx hb dX9_init_0 rfl (lv_at hl 0 rfl) ?_
  refine lv_aload_n hx hb dX9_init_1 rfl (lv_at hl 1 rfl) ?_
  refine lv_aload_n hx hb dX9_init_2 rfl (lv_at hl 2 rfl) ?_
  refine lv_iload_n hx hb dX9_init_3 rfl (lv_at hl 3 rfl) ?_
  refine lv_iload hx hb dX9_init_4 (lv_at hl 4 rfl) ?_
  refine lv_iload hx hb dX9_init_6 (lv_at hl 5 rfl) ?_
  refine z_v (va_runI (As := [.ref tm, .ref dn, .int nm, .int cp, .int lm]) (rest := []) ⟨hx, hb, hml, hown, hts⟩ (c_X6_init l D cI cZ ci (pkTw_pkSt hci) h0 tm dn nm cp lm _) ⟨z_B 5 hts g_183 g_8 g_212 ⟨by decide, by decide, by decide +kernel⟩ ⟨Nat.le_of_ble_eq_true rfl, Nat.le_of_ble_eq_true rfl⟩, rfl, hg _ g_182⟩ (z_preS hP hD hK) rfl rfl hl.1 rfl (lv_room (Nat.le_of_ble_eq_true rfl)) dX9_init_8 ⟨Nat.le_of_ble_eq_true rfl, Nat.le_of_ble_eq_true rfl⟩) hP hD hS hA [0] [] rfl rfl (by decide) (by decide) (wr := []) (fun w1 H locs hw hP hD hS => ?_)
  obtain ⟨q1, rfl⟩ := hw
  refine W.widen (k := 1) (n := 12) (by decide) (by decide) ?_
  exact W.vret hx hb hr (fun t9 ht hW => ⟨⟨_, rfl, ⟨q1, rfl⟩, by rw [ht]; exact hP, va_K.moved hW.alike hK, hD⟩, hS.F ht⟩) hS.2.2 dX9_init_11

set_option maxHeartbeats 4000000 in
set_option maxRecDepth 100000 in
theorem c_X3_init (l : Launch) (D : va_G) (cI cZ : ClassId) (ci : Nat) (hci : pkOp ci) (h0 tm dn : Nat) (nm cp lm : Int32) : ctV l D [(cI, .int), (cZ, .boolean)] yX3_init (wd yX3_init cX3_init 6 (Option.none : Option Jvm.ClassFile.FieldType)) { frames := 5, cells := 1, slots := 12, locals := 112 } [.ref h0, .ref tm, .ref dn, .int nm, .int cp, .int lm] [(h0, .inr (ci, [.null, .null, .int 0, .int 0, .int 0, .null, .int 0]))] (fun w => ∃ q1 : Nat, w = [(h0, .inr (ci, [.ref tm, .ref dn, .int nm, .int cp, .int lm, .ref q1, .int 0])), (q1, .inl (cI, 12, .inl (fun _ => 0)))]) := by
  intro sz
  refine Met.ofW (cc := cX3_init) (maxL := 6) (ret := (Option.none : Option Jvm.ClassFile.FieldType)) (by decide) rfl ?_
  intro p e s m args below meth c s₁ B hml hv
  obtain ⟨rfl, hsz, hP, hK, hD0⟩ := hv
  have hx := B.exec
  have hb := B.bytes
  have hr := B.returns
  have hts := atoms_spec (ws := (wd yX3_init cX3_init 6 (Option.none : Option Jvm.ClassFile.FieldType))) B.pre
  have hg := Tb.of hts
  have hown : s.vm.findClass RX3 = some m.cls := findClass_of_methodNamed B.named
  have hlocks := B.notSynchronized
  have hin : meth.name = "<init>" := va_init B rfl
  subst hsz
  have hD := hD0.self (sz := s.heap.size)
  generalize hAe : va_A ([(h0, .inr (ci, [.null, .null, .int 0, .int 0, .int 0, .null, .int 0]))]) s.heap.size = A at hD ⊢
  have hA : ∀ q : Nat, s.heap.size ≤ q → A q := fun q h => by rw [← hAe]; exact Or.inr h
  have hS : va_S A s.heap s.heap [] := va_S.rf
  have hP : va_P D vwCl ([(h0, .inr (ci, [.null, .null, .int 0, .int 0, .int 0, .null, .int 0]))]) s.heap := hP
  have hl := lv_entry ([.ref h0, .ref tm, .ref dn, .int nm, .int cp, .int lm]) (n := 6) (Nat.le_of_ble_eq_true rfl)
  rw [lg_entry_eq]
  generalize (lg_sl ([.ref h0, .ref tm, .ref dn, .int nm, .int cp, .int lm]) ++ List.replicate (6 - (lg_sl ([.ref h0, .ref tm, .ref dn, .int nm, .int cp, .int lm])).length) Slot.unset).toArray = ls at hl ⊢
  have hl : lv_has ls 6 [(0, .ref h0), (1, .ref tm), (2, .ref dn), (3, .int nm), (4, .int cp), (5, .int lm)] := hl
  refine lv_aload_n hx hb dX3_init_0 rfl (lv_at hl 0 rfl) ?_
  refine lv_aload_n hx hb dX3_init_1 rfl (lv_at hl 1 rfl) ?_
  refine lv_aload_n hx hb dX3_init_2 rfl (lv_at hl 2 rfl) ?_
  refine lv_iload_n hx hb dX3_init_3 rfl (lv_at hl 3 rfl) ?_
  refine lv_iload hx hb dX3_init_4 (lv_at hl 4 rfl) ?_
  refine lv_iload hx hb dX3_init_6 (lv_at hl 5 rfl) ?_
  refine z_v (va_runI (As := [.ref tm, .ref dn, .int nm, .int cp, .int lm]) (rest := []) ⟨hx, hb, hml, hown, hts⟩ (c_X0_init l D cI cZ ci (pkOp_pkDr hci) h0 tm dn nm cp lm _) ⟨z_B 5 hts g_197 g_9 g_226 ⟨by decide, by decide, by decide +kernel⟩ ⟨Nat.le_of_ble_eq_true rfl, Nat.le_of_ble_eq_true rfl⟩, rfl, hg _ g_196⟩ (z_preS hP hD hK) rfl rfl hl.1 rfl (lv_room (Nat.le_of_ble_eq_true rfl)) dX3_init_8 ⟨Nat.le_of_ble_eq_true rfl, Nat.le_of_ble_eq_true rfl⟩) hP hD hS hA [0] [] rfl rfl (by decide) (by decide) (wr := []) (fun w1 H locs hw hP hD hS => ?_)
  obtain ⟨q1, rfl⟩ := hw
  refine W.widen (k := 1) (n := 12) (by decide) (by decide) ?_
  exact W.vret hx hb hr (fun t9 ht hW => ⟨⟨_, rfl, ⟨q1, rfl⟩, by rw [ht]; exact hP, va_K.moved hW.alike hK, hD⟩, hS.F ht⟩) hS.2.2 dX3_init_11

set_option maxHeartbeats 4000000 in
set_option maxRecDepth 100000 in
theorem c_X1_init (l : Launch) (D : va_G) (cI cZ : ClassId) (ci : Nat) (hci : pkLe ci) (h0 tm dn : Nat) (nm cp lm : Int32) : ctV l D [(cI, .int), (cZ, .boolean)] yX1_init (wd yX1_init cX1_init 6 (Option.none : Option Jvm.ClassFile.FieldType)) { frames := 5, cells := 1, slots := 12, locals := 112 } [.ref h0, .ref tm, .ref dn, .int nm, .int cp, .int lm] [(h0, .inr (ci, [.null, .null, .int 0, .int 0, .int 0, .null, .int 0]))] (fun w => ∃ q1 : Nat, w = [(h0, .inr (ci, [.ref tm, .ref dn, .int nm, .int cp, .int lm, .ref q1, .int 0])), (q1, .inl (cI, 12, .inl (fun _ => 0)))]) := by
  intro sz
  refine Met.ofW (cc := cX1_init) (maxL := 6) (ret := (Option.none : Option Jvm.ClassFile.FieldType)) (by decide) rfl ?_
  intro p e s m args below meth c s₁ B hml hv
  obtain ⟨rfl, hsz, hP, hK, hD0⟩ := hv
  have hx := B.exec
  have hb := B.bytes
  have hr := B.returns
  have hts := atoms_spec (ws := (wd yX1_init cX1_init 6 (Option.none : Option Jvm.ClassFile.FieldType))) B.pre
  have hg := Tb.of hts
  have hown : s.vm.findClass RX1 = some m.cls := findClass_of_methodNamed B.named
  have hlocks := B.notSynchronized
  have hin : meth.name = "<init>" := va_init B rfl
  subst hsz
  have hD := hD0.self (sz := s.heap.size)
  generalize hAe : va_A ([(h0, .inr (ci, [.null, .null, .int 0, .int 0, .int 0, .null, .int 0]))]) s.heap.size = A at hD ⊢
  have hA : ∀ q : Nat, s.heap.size ≤ q → A q := fun q h => by rw [← hAe]; exact Or.inr h
  have hS : va_S A s.heap s.heap [] := va_S.rf
  have hP : va_P D vwCl ([(h0, .inr (ci, [.null, .null, .int 0, .int 0, .int 0, .null, .int 0]))]) s.heap := hP
  have hl := lv_entry ([.ref h0, .ref tm, .ref dn, .int nm, .int cp, .int lm]) (n := 6) (Nat.le_of_ble_eq_true rfl)
  rw [lg_entry_eq]
  generalize (lg_sl ([.ref h0, .ref tm, .ref dn, .int nm, .int cp, .int lm]) ++ List.replicate (6 - (lg_sl ([.ref h0, .ref tm, .ref dn, .int nm, .int cp, .int lm])).length) Slot.unset).toArray = ls at hl ⊢
  have hl : lv_has ls 6 [(0, .ref h0), (1, .ref tm), (2, .ref dn), (3, .int nm), (4, .int cp), (5, .int lm)] := hl
  refine lv_aload_n hx hb dX1_init_0 rfl (lv_at hl 0 rfl) ?_
  refine lv_aload_n hx hb dX1_init_1 rfl (lv_at hl 1 rfl) ?_
  refine lv_aload_n hx hb dX1_init_2 rfl (lv_at hl 2 rfl) ?_
  refine lv_iload_n hx hb dX1_init_3 rfl (lv_at hl 3 rfl) ?_
  refine lv_iload hx hb dX1_init_4 (lv_at hl 4 rfl) ?_
  refine lv_iload hx hb dX1_init_6 (lv_at hl 5 rfl) ?_
  refine z_v (va_runI (As := [.ref tm, .ref dn, .int nm, .int cp, .int lm]) (rest := []) ⟨hx, hb, hml, hown, hts⟩ (c_X9_init l D cI cZ ci (pkLe_pkTw hci) h0 tm dn nm cp lm _) ⟨z_B 5 hts g_211 g_10 g_240 ⟨by decide, by decide, by decide +kernel⟩ ⟨Nat.le_of_ble_eq_true rfl, Nat.le_of_ble_eq_true rfl⟩, rfl, hg _ g_210⟩ (z_preS hP hD hK) rfl rfl hl.1 rfl (lv_room (Nat.le_of_ble_eq_true rfl)) dX1_init_8 ⟨Nat.le_of_ble_eq_true rfl, Nat.le_of_ble_eq_true rfl⟩) hP hD hS hA [0] [] rfl rfl (by decide) (by decide) (wr := []) (fun w1 H locs hw hP hD hS => ?_)
  obtain ⟨q1, rfl⟩ := hw
  refine W.widen (k := 1) (n := 12) (by decide) (by decide) ?_
  exact W.vret hx hb hr (fun t9 ht hW => ⟨⟨_, rfl, ⟨q1, rfl⟩, by rw [ht]; exact hP, va_K.moved hW.alike hK, hD⟩, hS.F ht⟩) hS.2.2 dX1_init_11
