def tt0 : TT := (0, (fun _ => 0), (fun _ => 0), (fun _ => 0), (fun _ => 0))
def xx0 : DD := ((fun _ => 0), 0, 0, 0, 0, 0)
theorem pfn_0 (C : CZ) : pfn 0 C = fun _ => none := by
  funext j
  simp [pfn]
set_option maxHeartbeats 4000000 in
set_option maxRecDepth 100000 in
theorem c_X10_init (l : Launch) (D : va_G) (cI cZ cQ : ClassId) (h0 : Nat) (C : CZ) (P : Nat → PP) : ∀ sz : Nat, Met l yX10_init (wd yX10_init cX10_init 1 (Option.none : Option Jvm.ClassFile.FieldType)) { frames := 2, cells := 8, slots := 463, locals := 32 } (va_Pc [.ref h0] (fun U => ctP D [(cI, .int), (cZ, .boolean), (cQ, .object "PileHeirs$Plain")] [(h0, .inr (11, [.null, .null, .null, .int 0]))] sz U ∧ va_AO "PileHeirs$Plain" U)) (va_Qv (fun w => ∃ (g : GA) (x : GX), g.cI = cI ∧ g.cZ = cZ ∧ x.cQ = cQ ∧ x.xo = h0 ∧ w = wX g x 0 C P tt0 xx0) (ctB D [(cI, .int), (cZ, .boolean), (cQ, .object "PileHeirs$Plain")] (va_A [(h0, .inr (11, [.null, .null, .null, .int 0]))] sz)) (va_A [(h0, .inr (11, [.null, .null, .null, .int 0]))] sz)) 8 463 (va_A [(h0, .inr (11, [.null, .null, .null, .int 0]))] sz) := by
  intro sz
  refine Met.ofW (cc := cX10_init) (maxL := 1) (ret := (Option.none : Option Jvm.ClassFile.FieldType)) (by decide) rfl ?_
  intro p e s m args below meth c s₁ B hml hv
  obtain ⟨rfl, ⟨hsz, hP, hK, hD0⟩, hAO⟩ := hv
  have hx := B.exec
  have hb := B.bytes
  have hr := B.returns
  have hts := atoms_spec (ws := (wd yX10_init cX10_init 1 (Option.none : Option Jvm.ClassFile.FieldType))) B.pre
  have hg := Tb.of hts
  have hown : s.vm.findClass RX10 = some m.cls := findClass_of_methodNamed B.named
  have hlocks := B.notSynchronized
  have hin : meth.name = "<init>" := va_init B rfl
  subst hsz
  have hD := hD0.self (sz := s.heap.size)
  generalize hAe : va_A ([(h0, .inr (11, [.null, .null, .null, .int 0]))]) s.heap.size = A at hD ⊢
  have hA : ∀ q : Nat, s.heap.size ≤ q → A q := fun q h => by rw [← hAe]; exact Or.inr h
  have hS : va_S A s.heap s.heap [] := va_S.rf
  have hP : va_P D vwCl ([(h0, .inr (11, [.null, .null, .null, .int 0]))]) s.heap := hP
  have hl := lv_entry ([.ref h0]) (n := 1) (Nat.le_of_ble_eq_true rfl)
  rw [lg_entry_eq]
  generalize (lg_sl ([.ref h0]) ++ List.replicate (1 - (lg_sl ([.ref h0])).length) Slot.unset).toArray = ls at hl ⊢
  have hl : lv_has ls 1 [(0, .ref h0)] := hl
  refine lv_aload_n hx hb dX10_init_0 rfl (lv_at hl 0 rfl) ?_
  refine W.objInit hx hb hown (hg _ g_24) (hg _ g_25) (hg _ g_26) rfl (by rw [hml]; exact hl.1) rfl dX10_init_1 (Nat.le_of_ble_eq_true rfl) (Nat.le_of_ble_eq_true rfl) ?_
  refine W.eq (g2 := F0 m 4 ls []) rfl ?_
  refine lv_aload_n hx hb dX10_init_4 rfl (lv_at hl 0 rfl) ?_
  refine va_new (ci := 8) (fs := [.null, .null, .null, .null, .int 0]) (C := RX7) (T := TX7) (N := 5) hx hb hg in_X7 tyX7 tyX7_ok hown (hg _ g_27) (hg _ g_28) (hg _ g_2) hK hP hD hS hA rfl (fun j hj => by rcases (show j = 0 ∨ j = 1 ∨ j = 2 ∨ j = 3 ∨ j = 4 by omega) with rfl | rfl | rfl | rfl | rfl <;> rfl) (Nat.le_of_ble_eq_true rfl) (Nat.le_of_ble_eq_true rfl) dX10_init_5 (fun q1 H hP hD hS => ?_)
  have hP : va_P D vwCl [(h0, .inr (11, [.null, .null, .null, .int 0])), (q1, .inr (8, [.null, .null, .null, .null, .int 0]))] H := hP
  have hD : va_D A [(h0, .inr (11, [.null, .null, .null, .int 0])), (q1, .inr (8, [.null, .null, .null, .null, .int 0]))] := hD
  refine W.widen (k := 1) (n := 5) (by decide) (by decide) ?_
  refine lv_dup hx hb dX10_init_8 rfl ?_
  refine z_v (va_runI (As := []) (rest := [.ref q1, .ref h0]) ⟨hx, hb, hml, hown, hts⟩ (c_X7_init l D cI cZ q1 _) ⟨z_B 0 hts g_31 g_2 g_29 ⟨by decide, by decide, by decide +kernel⟩ ⟨Nat.le_of_ble_eq_true rfl, Nat.le_of_ble_eq_true rfl⟩, rfl, hg _ g_30⟩ (z_preS (hP.subm [1] rfl) (hD.sub [1] (by decide) rfl) (hK.sub (tys' := [(cI, .int), (cZ, .boolean)]) [0, 1] rfl)) rfl rfl hl.1 rfl (lv_room (Nat.le_of_ble_eq_true rfl)) dX10_init_9 ⟨Nat.le_of_ble_eq_true rfl, Nat.le_of_ble_eq_true rfl⟩) hP hD hS hA [1] [0] rfl rfl (by decide) (by decide) (wr := [(h0, .inr (11, [.null, .null, .null, .int 0]))]) (fun w1 H locs hw hP hD hS => ?_)
  obtain ⟨a1, a2, a3, a4, rfl⟩ := hw
  refine W.widen (k := 5) (n := 245) (by decide) (by decide) ?_
  have hP : va_P D vwCl [(h0, .inr (11, [.null, .null, .null, .int 0])), (q1, .inr (8, [.ref a1, .ref a2, .ref a3, .ref a4, .int 0])), (a1, .inl (cI, 60, .inl (fun _ => 0))), (a2, .inl (cI, 60, .inl (fun _ => 0))), (a3, .inl (cZ, 60, .inl (fun _ => 0))), (a4, .inl (cI, 60, .inl (fun _ => 0)))] H := hP
  have hD : va_D A [(h0, .inr (11, [.null, .null, .null, .int 0])), (q1, .inr (8, [.ref a1, .ref a2, .ref a3, .ref a4, .int 0])), (a1, .inl (cI, 60, .inl (fun _ => 0))), (a2, .inl (cI, 60, .inl (fun _ => 0))), (a3, .inl (cZ, 60, .inl (fun _ => 0))), (a4, .inl (cI, 60, .inl (fun _ => 0)))] := hD
  refine va_putF (D := D) (ci := 11) (v := .ref q1) (ty := .object "PileHeirs$Timbers") (C := RX10) (T := TX10) (N := 4) hx hb hg in_X10 tyX10 tyX10_ok nmX10 hown hK hP hD hS 0 rfl rfl 0 (by decide) (hg _ g_78) (fun _ h9 => h9) rfl hin rfl (by decide +kernel) rfl rfl (Nat.le_of_ble_eq_true rfl) dX10_init_12 (fun H locs hP hD hS => ?_)
  have hP : va_P D vwCl [(h0, .inr (11, [.ref q1, .null, .null, .int 0])), (q1, .inr (8, [.ref a1, .ref a2, .ref a3, .ref a4, .int 0])), (a1, .inl (cI, 60, .inl (fun _ => 0))), (a2, .inl (cI, 60, .inl (fun _ => 0))), (a3, .inl (cZ, 60, .inl (fun _ => 0))), (a4, .inl (cI, 60, .inl (fun _ => 0)))] H := hP
  have hD : va_D A [(h0, .inr (11, [.ref q1, .null, .null, .int 0])), (q1, .inr (8, [.ref a1, .ref a2, .ref a3, .ref a4, .int 0])), (a1, .inl (cI, 60, .inl (fun _ => 0))), (a2, .inl (cI, 60, .inl (fun _ => 0))), (a3, .inl (cZ, 60, .inl (fun _ => 0))), (a4, .inl (cI, 60, .inl (fun _ => 0)))] := hD
  refine lv_aload_n hx hb dX10_init_15 rfl (lv_at hl 0 rfl) ?_
  refine va_new (ci := 9) (fs := [.null, .int 0, .int 0, .int 0, .int 0, .int 0]) (C := RX8) (T := TX8) (N := 6) hx hb hg in_X8 tyX8 tyX8_ok hown (hg _ g_51) (hg _ g_52) (hg _ g_3) hK hP hD hS hA rfl (fun j hj => by rcases (show j = 0 ∨ j = 1 ∨ j = 2 ∨ j = 3 ∨ j = 4 ∨ j = 5 by omega) with rfl | rfl | rfl | rfl | rfl | rfl <;> rfl) (Nat.le_of_ble_eq_true rfl) (Nat.le_of_ble_eq_true rfl) dX10_init_16 (fun q2 H hP hD hS => ?_)
  have hP : va_P D vwCl [(h0, .inr (11, [.ref q1, .null, .null, .int 0])), (q1, .inr (8, [.ref a1, .ref a2, .ref a3, .ref a4, .int 0])), (a1, .inl (cI, 60, .inl (fun _ => 0))), (a2, .inl (cI, 60, .inl (fun _ => 0))), (a3, .inl (cZ, 60, .inl (fun _ => 0))), (a4, .inl (cI, 60, .inl (fun _ => 0))), (q2, .inr (9, [.null, .int 0, .int 0, .int 0, .int 0, .int 0]))] H := hP
  have hD : va_D A [(h0, .inr (11, [.ref q1, .null, .null, .int 0])), (q1, .inr (8, [.ref a1, .ref a2, .ref a3, .ref a4, .int 0])), (a1, .inl (cI, 60, .inl (fun _ => 0))), (a2, .inl (cI, 60, .inl (fun _ => 0))), (a3, .inl (cZ, 60, .inl (fun _ => 0))), (a4, .inl (cI, 60, .inl (fun _ => 0))), (q2, .inr (9, [.null, .int 0, .int 0, .int 0, .int 0, .int 0]))] := hD
  refine W.widen (k := 6) (n := 251) (by decide) (by decide) ?_
  refine lv_dup hx hb dX10_init_19 rfl ?_
  refine z_v (va_runI (As := []) (rest := [.ref q2, .ref h0]) ⟨hx, hb, hml, hown, hts⟩ (c_X8_init l D cI cZ q2 _) ⟨z_B 0 hts g_55 g_3 g_53 ⟨by decide, by decide, by decide +kernel⟩ ⟨Nat.le_of_ble_eq_true rfl, Nat.le_of_ble_eq_true rfl⟩, rfl, hg _ g_54⟩ (z_preS (hP.subm [6] rfl) (hD.sub [6] (by decide) rfl) (hK.sub (tys' := [(cI, .int), (cZ, .boolean)]) [0, 1] rfl)) rfl rfl hl.1 rfl (lv_room (Nat.le_of_ble_eq_true rfl)) dX10_init_20 ⟨Nat.le_of_ble_eq_true rfl, Nat.le_of_ble_eq_true rfl⟩) hP hD hS hA [6] [0, 1, 2, 3, 4, 5] rfl rfl (by decide) (by decide) (wr := [(h0, .inr (11, [.ref q1, .null, .null, .int 0])), (q1, .inr (8, [.ref a1, .ref a2, .ref a3, .ref a4, .int 0])), (a1, .inl (cI, 60, .inl (fun _ => 0))), (a2, .inl (cI, 60, .inl (fun _ => 0))), (a3, .inl (cZ, 60, .inl (fun _ => 0))), (a4, .inl (cI, 60, .inl (fun _ => 0)))]) (fun w1 H locs hw hP hD hS => ?_)
  obtain ⟨b1, rfl⟩ := hw
  refine W.widen (k := 7) (n := 451) (by decide) (by decide) ?_
  have hP : va_P D vwCl [(h0, .inr (11, [.ref q1, .null, .null, .int 0])), (q1, .inr (8, [.ref a1, .ref a2, .ref a3, .ref a4, .int 0])), (a1, .inl (cI, 60, .inl (fun _ => 0))), (a2, .inl (cI, 60, .inl (fun _ => 0))), (a3, .inl (cZ, 60, .inl (fun _ => 0))), (a4, .inl (cI, 60, .inl (fun _ => 0))), (q2, .inr (9, [.ref b1, .int 0, .int 0, .int 0, .int 0, .int 0])), (b1, .inl (cI, 200, .inl (fun _ => 0)))] H := hP
  have hD : va_D A [(h0, .inr (11, [.ref q1, .null, .null, .int 0])), (q1, .inr (8, [.ref a1, .ref a2, .ref a3, .ref a4, .int 0])), (a1, .inl (cI, 60, .inl (fun _ => 0))), (a2, .inl (cI, 60, .inl (fun _ => 0))), (a3, .inl (cZ, 60, .inl (fun _ => 0))), (a4, .inl (cI, 60, .inl (fun _ => 0))), (q2, .inr (9, [.ref b1, .int 0, .int 0, .int 0, .int 0, .int 0])), (b1, .inl (cI, 200, .inl (fun _ => 0)))] := hD
  refine va_putF (D := D) (ci := 11) (v := .ref q2) (ty := .object "PileHeirs$Trace") (C := RX10) (T := TX10) (N := 4) hx hb hg in_X10 tyX10 tyX10_ok nmX10 hown hK hP hD hS 0 rfl rfl 1 (by decide) (hg _ g_79) (fun _ h9 => h9) rfl hin rfl (by decide +kernel) rfl rfl (Nat.le_of_ble_eq_true rfl) dX10_init_23 (fun H locs hP hD hS => ?_)
  have hP : va_P D vwCl [(h0, .inr (11, [.ref q1, .ref q2, .null, .int 0])), (q1, .inr (8, [.ref a1, .ref a2, .ref a3, .ref a4, .int 0])), (a1, .inl (cI, 60, .inl (fun _ => 0))), (a2, .inl (cI, 60, .inl (fun _ => 0))), (a3, .inl (cZ, 60, .inl (fun _ => 0))), (a4, .inl (cI, 60, .inl (fun _ => 0))), (q2, .inr (9, [.ref b1, .int 0, .int 0, .int 0, .int 0, .int 0])), (b1, .inl (cI, 200, .inl (fun _ => 0)))] H := hP
  have hD : va_D A [(h0, .inr (11, [.ref q1, .ref q2, .null, .int 0])), (q1, .inr (8, [.ref a1, .ref a2, .ref a3, .ref a4, .int 0])), (a1, .inl (cI, 60, .inl (fun _ => 0))), (a2, .inl (cI, 60, .inl (fun _ => 0))), (a3, .inl (cZ, 60, .inl (fun _ => 0))), (a4, .inl (cI, 60, .inl (fun _ => 0))), (q2, .inr (9, [.ref b1, .int 0, .int 0, .int 0, .int 0, .int 0])), (b1, .inl (cI, 200, .inl (fun _ => 0)))] := hD
  refine lv_aload_n hx hb dX10_init_26 rfl (lv_at hl 0 rfl) ?_
  refine lv_bipush (v := 12) hx hb dX10_init_27 (by decide) ?_
  refine va_newq (N' := 12) hx hb hown (hg _ g_76) hAO hK hP hD hS hA (by decide) (by decide) (by decide) (Nat.le_of_ble_eq_true rfl) (Nat.le_of_ble_eq_true rfl) dX10_init_29 (fun q3 cA H hK1 hP hD hS => ?_)
  have e1 : s.vm.findClass ("[" ++ (FieldType.object "PileHeirs$Plain").toString) = some cA := by obtain ⟨_, _, _, _, _, h⟩ := (hK1.2 3 _ rfl).2; exact h
  have e2 : s.vm.findClass ("[" ++ (FieldType.object "PileHeirs$Plain").toString) = some cQ := by obtain ⟨_, _, _, _, _, h⟩ := (hK.2 2 _ rfl).2; exact h
  cases Option.some.inj (e1.symm.trans e2)
  refine W.widen (k := 8) (n := 463) (by decide) (by decide) ?_
  have hP : va_P D vwCl [(h0, .inr (11, [.ref q1, .ref q2, .null, .int 0])), (q1, .inr (8, [.ref a1, .ref a2, .ref a3, .ref a4, .int 0])), (a1, .inl (cI, 60, .inl (fun _ => 0))), (a2, .inl (cI, 60, .inl (fun _ => 0))), (a3, .inl (cZ, 60, .inl (fun _ => 0))), (a4, .inl (cI, 60, .inl (fun _ => 0))), (q2, .inr (9, [.ref b1, .int 0, .int 0, .int 0, .int 0, .int 0])), (b1, .inl (cI, 200, .inl (fun _ => 0))), (q3, .inl (cQ, 12, .inr (.inr (.inr (.inr (fun _ => none))))))] H := hP
  have hD : va_D A [(h0, .inr (11, [.ref q1, .ref q2, .null, .int 0])), (q1, .inr (8, [.ref a1, .ref a2, .ref a3, .ref a4, .int 0])), (a1, .inl (cI, 60, .inl (fun _ => 0))), (a2, .inl (cI, 60, .inl (fun _ => 0))), (a3, .inl (cZ, 60, .inl (fun _ => 0))), (a4, .inl (cI, 60, .inl (fun _ => 0))), (q2, .inr (9, [.ref b1, .int 0, .int 0, .int 0, .int 0, .int 0])), (b1, .inl (cI, 200, .inl (fun _ => 0))), (q3, .inl (cQ, 12, .inr (.inr (.inr (.inr (fun _ => none))))))] := hD
  refine va_putF (D := D) (ci := 11) (v := .ref q3) (ty := .array (.object "PileHeirs$Plain")) (C := RX10) (T := TX10) (N := 4) hx hb hg in_X10 tyX10 tyX10_ok nmX10 hown hK hP hD hS 0 rfl rfl 2 (by decide) (hg _ g_80) (fun _ h9 => h9) rfl hin rfl (by decide +kernel) rfl rfl (Nat.le_of_ble_eq_true rfl) dX10_init_32 (fun H locs hP hD hS => ?_)
  have hP : va_P D vwCl [(h0, .inr (11, [.ref q1, .ref q2, .ref q3, .int 0])), (q1, .inr (8, [.ref a1, .ref a2, .ref a3, .ref a4, .int 0])), (a1, .inl (cI, 60, .inl (fun _ => 0))), (a2, .inl (cI, 60, .inl (fun _ => 0))), (a3, .inl (cZ, 60, .inl (fun _ => 0))), (a4, .inl (cI, 60, .inl (fun _ => 0))), (q2, .inr (9, [.ref b1, .int 0, .int 0, .int 0, .int 0, .int 0])), (b1, .inl (cI, 200, .inl (fun _ => 0))), (q3, .inl (cQ, 12, .inr (.inr (.inr (.inr (fun _ => none))))))] H := hP
  have hD : va_D A [(h0, .inr (11, [.ref q1, .ref q2, .ref q3, .int 0])), (q1, .inr (8, [.ref a1, .ref a2, .ref a3, .ref a4, .int 0])), (a1, .inl (cI, 60, .inl (fun _ => 0))), (a2, .inl (cI, 60, .inl (fun _ => 0))), (a3, .inl (cZ, 60, .inl (fun _ => 0))), (a4, .inl (cI, 60, .inl (fun _ => 0))), (q2, .inr (9, [.ref b1, .int 0, .int 0, .int 0, .int 0, .int 0])), (b1, .inl (cI, 200, .inl (fun _ => 0))), (q3, .inl (cQ, 12, .inr (.inr (.inr (.inr (fun _ => none))))))] := hD
  have hP : va_P D vwCl (wX (cI, cZ, q1, a1, a2, a3, a4, q2, b1) (cQ, h0, q3) 0 C P tt0 xx0) H := by
    show va_P D vwCl (wX0 (cI, cZ, q1, a1, a2, a3, a4, q2, b1) (cQ, h0, q3) 0 C tt0 xx0 ++ []) H
    rw [List.append_nil]
    show va_P D vwCl [_, (_, .inl (_, 12, .inr (.inr (.inr (.inr (pfn 0 C)))))), _, _, _, _, _, _, _] H
    rw [pfn_0]
    exact hP.subm [0, 8, 1, 2, 3, 4, 5, 6, 7] rfl
  have hD : va_D A (wX (cI, cZ, q1, a1, a2, a3, a4, q2, b1) (cQ, h0, q3) 0 C P tt0 xx0) := by
    show va_D A (wX0 (cI, cZ, q1, a1, a2, a3, a4, q2, b1) (cQ, h0, q3) 0 C tt0 xx0 ++ [])
    rw [List.append_nil]
    show va_D A [_, (_, .inl (_, 12, .inr (.inr (.inr (.inr (pfn 0 C)))))), _, _, _, _, _, _, _]
    rw [pfn_0]
    exact hD.sub [0, 8, 1, 2, 3, 4, 5, 6, 7] (by decide) rfl
  exact W.vret hx hb hr (fun t9 ht hW => ⟨⟨_, rfl, ⟨(cI, cZ, q1, a1, a2, a3, a4, q2, b1), (cQ, h0, q3), rfl, rfl, rfl, rfl, rfl⟩, by rw [ht]; exact hP, va_K.moved hW.alike hK, hD⟩, hS.F ht⟩) hS.2.2 dX10_init_35
