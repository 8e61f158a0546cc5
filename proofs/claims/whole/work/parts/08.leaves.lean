def fX7_hasR (T : TT) (i : Int32) : Int32 := (if i < 0 then 0 else (if T.1 ≤ i then 0 else (if 60 ≤ i then 0 else 1)))
set_option maxHeartbeats 4000000 in
set_option maxRecDepth 100000 in
theorem c_X7_has (l : Launch) (D : va_G) (g : GA) (T : TT) (i : Int32) : ctI l D (tyA g) yX7_has (wd yX7_has cX7_has 2 (Option.some Jvm.ClassFile.FieldType.boolean)) { frames := 0, cells := 0, slots := 0, locals := 0 } [.ref g.tm, .int i] (wT g T) (fun r w => r = fX7_hasR T i ∧ w = wT g T) := by
  intro sz
  refine Met.ofW (cc := cX7_has) (maxL := 2) (ret := (Option.some Jvm.ClassFile.FieldType.boolean)) (by decide) rfl ?_
  intro p e s m args below meth c s₁ B hml hv
  obtain ⟨rfl, hsz, hP, hK, hD0⟩ := hv
  have hx := B.exec
  have hb := B.bytes
  have hr := B.returns
  have hts := atoms_spec (ws := (wd yX7_has cX7_has 2 (Option.some Jvm.ClassFile.FieldType.boolean))) B.pre
  have hg := Tb.of hts
  have hown : s.vm.findClass RX7 = some m.cls := findClass_of_methodNamed B.named
  have hlocks := B.notSynchronized
  subst hsz
  have hD := hD0.self (sz := s.heap.size)
  generalize hAe : va_A (wT g T) s.heap.size = A at hD ⊢
  have hA : ∀ q : Nat, s.heap.size ≤ q → A q := fun q h => by rw [← hAe]; exact Or.inr h
  have hS : va_S A s.heap s.heap [] := va_S.rf
  have hP : va_P D vwCl (wT g T) s.heap := hP
  have hl := lv_entry ([.ref g.tm, .int i]) (n := 2) (Nat.le_of_ble_eq_true rfl)
  rw [lg_entry_eq]
  generalize (lg_sl ([.ref g.tm, .int i]) ++ List.replicate (2 - (lg_sl ([.ref g.tm, .int i])).length) Slot.unset).toArray = ls at hl ⊢
  have hl : lv_has ls 2 [(0, .ref g.tm), (1, .int i)] := hl
  refine lv_iload_n hx hb dX7_has_0 rfl (lv_at hl 1 rfl) ?_
  refine lv_if_lt (tgt := 22) hx hb dX7_has_1 (by decide) (fun c_1 => ?_) (fun c_1 => ?_)
  · -- i < 0
    refine lv_iconst (v := 0) hx hb dX7_has_22 (by decide) ?_
    exact W.zret (v := 0) (ty := .boolean) hx hb hr rfl (fun t9 ht hW => ⟨⟨0, wT g T, rfl, ⟨by simp only [fX7_hasR, if_pos c_1], rfl⟩, by rw [ht]; exact hP, va_K.moved hW.alike hK, hD⟩, hS.F ht⟩) hS.2.2 dX7_has_23
  · -- not i < 0
    refine lv_iload_n hx hb dX7_has_4 rfl (lv_at hl 1 rfl) ?_
    refine lv_aload_n hx hb dX7_has_5 rfl (lv_at hl 0 rfl) ?_
    refine va_get (D := D) (ci := 8) (v := .int T.1) (C := RX7) (T := TX7) (N := 5) hx hb hg in_X7 hown hK hP 0 rfl rfl 4 (by decide) (hg _ g_37) (fun _ h9 => h9) rfl dX7_has_6 ?_
    refine lv_icmp_ge (tgt := 22) hx hb dX7_has_9 (by decide) (fun c_2 => ?_) (fun c_2 => ?_)
    · -- T.1 ≤ i
      refine lv_iconst (v := 0) hx hb dX7_has_22 (by decide) ?_
      exact W.zret (v := 0) (ty := .boolean) hx hb hr rfl (fun t9 ht hW => ⟨⟨0, wT g T, rfl, ⟨by simp only [fX7_hasR, if_neg c_1, if_pos c_2], rfl⟩, by rw [ht]; exact hP, va_K.moved hW.alike hK, hD⟩, hS.F ht⟩) hS.2.2 dX7_has_23
    · -- not T.1 ≤ i
      refine lv_iload_n hx hb dX7_has_12 rfl (lv_at hl 1 rfl) ?_
      refine lv_bipush (v := 60) hx hb dX7_has_13 (by decide) ?_
      refine lv_icmp_ge (tgt := 22) hx hb dX7_has_15 (by decide) (fun c_3 => ?_) (fun c_3 => ?_)
      · -- 60 ≤ i
        refine lv_iconst (v := 0) hx hb dX7_has_22 (by decide) ?_
        exact W.zret (v := 0) (ty := .boolean) hx hb hr rfl (fun t9 ht hW => ⟨⟨0, wT g T, rfl, ⟨by simp only [fX7_hasR, if_neg c_1, if_neg c_2, if_pos c_3], rfl⟩, by rw [ht]; exact hP, va_K.moved hW.alike hK, hD⟩, hS.F ht⟩) hS.2.2 dX7_has_23
      · -- not 60 ≤ i
        refine lv_iconst (v := 1) hx hb dX7_has_18 (by decide) ?_
        refine lv_goto (tgt := 23) hx hb dX7_has_19 (by decide) ?_
        exact W.zret (v := 1) (ty := .boolean) hx hb hr rfl (fun t9 ht hW => ⟨⟨1, wT g T, rfl, ⟨by simp only [fX7_hasR, if_neg c_1, if_neg c_2, if_neg c_3], rfl⟩, by rw [ht]; exact hP, va_K.moved hW.alike hK, hD⟩, hS.F ht⟩) hS.2.2 dX7_has_23

theorem hasin {T : TT} {i : Int32} (h : ¬ (fX7_hasR T i) = 0) : vp_in i 60 := by
  unfold fX7_hasR at h
  by_cases h1 : i < 0
  · rw [if_pos h1] at h; exact absurd rfl h
  · rw [if_neg h1] at h
    by_cases h2 : T.1 ≤ i
    · rw [if_pos h2] at h; exact absurd rfl h
    · rw [if_neg h2] at h
      by_cases h3 : 60 ≤ i
      · rw [if_pos h3] at h; exact absurd rfl h
      · exact in_nle (v := 60) (by decide) h1 h3

def fX7_howManyR (T : TT)  : Int32 := T.1
set_option maxHeartbeats 4000000 in
set_option maxRecDepth 100000 in
theorem c_X7_howMany (l : Launch) (D : va_G) (g : GA) (T : TT)  : ctI l D (tyA g) yX7_howMany (wd yX7_howMany cX7_howMany 1 (Option.some Jvm.ClassFile.FieldType.int)) { frames := 0, cells := 0, slots := 0, locals := 0 } [.ref g.tm] (wT g T) (fun r w => r = fX7_howManyR T ∧ w = wT g T) := by
  intro sz
  refine Met.ofW (cc := cX7_howMany) (maxL := 1) (ret := (Option.some Jvm.ClassFile.FieldType.int)) (by decide) rfl ?_
  intro p e s m args below meth c s₁ B hml hv
  obtain ⟨rfl, hsz, hP, hK, hD0⟩ := hv
  have hx := B.exec
  have hb := B.bytes
  have hr := B.returns
  have hts := atoms_spec (ws := (wd yX7_howMany cX7_howMany 1 (Option.some Jvm.ClassFile.FieldType.int))) B.pre
  have hg := Tb.of hts
  have hown : s.vm.findClass RX7 = some m.cls := findClass_of_methodNamed B.named
  have hlocks := B.notSynchronized
  subst hsz
  have hD := hD0.self (sz := s.heap.size)
  generalize hAe : va_A (wT g T) s.heap.size = A at hD ⊢
  have hA : ∀ q : Nat, s.heap.size ≤ q → A q := fun q h => by rw [← hAe]; exact Or.inr h
  have hS : va_S A s.heap s.heap [] := va_S.rf
  have hP : va_P D vwCl (wT g T) s.heap := hP
  have hl := lv_entry ([.ref g.tm]) (n := 1) (Nat.le_of_ble_eq_true rfl)
  rw [lg_entry_eq]
  generalize (lg_sl ([.ref g.tm]) ++ List.replicate (1 - (lg_sl ([.ref g.tm])).length) Slot.unset).toArray = ls at hl ⊢
  have hl : lv_has ls 1 [(0, .ref g.tm)] := hl
  refine lv_aload_n hx hb dX7_howMany_0 rfl (lv_at hl 0 rfl) ?_
  refine va_get (D := D) (ci := 8) (v := .int T.1) (C := RX7) (T := TX7) (N := 5) hx hb hg in_X7 hown hK hP 0 rfl rfl 4 (by decide) (hg _ g_37) (fun _ h9 => h9) rfl dX7_howMany_1 ?_
  exact W.iret (v := T.1) hx hb hr (fun t9 ht hW => ⟨⟨T.1, wT g T, rfl, ⟨rfl, rfl⟩, by rw [ht]; exact hP, va_K.moved hW.alike hK, hD⟩, hS.F ht⟩) hS.2.2 dX7_howMany_4

def fX7_lengthOfR (T : TT) (i : Int32) : Int32 := (if (fX7_hasR T i) = 0 then 0 else (T.2.1 i.toNatClampNeg))
set_option maxHeartbeats 4000000 in
set_option maxRecDepth 100000 in
theorem c_X7_lengthOf (l : Launch) (D : va_G) (g : GA) (T : TT) (i : Int32) : ctI l D (tyA g) yX7_lengthOf (wd yX7_lengthOf cX7_lengthOf 2 (Option.some Jvm.ClassFile.FieldType.int)) { frames := 1, cells := 0, slots := 0, locals := 21 } [.ref g.tm, .int i] (wT g T) (fun r w => r = fX7_lengthOfR T i ∧ w = wT g T) := by
  intro sz
  refine Met.ofW (cc := cX7_lengthOf) (maxL := 2) (ret := (Option.some Jvm.ClassFile.FieldType.int)) (by decide) rfl ?_
  intro p e s m args below meth c s₁ B hml hv
  obtain ⟨rfl, hsz, hP, hK, hD0⟩ := hv
  have hx := B.exec
  have hb := B.bytes
  have hr := B.returns
  have hts := atoms_spec (ws := (wd yX7_lengthOf cX7_lengthOf 2 (Option.some Jvm.ClassFile.FieldType.int))) B.pre
  have hg := Tb.of hts
  have hown : s.vm.findClass RX7 = some m.cls := findClass_of_methodNamed B.named
  have hlocks := B.notSynchronized
  subst hsz
  have hD := hD0.self (sz := s.heap.size)
  generalize hAe : va_A (wT g T) s.heap.size = A at hD ⊢
  have hA : ∀ q : Nat, s.heap.size ≤ q → A q := fun q h => by rw [← hAe]; exact Or.inr h
  have hS : va_S A s.heap s.heap [] := va_S.rf
  have hP : va_P D vwCl (wT g T) s.heap := hP
  have hl := lv_entry ([.ref g.tm, .int i]) (n := 2) (Nat.le_of_ble_eq_true rfl)
  rw [lg_entry_eq]
  generalize (lg_sl ([.ref g.tm, .int i]) ++ List.replicate (2 - (lg_sl ([.ref g.tm, .int i])).length) Slot.unset).toArray = ls at hl ⊢
  have hl : lv_has ls 2 [(0, .ref g.tm), (1, .int i)] := hl
  refine lv_aload_n hx hb dX7_lengthOf_0 rfl (lv_at hl 0 rfl) ?_
  refine lv_iload_n hx hb dX7_lengthOf_1 rfl (lv_at hl 1 rfl) ?_
  refine z_ie (va_runV (As := [.int i]) (rest := []) ⟨hx, hb, hml, hown, hts⟩ (c_X7_has l D g T i _) (z_V 1 hts g_311 g_2 g_308 g_309 g_310 ⟨by decide, by decide, by decide +kernel⟩ ⟨Nat.le_of_ble_eq_true rfl, Nat.le_of_ble_eq_true rfl⟩) (z_preV (ci := 8) (q0 := 0) (hP.subm [0, 1, 2, 3, 4] rfl) (hD.sub [0, 1, 2, 3, 4] (by decide) rfl) hK rfl rfl) rfl rfl hl.1 rfl (lv_room (Nat.le_of_ble_eq_true rfl)) dX7_lengthOf_2 ⟨Nat.le_of_ble_eq_true rfl, Nat.le_of_ble_eq_true rfl⟩) hP hD hS hA (([] : va_W)) (wT g T) [0, 1, 2, 3, 4] [] [0, 1, 2, 3, 4] rfl rfl (by decide) (by decide) rfl (by decide) (fun H locs hP hD hS => ?_)
  refine lv_if_eq (tgt := 17) hx hb dX7_lengthOf_5 (by decide) (fun c_1 => ?_) (fun c_1 => ?_)
  · -- (fX7_hasR T i) = 0
    refine lv_iconst (v := 0) hx hb dX7_lengthOf_17 (by decide) ?_
    exact W.iret (v := 0) hx hb hr (fun t9 ht hW => ⟨⟨0, wT g T, rfl, ⟨by simp only [fX7_lengthOfR, if_pos c_1], rfl⟩, by rw [ht]; exact hP, va_K.moved hW.alike hK, hD⟩, hS.F ht⟩) hS.2.2 dX7_lengthOf_18
  · -- not (fX7_hasR T i) = 0
    refine lv_aload_n hx hb dX7_lengthOf_8 rfl (lv_at hl 0 rfl) ?_
    refine va_get (D := D) (ci := 8) (v := .ref g.al) (C := RX7) (T := TX7) (N := 5) hx hb hg in_X7 hown hK hP 0 rfl rfl 0 (by decide) (hg _ g_33) (fun _ h9 => h9) rfl dX7_lengthOf_9 ?_
    refine lv_iload_n hx hb dX7_lengthOf_12 rfl (lv_at hl 1 rfl) ?_
    refine va_iald hx hb hK hP 1 0 rfl rfl (hasin (T := T) c_1) dX7_lengthOf_13 ?_
    refine lv_goto (tgt := 18) hx hb dX7_lengthOf_14 (by decide) ?_
    exact W.iret (v := (T.2.1 i.toNatClampNeg)) hx hb hr (fun t9 ht hW => ⟨⟨(T.2.1 i.toNatClampNeg), wT g T, rfl, ⟨by simp only [fX7_lengthOfR, if_neg c_1], rfl⟩, by rw [ht]; exact hP, va_K.moved hW.alike hK, hD⟩, hS.F ht⟩) hS.2.2 dX7_lengthOf_18

def fX7_weightOfR (T : TT) (i : Int32) : Int32 := (if (fX7_hasR T i) = 0 then 0 else (T.2.2.1 i.toNatClampNeg))
set_option maxHeartbeats 4000000 in
set_option maxRecDepth 100000 in
theorem c_X7_weightOf (l : Launch) (D : va_G) (g : GA) (T : TT) (i : Int32) : ctI l D (tyA g) yX7_weightOf (wd yX7_weightOf cX7_weightOf 2 (Option.some Jvm.ClassFile.FieldType.int)) { frames := 1, cells := 0, slots := 0, locals := 21 } [.ref g.tm, .int i] (wT g T) (fun r w => r = fX7_weightOfR T i ∧ w = wT g T) := by
  intro sz
  refine Met.ofW (cc := cX7_weightOf) (maxL := 2) (ret := (Option.some Jvm.ClassFile.FieldType.int)) (by decide) rfl ?_
  intro p e s m args below meth c s₁ B hml hv
  obtain ⟨rfl, hsz, hP, hK, hD0⟩ := hv
  have hx := B.exec
  have hb := B.bytes
  have hr := B.returns
  have hts := atoms_spec (ws := (wd yX7_weightOf cX7_weightOf 2 (Option.some Jvm.ClassFile.FieldType.int))) B.pre
  have hg := Tb.of hts
  have hown : s.vm.findClass RX7 = some m.cls := findClass_of_methodNamed B.named
  have hlocks := B.notSynchronized
  subst hsz
  have hD := hD0.self (sz := s.heap.size)
  generalize hAe : va_A (wT g T) s.heap.size = A at hD ⊢
  have hA : ∀ q : Nat, s.heap.size ≤ q → A q := fun q h => by rw [← hAe]; exact Or.inr h
  have hS : va_S A s.heap s.heap [] := va_S.rf
  have hP : va_P D vwCl (wT g T) s.heap := hP
  have hl := lv_entry ([.ref g.tm, .int i]) (n := 2) (Nat.le_of_ble_eq_true rfl)
  rw [lg_entry_eq]
  generalize (lg_sl ([.ref g.tm, .int i]) ++ List.replicate (2 - (lg_sl ([.ref g.tm, .int i])).length) Slot.unset).toArray = ls at hl ⊢
  have hl : lv_has ls 2 [(0, .ref g.tm), (1, .int i)] := hl
  refine lv_aload_n hx hb dX7_weightOf_0 rfl (lv_at hl 0 rfl) ?_
  refine lv_iload_n hx hb dX7_weightOf_1 rfl (lv_at hl 1 rfl) ?_
  refine z_ie (va_runV (As := [.int i]) (rest := []) ⟨hx, hb, hml, hown, hts⟩ (c_X7_has l D g T i _) (z_V 1 hts g_311 g_2 g_308 g_309 g_310 ⟨by decide, by decide, by decide +kernel⟩ ⟨Nat.le_of_ble_eq_true rfl, Nat.le_of_ble_eq_true rfl⟩) (z_preV (ci := 8) (q0 := 0) (hP.subm [0, 1, 2, 3, 4] rfl) (hD.sub [0, 1, 2, 3, 4] (by decide) rfl) hK rfl rfl) rfl rfl hl.1 rfl (lv_room (Nat.le_of_ble_eq_true rfl)) dX7_weightOf_2 ⟨Nat.le_of_ble_eq_true rfl, Nat.le_of_ble_eq_true rfl⟩) hP hD hS hA (([] : va_W)) (wT g T) [0, 1, 2, 3, 4] [] [0, 1, 2, 3, 4] rfl rfl (by decide) (by decide) rfl (by decide) (fun H locs hP hD hS => ?_)
  refine lv_if_eq (tgt := 17) hx hb dX7_weightOf_5 (by decide) (fun c_1 => ?_) (fun c_1 => ?_)
  · -- (fX7_hasR T i) = 0
    refine lv_iconst (v := 0) hx hb dX7_weightOf_17 (by decide) ?_
    exact W.iret (v := 0) hx hb hr (fun t9 ht hW => ⟨⟨0, wT g T, rfl, ⟨by simp only [fX7_weightOfR, if_pos c_1], rfl⟩, by rw [ht]; exact hP, va_K.moved hW.alike hK, hD⟩, hS.F ht⟩) hS.2.2 dX7_weightOf_18
  · -- not (fX7_hasR T i) = 0
    refine lv_aload_n hx hb dX7_weightOf_8 rfl (lv_at hl 0 rfl) ?_
    refine va_get (D := D) (ci := 8) (v := .ref g.aw) (C := RX7) (T := TX7) (N := 5) hx hb hg in_X7 hown hK hP 0 rfl rfl 1 (by decide) (hg _ g_34) (fun _ h9 => h9) rfl dX7_weightOf_9 ?_
    refine lv_iload_n hx hb dX7_weightOf_12 rfl (lv_at hl 1 rfl) ?_
    refine va_iald hx hb hK hP 2 0 rfl rfl (hasin (T := T) c_1) dX7_weightOf_13 ?_
    refine lv_goto (tgt := 18) hx hb dX7_weightOf_14 (by decide) ?_
    exact W.iret (v := (T.2.2.1 i.toNatClampNeg)) hx hb hr (fun t9 ht hW => ⟨⟨(T.2.2.1 i.toNatClampNeg), wT g T, rfl, ⟨by simp only [fX7_weightOfR, if_neg c_1], rfl⟩, by rw [ht]; exact hP, va_K.moved hW.alike hK, hD⟩, hS.F ht⟩) hS.2.2 dX7_weightOf_18

def fX7_pileOfR (T : TT) (i : Int32) : Int32 := (if (fX7_hasR T i) = 0 then (-1) else (T.2.2.2.2 i.toNatClampNeg))
set_option maxHeartbeats 4000000 in
set_option maxRecDepth 100000 in
theorem c_X7_pileOf (l : Launch) (D : va_G) (g : GA) (T : TT) (i : Int32) : ctI l D (tyA g) yX7_pileOf (wd yX7_pileOf cX7_pileOf 2 (Option.some Jvm.ClassFile.FieldType.int)) { frames := 1, cells := 0, slots := 0, locals := 21 } [.ref g.tm, .int i] (wT g T) (fun r w => r = fX7_pileOfR T i ∧ w = wT g T) := by
  intro sz
  refine Met.ofW (cc := cX7_pileOf) (maxL := 2) (ret := (Option.some Jvm.ClassFile.FieldType.int)) (by decide) rfl ?_
  intro p e s m args below meth c s₁ B hml hv
  obtain ⟨rfl, hsz, hP, hK, hD0⟩ := hv
  have hx := B.exec
  have hb := B.bytes
  have hr := B.returns
  have hts := atoms_spec (ws := (wd yX7_pileOf cX7_pileOf 2 (Option.some Jvm.ClassFile.FieldType.int))) B.pre
  have hg := Tb.of hts
  have hown : s.vm.findClass RX7 = some m.cls := findClass_of_methodNamed B.named
  have hlocks := B.notSynchronized
  subst hsz
  have hD := hD0.self (sz := s.heap.size)
  generalize hAe : va_A (wT g T) s.heap.size = A at hD ⊢
  have hA : ∀ q : Nat, s.heap.size ≤ q → A q := fun q h => by rw [← hAe]; exact Or.inr h
  have hS : va_S A s.heap s.heap [] := va_S.rf
  have hP : va_P D vwCl (wT g T) s.heap := hP
  have hl := lv_entry ([.ref g.tm, .int i]) (n := 2) (Nat.le_of_ble_eq_true rfl)
  rw [lg_entry_eq]
  generalize (lg_sl ([.ref g.tm, .int i]) ++ List.replicate (2 - (lg_sl ([.ref g.tm, .int i])).length) Slot.unset).toArray = ls at hl ⊢
  have hl : lv_has ls 2 [(0, .ref g.tm), (1, .int i)] := hl
  refine lv_aload_n hx hb dX7_pileOf_0 rfl (lv_at hl 0 rfl) ?_
  refine lv_iload_n hx hb dX7_pileOf_1 rfl (lv_at hl 1 rfl) ?_
  refine z_ie (va_runV (As := [.int i]) (rest := []) ⟨hx, hb, hml, hown, hts⟩ (c_X7_has l D g T i _) (z_V 1 hts g_311 g_2 g_308 g_309 g_310 ⟨by decide, by decide, by decide +kernel⟩ ⟨Nat.le_of_ble_eq_true rfl, Nat.le_of_ble_eq_true rfl⟩) (z_preV (ci := 8) (q0 := 0) (hP.subm [0, 1, 2, 3, 4] rfl) (hD.sub [0, 1, 2, 3, 4] (by decide) rfl) hK rfl rfl) rfl rfl hl.1 rfl (lv_room (Nat.le_of_ble_eq_true rfl)) dX7_pileOf_2 ⟨Nat.le_of_ble_eq_true rfl, Nat.le_of_ble_eq_true rfl⟩) hP hD hS hA (([] : va_W)) (wT g T) [0, 1, 2, 3, 4] [] [0, 1, 2, 3, 4] rfl rfl (by decide) (by decide) rfl (by decide) (fun H locs hP hD hS => ?_)
  refine lv_if_eq (tgt := 17) hx hb dX7_pileOf_5 (by decide) (fun c_1 => ?_) (fun c_1 => ?_)
  · -- (fX7_hasR T i) = 0
    refine lv_iconst (v := (-1)) hx hb dX7_pileOf_17 (by decide) ?_
    exact W.iret (v := (-1)) hx hb hr (fun t9 ht hW => ⟨⟨(-1), wT g T, rfl, ⟨by simp only [fX7_pileOfR, if_pos c_1], rfl⟩, by rw [ht]; exact hP, va_K.moved hW.alike hK, hD⟩, hS.F ht⟩) hS.2.2 dX7_pileOf_18
  · -- not (fX7_hasR T i) = 0
    refine lv_aload_n hx hb dX7_pileOf_8 rfl (lv_at hl 0 rfl) ?_
    refine va_get (D := D) (ci := 8) (v := .ref g.ap) (C := RX7) (T := TX7) (N := 5) hx hb hg in_X7 hown hK hP 0 rfl rfl 3 (by decide) (hg _ g_36) (fun _ h9 => h9) rfl dX7_pileOf_9 ?_
    refine lv_iload_n hx hb dX7_pileOf_12 rfl (lv_at hl 1 rfl) ?_
    refine va_iald hx hb hK hP 4 0 rfl rfl (hasin (T := T) c_1) dX7_pileOf_13 ?_
    refine lv_goto (tgt := 18) hx hb dX7_pileOf_14 (by decide) ?_
    exact W.iret (v := (T.2.2.2.2 i.toNatClampNeg)) hx hb hr (fun t9 ht hW => ⟨⟨(T.2.2.2.2 i.toNatClampNeg), wT g T, rfl, ⟨by simp only [fX7_pileOfR, if_neg c_1], rfl⟩, by rw [ht]; exact hP, va_K.moved hW.alike hK, hD⟩, hS.F ht⟩) hS.2.2 dX7_pileOf_18

def fX7_isWetR (T : TT) (i : Int32) : Int32 := (if (fX7_hasR T i) = 0 then 0 else (if (T.2.2.2.1 i.toNatClampNeg) = 0 then 0 else 1))
set_option maxHeartbeats 4000000 in
set_option maxRecDepth 100000 in
theorem c_X7_isWet (l : Launch) (D : va_G) (g : GA) (T : TT) (i : Int32) : ctI l D (tyA g) yX7_isWet (wd yX7_isWet cX7_isWet 2 (Option.some Jvm.ClassFile.FieldType.boolean)) { frames := 1, cells := 0, slots := 0, locals := 21 } [.ref g.tm, .int i] (wT g T) (fun r w => r = fX7_isWetR T i ∧ w = wT g T) := by
  intro sz
  refine Met.ofW (cc := cX7_isWet) (maxL := 2) (ret := (Option.some Jvm.ClassFile.FieldType.boolean)) (by decide) rfl ?_
  intro p e s m args below meth c s₁ B hml hv
  obtain ⟨rfl, hsz, hP, hK, hD0⟩ := hv
  have hx := B.exec
  have hb := B.bytes
  have hr := B.returns
  have hts := atoms_spec (ws := (wd yX7_isWet cX7_isWet 2 (Option.some Jvm.ClassFile.FieldType.boolean))) B.pre
  have hg := Tb.of hts
  have hown : s.vm.findClass RX7 = some m.cls := findClass_of_methodNamed B.named
  have hlocks := B.notSynchronized
  subst hsz
  have hD := hD0.self (sz := s.heap.size)
  generalize hAe : va_A (wT g T) s.heap.size = A at hD ⊢
  have hA : ∀ q : Nat, s.heap.size ≤ q → A q := fun q h => by rw [← hAe]; exact Or.inr h
  have hS : va_S A s.heap s.heap [] := va_S.rf
  have hP : va_P D vwCl (wT g T) s.heap := hP
  have hl := lv_entry ([.ref g.tm, .int i]) (n := 2) (Nat.le_of_ble_eq_true rfl)
  rw [lg_entry_eq]
  generalize (lg_sl ([.ref g.tm, .int i]) ++ List.replicate (2 - (lg_sl ([.ref g.tm, .int i])).length) Slot.unset).toArray = ls at hl ⊢
  have hl : lv_has ls 2 [(0, .ref g.tm), (1, .int i)] := hl
  refine lv_aload_n hx hb dX7_isWet_0 rfl (lv_at hl 0 rfl) ?_
  refine lv_iload_n hx hb dX7_isWet_1 rfl (lv_at hl 1 rfl) ?_
  refine z_ie (va_runV (As := [.int i]) (rest := []) ⟨hx, hb, hml, hown, hts⟩ (c_X7_has l D g T i _) (z_V 1 hts g_311 g_2 g_308 g_309 g_310 ⟨by decide, by decide, by decide +kernel⟩ ⟨Nat.le_of_ble_eq_true rfl, Nat.le_of_ble_eq_true rfl⟩) (z_preV (ci := 8) (q0 := 0) (hP.subm [0, 1, 2, 3, 4] rfl) (hD.sub [0, 1, 2, 3, 4] (by decide) rfl) hK rfl rfl) rfl rfl hl.1 rfl (lv_room (Nat.le_of_ble_eq_true rfl)) dX7_isWet_2 ⟨Nat.le_of_ble_eq_true rfl, Nat.le_of_ble_eq_true rfl⟩) hP hD hS hA (([] : va_W)) (wT g T) [0, 1, 2, 3, 4] [] [0, 1, 2, 3, 4] rfl rfl (by decide) (by decide) rfl (by decide) (fun H locs hP hD hS => ?_)
  refine lv_if_eq (tgt := 21) hx hb dX7_isWet_5 (by decide) (fun c_1 => ?_) (fun c_1 => ?_)
  · -- (fX7_hasR T i) = 0
    refine lv_iconst (v := 0) hx hb dX7_isWet_21 (by decide) ?_
    exact W.zret (v := 0) (ty := .boolean) hx hb hr rfl (fun t9 ht hW => ⟨⟨0, wT g T, rfl, ⟨by simp only [fX7_isWetR, if_pos c_1], rfl⟩, by rw [ht]; exact hP, va_K.moved hW.alike hK, hD⟩, hS.F ht⟩) hS.2.2 dX7_isWet_22
  · -- not (fX7_hasR T i) = 0
    refine lv_aload_n hx hb dX7_isWet_8 rfl (lv_at hl 0 rfl) ?_
    refine va_get (D := D) (ci := 8) (v := .ref g.az) (C := RX7) (T := TX7) (N := 5) hx hb hg in_X7 hown hK hP 0 rfl rfl 2 (by decide) (hg _ g_35) (fun _ h9 => h9) rfl dX7_isWet_9 ?_
    refine lv_iload_n hx hb dX7_isWet_12 rfl (lv_at hl 1 rfl) ?_
    refine va_zald hx hb hK hP 3 1 rfl rfl (hasin (T := T) c_1) dX7_isWet_13 ?_
    refine lv_if_eq (tgt := 21) hx hb dX7_isWet_14 (by decide) (fun c_2 => ?_) (fun c_2 => ?_)
    · -- (T.2.2.2.1 i.toNatClampNeg) = 0
      refine lv_iconst (v := 0) hx hb dX7_isWet_21 (by decide) ?_
      exact W.zret (v := 0) (ty := .boolean) hx hb hr rfl (fun t9 ht hW => ⟨⟨0, wT g T, rfl, ⟨by simp only [fX7_isWetR, if_neg c_1, if_pos c_2], rfl⟩, by rw [ht]; exact hP, va_K.moved hW.alike hK, hD⟩, hS.F ht⟩) hS.2.2 dX7_isWet_22
    · -- not (T.2.2.2.1 i.toNatClampNeg) = 0
      refine lv_iconst (v := 1) hx hb dX7_isWet_17 (by decide) ?_
      refine lv_goto (tgt := 22) hx hb dX7_isWet_18 (by decide) ?_
      exact W.zret (v := 1) (ty := .boolean) hx hb hr rfl (fun t9 ht hW => ⟨⟨1, wT g T, rfl, ⟨by simp only [fX7_isWetR, if_neg c_1, if_neg c_2], rfl⟩, by rw [ht]; exact hP, va_K.moved hW.alike hK, hD⟩, hS.F ht⟩) hS.2.2 dX7_isWet_22

def fX7_setWetS (T : TT) (i : Int32) (z : Int32) : TT := (if (fX7_hasR T i) = 0 then T else (T.1, T.2.1, T.2.2.1, upd T.2.2.2.1 i.toNatClampNeg (vp_nar .boolean z), T.2.2.2.2))
set_option maxHeartbeats 4000000 in
set_option maxRecDepth 100000 in
theorem c_X7_setWet (l : Launch) (D : va_G) (g : GA) (T : TT) (i : Int32) (z : Int32) : ctV l D (tyA g) yX7_setWet (wd yX7_setWet cX7_setWet 3 (Option.none : Option Jvm.ClassFile.FieldType)) { frames := 1, cells := 0, slots := 0, locals := 21 } [.ref g.tm, .int i, .int z] (wT g T) (fun w => w = wT g (fX7_setWetS T i z)) := by
  intro sz
  refine Met.ofW (cc := cX7_setWet) (maxL := 3) (ret := (Option.none : Option Jvm.ClassFile.FieldType)) (by decide) rfl ?_
  intro p e s m args below meth c s₁ B hml hv
  obtain ⟨rfl, hsz, hP, hK, hD0⟩ := hv
  have hx := B.exec
  have hb := B.bytes
  have hr := B.returns
  have hts := atoms_spec (ws := (wd yX7_setWet cX7_setWet 3 (Option.none : Option Jvm.ClassFile.FieldType))) B.pre
  have hg := Tb.of hts
  have hown : s.vm.findClass RX7 = some m.cls := findClass_of_methodNamed B.named
  have hlocks := B.notSynchronized
  subst hsz
  have hD := hD0.self (sz := s.heap.size)
  generalize hAe : va_A (wT g T) s.heap.size = A at hD ⊢
  have hA : ∀ q : Nat, s.heap.size ≤ q → A q := fun q h => by rw [← hAe]; exact Or.inr h
  have hS : va_S A s.heap s.heap [] := va_S.rf
  have hP : va_P D vwCl (wT g T) s.heap := hP
  have hl := lv_entry ([.ref g.tm, .int i, .int z]) (n := 3) (Nat.le_of_ble_eq_true rfl)
  rw [lg_entry_eq]
  generalize (lg_sl ([.ref g.tm, .int i, .int z]) ++ List.replicate (3 - (lg_sl ([.ref g.tm, .int i, .int z])).length) Slot.unset).toArray = ls at hl ⊢
  have hl : lv_has ls 3 [(0, .ref g.tm), (1, .int i), (2, .int z)] := hl
  refine lv_aload_n hx hb dX7_setWet_0 rfl (lv_at hl 0 rfl) ?_
  refine lv_iload_n hx hb dX7_setWet_1 rfl (lv_at hl 1 rfl) ?_
  refine z_ie (va_runV (As := [.int i]) (rest := []) ⟨hx, hb, hml, hown, hts⟩ (c_X7_has l D g T i _) (z_V 1 hts g_311 g_2 g_308 g_309 g_310 ⟨by decide, by decide, by decide +kernel⟩ ⟨Nat.le_of_ble_eq_true rfl, Nat.le_of_ble_eq_true rfl⟩) (z_preV (ci := 8) (q0 := 0) (hP.subm [0, 1, 2, 3, 4] rfl) (hD.sub [0, 1, 2, 3, 4] (by decide) rfl) hK rfl rfl) rfl rfl hl.1 rfl (lv_room (Nat.le_of_ble_eq_true rfl)) dX7_setWet_2 ⟨Nat.le_of_ble_eq_true rfl, Nat.le_of_ble_eq_true rfl⟩) hP hD hS hA (([] : va_W)) (wT g T) [0, 1, 2, 3, 4] [] [0, 1, 2, 3, 4] rfl rfl (by decide) (by decide) rfl (by decide) (fun H locs hP hD hS => ?_)
  refine lv_if_eq (tgt := 15) hx hb dX7_setWet_5 (by decide) (fun c_1 => ?_) (fun c_1 => ?_)
  · -- (fX7_hasR T i) = 0
    exact W.vret hx hb hr (fun t9 ht hW => ⟨⟨wT g T, rfl, by simp only [fX7_setWetS, if_pos c_1], by rw [ht]; exact hP, va_K.moved hW.alike hK, hD⟩, hS.F ht⟩) hS.2.2 dX7_setWet_15
  · -- not (fX7_hasR T i) = 0
    refine lv_aload_n hx hb dX7_setWet_8 rfl (lv_at hl 0 rfl) ?_
    refine va_get (D := D) (ci := 8) (v := .ref g.az) (C := RX7) (T := TX7) (N := 5) hx hb hg in_X7 hown hK hP 0 rfl rfl 2 (by decide) (hg _ g_35) (fun _ h9 => h9) rfl dX7_setWet_9 ?_
    refine lv_iload_n hx hb dX7_setWet_12 rfl (lv_at hl 1 rfl) ?_
    refine lv_iload_n hx hb dX7_setWet_13 rfl (lv_at hl 2 rfl) ?_
    refine va_zast hx hb hK hP hD hS 3 1 rfl rfl (hasin (T := T) c_1) dX7_setWet_14 (fun H locs hP hD hS => ?_)
    have hP : va_P D vwCl (wT g (T.1, T.2.1, T.2.2.1, upd T.2.2.2.1 i.toNatClampNeg (vp_nar .boolean z), T.2.2.2.2)) H := hP
    have hD : va_D A (wT g (T.1, T.2.1, T.2.2.1, upd T.2.2.2.1 i.toNatClampNeg (vp_nar .boolean z), T.2.2.2.2)) := hD
    exact W.vret hx hb hr (fun t9 ht hW => ⟨⟨wT g (T.1, T.2.1, T.2.2.1, upd T.2.2.2.1 i.toNatClampNeg (vp_nar .boolean z), T.2.2.2.2), rfl, by simp only [fX7_setWetS, if_neg c_1], by rw [ht]; exact hP, va_K.moved hW.alike hK, hD⟩, hS.F ht⟩) hS.2.2 dX7_setWet_15

def fX7_setPileS (T : TT) (i : Int32) (z : Int32) : TT := (if (fX7_hasR T i) = 0 then T else (T.1, T.2.1, T.2.2.1, T.2.2.2.1, upd T.2.2.2.2 i.toNatClampNeg z))
set_option maxHeartbeats 4000000 in
set_option maxRecDepth 100000 in
theorem c_X7_setPile (l : Launch) (D : va_G) (g : GA) (T : TT) (i : Int32) (z : Int32) : ctV l D (tyA g) yX7_setPile (wd yX7_setPile cX7_setPile 3 (Option.none : Option Jvm.ClassFile.FieldType)) { frames := 1, cells := 0, slots := 0, locals := 21 } [.ref g.tm, .int i, .int z] (wT g T) (fun w => w = wT g (fX7_setPileS T i z)) := by
  intro sz
  refine Met.ofW (cc := cX7_setPile) (maxL := 3) (ret := (Option.none : Option Jvm.ClassFile.FieldType)) (by decide) rfl ?_
  intro p e s m args below meth c s₁ B hml hv
  obtain ⟨rfl, hsz, hP, hK, hD0⟩ := hv
  have hx := B.exec
  have hb := B.bytes
  have hr := B.returns
  have hts := atoms_spec (ws := (wd yX7_setPile cX7_setPile 3 (Option.none : Option Jvm.ClassFile.FieldType))) B.pre
  have hg := Tb.of hts
  have hown : s.vm.findClass RX7 = some m.cls := findClass_of_methodNamed B.named
  have hlocks := B.notSynchronized
  subst hsz
  have hD := hD0.self (sz := s.heap.size)
  generalize hAe : va_A (wT g T) s.heap.size = A at hD ⊢
  have hA : ∀ q : Nat, s.heap.size ≤ q → A q := fun q h => by rw [← hAe]; exact Or.inr h
  have hS : va_S A s.heap s.heap [] := va_S.rf
  have hP : va_P D vwCl (wT g T) s.heap := hP
  have hl := lv_entry ([.ref g.tm, .int i, .int z]) (n := 3) (Nat.le_of_ble_eq_true rfl)
  rw [lg_entry_eq]
  generalize (lg_sl ([.ref g.tm, .int i, .int z]) ++ List.replicate (3 - (lg_sl ([.ref g.tm, .int i, .int z])).length) Slot.unset).toArray = ls at hl ⊢
  have hl : lv_has ls 3 [(0, .ref g.tm), (1, .int i), (2, .int z)] := hl
  refine lv_aload_n hx hb dX7_setPile_0 rfl (lv_at hl 0 rfl) ?_
  refine lv_iload_n hx hb dX7_setPile_1 rfl (lv_at hl 1 rfl) ?_
  refine z_ie (va_runV (As := [.int i]) (rest := []) ⟨hx, hb, hml, hown, hts⟩ (c_X7_has l D g T i _) (z_V 1 hts g_311 g_2 g_308 g_309 g_310 ⟨by decide, by decide, by decide +kernel⟩ ⟨Nat.le_of_ble_eq_true rfl, Nat.le_of_ble_eq_true rfl⟩) (z_preV (ci := 8) (q0 := 0) (hP.subm [0, 1, 2, 3, 4] rfl) (hD.sub [0, 1, 2, 3, 4] (by decide) rfl) hK rfl rfl) rfl rfl hl.1 rfl (lv_room (Nat.le_of_ble_eq_true rfl)) dX7_setPile_2 ⟨Nat.le_of_ble_eq_true rfl, Nat.le_of_ble_eq_true rfl⟩) hP hD hS hA (([] : va_W)) (wT g T) [0, 1, 2, 3, 4] [] [0, 1, 2, 3, 4] rfl rfl (by decide) (by decide) rfl (by decide) (fun H locs hP hD hS => ?_)
  refine lv_if_eq (tgt := 15) hx hb dX7_setPile_5 (by decide) (fun c_1 => ?_) (fun c_1 => ?_)
  · -- (fX7_hasR T i) = 0
    exact W.vret hx hb hr (fun t9 ht hW => ⟨⟨wT g T, rfl, by simp only [fX7_setPileS, if_pos c_1], by rw [ht]; exact hP, va_K.moved hW.alike hK, hD⟩, hS.F ht⟩) hS.2.2 dX7_setPile_15
  · -- not (fX7_hasR T i) = 0
    refine lv_aload_n hx hb dX7_setPile_8 rfl (lv_at hl 0 rfl) ?_
    refine va_get (D := D) (ci := 8) (v := .ref g.ap) (C := RX7) (T := TX7) (N := 5) hx hb hg in_X7 hown hK hP 0 rfl rfl 3 (by decide) (hg _ g_36) (fun _ h9 => h9) rfl dX7_setPile_9 ?_
    refine lv_iload_n hx hb dX7_setPile_12 rfl (lv_at hl 1 rfl) ?_
    refine lv_iload_n hx hb dX7_setPile_13 rfl (lv_at hl 2 rfl) ?_
    refine va_iast hx hb hK hP hD hS 4 0 rfl rfl (hasin (T := T) c_1) dX7_setPile_14 (fun H locs hP hD hS => ?_)
    have hP : va_P D vwCl (wT g (T.1, T.2.1, T.2.2.1, T.2.2.2.1, upd T.2.2.2.2 i.toNatClampNeg z)) H := hP
    have hD : va_D A (wT g (T.1, T.2.1, T.2.2.1, T.2.2.2.1, upd T.2.2.2.2 i.toNatClampNeg z)) := hD
    exact W.vret hx hb hr (fun t9 ht hW => ⟨⟨wT g (T.1, T.2.1, T.2.2.1, T.2.2.2.1, upd T.2.2.2.2 i.toNatClampNeg z), rfl, by simp only [fX7_setPileS, if_neg c_1], by rw [ht]; exact hP, va_K.moved hW.alike hK, hD⟩, hS.F ht⟩) hS.2.2 dX7_setPile_15

def fX7_lightenS (T : TT) (i : Int32) : TT := (if (fX7_hasR T i) = 0 then T else (T.1, T.2.1, upd T.2.2.1 i.toNatClampNeg (if 1 < ((T.2.2.1 i.toNatClampNeg) - 1) then ((T.2.2.1 i.toNatClampNeg) - 1) else 1), T.2.2.2.1, T.2.2.2.2))
set_option maxHeartbeats 4000000 in
set_option maxRecDepth 100000 in
theorem c_X7_lighten (l : Launch) (D : va_G) (g : GA) (T : TT) (i : Int32) : ctV l D (tyA g) yX7_lighten (wd yX7_lighten cX7_lighten 2 (Option.none : Option Jvm.ClassFile.FieldType)) { frames := 1, cells := 0, slots := 0, locals := 21 } [.ref g.tm, .int i] (wT g T) (fun w => w = wT g (fX7_lightenS T i)) := by
  intro sz
  refine Met.ofW (cc := cX7_lighten) (maxL := 2) (ret := (Option.none : Option Jvm.ClassFile.FieldType)) (by decide) rfl ?_
  intro p e s m args below meth c s₁ B hml hv
  obtain ⟨rfl, hsz, hP, hK, hD0⟩ := hv
  have hx := B.exec
  have hb := B.bytes
  have hr := B.returns
  have hts := atoms_spec (ws := (wd yX7_lighten cX7_lighten 2 (Option.none : Option Jvm.ClassFile.FieldType))) B.pre
  have hg := Tb.of hts
  have hown : s.vm.findClass RX7 = some m.cls := findClass_of_methodNamed B.named
  have hlocks := B.notSynchronized
  subst hsz
  have hD := hD0.self (sz := s.heap.size)
  generalize hAe : va_A (wT g T) s.heap.size = A at hD ⊢
  have hA : ∀ q : Nat, s.heap.size ≤ q → A q := fun q h => by rw [← hAe]; exact Or.inr h
  have hS : va_S A s.heap s.heap [] := va_S.rf
  have hP : va_P D vwCl (wT g T) s.heap := hP
  have hl := lv_entry ([.ref g.tm, .int i]) (n := 2) (Nat.le_of_ble_eq_true rfl)
  rw [lg_entry_eq]
  generalize (lg_sl ([.ref g.tm, .int i]) ++ List.replicate (2 - (lg_sl ([.ref g.tm, .int i])).length) Slot.unset).toArray = ls at hl ⊢
  have hl : lv_has ls 2 [(0, .ref g.tm), (1, .int i)] := hl
  refine lv_aload_n hx hb dX7_lighten_0 rfl (lv_at hl 0 rfl) ?_
  refine lv_iload_n hx hb dX7_lighten_1 rfl (lv_at hl 1 rfl) ?_
  refine z_ie (va_runV (As := [.int i]) (rest := []) ⟨hx, hb, hml, hown, hts⟩ (c_X7_has l D g T i _) (z_V 1 hts g_311 g_2 g_308 g_309 g_310 ⟨by decide, by decide, by decide +kernel⟩ ⟨Nat.le_of_ble_eq_true rfl, Nat.le_of_ble_eq_true rfl⟩) (z_preV (ci := 8) (q0 := 0) (hP.subm [0, 1, 2, 3, 4] rfl) (hD.sub [0, 1, 2, 3, 4] (by decide) rfl) hK rfl rfl) rfl rfl hl.1 rfl (lv_room (Nat.le_of_ble_eq_true rfl)) dX7_lighten_2 ⟨Nat.le_of_ble_eq_true rfl, Nat.le_of_ble_eq_true rfl⟩) hP hD hS hA (([] : va_W)) (wT g T) [0, 1, 2, 3, 4] [] [0, 1, 2, 3, 4] rfl rfl (by decide) (by decide) rfl (by decide) (fun H locs hP hD hS => ?_)
  refine lv_if_eq (tgt := 26) hx hb dX7_lighten_5 (by decide) (fun c_1 => ?_) (fun c_1 => ?_)
  · -- (fX7_hasR T i) = 0
    exact W.vret hx hb hr (fun t9 ht hW => ⟨⟨wT g T, rfl, by simp only [fX7_lightenS, if_pos c_1], by rw [ht]; exact hP, va_K.moved hW.alike hK, hD⟩, hS.F ht⟩) hS.2.2 dX7_lighten_26
  · -- not (fX7_hasR T i) = 0
    refine lv_aload_n hx hb dX7_lighten_8 rfl (lv_at hl 0 rfl) ?_
    refine va_get (D := D) (ci := 8) (v := .ref g.aw) (C := RX7) (T := TX7) (N := 5) hx hb hg in_X7 hown hK hP 0 rfl rfl 1 (by decide) (hg _ g_34) (fun _ h9 => h9) rfl dX7_lighten_9 ?_
    refine lv_iload_n hx hb dX7_lighten_12 rfl (lv_at hl 1 rfl) ?_
    refine lv_iconst (v := 1) hx hb dX7_lighten_13 (by decide) ?_
    refine lv_aload_n hx hb dX7_lighten_14 rfl (lv_at hl 0 rfl) ?_
    refine va_get (D := D) (ci := 8) (v := .ref g.aw) (C := RX7) (T := TX7) (N := 5) hx hb hg in_X7 hown hK hP 0 rfl rfl 1 (by decide) (hg _ g_34) (fun _ h9 => h9) rfl dX7_lighten_15 ?_
    refine lv_iload_n hx hb dX7_lighten_18 rfl (lv_at hl 1 rfl) ?_
    refine va_iald hx hb hK hP 2 0 rfl rfl (hasin (T := T) c_1) dX7_lighten_19 ?_
    refine lv_iconst (v := 1) hx hb dX7_lighten_20 (by decide) ?_
    refine lv_isub hx hb dX7_lighten_21 ?_
    refine va_mmax hx hb (hml.trans hl.1.symm) hown (hg _ g_495) (hg _ g_maxs) (hg _ g_13) (hg _ g_max) (Nat.le_of_ble_eq_true rfl) (Nat.le_of_ble_eq_true rfl) (Nat.le_of_ble_eq_true rfl) (Nat.le_of_ble_eq_true rfl) dX7_lighten_22 ?_
    refine va_iast hx hb hK hP hD hS 2 0 rfl rfl (hasin (T := T) c_1) dX7_lighten_25 (fun H locs hP hD hS => ?_)
    have hP : va_P D vwCl (wT g (T.1, T.2.1, upd T.2.2.1 i.toNatClampNeg (if 1 < ((T.2.2.1 i.toNatClampNeg) - 1) then ((T.2.2.1 i.toNatClampNeg) - 1) else 1), T.2.2.2.1, T.2.2.2.2)) H := hP
    have hD : va_D A (wT g (T.1, T.2.1, upd T.2.2.1 i.toNatClampNeg (if 1 < ((T.2.2.1 i.toNatClampNeg) - 1) then ((T.2.2.1 i.toNatClampNeg) - 1) else 1), T.2.2.2.1, T.2.2.2.2)) := hD
    exact W.vret hx hb hr (fun t9 ht hW => ⟨⟨wT g (T.1, T.2.1, upd T.2.2.1 i.toNatClampNeg (if 1 < ((T.2.2.1 i.toNatClampNeg) - 1) then ((T.2.2.1 i.toNatClampNeg) - 1) else 1), T.2.2.2.1, T.2.2.2.2), rfl, by simp only [fX7_lightenS, if_neg c_1], by rw [ht]; exact hP, va_K.moved hW.alike hK, hD⟩, hS.F ht⟩) hS.2.2 dX7_lighten_26

def fX7_addR (T : TT) (a : Int32) (b : Int32) (z : Int32) : Int32 := (if T.1 < 0 then (-104) else (if T.1 < 60 then T.1 else (-104)))
def fX7_addS (T : TT) (a : Int32) (b : Int32) (z : Int32) : TT := (if T.1 < 0 then T else (if T.1 < 60 then ((T.1 + 1), upd T.2.1 T.1.toNatClampNeg a, upd T.2.2.1 T.1.toNatClampNeg b, upd T.2.2.2.1 T.1.toNatClampNeg (vp_nar .boolean z), upd T.2.2.2.2 T.1.toNatClampNeg (-1)) else T))
set_option maxHeartbeats 4000000 in
set_option maxRecDepth 100000 in
theorem c_X7_add (l : Launch) (D : va_G) (g : GA) (T : TT) (a : Int32) (b : Int32) (z : Int32) : ctI l D (tyA g) yX7_add (wd yX7_add cX7_add 5 (Option.some Jvm.ClassFile.FieldType.int)) { frames := 0, cells := 0, slots := 0, locals := 0 } [.ref g.tm, .int a, .int b, .int z] (wT g T) (fun r w => r = fX7_addR T a b z ∧ w = wT g (fX7_addS T a b z)) := by
  intro sz
  refine Met.ofW (cc := cX7_add) (maxL := 5) (ret := (Option.some Jvm.ClassFile.FieldType.int)) (by decide) rfl ?_
  intro p e s m args below meth c s₁ B hml hv
  obtain ⟨rfl, hsz, hP, hK, hD0⟩ := hv
  have hx := B.exec
  have hb := B.bytes
  have hr := B.returns
  have hts := atoms_spec (ws := (wd yX7_add cX7_add 5 (Option.some Jvm.ClassFile.FieldType.int))) B.pre
  have hg := Tb.of hts
  have hown : s.vm.findClass RX7 = some m.cls := findClass_of_methodNamed B.named
  have hlocks := B.notSynchronized
  subst hsz
  have hD := hD0.self (sz := s.heap.size)
  generalize hAe : va_A (wT g T) s.heap.size = A at hD ⊢
  have hA : ∀ q : Nat, s.heap.size ≤ q → A q := fun q h => by rw [← hAe]; exact Or.inr h
  have hS : va_S A s.heap s.heap [] := va_S.rf
  have hP : va_P D vwCl (wT g T) s.heap := hP
  have hl := lv_entry ([.ref g.tm, .int a, .int b, .int z]) (n := 5) (Nat.le_of_ble_eq_true rfl)
  rw [lg_entry_eq]
  generalize (lg_sl ([.ref g.tm, .int a, .int b, .int z]) ++ List.replicate (5 - (lg_sl ([.ref g.tm, .int a, .int b, .int z])).length) Slot.unset).toArray = ls at hl ⊢
  have hl : lv_has ls 5 [(0, .ref g.tm), (1, .int a), (2, .int b), (3, .int z)] := hl
  refine lv_aload_n hx hb dX7_add_0 rfl (lv_at hl 0 rfl) ?_
  refine va_get (D := D) (ci := 8) (v := .int T.1) (C := RX7) (T := TX7) (N := 5) hx hb hg in_X7 hown hK hP 0 rfl rfl 4 (by decide) (hg _ g_37) (fun _ h9 => h9) rfl dX7_add_1 ?_
  refine lv_if_lt (tgt := 16) hx hb dX7_add_4 (by decide) (fun c_1 => ?_) (fun c_1 => ?_)
  · -- T.1 < 0
    refine lv_bipush (v := (-104)) hx hb dX7_add_16 (by decide) ?_
    exact W.iret (v := (-104)) hx hb hr (fun t9 ht hW => ⟨⟨(-104), wT g T, rfl, ⟨by simp only [fX7_addR, if_pos c_1], by simp only [fX7_addS, if_pos c_1]⟩, by rw [ht]; exact hP, va_K.moved hW.alike hK, hD⟩, hS.F ht⟩) hS.2.2 dX7_add_18
  · -- not T.1 < 0
    refine lv_aload_n hx hb dX7_add_7 rfl (lv_at hl 0 rfl) ?_
    refine va_get (D := D) (ci := 8) (v := .int T.1) (C := RX7) (T := TX7) (N := 5) hx hb hg in_X7 hown hK hP 0 rfl rfl 4 (by decide) (hg _ g_37) (fun _ h9 => h9) rfl dX7_add_8 ?_
    refine lv_bipush (v := 60) hx hb dX7_add_11 (by decide) ?_
    refine lv_icmp_lt (tgt := 19) hx hb dX7_add_13 (by decide) (fun c_2 => ?_) (fun c_2 => ?_)
    · -- T.1 < 60
      refine lv_aload_n hx hb dX7_add_19 rfl (lv_at hl 0 rfl) ?_
      refine va_get (D := D) (ci := 8) (v := .int T.1) (C := RX7) (T := TX7) (N := 5) hx hb hg in_X7 hown hK hP 0 rfl rfl 4 (by decide) (hg _ g_37) (fun _ h9 => h9) rfl dX7_add_20 ?_
      refine lv_istore (lv' := [(4, .int T.1), (0, .ref g.tm), (1, .int a), (2, .int b), (3, .int z)]) hx hb dX7_add_23 hl (by decide) rfl (fun ls hl => ?_)
      refine lv_aload_n hx hb dX7_add_25 rfl (lv_at hl 1 rfl) ?_
      refine va_get (D := D) (ci := 8) (v := .ref g.al) (C := RX7) (T := TX7) (N := 5) hx hb hg in_X7 hown hK hP 0 rfl rfl 0 (by decide) (hg _ g_33) (fun _ h9 => h9) rfl dX7_add_26 ?_
      refine lv_iload hx hb dX7_add_29 (lv_at hl 0 rfl) ?_
      refine lv_iload_n hx hb dX7_add_31 rfl (lv_at hl 2 rfl) ?_
      refine va_iast hx hb hK hP hD hS 1 0 rfl rfl (in_lt (v := 60) (by decide) c_1 c_2) dX7_add_32 (fun H locs hP hD hS => ?_)
      have hP : va_P D vwCl (wT g (T.1, upd T.2.1 T.1.toNatClampNeg a, T.2.2.1, T.2.2.2.1, T.2.2.2.2)) H := hP
      have hD : va_D A (wT g (T.1, upd T.2.1 T.1.toNatClampNeg a, T.2.2.1, T.2.2.2.1, T.2.2.2.2)) := hD
      refine lv_aload_n hx hb dX7_add_33 rfl (lv_at hl 1 rfl) ?_
      refine va_get (D := D) (ci := 8) (v := .ref g.aw) (C := RX7) (T := TX7) (N := 5) hx hb hg in_X7 hown hK hP 0 rfl rfl 1 (by decide) (hg _ g_34) (fun _ h9 => h9) rfl dX7_add_34 ?_
      refine lv_iload hx hb dX7_add_37 (lv_at hl 0 rfl) ?_
      refine lv_iload_n hx hb dX7_add_39 rfl (lv_at hl 3 rfl) ?_
      refine va_iast hx hb hK hP hD hS 2 0 rfl rfl (in_lt (v := 60) (by decide) c_1 c_2) dX7_add_40 (fun H locs hP hD hS => ?_)
      have hP : va_P D vwCl (wT g (T.1, upd T.2.1 T.1.toNatClampNeg a, upd T.2.2.1 T.1.toNatClampNeg b, T.2.2.2.1, T.2.2.2.2)) H := hP
      have hD : va_D A (wT g (T.1, upd T.2.1 T.1.toNatClampNeg a, upd T.2.2.1 T.1.toNatClampNeg b, T.2.2.2.1, T.2.2.2.2)) := hD
      refine lv_aload_n hx hb dX7_add_41 rfl (lv_at hl 1 rfl) ?_
      refine va_get (D := D) (ci := 8) (v := .ref g.az) (C := RX7) (T := TX7) (N := 5) hx hb hg in_X7 hown hK hP 0 rfl rfl 2 (by decide) (hg _ g_35) (fun _ h9 => h9) rfl dX7_add_42 ?_
      refine lv_iload hx hb dX7_add_45 (lv_at hl 0 rfl) ?_
      refine lv_iload_n hx hb dX7_add_47 rfl (lv_at hl 4 rfl) ?_
      refine va_zast hx hb hK hP hD hS 3 1 rfl rfl (in_lt (v := 60) (by decide) c_1 c_2) dX7_add_48 (fun H locs hP hD hS => ?_)
      have hP : va_P D vwCl (wT g (T.1, upd T.2.1 T.1.toNatClampNeg a, upd T.2.2.1 T.1.toNatClampNeg b, upd T.2.2.2.1 T.1.toNatClampNeg (vp_nar .boolean z), T.2.2.2.2)) H := hP
      have hD : va_D A (wT g (T.1, upd T.2.1 T.1.toNatClampNeg a, upd T.2.2.1 T.1.toNatClampNeg b, upd T.2.2.2.1 T.1.toNatClampNeg (vp_nar .boolean z), T.2.2.2.2)) := hD
      refine lv_aload_n hx hb dX7_add_49 rfl (lv_at hl 1 rfl) ?_
      refine va_get (D := D) (ci := 8) (v := .ref g.ap) (C := RX7) (T := TX7) (N := 5) hx hb hg in_X7 hown hK hP 0 rfl rfl 3 (by decide) (hg _ g_36) (fun _ h9 => h9) rfl dX7_add_50 ?_
      refine lv_iload hx hb dX7_add_53 (lv_at hl 0 rfl) ?_
      refine lv_iconst (v := (-1)) hx hb dX7_add_55 (by decide) ?_
      refine va_iast hx hb hK hP hD hS 4 0 rfl rfl (in_lt (v := 60) (by decide) c_1 c_2) dX7_add_56 (fun H locs hP hD hS => ?_)
      have hP : va_P D vwCl (wT g (T.1, upd T.2.1 T.1.toNatClampNeg a, upd T.2.2.1 T.1.toNatClampNeg b, upd T.2.2.2.1 T.1.toNatClampNeg (vp_nar .boolean z), upd T.2.2.2.2 T.1.toNatClampNeg (-1))) H := hP
      have hD : va_D A (wT g (T.1, upd T.2.1 T.1.toNatClampNeg a, upd T.2.2.1 T.1.toNatClampNeg b, upd T.2.2.2.1 T.1.toNatClampNeg (vp_nar .boolean z), upd T.2.2.2.2 T.1.toNatClampNeg (-1))) := hD
      refine lv_aload_n hx hb dX7_add_57 rfl (lv_at hl 1 rfl) ?_
      refine lv_dup hx hb dX7_add_58 rfl ?_
      refine va_get (D := D) (ci := 8) (v := .int T.1) (C := RX7) (T := TX7) (N := 5) hx hb hg in_X7 hown hK hP 0 rfl rfl 4 (by decide) (hg _ g_37) (fun _ h9 => h9) rfl dX7_add_59 ?_
      refine lv_iconst (v := 1) hx hb dX7_add_62 (by decide) ?_
      refine lv_iadd hx hb dX7_add_63 ?_
      refine va_put (D := D) (ci := 8) (v := .int (T.1 + 1)) (ty := .int) (C := RX7) (T := TX7) (N := 5) hx hb hg in_X7 tyX7 tyX7_ok nmX7 hown hK hP hD hS 0 rfl rfl 4 (by decide) (hg _ g_37) (fun _ h9 => h9) rfl (by decide +kernel) rfl rfl (Nat.le_of_ble_eq_true rfl) dX7_add_64 (fun H locs hP hD hS => ?_)
      have hP : va_P D vwCl (wT g ((T.1 + 1), upd T.2.1 T.1.toNatClampNeg a, upd T.2.2.1 T.1.toNatClampNeg b, upd T.2.2.2.1 T.1.toNatClampNeg (vp_nar .boolean z), upd T.2.2.2.2 T.1.toNatClampNeg (-1))) H := hP
      have hD : va_D A (wT g ((T.1 + 1), upd T.2.1 T.1.toNatClampNeg a, upd T.2.2.1 T.1.toNatClampNeg b, upd T.2.2.2.1 T.1.toNatClampNeg (vp_nar .boolean z), upd T.2.2.2.2 T.1.toNatClampNeg (-1))) := hD
      refine lv_iload hx hb dX7_add_67 (lv_at hl 0 rfl) ?_
      exact W.iret (v := T.1) hx hb hr (fun t9 ht hW => ⟨⟨T.1, wT g ((T.1 + 1), upd T.2.1 T.1.toNatClampNeg a, upd T.2.2.1 T.1.toNatClampNeg b, upd T.2.2.2.1 T.1.toNatClampNeg (vp_nar .boolean z), upd T.2.2.2.2 T.1.toNatClampNeg (-1)), rfl, ⟨by simp only [fX7_addR, if_neg c_1, if_pos c_2], by simp only [fX7_addS, if_neg c_1, if_pos c_2]⟩, by rw [ht]; exact hP, va_K.moved hW.alike hK, hD⟩, hS.F ht⟩) hS.2.2 dX7_add_69
    · -- not T.1 < 60
      refine lv_bipush (v := (-104)) hx hb dX7_add_16 (by decide) ?_
      exact W.iret (v := (-104)) hx hb hr (fun t9 ht hW => ⟨⟨(-104), wT g T, rfl, ⟨by simp only [fX7_addR, if_neg c_1, if_neg c_2], by simp only [fX7_addS, if_neg c_1, if_neg c_2]⟩, by rw [ht]; exact hP, va_K.moved hW.alike hK, hD⟩, hS.F ht⟩) hS.2.2 dX7_add_18

def fX8_beginS (X : DD) (a : Int32) (k : Int32) : DD := (if X.2.1 < 0 then (upd X.1 (0 : Int32).toNatClampNeg ((10 * a) + k), (0 + 1), (if 200 < (X.2.2.1 + 1) then 200 else (X.2.2.1 + 1)), (X.2.2.2.1 + 1), X.2.2.2.2.1, X.2.2.2.2.2) else (if X.2.1 < 200 then (upd X.1 X.2.1.toNatClampNeg ((10 * a) + k), (X.2.1 + 1), (if 200 < (X.2.2.1 + 1) then 200 else (X.2.2.1 + 1)), (X.2.2.2.1 + 1), X.2.2.2.2.1, X.2.2.2.2.2) else (upd X.1 (0 : Int32).toNatClampNeg ((10 * a) + k), (0 + 1), (if 200 < (X.2.2.1 + 1) then 200 else (X.2.2.1 + 1)), (X.2.2.2.1 + 1), X.2.2.2.2.1, X.2.2.2.2.2)))
set_option maxHeartbeats 4000000 in
set_option maxRecDepth 100000 in
theorem c_X8_begin (l : Launch) (D : va_G) (g : GA) (X : DD) (a : Int32) (k : Int32) : ctV l D (tyA g) yX8_begin (wd yX8_begin cX8_begin 3 (Option.none : Option Jvm.ClassFile.FieldType)) { frames := 1, cells := 0, slots := 0, locals := 15 } [.ref g.dn, .int a, .int k] (wD g X) (fun w => w = wD g (fX8_beginS X a k)) := by
  intro sz
  refine Met.ofW (cc := cX8_begin) (maxL := 3) (ret := (Option.none : Option Jvm.ClassFile.FieldType)) (by decide) rfl ?_
  intro p e s m args below meth c s₁ B hml hv
  obtain ⟨rfl, hsz, hP, hK, hD0⟩ := hv
  have hx := B.exec
  have hb := B.bytes
  have hr := B.returns
  have hts := atoms_spec (ws := (wd yX8_begin cX8_begin 3 (Option.none : Option Jvm.ClassFile.FieldType))) B.pre
  have hg := Tb.of hts
  have hown : s.vm.findClass RX8 = some m.cls := findClass_of_methodNamed B.named
  have hlocks := B.notSynchronized
  subst hsz
  have hD := hD0.self (sz := s.heap.size)
  generalize hAe : va_A (wD g X) s.heap.size = A at hD ⊢
  have hA : ∀ q : Nat, s.heap.size ≤ q → A q := fun q h => by rw [← hAe]; exact Or.inr h
  have hS : va_S A s.heap s.heap [] := va_S.rf
  have hP : va_P D vwCl (wD g X) s.heap := hP
  have hl := lv_entry ([.ref g.dn, .int a, .int k]) (n := 3) (Nat.le_of_ble_eq_true rfl)
  rw [lg_entry_eq]
  generalize (lg_sl ([.ref g.dn, .int a, .int k]) ++ List.replicate (3 - (lg_sl ([.ref g.dn, .int a, .int k])).length) Slot.unset).toArray = ls at hl ⊢
  have hl : lv_has ls 3 [(0, .ref g.dn), (1, .int a), (2, .int k)] := hl
  refine lv_aload_n hx hb dX8_begin_0 rfl (lv_at hl 0 rfl) ?_
  refine va_get (D := D) (ci := 9) (v := .int X.2.1) (C := RX8) (T := TX8) (N := 6) hx hb hg in_X8 hown hK hP 0 rfl rfl 1 (by decide) (hg _ g_58) (fun _ h9 => h9) rfl dX8_begin_1 ?_
  refine lv_if_lt (tgt := 19) hx hb dX8_begin_4 (by decide) (fun c_1 => ?_) (fun c_1 => ?_)
  · -- X.2.1 < 0
    refine lv_aload_n hx hb dX8_begin_19 rfl (lv_at hl 0 rfl) ?_
    refine lv_iconst (v := 0) hx hb dX8_begin_20 (by decide) ?_
    refine va_put (D := D) (ci := 9) (v := .int 0) (ty := .int) (C := RX8) (T := TX8) (N := 6) hx hb hg in_X8 tyX8 tyX8_ok nmX8 hown hK hP hD hS 0 rfl rfl 1 (by decide) (hg _ g_58) (fun _ h9 => h9) rfl (by decide +kernel) rfl rfl (Nat.le_of_ble_eq_true rfl) dX8_begin_21 (fun H locs hP hD hS => ?_)
    have hP : va_P D vwCl (wD g (X.1, 0, X.2.2.1, X.2.2.2.1, X.2.2.2.2.1, X.2.2.2.2.2)) H := hP
    have hD : va_D A (wD g (X.1, 0, X.2.2.1, X.2.2.2.1, X.2.2.2.2.1, X.2.2.2.2.2)) := hD
    refine lv_aload_n hx hb dX8_begin_24 rfl (lv_at hl 0 rfl) ?_
    refine va_get (D := D) (ci := 9) (v := .ref g.rg) (C := RX8) (T := TX8) (N := 6) hx hb hg in_X8 hown hK hP 0 rfl rfl 0 (by decide) (hg _ g_57) (fun _ h9 => h9) rfl dX8_begin_25 ?_
    refine lv_aload_n hx hb dX8_begin_28 rfl (lv_at hl 0 rfl) ?_
    refine va_get (D := D) (ci := 9) (v := .int 0) (C := RX8) (T := TX8) (N := 6) hx hb hg in_X8 hown hK hP 0 rfl rfl 1 (by decide) (hg _ g_58) (fun _ h9 => h9) rfl dX8_begin_29 ?_
    refine lv_bipush (v := 10) hx hb dX8_begin_32 (by decide) ?_
    refine lv_iload_n hx hb dX8_begin_34 rfl (lv_at hl 1 rfl) ?_
    refine lv_imul hx hb dX8_begin_35 ?_
    refine lv_iload_n hx hb dX8_begin_36 rfl (lv_at hl 2 rfl) ?_
    refine lv_iadd hx hb dX8_begin_37 ?_
    refine va_iast hx hb hK hP hD hS 1 0 rfl rfl (by unfold vp_in; decide) dX8_begin_38 (fun H locs hP hD hS => ?_)
    have hP : va_P D vwCl (wD g (upd X.1 (0 : Int32).toNatClampNeg ((10 * a) + k), 0, X.2.2.1, X.2.2.2.1, X.2.2.2.2.1, X.2.2.2.2.2)) H := hP
    have hD : va_D A (wD g (upd X.1 (0 : Int32).toNatClampNeg ((10 * a) + k), 0, X.2.2.1, X.2.2.2.1, X.2.2.2.2.1, X.2.2.2.2.2)) := hD
    refine lv_aload_n hx hb dX8_begin_39 rfl (lv_at hl 0 rfl) ?_
    refine lv_dup hx hb dX8_begin_40 rfl ?_
    refine va_get (D := D) (ci := 9) (v := .int 0) (C := RX8) (T := TX8) (N := 6) hx hb hg in_X8 hown hK hP 0 rfl rfl 1 (by decide) (hg _ g_58) (fun _ h9 => h9) rfl dX8_begin_41 ?_
    refine lv_iconst (v := 1) hx hb dX8_begin_44 (by decide) ?_
    refine lv_iadd hx hb dX8_begin_45 ?_
    refine va_put (D := D) (ci := 9) (v := .int (0 + 1)) (ty := .int) (C := RX8) (T := TX8) (N := 6) hx hb hg in_X8 tyX8 tyX8_ok nmX8 hown hK hP hD hS 0 rfl rfl 1 (by decide) (hg _ g_58) (fun _ h9 => h9) rfl (by decide +kernel) rfl rfl (Nat.le_of_ble_eq_true rfl) dX8_begin_46 (fun H locs hP hD hS => ?_)
    have hP : va_P D vwCl (wD g (upd X.1 (0 : Int32).toNatClampNeg ((10 * a) + k), (0 + 1), X.2.2.1, X.2.2.2.1, X.2.2.2.2.1, X.2.2.2.2.2)) H := hP
    have hD : va_D A (wD g (upd X.1 (0 : Int32).toNatClampNeg ((10 * a) + k), (0 + 1), X.2.2.1, X.2.2.2.1, X.2.2.2.2.1, X.2.2.2.2.2)) := hD
    refine lv_aload_n hx hb dX8_begin_49 rfl (lv_at hl 0 rfl) ?_
    refine lv_aload_n hx hb dX8_begin_50 rfl (lv_at hl 0 rfl) ?_
    refine va_get (D := D) (ci := 9) (v := .int X.2.2.1) (C := RX8) (T := TX8) (N := 6) hx hb hg in_X8 hown hK hP 0 rfl rfl 2 (by decide) (hg _ g_59) (fun _ h9 => h9) rfl dX8_begin_51 ?_
    refine lv_iconst (v := 1) hx hb dX8_begin_54 (by decide) ?_
    refine lv_iadd hx hb dX8_begin_55 ?_
    refine lv_aload_n hx hb dX8_begin_56 rfl (lv_at hl 0 rfl) ?_
    refine va_get (D := D) (ci := 9) (v := .ref g.rg) (C := RX8) (T := TX8) (N := 6) hx hb hg in_X8 hown hK hP 0 rfl rfl 0 (by decide) (hg _ g_57) (fun _ h9 => h9) rfl dX8_begin_57 ?_
    refine va_alen hx hb hK hP 1 0 rfl rfl (v := 200) rfl dX8_begin_60 ?_
    refine va_mmin hx hb (hml.trans hl.1.symm) hown (hg _ g_279) (hg _ g_mins) (hg _ g_13) (hg _ g_min) (Nat.le_of_ble_eq_true rfl) (Nat.le_of_ble_eq_true rfl) (Nat.le_of_ble_eq_true rfl) (Nat.le_of_ble_eq_true rfl) dX8_begin_61 ?_
    refine va_put (D := D) (ci := 9) (v := .int (if 200 < (X.2.2.1 + 1) then 200 else (X.2.2.1 + 1))) (ty := .int) (C := RX8) (T := TX8) (N := 6) hx hb hg in_X8 tyX8 tyX8_ok nmX8 hown hK hP hD hS 0 rfl rfl 2 (by decide) (hg _ g_59) (fun _ h9 => h9) rfl (by decide +kernel) rfl rfl (Nat.le_of_ble_eq_true rfl) dX8_begin_64 (fun H locs hP hD hS => ?_)
    have hP : va_P D vwCl (wD g (upd X.1 (0 : Int32).toNatClampNeg ((10 * a) + k), (0 + 1), (if 200 < (X.2.2.1 + 1) then 200 else (X.2.2.1 + 1)), X.2.2.2.1, X.2.2.2.2.1, X.2.2.2.2.2)) H := hP
    have hD : va_D A (wD g (upd X.1 (0 : Int32).toNatClampNeg ((10 * a) + k), (0 + 1), (if 200 < (X.2.2.1 + 1) then 200 else (X.2.2.1 + 1)), X.2.2.2.1, X.2.2.2.2.1, X.2.2.2.2.2)) := hD
    refine lv_aload_n hx hb dX8_begin_67 rfl (lv_at hl 0 rfl) ?_
    refine lv_dup hx hb dX8_begin_68 rfl ?_
    refine va_get (D := D) (ci := 9) (v := .int X.2.2.2.1) (C := RX8) (T := TX8) (N := 6) hx hb hg in_X8 hown hK hP 0 rfl rfl 3 (by decide) (hg _ g_60) (fun _ h9 => h9) rfl dX8_begin_69 ?_
    refine lv_iconst (v := 1) hx hb dX8_begin_72 (by decide) ?_
    refine lv_iadd hx hb dX8_begin_73 ?_
    refine va_put (D := D) (ci := 9) (v := .int (X.2.2.2.1 + 1)) (ty := .int) (C := RX8) (T := TX8) (N := 6) hx hb hg in_X8 tyX8 tyX8_ok nmX8 hown hK hP hD hS 0 rfl rfl 3 (by decide) (hg _ g_60) (fun _ h9 => h9) rfl (by decide +kernel) rfl rfl (Nat.le_of_ble_eq_true rfl) dX8_begin_74 (fun H locs hP hD hS => ?_)
    have hP : va_P D vwCl (wD g (upd X.1 (0 : Int32).toNatClampNeg ((10 * a) + k), (0 + 1), (if 200 < (X.2.2.1 + 1) then 200 else (X.2.2.1 + 1)), (X.2.2.2.1 + 1), X.2.2.2.2.1, X.2.2.2.2.2)) H := hP
    have hD : va_D A (wD g (upd X.1 (0 : Int32).toNatClampNeg ((10 * a) + k), (0 + 1), (if 200 < (X.2.2.1 + 1) then 200 else (X.2.2.1 + 1)), (X.2.2.2.1 + 1), X.2.2.2.2.1, X.2.2.2.2.2)) := hD
    exact W.vret hx hb hr (fun t9 ht hW => ⟨⟨wD g (upd X.1 (0 : Int32).toNatClampNeg ((10 * a) + k), (0 + 1), (if 200 < (X.2.2.1 + 1) then 200 else (X.2.2.1 + 1)), (X.2.2.2.1 + 1), X.2.2.2.2.1, X.2.2.2.2.2), rfl, by simp only [fX8_beginS, if_pos c_1], by rw [ht]; exact hP, va_K.moved hW.alike hK, hD⟩, hS.F ht⟩) hS.2.2 dX8_begin_77
  · -- not X.2.1 < 0
    refine lv_aload_n hx hb dX8_begin_7 rfl (lv_at hl 0 rfl) ?_
    refine va_get (D := D) (ci := 9) (v := .int X.2.1) (C := RX8) (T := TX8) (N := 6) hx hb hg in_X8 hown hK hP 0 rfl rfl 1 (by decide) (hg _ g_58) (fun _ h9 => h9) rfl dX8_begin_8 ?_
    refine lv_aload_n hx hb dX8_begin_11 rfl (lv_at hl 0 rfl) ?_
    refine va_get (D := D) (ci := 9) (v := .ref g.rg) (C := RX8) (T := TX8) (N := 6) hx hb hg in_X8 hown hK hP 0 rfl rfl 0 (by decide) (hg _ g_57) (fun _ h9 => h9) rfl dX8_begin_12 ?_
    refine va_alen hx hb hK hP 1 0 rfl rfl (v := 200) rfl dX8_begin_15 ?_
    refine lv_icmp_lt (tgt := 24) hx hb dX8_begin_16 (by decide) (fun c_2 => ?_) (fun c_2 => ?_)
    · -- X.2.1 < 200
      refine lv_aload_n hx hb dX8_begin_24 rfl (lv_at hl 0 rfl) ?_
      refine va_get (D := D) (ci := 9) (v := .ref g.rg) (C := RX8) (T := TX8) (N := 6) hx hb hg in_X8 hown hK hP 0 rfl rfl 0 (by decide) (hg _ g_57) (fun _ h9 => h9) rfl dX8_begin_25 ?_
      refine lv_aload_n hx hb dX8_begin_28 rfl (lv_at hl 0 rfl) ?_
      refine va_get (D := D) (ci := 9) (v := .int X.2.1) (C := RX8) (T := TX8) (N := 6) hx hb hg in_X8 hown hK hP 0 rfl rfl 1 (by decide) (hg _ g_58) (fun _ h9 => h9) rfl dX8_begin_29 ?_
      refine lv_bipush (v := 10) hx hb dX8_begin_32 (by decide) ?_
      refine lv_iload_n hx hb dX8_begin_34 rfl (lv_at hl 1 rfl) ?_
      refine lv_imul hx hb dX8_begin_35 ?_
      refine lv_iload_n hx hb dX8_begin_36 rfl (lv_at hl 2 rfl) ?_
      refine lv_iadd hx hb dX8_begin_37 ?_
      refine va_iast hx hb hK hP hD hS 1 0 rfl rfl (in_lt (v := 200) (by decide) c_1 c_2) dX8_begin_38 (fun H locs hP hD hS => ?_)
      have hP : va_P D vwCl (wD g (upd X.1 X.2.1.toNatClampNeg ((10 * a) + k), X.2.1, X.2.2.1, X.2.2.2.1, X.2.2.2.2.1, X.2.2.2.2.2)) H := hP
      have hD : va_D A (wD g (upd X.1 X.2.1.toNatClampNeg ((10 * a) + k), X.2.1, X.2.2.1, X.2.2.2.1, X.2.2.2.2.1, X.2.2.2.2.2)) := hD
      refine lv_aload_n hx hb dX8_begin_39 rfl (lv_at hl 0 rfl) ?_
      refine lv_dup hx hb dX8_begin_40 rfl ?_
      refine va_get (D := D) (ci := 9) (v := .int X.2.1) (C := RX8) (T := TX8) (N := 6) hx hb hg in_X8 hown hK hP 0 rfl rfl 1 (by decide) (hg _ g_58) (fun _ h9 => h9) rfl dX8_begin_41 ?_
      refine lv_iconst (v := 1) hx hb dX8_begin_44 (by decide) ?_
      refine lv_iadd hx hb dX8_begin_45 ?_
      refine va_put (D := D) (ci := 9) (v := .int (X.2.1 + 1)) (ty := .int) (C := RX8) (T := TX8) (N := 6) hx hb hg in_X8 tyX8 tyX8_ok nmX8 hown hK hP hD hS 0 rfl rfl 1 (by decide) (hg _ g_58) (fun _ h9 => h9) rfl (by decide +kernel) rfl rfl (Nat.le_of_ble_eq_true rfl) dX8_begin_46 (fun H locs hP hD hS => ?_)
      have hP : va_P D vwCl (wD g (upd X.1 X.2.1.toNatClampNeg ((10 * a) + k), (X.2.1 + 1), X.2.2.1, X.2.2.2.1, X.2.2.2.2.1, X.2.2.2.2.2)) H := hP
      have hD : va_D A (wD g (upd X.1 X.2.1.toNatClampNeg ((10 * a) + k), (X.2.1 + 1), X.2.2.1, X.2.2.2.1, X.2.2.2.2.1, X.2.2.2.2.2)) := hD
      refine lv_aload_n hx hb dX8_begin_49 rfl (lv_at hl 0 rfl) ?_
      refine lv_aload_n hx hb dX8_begin_50 rfl (lv_at hl 0 rfl) ?_
      refine va_get (D := D) (ci := 9) (v := .int X.2.2.1) (C := RX8) (T := TX8) (N := 6) hx hb hg in_X8 hown hK hP 0 rfl rfl 2 (by decide) (hg _ g_59) (fun _ h9 => h9) rfl dX8_begin_51 ?_
      refine lv_iconst (v := 1) hx hb dX8_begin_54 (by decide) ?_
      refine lv_iadd hx hb dX8_begin_55 ?_
      refine lv_aload_n hx hb dX8_begin_56 rfl (lv_at hl 0 rfl) ?_
      refine va_get (D := D) (ci := 9) (v := .ref g.rg) (C := RX8) (T := TX8) (N := 6) hx hb hg in_X8 hown hK hP 0 rfl rfl 0 (by decide) (hg _ g_57) (fun _ h9 => h9) rfl dX8_begin_57 ?_
      refine va_alen hx hb hK hP 1 0 rfl rfl (v := 200) rfl dX8_begin_60 ?_
      refine va_mmin hx hb (hml.trans hl.1.symm) hown (hg _ g_279) (hg _ g_mins) (hg _ g_13) (hg _ g_min) (Nat.le_of_ble_eq_true rfl) (Nat.le_of_ble_eq_true rfl) (Nat.le_of_ble_eq_true rfl) (Nat.le_of_ble_eq_true rfl) dX8_begin_61 ?_
      refine va_put (D := D) (ci := 9) (v := .int (if 200 < (X.2.2.1 + 1) then 200 else (X.2.2.1 + 1))) (ty := .int) (C := RX8) (T := TX8) (N := 6) hx hb hg in_X8 tyX8 tyX8_ok nmX8 hown hK hP hD hS 0 rfl rfl 2 (by decide) (hg _ g_59) (fun _ h9 => h9) rfl (by decide +kernel) rfl rfl (Nat.le_of_ble_eq_true rfl) dX8_begin_64 (fun H locs hP hD hS => ?_)
      have hP : va_P D vwCl (wD g (upd X.1 X.2.1.toNatClampNeg ((10 * a) + k), (X.2.1 + 1), (if 200 < (X.2.2.1 + 1) then 200 else (X.2.2.1 + 1)), X.2.2.2.1, X.2.2.2.2.1, X.2.2.2.2.2)) H := hP
      have hD : va_D A (wD g (upd X.1 X.2.1.toNatClampNeg ((10 * a) + k), (X.2.1 + 1), (if 200 < (X.2.2.1 + 1) then 200 else (X.2.2.1 + 1)), X.2.2.2.1, X.2.2.2.2.1, X.2.2.2.2.2)) := hD
      refine lv_aload_n hx hb dX8_begin_67 rfl (lv_at hl 0 rfl) ?_
      refine lv_dup hx hb dX8_begin_68 rfl ?_
      refine va_get (D := D) (ci := 9) (v := .int X.2.2.2.1) (C := RX8) (T := TX8) (N := 6) hx hb hg in_X8 hown hK hP 0 rfl rfl 3 (by decide) (hg _ g_60) (fun _ h9 => h9) rfl dX8_begin_69 ?_
      refine lv_iconst (v := 1) hx hb dX8_begin_72 (by decide) ?_
      refine lv_iadd hx hb dX8_begin_73 ?_
      refine va_put (D := D) (ci := 9) (v := .int (X.2.2.2.1 + 1)) (ty := .int) (C := RX8) (T := TX8) (N := 6) hx hb hg in_X8 tyX8 tyX8_ok nmX8 hown hK hP hD hS 0 rfl rfl 3 (by decide) (hg _ g_60) (fun _ h9 => h9) rfl (by decide +kernel) rfl rfl (Nat.le_of_ble_eq_true rfl) dX8_begin_74 (fun H locs hP hD hS => ?_)
      have hP : va_P D vwCl (wD g (upd X.1 X.2.1.toNatClampNeg ((10 * a) + k), (X.2.1 + 1), (if 200 < (X.2.2.1 + 1) then 200 else (X.2.2.1 + 1)), (X.2.2.2.1 + 1), X.2.2.2.2.1, X.2.2.2.2.2)) H := hP
      have hD : va_D A (wD g (upd X.1 X.2.1.toNatClampNeg ((10 * a) + k), (X.2.1 + 1), (if 200 < (X.2.2.1 + 1) then 200 else (X.2.2.1 + 1)), (X.2.2.2.1 + 1), X.2.2.2.2.1, X.2.2.2.2.2)) := hD
      exact W.vret hx hb hr (fun t9 ht hW => ⟨⟨wD g (upd X.1 X.2.1.toNatClampNeg ((10 * a) + k), (X.2.1 + 1), (if 200 < (X.2.2.1 + 1) then 200 else (X.2.2.1 + 1)), (X.2.2.2.1 + 1), X.2.2.2.2.1, X.2.2.2.2.2), rfl, by simp only [fX8_beginS, if_neg c_1, if_pos c_2], by rw [ht]; exact hP, va_K.moved hW.alike hK, hD⟩, hS.F ht⟩) hS.2.2 dX8_begin_77
    · -- not X.2.1 < 200
      refine lv_aload_n hx hb dX8_begin_19 rfl (lv_at hl 0 rfl) ?_
      refine lv_iconst (v := 0) hx hb dX8_begin_20 (by decide) ?_
      refine va_put (D := D) (ci := 9) (v := .int 0) (ty := .int) (C := RX8) (T := TX8) (N := 6) hx hb hg in_X8 tyX8 tyX8_ok nmX8 hown hK hP hD hS 0 rfl rfl 1 (by decide) (hg _ g_58) (fun _ h9 => h9) rfl (by decide +kernel) rfl rfl (Nat.le_of_ble_eq_true rfl) dX8_begin_21 (fun H locs hP hD hS => ?_)
      have hP : va_P D vwCl (wD g (X.1, 0, X.2.2.1, X.2.2.2.1, X.2.2.2.2.1, X.2.2.2.2.2)) H := hP
      have hD : va_D A (wD g (X.1, 0, X.2.2.1, X.2.2.2.1, X.2.2.2.2.1, X.2.2.2.2.2)) := hD
      refine lv_aload_n hx hb dX8_begin_24 rfl (lv_at hl 0 rfl) ?_
      refine va_get (D := D) (ci := 9) (v := .ref g.rg) (C := RX8) (T := TX8) (N := 6) hx hb hg in_X8 hown hK hP 0 rfl rfl 0 (by decide) (hg _ g_57) (fun _ h9 => h9) rfl dX8_begin_25 ?_
      refine lv_aload_n hx hb dX8_begin_28 rfl (lv_at hl 0 rfl) ?_
      refine va_get (D := D) (ci := 9) (v := .int 0) (C := RX8) (T := TX8) (N := 6) hx hb hg in_X8 hown hK hP 0 rfl rfl 1 (by decide) (hg _ g_58) (fun _ h9 => h9) rfl dX8_begin_29 ?_
      refine lv_bipush (v := 10) hx hb dX8_begin_32 (by decide) ?_
      refine lv_iload_n hx hb dX8_begin_34 rfl (lv_at hl 1 rfl) ?_
      refine lv_imul hx hb dX8_begin_35 ?_
      refine lv_iload_n hx hb dX8_begin_36 rfl (lv_at hl 2 rfl) ?_
      refine lv_iadd hx hb dX8_begin_37 ?_
      refine va_iast hx hb hK hP hD hS 1 0 rfl rfl (by unfold vp_in; decide) dX8_begin_38 (fun H locs hP hD hS => ?_)
      have hP : va_P D vwCl (wD g (upd X.1 (0 : Int32).toNatClampNeg ((10 * a) + k), 0, X.2.2.1, X.2.2.2.1, X.2.2.2.2.1, X.2.2.2.2.2)) H := hP
      have hD : va_D A (wD g (upd X.1 (0 : Int32).toNatClampNeg ((10 * a) + k), 0, X.2.2.1, X.2.2.2.1, X.2.2.2.2.1, X.2.2.2.2.2)) := hD
      refine lv_aload_n hx hb dX8_begin_39 rfl (lv_at hl 0 rfl) ?_
      refine lv_dup hx hb dX8_begin_40 rfl ?_
      refine va_get (D := D) (ci := 9) (v := .int 0) (C := RX8) (T := TX8) (N := 6) hx hb hg in_X8 hown hK hP 0 rfl rfl 1 (by decide) (hg _ g_58) (fun _ h9 => h9) rfl dX8_begin_41 ?_
      refine lv_iconst (v := 1) hx hb dX8_begin_44 (by decide) ?_
      refine lv_iadd hx hb dX8_begin_45 ?_
      refine va_put (D := D) (ci := 9) (v := .int (0 + 1)) (ty := .int) (C := RX8) (T := TX8) (N := 6) hx hb hg in_X8 tyX8 tyX8_ok nmX8 hown hK hP hD hS 0 rfl rfl 1 (by decide) (hg _ g_58) (fun _ h9 => h9) rfl (by decide +kernel) rfl rfl (Nat.le_of_ble_eq_true rfl) dX8_begin_46 (fun H locs hP hD hS => ?_)
      have hP : va_P D vwCl (wD g (upd X.1 (0 : Int32).toNatClampNeg ((10 * a) + k), (0 + 1), X.2.2.1, X.2.2.2.1, X.2.2.2.2.1, X.2.2.2.2.2)) H := hP
      have hD : va_D A (wD g (upd X.1 (0 : Int32).toNatClampNeg ((10 * a) + k), (0 + 1), X.2.2.1, X.2.2.2.1, X.2.2.2.2.1, X.2.2.2.2.2)) := hD
      refine lv_aload_n hx hb dX8_begin_49 rfl (lv_at hl 0 rfl) ?_
      refine lv_aload_n hx hb dX8_begin_50 rfl (lv_at hl 0 rfl) ?_
      refine va_get (D := D) (ci := 9) (v := .int X.2.2.1) (C := RX8) (T := TX8) (N := 6) hx hb hg in_X8 hown hK hP 0 rfl rfl 2 (by decide) (hg _ g_59) (fun _ h9 => h9) rfl dX8_begin_51 ?_
      refine lv_iconst (v := 1) hx hb dX8_begin_54 (by decide) ?_
      refine lv_iadd hx hb dX8_begin_55 ?_
      refine lv_aload_n hx hb dX8_begin_56 rfl (lv_at hl 0 rfl) ?_
      refine va_get (D := D) (ci := 9) (v := .ref g.rg) (C := RX8) (T := TX8) (N := 6) hx hb hg in_X8 hown hK hP 0 rfl rfl 0 (by decide) (hg _ g_57) (fun _ h9 => h9) rfl dX8_begin_57 ?_
      refine va_alen hx hb hK hP 1 0 rfl rfl (v := 200) rfl dX8_begin_60 ?_
      refine va_mmin hx hb (hml.trans hl.1.symm) hown (hg _ g_279) (hg _ g_mins) (hg _ g_13) (hg _ g_min) (Nat.le_of_ble_eq_true rfl) (Nat.le_of_ble_eq_true rfl) (Nat.le_of_ble_eq_true rfl) (Nat.le_of_ble_eq_true rfl) dX8_begin_61 ?_
      refine va_put (D := D) (ci := 9) (v := .int (if 200 < (X.2.2.1 + 1) then 200 else (X.2.2.1 + 1))) (ty := .int) (C := RX8) (T := TX8) (N := 6) hx hb hg in_X8 tyX8 tyX8_ok nmX8 hown hK hP hD hS 0 rfl rfl 2 (by decide) (hg _ g_59) (fun _ h9 => h9) rfl (by decide +kernel) rfl rfl (Nat.le_of_ble_eq_true rfl) dX8_begin_64 (fun H locs hP hD hS => ?_)
      have hP : va_P D vwCl (wD g (upd X.1 (0 : Int32).toNatClampNeg ((10 * a) + k), (0 + 1), (if 200 < (X.2.2.1 + 1) then 200 else (X.2.2.1 + 1)), X.2.2.2.1, X.2.2.2.2.1, X.2.2.2.2.2)) H := hP
      have hD : va_D A (wD g (upd X.1 (0 : Int32).toNatClampNeg ((10 * a) + k), (0 + 1), (if 200 < (X.2.2.1 + 1) then 200 else (X.2.2.1 + 1)), X.2.2.2.1, X.2.2.2.2.1, X.2.2.2.2.2)) := hD
      refine lv_aload_n hx hb dX8_begin_67 rfl (lv_at hl 0 rfl) ?_
      refine lv_dup hx hb dX8_begin_68 rfl ?_
      refine va_get (D := D) (ci := 9) (v := .int X.2.2.2.1) (C := RX8) (T := TX8) (N := 6) hx hb hg in_X8 hown hK hP 0 rfl rfl 3 (by decide) (hg _ g_60) (fun _ h9 => h9) rfl dX8_begin_69 ?_
      refine lv_iconst (v := 1) hx hb dX8_begin_72 (by decide) ?_
      refine lv_iadd hx hb dX8_begin_73 ?_
      refine va_put (D := D) (ci := 9) (v := .int (X.2.2.2.1 + 1)) (ty := .int) (C := RX8) (T := TX8) (N := 6) hx hb hg in_X8 tyX8 tyX8_ok nmX8 hown hK hP hD hS 0 rfl rfl 3 (by decide) (hg _ g_60) (fun _ h9 => h9) rfl (by decide +kernel) rfl rfl (Nat.le_of_ble_eq_true rfl) dX8_begin_74 (fun H locs hP hD hS => ?_)
      have hP : va_P D vwCl (wD g (upd X.1 (0 : Int32).toNatClampNeg ((10 * a) + k), (0 + 1), (if 200 < (X.2.2.1 + 1) then 200 else (X.2.2.1 + 1)), (X.2.2.2.1 + 1), X.2.2.2.2.1, X.2.2.2.2.2)) H := hP
      have hD : va_D A (wD g (upd X.1 (0 : Int32).toNatClampNeg ((10 * a) + k), (0 + 1), (if 200 < (X.2.2.1 + 1) then 200 else (X.2.2.1 + 1)), (X.2.2.2.1 + 1), X.2.2.2.2.1, X.2.2.2.2.2)) := hD
      exact W.vret hx hb hr (fun t9 ht hW => ⟨⟨wD g (upd X.1 (0 : Int32).toNatClampNeg ((10 * a) + k), (0 + 1), (if 200 < (X.2.2.1 + 1) then 200 else (X.2.2.1 + 1)), (X.2.2.2.1 + 1), X.2.2.2.2.1, X.2.2.2.2.2), rfl, by simp only [fX8_beginS, if_neg c_1, if_neg c_2], by rw [ht]; exact hP, va_K.moved hW.alike hK, hD⟩, hS.F ht⟩) hS.2.2 dX8_begin_77

def fX8_latestR (X : DD) (i : Int32) : Int32 := (if i < 0 then (-101) else (if i < X.2.2.1 then (if 0 ≤ ((X.2.1 - 1) - i) then (if ((X.2.1 - 1) - i) < 0 then (-101) else (if 200 ≤ ((X.2.1 - 1) - i) then (-101) else (X.1 ((X.2.1 - 1) - i).toNatClampNeg))) else (if (((X.2.1 - 1) - i) + 200) < 0 then (-101) else (if 200 ≤ (((X.2.1 - 1) - i) + 200) then (-101) else (X.1 (((X.2.1 - 1) - i) + 200).toNatClampNeg)))) else (-101)))
set_option maxHeartbeats 4000000 in
set_option maxRecDepth 100000 in
theorem c_X8_latest (l : Launch) (D : va_G) (g : GA) (X : DD) (i : Int32) : ctI l D (tyA g) yX8_latest (wd yX8_latest cX8_latest 3 (Option.some Jvm.ClassFile.FieldType.int)) { frames := 0, cells := 0, slots := 0, locals := 0 } [.ref g.dn, .int i] (wD g X) (fun r w => r = fX8_latestR X i ∧ w = wD g X) := by
  intro sz
  refine Met.ofW (cc := cX8_latest) (maxL := 3) (ret := (Option.some Jvm.ClassFile.FieldType.int)) (by decide) rfl ?_
  intro p e s m args below meth c s₁ B hml hv
  obtain ⟨rfl, hsz, hP, hK, hD0⟩ := hv
  have hx := B.exec
  have hb := B.bytes
  have hr := B.returns
  have hts := atoms_spec (ws := (wd yX8_latest cX8_latest 3 (Option.some Jvm.ClassFile.FieldType.int))) B.pre
  have hg := Tb.of hts
  have hown : s.vm.findClass RX8 = some m.cls := findClass_of_methodNamed B.named
  have hlocks := B.notSynchronized
  subst hsz
  have hD := hD0.self (sz := s.heap.size)
  generalize hAe : va_A (wD g X) s.heap.size = A at hD ⊢
  have hA : ∀ q : Nat, s.heap.size ≤ q → A q := fun q h => by rw [← hAe]; exact Or.inr h
  have hS : va_S A s.heap s.heap [] := va_S.rf
  have hP : va_P D vwCl (wD g X) s.heap := hP
  have hl := lv_entry ([.ref g.dn, .int i]) (n := 3) (Nat.le_of_ble_eq_true rfl)
  rw [lg_entry_eq]
  generalize (lg_sl ([.ref g.dn, .int i]) ++ List.replicate (3 - (lg_sl ([.ref g.dn, .int i])).length) Slot.unset).toArray = ls at hl ⊢
  have hl : lv_has ls 3 [(0, .ref g.dn), (1, .int i)] := hl
  refine lv_iload_n hx hb dX8_latest_0 rfl (lv_at hl 1 rfl) ?_
  refine lv_if_lt (tgt := 12) hx hb dX8_latest_1 (by decide) (fun c_1 => ?_) (fun c_1 => ?_)
  · -- i < 0
    refine lv_bipush (v := (-101)) hx hb dX8_latest_12 (by decide) ?_
    exact W.iret (v := (-101)) hx hb hr (fun t9 ht hW => ⟨⟨(-101), wD g X, rfl, ⟨by simp only [fX8_latestR, if_pos c_1], rfl⟩, by rw [ht]; exact hP, va_K.moved hW.alike hK, hD⟩, hS.F ht⟩) hS.2.2 dX8_latest_14
  · -- not i < 0
    refine lv_iload_n hx hb dX8_latest_4 rfl (lv_at hl 1 rfl) ?_
    refine lv_aload_n hx hb dX8_latest_5 rfl (lv_at hl 0 rfl) ?_
    refine va_get (D := D) (ci := 9) (v := .int X.2.2.1) (C := RX8) (T := TX8) (N := 6) hx hb hg in_X8 hown hK hP 0 rfl rfl 2 (by decide) (hg _ g_59) (fun _ h9 => h9) rfl dX8_latest_6 ?_
    refine lv_icmp_lt (tgt := 15) hx hb dX8_latest_9 (by decide) (fun c_2 => ?_) (fun c_2 => ?_)
    · -- i < X.2.2.1
      refine lv_aload_n hx hb dX8_latest_15 rfl (lv_at hl 0 rfl) ?_
      refine va_get (D := D) (ci := 9) (v := .int X.2.1) (C := RX8) (T := TX8) (N := 6) hx hb hg in_X8 hown hK hP 0 rfl rfl 1 (by decide) (hg _ g_58) (fun _ h9 => h9) rfl dX8_latest_16 ?_
      refine lv_iconst (v := 1) hx hb dX8_latest_19 (by decide) ?_
      refine lv_isub hx hb dX8_latest_20 ?_
      refine lv_iload_n hx hb dX8_latest_21 rfl (lv_at hl 1 rfl) ?_
      refine lv_isub hx hb dX8_latest_22 ?_
      refine lv_istore_n (lv' := [(2, .int ((X.2.1 - 1) - i)), (0, .ref g.dn), (1, .int i)]) hx hb dX8_latest_23 rfl hl (by decide) rfl (fun ls hl => ?_)
      refine lv_iload_n hx hb dX8_latest_24 rfl (lv_at hl 0 rfl) ?_
      refine lv_if_ge (tgt := 36) hx hb dX8_latest_25 (by decide) (fun c_3 => ?_) (fun c_3 => ?_)
      · -- 0 ≤ ((X.2.1 - 1) - i)
        refine lv_iload_n hx hb dX8_latest_36 rfl (lv_at hl 0 rfl) ?_
        refine lv_if_lt (tgt := 58) hx hb dX8_latest_37 (by decide) (fun c_4 => ?_) (fun c_4 => ?_)
        · -- ((X.2.1 - 1) - i) < 0
          refine lv_bipush (v := (-101)) hx hb dX8_latest_58 (by decide) ?_
          exact W.iret (v := (-101)) hx hb hr (fun t9 ht hW => ⟨⟨(-101), wD g X, rfl, ⟨by simp only [fX8_latestR, if_neg c_1, if_pos c_2, if_pos c_3, if_pos c_4], rfl⟩, by rw [ht]; exact hP, va_K.moved hW.alike hK, hD⟩, hS.F ht⟩) hS.2.2 dX8_latest_60
        · -- not ((X.2.1 - 1) - i) < 0
          refine lv_iload_n hx hb dX8_latest_40 rfl (lv_at hl 0 rfl) ?_
          refine lv_aload_n hx hb dX8_latest_41 rfl (lv_at hl 1 rfl) ?_
          refine va_get (D := D) (ci := 9) (v := .ref g.rg) (C := RX8) (T := TX8) (N := 6) hx hb hg in_X8 hown hK hP 0 rfl rfl 0 (by decide) (hg _ g_57) (fun _ h9 => h9) rfl dX8_latest_42 ?_
          refine va_alen hx hb hK hP 1 0 rfl rfl (v := 200) rfl dX8_latest_45 ?_
          refine lv_icmp_ge (tgt := 58) hx hb dX8_latest_46 (by decide) (fun c_5 => ?_) (fun c_5 => ?_)
          · -- 200 ≤ ((X.2.1 - 1) - i)
            refine lv_bipush (v := (-101)) hx hb dX8_latest_58 (by decide) ?_
            exact W.iret (v := (-101)) hx hb hr (fun t9 ht hW => ⟨⟨(-101), wD g X, rfl, ⟨by simp only [fX8_latestR, if_neg c_1, if_pos c_2, if_pos c_3, if_neg c_4, if_pos c_5], rfl⟩, by rw [ht]; exact hP, va_K.moved hW.alike hK, hD⟩, hS.F ht⟩) hS.2.2 dX8_latest_60
          · -- not 200 ≤ ((X.2.1 - 1) - i)
            refine lv_aload_n hx hb dX8_latest_49 rfl (lv_at hl 1 rfl) ?_
            refine va_get (D := D) (ci := 9) (v := .ref g.rg) (C := RX8) (T := TX8) (N := 6) hx hb hg in_X8 hown hK hP 0 rfl rfl 0 (by decide) (hg _ g_57) (fun _ h9 => h9) rfl dX8_latest_50 ?_
            refine lv_iload_n hx hb dX8_latest_53 rfl (lv_at hl 0 rfl) ?_
            refine va_iald hx hb hK hP 1 0 rfl rfl (in_nle (v := 200) (by decide) c_4 c_5) dX8_latest_54 ?_
            refine lv_goto (tgt := 60) hx hb dX8_latest_55 (by decide) ?_
            exact W.iret (v := (X.1 ((X.2.1 - 1) - i).toNatClampNeg)) hx hb hr (fun t9 ht hW => ⟨⟨(X.1 ((X.2.1 - 1) - i).toNatClampNeg), wD g X, rfl, ⟨by simp only [fX8_latestR, if_neg c_1, if_pos c_2, if_pos c_3, if_neg c_4, if_neg c_5], rfl⟩, by rw [ht]; exact hP, va_K.moved hW.alike hK, hD⟩, hS.F ht⟩) hS.2.2 dX8_latest_60
      · -- not 0 ≤ ((X.2.1 - 1) - i)
        refine lv_iload_n hx hb dX8_latest_28 rfl (lv_at hl 0 rfl) ?_
        refine lv_aload_n hx hb dX8_latest_29 rfl (lv_at hl 1 rfl) ?_
        refine va_get (D := D) (ci := 9) (v := .ref g.rg) (C := RX8) (T := TX8) (N := 6) hx hb hg in_X8 hown hK hP 0 rfl rfl 0 (by decide) (hg _ g_57) (fun _ h9 => h9) rfl dX8_latest_30 ?_
        refine va_alen hx hb hK hP 1 0 rfl rfl (v := 200) rfl dX8_latest_33 ?_
        refine lv_iadd hx hb dX8_latest_34 ?_
        refine lv_istore_n (lv' := [(2, .int (((X.2.1 - 1) - i) + 200)), (0, .ref g.dn), (1, .int i)]) hx hb dX8_latest_35 rfl hl (by decide) rfl (fun ls hl => ?_)
        refine lv_iload_n hx hb dX8_latest_36 rfl (lv_at hl 0 rfl) ?_
        refine lv_if_lt (tgt := 58) hx hb dX8_latest_37 (by decide) (fun c_6 => ?_) (fun c_6 => ?_)
        · -- (((X.2.1 - 1) - i) + 200) < 0
          refine lv_bipush (v := (-101)) hx hb dX8_latest_58 (by decide) ?_
          exact W.iret (v := (-101)) hx hb hr (fun t9 ht hW => ⟨⟨(-101), wD g X, rfl, ⟨by simp only [fX8_latestR, if_neg c_1, if_pos c_2, if_neg c_3, if_pos c_6], rfl⟩, by rw [ht]; exact hP, va_K.moved hW.alike hK, hD⟩, hS.F ht⟩) hS.2.2 dX8_latest_60
        · -- not (((X.2.1 - 1) - i) + 200) < 0
          refine lv_iload_n hx hb dX8_latest_40 rfl (lv_at hl 0 rfl) ?_
          refine lv_aload_n hx hb dX8_latest_41 rfl (lv_at hl 1 rfl) ?_
          refine va_get (D := D) (ci := 9) (v := .ref g.rg) (C := RX8) (T := TX8) (N := 6) hx hb hg in_X8 hown hK hP 0 rfl rfl 0 (by decide) (hg _ g_57) (fun _ h9 => h9) rfl dX8_latest_42 ?_
          refine va_alen hx hb hK hP 1 0 rfl rfl (v := 200) rfl dX8_latest_45 ?_
          refine lv_icmp_ge (tgt := 58) hx hb dX8_latest_46 (by decide) (fun c_7 => ?_) (fun c_7 => ?_)
          · -- 200 ≤ (((X.2.1 - 1) - i) + 200)
            refine lv_bipush (v := (-101)) hx hb dX8_latest_58 (by decide) ?_
            exact W.iret (v := (-101)) hx hb hr (fun t9 ht hW => ⟨⟨(-101), wD g X, rfl, ⟨by simp only [fX8_latestR, if_neg c_1, if_pos c_2, if_neg c_3, if_neg c_6, if_pos c_7], rfl⟩, by rw [ht]; exact hP, va_K.moved hW.alike hK, hD⟩, hS.F ht⟩) hS.2.2 dX8_latest_60
          · -- not 200 ≤ (((X.2.1 - 1) - i) + 200)
            refine lv_aload_n hx hb dX8_latest_49 rfl (lv_at hl 1 rfl) ?_
            refine va_get (D := D) (ci := 9) (v := .ref g.rg) (C := RX8) (T := TX8) (N := 6) hx hb hg in_X8 hown hK hP 0 rfl rfl 0 (by decide) (hg _ g_57) (fun _ h9 => h9) rfl dX8_latest_50 ?_
            refine lv_iload_n hx hb dX8_latest_53 rfl (lv_at hl 0 rfl) ?_
            refine va_iald hx hb hK hP 1 0 rfl rfl (in_nle (v := 200) (by decide) c_6 c_7) dX8_latest_54 ?_
            refine lv_goto (tgt := 60) hx hb dX8_latest_55 (by decide) ?_
            exact W.iret (v := (X.1 (((X.2.1 - 1) - i) + 200).toNatClampNeg)) hx hb hr (fun t9 ht hW => ⟨⟨(X.1 (((X.2.1 - 1) - i) + 200).toNatClampNeg), wD g X, rfl, ⟨by simp only [fX8_latestR, if_neg c_1, if_pos c_2, if_neg c_3, if_neg c_6, if_neg c_7], rfl⟩, by rw [ht]; exact hP, va_K.moved hW.alike hK, hD⟩, hS.F ht⟩) hS.2.2 dX8_latest_60
    · -- not i < X.2.2.1
      refine lv_bipush (v := (-101)) hx hb dX8_latest_12 (by decide) ?_
      exact W.iret (v := (-101)) hx hb hr (fun t9 ht hW => ⟨⟨(-101), wD g X, rfl, ⟨by simp only [fX8_latestR, if_neg c_1, if_neg c_2], rfl⟩, by rw [ht]; exact hP, va_K.moved hW.alike hK, hD⟩, hS.F ht⟩) hS.2.2 dX8_latest_14

def fX8_countHeavyS (X : DD)  : DD := (X.1, X.2.1, X.2.2.1, X.2.2.2.1, (X.2.2.2.2.1 + 1), X.2.2.2.2.2)
set_option maxHeartbeats 4000000 in
set_option maxRecDepth 100000 in
theorem c_X8_countHeavy (l : Launch) (D : va_G) (g : GA) (X : DD)  : ctV l D (tyA g) yX8_countHeavy (wd yX8_countHeavy cX8_countHeavy 1 (Option.none : Option Jvm.ClassFile.FieldType)) { frames := 0, cells := 0, slots := 0, locals := 0 } [.ref g.dn] (wD g X) (fun w => w = wD g (fX8_countHeavyS X)) := by
  intro sz
  refine Met.ofW (cc := cX8_countHeavy) (maxL := 1) (ret := (Option.none : Option Jvm.ClassFile.FieldType)) (by decide) rfl ?_
  intro p e s m args below meth c s₁ B hml hv
  obtain ⟨rfl, hsz, hP, hK, hD0⟩ := hv
  have hx := B.exec
  have hb := B.bytes
  have hr := B.returns
  have hts := atoms_spec (ws := (wd yX8_countHeavy cX8_countHeavy 1 (Option.none : Option Jvm.ClassFile.FieldType))) B.pre
  have hg := Tb.of hts
  have hown : s.vm.findClass RX8 = some m.cls := findClass_of_methodNamed B.named
  have hlocks := B.notSynchronized
  subst hsz
  have hD := hD0.self (sz := s.heap.size)
  generalize hAe : va_A (wD g X) s.heap.size = A at hD ⊢
  have hA : ∀ q : Nat, s.heap.size ≤ q → A q := fun q h => by rw [← hAe]; exact Or.inr h
  have hS : va_S A s.heap s.heap [] := va_S.rf
  have hP : va_P D vwCl (wD g X) s.heap := hP
  have hl := lv_entry ([.ref g.dn]) (n := 1) (Nat.le_of_ble_eq_true rfl)
  rw [lg_entry_eq]
  generalize (lg_sl ([.ref g.dn]) ++ List.replicate (1 - (lg_sl ([.ref g.dn])).length) Slot.unset).toArray = ls at hl ⊢
  have hl : lv_has ls 1 [(0, .ref g.dn)] := hl
  refine lv_aload_n hx hb dX8_countHeavy_0 rfl (lv_at hl 0 rfl) ?_
  refine lv_dup hx hb dX8_countHeavy_1 rfl ?_
  refine va_get (D := D) (ci := 9) (v := .int X.2.2.2.2.1) (C := RX8) (T := TX8) (N := 6) hx hb hg in_X8 hown hK hP 0 rfl rfl 4 (by decide) (hg _ g_61) (fun _ h9 => h9) rfl dX8_countHeavy_2 ?_
  refine lv_iconst (v := 1) hx hb dX8_countHeavy_5 (by decide) ?_
  refine lv_iadd hx hb dX8_countHeavy_6 ?_
  refine va_put (D := D) (ci := 9) (v := .int (X.2.2.2.2.1 + 1)) (ty := .int) (C := RX8) (T := TX8) (N := 6) hx hb hg in_X8 tyX8 tyX8_ok nmX8 hown hK hP hD hS 0 rfl rfl 4 (by decide) (hg _ g_61) (fun _ h9 => h9) rfl (by decide +kernel) rfl rfl (Nat.le_of_ble_eq_true rfl) dX8_countHeavy_7 (fun H locs hP hD hS => ?_)
  have hP : va_P D vwCl (wD g (X.1, X.2.1, X.2.2.1, X.2.2.2.1, (X.2.2.2.2.1 + 1), X.2.2.2.2.2)) H := hP
  have hD : va_D A (wD g (X.1, X.2.1, X.2.2.1, X.2.2.2.1, (X.2.2.2.2.1 + 1), X.2.2.2.2.2)) := hD
  exact W.vret hx hb hr (fun t9 ht hW => ⟨⟨wD g (X.1, X.2.1, X.2.2.1, X.2.2.2.1, (X.2.2.2.2.1 + 1), X.2.2.2.2.2), rfl, rfl, by rw [ht]; exact hP, va_K.moved hW.alike hK, hD⟩, hS.F ht⟩) hS.2.2 dX8_countHeavy_10

def fX8_countNothingS (X : DD)  : DD := (X.1, X.2.1, X.2.2.1, X.2.2.2.1, X.2.2.2.2.1, (X.2.2.2.2.2 + 1))
set_option maxHeartbeats 4000000 in
set_option maxRecDepth 100000 in
theorem c_X8_countNothing (l : Launch) (D : va_G) (g : GA) (X : DD)  : ctV l D (tyA g) yX8_countNothing (wd yX8_countNothing cX8_countNothing 1 (Option.none : Option Jvm.ClassFile.FieldType)) { frames := 0, cells := 0, slots := 0, locals := 0 } [.ref g.dn] (wD g X) (fun w => w = wD g (fX8_countNothingS X)) := by
  intro sz
  refine Met.ofW (cc := cX8_countNothing) (maxL := 1) (ret := (Option.none : Option Jvm.ClassFile.FieldType)) (by decide) rfl ?_
  intro p e s m args below meth c s₁ B hml hv
  obtain ⟨rfl, hsz, hP, hK, hD0⟩ := hv
  have hx := B.exec
  have hb := B.bytes
  have hr := B.returns
  have hts := atoms_spec (ws := (wd yX8_countNothing cX8_countNothing 1 (Option.none : Option Jvm.ClassFile.FieldType))) B.pre
  have hg := Tb.of hts
  have hown : s.vm.findClass RX8 = some m.cls := findClass_of_methodNamed B.named
  have hlocks := B.notSynchronized
  subst hsz
  have hD := hD0.self (sz := s.heap.size)
  generalize hAe : va_A (wD g X) s.heap.size = A at hD ⊢
  have hA : ∀ q : Nat, s.heap.size ≤ q → A q := fun q h => by rw [← hAe]; exact Or.inr h
  have hS : va_S A s.heap s.heap [] := va_S.rf
  have hP : va_P D vwCl (wD g X) s.heap := hP
  have hl := lv_entry ([.ref g.dn]) (n := 1) (Nat.le_of_ble_eq_true rfl)
  rw [lg_entry_eq]
  generalize (lg_sl ([.ref g.dn]) ++ List.replicate (1 - (lg_sl ([.ref g.dn])).length) Slot.unset).toArray = ls at hl ⊢
  have hl : lv_has ls 1 [(0, .ref g.dn)] := hl
  refine lv_aload_n hx hb dX8_countNothing_0 rfl (lv_at hl 0 rfl) ?_
  refine lv_dup hx hb dX8_countNothing_1 rfl ?_
  refine va_get (D := D) (ci := 9) (v := .int X.2.2.2.2.2) (C := RX8) (T := TX8) (N := 6) hx hb hg in_X8 hown hK hP 0 rfl rfl 5 (by decide) (hg _ g_62) (fun _ h9 => h9) rfl dX8_countNothing_2 ?_
  refine lv_iconst (v := 1) hx hb dX8_countNothing_5 (by decide) ?_
  refine lv_iadd hx hb dX8_countNothing_6 ?_
  refine va_put (D := D) (ci := 9) (v := .int (X.2.2.2.2.2 + 1)) (ty := .int) (C := RX8) (T := TX8) (N := 6) hx hb hg in_X8 tyX8 tyX8_ok nmX8 hown hK hP hD hS 0 rfl rfl 5 (by decide) (hg _ g_62) (fun _ h9 => h9) rfl (by decide +kernel) rfl rfl (Nat.le_of_ble_eq_true rfl) dX8_countNothing_7 (fun H locs hP hD hS => ?_)
  have hP : va_P D vwCl (wD g (X.1, X.2.1, X.2.2.1, X.2.2.2.1, X.2.2.2.2.1, (X.2.2.2.2.2 + 1))) H := hP
  have hD : va_D A (wD g (X.1, X.2.1, X.2.2.1, X.2.2.2.1, X.2.2.2.2.1, (X.2.2.2.2.2 + 1))) := hD
  exact W.vret hx hb hr (fun t9 ht hW => ⟨⟨wD g (X.1, X.2.1, X.2.2.1, X.2.2.2.1, X.2.2.2.2.1, (X.2.2.2.2.2 + 1)), rfl, rfl, by rw [ht]; exact hP, va_K.moved hW.alike hK, hD⟩, hS.F ht⟩) hS.2.2 dX8_countNothing_10

def fX8_rulesEverR (X : DD)  : Int32 := X.2.2.2.1
set_option maxHeartbeats 4000000 in
set_option maxRecDepth 100000 in
theorem c_X8_rulesEver (l : Launch) (D : va_G) (g : GA) (X : DD)  : ctI l D (tyA g) yX8_rulesEver (wd yX8_rulesEver cX8_rulesEver 1 (Option.some Jvm.ClassFile.FieldType.int)) { frames := 0, cells := 0, slots := 0, locals := 0 } [.ref g.dn] (wD g X) (fun r w => r = fX8_rulesEverR X ∧ w = wD g X) := by
  intro sz
  refine Met.ofW (cc := cX8_rulesEver) (maxL := 1) (ret := (Option.some Jvm.ClassFile.FieldType.int)) (by decide) rfl ?_
  intro p e s m args below meth c s₁ B hml hv
  obtain ⟨rfl, hsz, hP, hK, hD0⟩ := hv
  have hx := B.exec
  have hb := B.bytes
  have hr := B.returns
  have hts := atoms_spec (ws := (wd yX8_rulesEver cX8_rulesEver 1 (Option.some Jvm.ClassFile.FieldType.int))) B.pre
  have hg := Tb.of hts
  have hown : s.vm.findClass RX8 = some m.cls := findClass_of_methodNamed B.named
  have hlocks := B.notSynchronized
  subst hsz
  have hD := hD0.self (sz := s.heap.size)
  generalize hAe : va_A (wD g X) s.heap.size = A at hD ⊢
  have hA : ∀ q : Nat, s.heap.size ≤ q → A q := fun q h => by rw [← hAe]; exact Or.inr h
  have hS : va_S A s.heap s.heap [] := va_S.rf
  have hP : va_P D vwCl (wD g X) s.heap := hP
  have hl := lv_entry ([.ref g.dn]) (n := 1) (Nat.le_of_ble_eq_true rfl)
  rw [lg_entry_eq]
  generalize (lg_sl ([.ref g.dn]) ++ List.replicate (1 - (lg_sl ([.ref g.dn])).length) Slot.unset).toArray = ls at hl ⊢
  have hl : lv_has ls 1 [(0, .ref g.dn)] := hl
  refine lv_aload_n hx hb dX8_rulesEver_0 rfl (lv_at hl 0 rfl) ?_
  refine va_get (D := D) (ci := 9) (v := .int X.2.2.2.1) (C := RX8) (T := TX8) (N := 6) hx hb hg in_X8 hown hK hP 0 rfl rfl 3 (by decide) (hg _ g_60) (fun _ h9 => h9) rfl dX8_rulesEver_1 ?_
  exact W.iret (v := X.2.2.2.1) hx hb hr (fun t9 ht hW => ⟨⟨X.2.2.2.1, wD g X, rfl, ⟨rfl, rfl⟩, by rw [ht]; exact hP, va_K.moved hW.alike hK, hD⟩, hS.F ht⟩) hS.2.2 dX8_rulesEver_4

def fX8_heavyEverR (X : DD)  : Int32 := X.2.2.2.2.1
set_option maxHeartbeats 4000000 in
set_option maxRecDepth 100000 in
theorem c_X8_heavyEver (l : Launch) (D : va_G) (g : GA) (X : DD)  : ctI l D (tyA g) yX8_heavyEver (wd yX8_heavyEver cX8_heavyEver 1 (Option.some Jvm.ClassFile.FieldType.int)) { frames := 0, cells := 0, slots := 0, locals := 0 } [.ref g.dn] (wD g X) (fun r w => r = fX8_heavyEverR X ∧ w = wD g X) := by
  intro sz
  refine Met.ofW (cc := cX8_heavyEver) (maxL := 1) (ret := (Option.some Jvm.ClassFile.FieldType.int)) (by decide) rfl ?_
  intro p e s m args below meth c s₁ B hml hv
  obtain ⟨rfl, hsz, hP, hK, hD0⟩ := hv
  have hx := B.exec
  have hb := B.bytes
  have hr := B.returns
  have hts := atoms_spec (ws := (wd yX8_heavyEver cX8_heavyEver 1 (Option.some Jvm.ClassFile.FieldType.int))) B.pre
  have hg := Tb.of hts
  have hown : s.vm.findClass RX8 = some m.cls := findClass_of_methodNamed B.named
  have hlocks := B.notSynchronized
  subst hsz
  have hD := hD0.self (sz := s.heap.size)
  generalize hAe : va_A (wD g X) s.heap.size = A at hD ⊢
  have hA : ∀ q : Nat, s.heap.size ≤ q → A q := fun q h => by rw [← hAe]; exact Or.inr h
  have hS : va_S A s.heap s.heap [] := va_S.rf
  have hP : va_P D vwCl (wD g X) s.heap := hP
  have hl := lv_entry ([.ref g.dn]) (n := 1) (Nat.le_of_ble_eq_true rfl)
  rw [lg_entry_eq]
  generalize (lg_sl ([.ref g.dn]) ++ List.replicate (1 - (lg_sl ([.ref g.dn])).length) Slot.unset).toArray = ls at hl ⊢
  have hl : lv_has ls 1 [(0, .ref g.dn)] := hl
  refine lv_aload_n hx hb dX8_heavyEver_0 rfl (lv_at hl 0 rfl) ?_
  refine va_get (D := D) (ci := 9) (v := .int X.2.2.2.2.1) (C := RX8) (T := TX8) (N := 6) hx hb hg in_X8 hown hK hP 0 rfl rfl 4 (by decide) (hg _ g_61) (fun _ h9 => h9) rfl dX8_heavyEver_1 ?_
  exact W.iret (v := X.2.2.2.2.1) hx hb hr (fun t9 ht hW => ⟨⟨X.2.2.2.2.1, wD g X, rfl, ⟨rfl, rfl⟩, by rw [ht]; exact hP, va_K.moved hW.alike hK, hD⟩, hS.F ht⟩) hS.2.2 dX8_heavyEver_4

def fX8_nothingEverR (X : DD)  : Int32 := X.2.2.2.2.2
set_option maxHeartbeats 4000000 in
set_option maxRecDepth 100000 in
theorem c_X8_nothingEver (l : Launch) (D : va_G) (g : GA) (X : DD)  : ctI l D (tyA g) yX8_nothingEver (wd yX8_nothingEver cX8_nothingEver 1 (Option.some Jvm.ClassFile.FieldType.int)) { frames := 0, cells := 0, slots := 0, locals := 0 } [.ref g.dn] (wD g X) (fun r w => r = fX8_nothingEverR X ∧ w = wD g X) := by
  intro sz
  refine Met.ofW (cc := cX8_nothingEver) (maxL := 1) (ret := (Option.some Jvm.ClassFile.FieldType.int)) (by decide) rfl ?_
  intro p e s m args below meth c s₁ B hml hv
  obtain ⟨rfl, hsz, hP, hK, hD0⟩ := hv
  have hx := B.exec
  have hb := B.bytes
  have hr := B.returns
  have hts := atoms_spec (ws := (wd yX8_nothingEver cX8_nothingEver 1 (Option.some Jvm.ClassFile.FieldType.int))) B.pre
  have hg := Tb.of hts
  have hown : s.vm.findClass RX8 = some m.cls := findClass_of_methodNamed B.named
  have hlocks := B.notSynchronized
  subst hsz
  have hD := hD0.self (sz := s.heap.size)
  generalize hAe : va_A (wD g X) s.heap.size = A at hD ⊢
  have hA : ∀ q : Nat, s.heap.size ≤ q → A q := fun q h => by rw [← hAe]; exact Or.inr h
  have hS : va_S A s.heap s.heap [] := va_S.rf
  have hP : va_P D vwCl (wD g X) s.heap := hP
  have hl := lv_entry ([.ref g.dn]) (n := 1) (Nat.le_of_ble_eq_true rfl)
  rw [lg_entry_eq]
  generalize (lg_sl ([.ref g.dn]) ++ List.replicate (1 - (lg_sl ([.ref g.dn])).length) Slot.unset).toArray = ls at hl ⊢
  have hl : lv_has ls 1 [(0, .ref g.dn)] := hl
  refine lv_aload_n hx hb dX8_nothingEver_0 rfl (lv_at hl 0 rfl) ?_
  refine va_get (D := D) (ci := 9) (v := .int X.2.2.2.2.2) (C := RX8) (T := TX8) (N := 6) hx hb hg in_X8 hown hK hP 0 rfl rfl 5 (by decide) (hg _ g_62) (fun _ h9 => h9) rfl dX8_nothingEver_1 ?_
  exact W.iret (v := X.2.2.2.2.2) hx hb hr (fun t9 ht hW => ⟨⟨X.2.2.2.2.2, wD g X, rfl, ⟨rfl, rfl⟩, by rw [ht]; exact hP, va_K.moved hW.alike hK, hD⟩, hS.F ht⟩) hS.2.2 dX8_nothingEver_4
