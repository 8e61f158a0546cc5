/-! the reference: one object with ten arrays -/
/-- int[], boolean[]; the object; lengths, weights, wet, lies, kinds, caps, limits, many, rows, trace -/
abbrev MA : Type := ClassId × ClassId × Nat × Nat × Nat × Nat × Nat × Nat × Nat × Nat × Nat × Nat × Nat
abbrev MA.cI (g : MA) : ClassId := g.1
abbrev MA.cZ (g : MA) : ClassId := g.2.1
abbrev MA.mo (g : MA) : Nat := g.2.2.1
abbrev MA.al (g : MA) : Nat := g.2.2.2.1
abbrev MA.aw (g : MA) : Nat := g.2.2.2.2.1
abbrev MA.az (g : MA) : Nat := g.2.2.2.2.2.1
abbrev MA.ap (g : MA) : Nat := g.2.2.2.2.2.2.1
abbrev MA.ak (g : MA) : Nat := g.2.2.2.2.2.2.2.1
abbrev MA.ac (g : MA) : Nat := g.2.2.2.2.2.2.2.2.1
abbrev MA.am (g : MA) : Nat := g.2.2.2.2.2.2.2.2.2.1
abbrev MA.an (g : MA) : Nat := g.2.2.2.2.2.2.2.2.2.2.1
abbrev MA.ar (g : MA) : Nat := g.2.2.2.2.2.2.2.2.2.2.2.1
abbrev MA.at (g : MA) : Nat := g.2.2.2.2.2.2.2.2.2.2.2.2
/-- code, timbers, lengths, weights, wet, lies, piles, kinds, caps, limits, many, rows, trace, done, heavies, nothings, ended -/
abbrev MM : Type := Int32 × Int32 × FN × FN × FN × FN × Int32 × FN × FN × FN × FN × FN × FN × Int32 × Int32 × Int32 × Int32
abbrev tyM (g : MA) : List (ClassId × FieldType) := [(g.cI, .int), (g.cZ, .boolean)]
abbrev wM (g : MA) (M : MM) : va_W := [(g.mo, .inr (12, [.int M.1, .int M.2.1, .ref g.al, .ref g.aw, .ref g.az, .ref g.ap, .int M.2.2.2.2.2.2.1, .ref g.ak, .ref g.ac, .ref g.am, .ref g.an, .ref g.ar, .ref g.at, .int M.2.2.2.2.2.2.2.2.2.2.2.2.2.1, .int M.2.2.2.2.2.2.2.2.2.2.2.2.2.2.1, .int M.2.2.2.2.2.2.2.2.2.2.2.2.2.2.2.1, .int M.2.2.2.2.2.2.2.2.2.2.2.2.2.2.2.2])), (g.al, .inl (g.cI, 60, .inl M.2.2.1)), (g.aw, .inl (g.cI, 60, .inl M.2.2.2.1)), (g.az, .inl (g.cZ, 60, .inl M.2.2.2.2.1)), (g.ap, .inl (g.cI, 60, .inl M.2.2.2.2.2.1)), (g.ak, .inl (g.cI, 12, .inl M.2.2.2.2.2.2.2.1)), (g.ac, .inl (g.cI, 12, .inl M.2.2.2.2.2.2.2.2.1)), (g.am, .inl (g.cI, 12, .inl M.2.2.2.2.2.2.2.2.2.1)), (g.an, .inl (g.cI, 12, .inl M.2.2.2.2.2.2.2.2.2.2.1)), (g.ar, .inl (g.cI, 144, .inl M.2.2.2.2.2.2.2.2.2.2.2.1)), (g.at, .inl (g.cI, 200, .inl M.2.2.2.2.2.2.2.2.2.2.2.2.1))]
theorem sw_ne {x v : Int32} {k : Int} (h : ¬ x = v) (e : v.toInt = k) : ¬ x.toInt = k := fun q => h (Int32.toInt_inj.mp (q.trans e.symm))
theorem lp_dn2 {a b : Int32} {n : Nat} (h : ¬ a ≤ b) (hn : (a.toInt - b.toInt).toNat < n + 1) : ((a + (-1)).toInt - b.toInt).toNat < n := by
  rw [Int32.le_iff_toInt_le] at h
  have h1 := Int32.toInt_lt a
  have h2 := Int32.le_toInt b
  have e : (a + (-1)).toInt = a.toInt - 1 := by
    rw [Int32.toInt_add, show (-1 : Int32).toInt = -1 from rfl]
    exact Int.bmod_eq_of_le (by omega) (by omega)
  rw [e]
  omega
def fX11_thrownR (M : MM)  : Int32 := M.1
def fX11_thrownK (M : MM)  : Prop := True
set_option maxHeartbeats 4000000 in
set_option maxRecDepth 100000 in
theorem c_X11_thrown (l : Launch) (D : va_G) (g : MA) (M : MM)  (hk : fX11_thrownK M) : ctI l D (tyM g) yX11_thrown (wd yX11_thrown cX11_thrown 1 (Option.some Jvm.ClassFile.FieldType.int)) { frames := 0, cells := 0, slots := 0, locals := 0 } [.ref g.mo] (wM g M) (fun r w => r = fX11_thrownR M ∧ w = wM g M) := by
  intro sz
  refine Met.ofW (cc := cX11_thrown) (maxL := 1) (ret := (Option.some Jvm.ClassFile.FieldType.int)) (by decide) rfl ?_
  intro p e s m args below meth c s₁ B hml hv
  obtain ⟨rfl, hsz, hP, hK, hD0⟩ := hv
  have hx := B.exec
  have hb := B.bytes
  have hr := B.returns
  have hts := atoms_spec (ws := (wd yX11_thrown cX11_thrown 1 (Option.some Jvm.ClassFile.FieldType.int))) B.pre
  have hg := Tb.of hts
  have hown : s.vm.findClass RX11 = some m.cls := findClass_of_methodNamed B.named
  have hlocks := B.notSynchronized
  subst hsz
  have hD := hD0.self (sz := s.heap.size)
  generalize hAe : va_A (wM g M) s.heap.size = A at hD ⊢
  have hA : ∀ q : Nat, s.heap.size ≤ q → A q := fun q h => by rw [← hAe]; exact Or.inr h
  have hS : va_S A s.heap s.heap [] := va_S.rf
  have hP : va_P D vwCl (wM g M) s.heap := hP
  have hl := lv_entry ([.ref g.mo]) (n := 1) (Nat.le_of_ble_eq_true rfl)
  rw [lg_entry_eq]
  generalize (lg_sl ([.ref g.mo]) ++ List.replicate (1 - (lg_sl ([.ref g.mo])).length) Slot.unset).toArray = ls at hl ⊢
  have hl : lv_has ls 1 [(0, .ref g.mo)] := hl
  unfold fX11_thrownK at hk
  refine lv_aload_n hx hb dX11_thrown_0 rfl (lv_at hl 0 rfl) ?_
  refine va_get (D := D) (ci := 12) (v := .int M.1) (C := RX11) (T := TX11) (N := 17) hx hb hg in_X11 hown hK hP 0 rfl rfl 0 (by decide) (hg _ g_686) (fun _ h9 => h9) rfl dX11_thrown_1 ?_
  exact W.iret (v := M.1) hx hb hr (fun t9 ht hW => ⟨⟨M.1, wM g M, rfl, ⟨rfl, rfl⟩, by rw [ht]; exact hP, va_K.moved hW.alike hK, hD⟩, hS.F ht⟩) hS.2.2 dX11_thrown_4

def fX11_isInR  (v : Int32) (a : Int32) (b : Int32) : Int32 := (if v < a then 0 else (if b < v then 0 else 1))
set_option maxHeartbeats 4000000 in
set_option maxRecDepth 100000 in
theorem c_X11_isIn (l : Launch) (D : va_G) (tys : List (ClassId × FieldType))  (v : Int32) (a : Int32) (b : Int32) : ctI l D (tys) yX11_isIn (wd yX11_isIn cX11_isIn 3 (Option.some Jvm.ClassFile.FieldType.boolean)) { frames := 0, cells := 0, slots := 0, locals := 0 } [.int v, .int a, .int b] (([] : va_W)) (fun r w => r = fX11_isInR v a b ∧ w = ([] : va_W)) := by
  intro sz
  refine Met.ofW (cc := cX11_isIn) (maxL := 3) (ret := (Option.some Jvm.ClassFile.FieldType.boolean)) (by decide) rfl ?_
  intro p e s m args below meth c s₁ B hml hv
  obtain ⟨rfl, hsz, hP, hK, hD0⟩ := hv
  have hx := B.exec
  have hb := B.bytes
  have hr := B.returns
  have hts := atoms_spec (ws := (wd yX11_isIn cX11_isIn 3 (Option.some Jvm.ClassFile.FieldType.boolean))) B.pre
  have hg := Tb.of hts
  have hown : s.vm.findClass RX11 = some m.cls := findClass_of_methodNamed B.named
  have hlocks := B.notSynchronized
  subst hsz
  have hD := hD0.self (sz := s.heap.size)
  generalize hAe : va_A (([] : va_W)) s.heap.size = A at hD ⊢
  have hA : ∀ q : Nat, s.heap.size ≤ q → A q := fun q h => by rw [← hAe]; exact Or.inr h
  have hS : va_S A s.heap s.heap [] := va_S.rf
  have hP : va_P D vwCl (([] : va_W)) s.heap := hP
  have hl := lv_entry ([.int v, .int a, .int b]) (n := 3) (Nat.le_of_ble_eq_true rfl)
  rw [lg_entry_eq]
  generalize (lg_sl ([.int v, .int a, .int b]) ++ List.replicate (3 - (lg_sl ([.int v, .int a, .int b])).length) Slot.unset).toArray = ls at hl ⊢
  have hl : lv_has ls 3 [(0, .int v), (1, .int a), (2, .int b)] := hl
  refine lv_iload_n hx hb dX11_isIn_0 rfl (lv_at hl 0 rfl) ?_
  refine lv_iload_n hx hb dX11_isIn_1 rfl (lv_at hl 1 rfl) ?_
  refine lv_icmp_lt (tgt := 14) hx hb dX11_isIn_2 (by decide) (fun c_1 => ?_) (fun c_1 => ?_)
  · -- v < a
    refine lv_iconst (v := 0) hx hb dX11_isIn_14 (by decide) ?_
    exact W.zret (v := 0) (ty := .boolean) hx hb hr rfl (fun t9 ht hW => ⟨⟨0, ([] : va_W), rfl, ⟨by simp only [fX11_isInR, if_pos c_1], rfl⟩, by rw [ht]; exact hP, va_K.moved hW.alike hK, hD⟩, hS.F ht⟩) hS.2.2 dX11_isIn_15
  · -- not v < a
    refine lv_iload_n hx hb dX11_isIn_5 rfl (lv_at hl 0 rfl) ?_
    refine lv_iload_n hx hb dX11_isIn_6 rfl (lv_at hl 2 rfl) ?_
    refine lv_icmp_gt (tgt := 14) hx hb dX11_isIn_7 (by decide) (fun c_2 => ?_) (fun c_2 => ?_)
    · -- b < v
      refine lv_iconst (v := 0) hx hb dX11_isIn_14 (by decide) ?_
      exact W.zret (v := 0) (ty := .boolean) hx hb hr rfl (fun t9 ht hW => ⟨⟨0, ([] : va_W), rfl, ⟨by simp only [fX11_isInR, if_neg c_1, if_pos c_2], rfl⟩, by rw [ht]; exact hP, va_K.moved hW.alike hK, hD⟩, hS.F ht⟩) hS.2.2 dX11_isIn_15
    · -- not b < v
      refine lv_iconst (v := 1) hx hb dX11_isIn_10 (by decide) ?_
      refine lv_goto (tgt := 15) hx hb dX11_isIn_11 (by decide) ?_
      exact W.zret (v := 1) (ty := .boolean) hx hb hr rfl (fun t9 ht hW => ⟨⟨1, ([] : va_W), rfl, ⟨by simp only [fX11_isInR, if_neg c_1, if_neg c_2], rfl⟩, by rw [ht]; exact hP, va_K.moved hW.alike hK, hD⟩, hS.F ht⟩) hS.2.2 dX11_isIn_15

theorem nb_isIn (v a b : Int32) : narrow .boolean (.int (fX11_isInR v a b)) = .int (fX11_isInR v a b) := by
  have h : fX11_isInR v a b = 0 ∨ fX11_isInR v a b = 1 := by
    unfold fX11_isInR
    (repeat' split) <;> simp
  rcases h with h | h <;> rw [h] <;> rfl
def fX11_isTimberR (M : MM) (tb : Int32) : Int32 := (fX11_isInR tb 0 (M.2.1 - 1))
def fX11_isTimberK (M : MM) (tb : Int32) : Prop := True
set_option maxHeartbeats 4000000 in
set_option maxRecDepth 100000 in
theorem c_X11_isTimber (l : Launch) (D : va_G) (g : MA) (M : MM) (tb : Int32) (hk : fX11_isTimberK M tb) : ctI l D (tyM g) yX11_isTimber (wd yX11_isTimber cX11_isTimber 2 (Option.some Jvm.ClassFile.FieldType.boolean)) { frames := 1, cells := 0, slots := 0, locals := 22 } [.ref g.mo, .int tb] (wM g M) (fun r w => r = fX11_isTimberR M tb ∧ w = wM g M) := by
  intro sz
  refine Met.ofW (cc := cX11_isTimber) (maxL := 2) (ret := (Option.some Jvm.ClassFile.FieldType.boolean)) (by decide) rfl ?_
  intro p e s m args below meth c s₁ B hml hv
  obtain ⟨rfl, hsz, hP, hK, hD0⟩ := hv
  have hx := B.exec
  have hb := B.bytes
  have hr := B.returns
  have hts := atoms_spec (ws := (wd yX11_isTimber cX11_isTimber 2 (Option.some Jvm.ClassFile.FieldType.boolean))) B.pre
  have hg := Tb.of hts
  have hown : s.vm.findClass RX11 = some m.cls := findClass_of_methodNamed B.named
  have hlocks := B.notSynchronized
  subst hsz
  have hD := hD0.self (sz := s.heap.size)
  generalize hAe : va_A (wM g M) s.heap.size = A at hD ⊢
  have hA : ∀ q : Nat, s.heap.size ≤ q → A q := fun q h => by rw [← hAe]; exact Or.inr h
  have hS : va_S A s.heap s.heap [] := va_S.rf
  have hP : va_P D vwCl (wM g M) s.heap := hP
  have hl := lv_entry ([.ref g.mo, .int tb]) (n := 2) (Nat.le_of_ble_eq_true rfl)
  rw [lg_entry_eq]
  generalize (lg_sl ([.ref g.mo, .int tb]) ++ List.replicate (2 - (lg_sl ([.ref g.mo, .int tb])).length) Slot.unset).toArray = ls at hl ⊢
  have hl : lv_has ls 2 [(0, .ref g.mo), (1, .int tb)] := hl
  unfold fX11_isTimberK at hk
  refine lv_iload_n hx hb dX11_isTimber_0 rfl (lv_at hl 1 rfl) ?_
  refine lv_iconst (v := 0) hx hb dX11_isTimber_1 (by decide) ?_
  refine lv_aload_n hx hb dX11_isTimber_2 rfl (lv_at hl 0 rfl) ?_
  refine va_get (D := D) (ci := 12) (v := .int M.2.1) (C := RX11) (T := TX11) (N := 17) hx hb hg in_X11 hown hK hP 0 rfl rfl 1 (by decide) (hg _ g_687) (fun _ h9 => h9) rfl dX11_isTimber_3 ?_
  refine lv_iconst (v := 1) hx hb dX11_isTimber_6 (by decide) ?_
  refine lv_isub hx hb dX11_isTimber_7 ?_
  refine z_ie (va_runS (As := [.int tb, .int 0, .int (M.2.1 - 1)]) (rest := []) ⟨hx, hb, hml, hown, hts⟩ (c_X11_isIn l D (tyM g) tb 0 (M.2.1 - 1) _) (z_St 3 hts g_748 g_4 g_746 g_747 ⟨by decide, by decide, by decide +kernel⟩ ⟨Nat.le_of_ble_eq_true rfl, Nat.le_of_ble_eq_true rfl⟩) (z_preS (hP.subm [] rfl) (hD.sub [] (by decide) rfl) hK) rfl rfl hl.1 rfl (lv_room (Nat.le_of_ble_eq_true rfl)) dX11_isTimber_8 ⟨Nat.le_of_ble_eq_true rfl, Nat.le_of_ble_eq_true rfl⟩) hP hD hS hA (wM g M) (wM g M) [] [0, 1, 2, 3, 4, 5, 6, 7, 8, 9, 10] [0, 1, 2, 3, 4, 5, 6, 7, 8, 9, 10] rfl rfl (by decide) (by decide) rfl (by decide) (fun H locs hP hD hS => ?_)
  exact W.zret (v := (fX11_isInR tb 0 (M.2.1 - 1))) (ty := .boolean) hx hb hr (nb_isIn _ _ _) (fun t9 ht hW => ⟨⟨(fX11_isInR tb 0 (M.2.1 - 1)), wM g M, rfl, ⟨rfl, rfl⟩, by rw [ht]; exact hP, va_K.moved hW.alike hK, hD⟩, hS.F ht⟩) hS.2.2 dX11_isTimber_11

def fX11_isPileR (M : MM) (pl : Int32) : Int32 := (fX11_isInR pl 0 (M.2.2.2.2.2.2.1 - 1))
def fX11_isPileK (M : MM) (pl : Int32) : Prop := True
set_option maxHeartbeats 4000000 in
set_option maxRecDepth 100000 in
theorem c_X11_isPile (l : Launch) (D : va_G) (g : MA) (M : MM) (pl : Int32) (hk : fX11_isPileK M pl) : ctI l D (tyM g) yX11_isPile (wd yX11_isPile cX11_isPile 2 (Option.some Jvm.ClassFile.FieldType.boolean)) { frames := 1, cells := 0, slots := 0, locals := 22 } [.ref g.mo, .int pl] (wM g M) (fun r w => r = fX11_isPileR M pl ∧ w = wM g M) := by
  intro sz
  refine Met.ofW (cc := cX11_isPile) (maxL := 2) (ret := (Option.some Jvm.ClassFile.FieldType.boolean)) (by decide) rfl ?_
  intro p e s m args below meth c s₁ B hml hv
  obtain ⟨rfl, hsz, hP, hK, hD0⟩ := hv
  have hx := B.exec
  have hb := B.bytes
  have hr := B.returns
  have hts := atoms_spec (ws := (wd yX11_isPile cX11_isPile 2 (Option.some Jvm.ClassFile.FieldType.boolean))) B.pre
  have hg := Tb.of hts
  have hown : s.vm.findClass RX11 = some m.cls := findClass_of_methodNamed B.named
  have hlocks := B.notSynchronized
  subst hsz
  have hD := hD0.self (sz := s.heap.size)
  generalize hAe : va_A (wM g M) s.heap.size = A at hD ⊢
  have hA : ∀ q : Nat, s.heap.size ≤ q → A q := fun q h => by rw [← hAe]; exact Or.inr h
  have hS : va_S A s.heap s.heap [] := va_S.rf
  have hP : va_P D vwCl (wM g M) s.heap := hP
  have hl := lv_entry ([.ref g.mo, .int pl]) (n := 2) (Nat.le_of_ble_eq_true rfl)
  rw [lg_entry_eq]
  generalize (lg_sl ([.ref g.mo, .int pl]) ++ List.replicate (2 - (lg_sl ([.ref g.mo, .int pl])).length) Slot.unset).toArray = ls at hl ⊢
  have hl : lv_has ls 2 [(0, .ref g.mo), (1, .int pl)] := hl
  unfold fX11_isPileK at hk
  refine lv_iload_n hx hb dX11_isPile_0 rfl (lv_at hl 1 rfl) ?_
  refine lv_iconst (v := 0) hx hb dX11_isPile_1 (by decide) ?_
  refine lv_aload_n hx hb dX11_isPile_2 rfl (lv_at hl 0 rfl) ?_
  refine va_get (D := D) (ci := 12) (v := .int M.2.2.2.2.2.2.1) (C := RX11) (T := TX11) (N := 17) hx hb hg in_X11 hown hK hP 0 rfl rfl 6 (by decide) (hg _ g_692) (fun _ h9 => h9) rfl dX11_isPile_3 ?_
  refine lv_iconst (v := 1) hx hb dX11_isPile_6 (by decide) ?_
  refine lv_isub hx hb dX11_isPile_7 ?_
  refine z_ie (va_runS (As := [.int pl, .int 0, .int (M.2.2.2.2.2.2.1 - 1)]) (rest := []) ⟨hx, hb, hml, hown, hts⟩ (c_X11_isIn l D (tyM g) pl 0 (M.2.2.2.2.2.2.1 - 1) _) (z_St 3 hts g_748 g_4 g_746 g_747 ⟨by decide, by decide, by decide +kernel⟩ ⟨Nat.le_of_ble_eq_true rfl, Nat.le_of_ble_eq_true rfl⟩) (z_preS (hP.subm [] rfl) (hD.sub [] (by decide) rfl) hK) rfl rfl hl.1 rfl (lv_room (Nat.le_of_ble_eq_true rfl)) dX11_isPile_8 ⟨Nat.le_of_ble_eq_true rfl, Nat.le_of_ble_eq_true rfl⟩) hP hD hS hA (wM g M) (wM g M) [] [0, 1, 2, 3, 4, 5, 6, 7, 8, 9, 10] [0, 1, 2, 3, 4, 5, 6, 7, 8, 9, 10] rfl rfl (by decide) (by decide) rfl (by decide) (fun H locs hP hD hS => ?_)
  exact W.zret (v := (fX11_isInR pl 0 (M.2.2.2.2.2.2.1 - 1))) (ty := .boolean) hx hb hr (nb_isIn _ _ _) (fun t9 ht hW => ⟨⟨(fX11_isInR pl 0 (M.2.2.2.2.2.2.1 - 1)), wM g M, rfl, ⟨rfl, rfl⟩, by rw [ht]; exact hP, va_K.moved hW.alike hK, hD⟩, hS.F ht⟩) hS.2.2 dX11_isPile_11

def fX11_ruleS (M : MM) (a : Int32) (k : Int32) : MM := (M.1, M.2.1, M.2.2.1, M.2.2.2.1, M.2.2.2.2.1, M.2.2.2.2.2.1, M.2.2.2.2.2.2.1, M.2.2.2.2.2.2.2.1, M.2.2.2.2.2.2.2.2.1, M.2.2.2.2.2.2.2.2.2.1, M.2.2.2.2.2.2.2.2.2.2.1, M.2.2.2.2.2.2.2.2.2.2.2.1, upd M.2.2.2.2.2.2.2.2.2.2.2.2.1 (M.2.2.2.2.2.2.2.2.2.2.2.2.2.1 - M.2.2.2.2.2.2.2.2.2.2.2.2.2.1 / 200 * 200).toNatClampNeg ((10 * a) + k), (M.2.2.2.2.2.2.2.2.2.2.2.2.2.1 + 1), M.2.2.2.2.2.2.2.2.2.2.2.2.2.2.1, M.2.2.2.2.2.2.2.2.2.2.2.2.2.2.2.1, M.2.2.2.2.2.2.2.2.2.2.2.2.2.2.2.2)
def fX11_ruleK (M : MM) (a : Int32) (k : Int32) : Prop := (vp_in (M.2.2.2.2.2.2.2.2.2.2.2.2.2.1 - M.2.2.2.2.2.2.2.2.2.2.2.2.2.1 / 200 * 200) 200 ∧ True)
set_option maxHeartbeats 4000000 in
set_option maxRecDepth 100000 in
theorem c_X11_rule (l : Launch) (D : va_G) (g : MA) (M : MM) (a : Int32) (k : Int32) (hk : fX11_ruleK M a k) : ctV l D (tyM g) yX11_rule (wd yX11_rule cX11_rule 3 (Option.none : Option Jvm.ClassFile.FieldType)) { frames := 0, cells := 0, slots := 0, locals := 0 } [.ref g.mo, .int a, .int k] (wM g M) (fun w => w = wM g (fX11_ruleS M a k)) := by
  intro sz
  refine Met.ofW (cc := cX11_rule) (maxL := 3) (ret := (Option.none : Option Jvm.ClassFile.FieldType)) (by decide) rfl ?_
  intro p e s m args below meth c s₁ B hml hv
  obtain ⟨rfl, hsz, hP, hK, hD0⟩ := hv
  have hx := B.exec
  have hb := B.bytes
  have hr := B.returns
  have hts := atoms_spec (ws := (wd yX11_rule cX11_rule 3 (Option.none : Option Jvm.ClassFile.FieldType))) B.pre
  have hg := Tb.of hts
  have hown : s.vm.findClass RX11 = some m.cls := findClass_of_methodNamed B.named
  have hlocks := B.notSynchronized
  subst hsz
  have hD := hD0.self (sz := s.heap.size)
  generalize hAe : va_A (wM g M) s.heap.size = A at hD ⊢
  have hA : ∀ q : Nat, s.heap.size ≤ q → A q := fun q h => by rw [← hAe]; exact Or.inr h
  have hS : va_S A s.heap s.heap [] := va_S.rf
  have hP : va_P D vwCl (wM g M) s.heap := hP
  have hl := lv_entry ([.ref g.mo, .int a, .int k]) (n := 3) (Nat.le_of_ble_eq_true rfl)
  rw [lg_entry_eq]
  generalize (lg_sl ([.ref g.mo, .int a, .int k]) ++ List.replicate (3 - (lg_sl ([.ref g.mo, .int a, .int k])).length) Slot.unset).toArray = ls at hl ⊢
  have hl : lv_has ls 3 [(0, .ref g.mo), (1, .int a), (2, .int k)] := hl
  unfold fX11_ruleK at hk
  refine lv_aload_n hx hb dX11_rule_0 rfl (lv_at hl 0 rfl) ?_
  refine va_get (D := D) (ci := 12) (v := .ref g.at) (C := RX11) (T := TX11) (N := 17) hx hb hg in_X11 hown hK hP 0 rfl rfl 12 (by decide) (hg _ g_698) (fun _ h9 => h9) rfl dX11_rule_1 ?_
  refine lv_aload_n hx hb dX11_rule_4 rfl (lv_at hl 0 rfl) ?_
  refine va_get (D := D) (ci := 12) (v := .int M.2.2.2.2.2.2.2.2.2.2.2.2.2.1) (C := RX11) (T := TX11) (N := 17) hx hb hg in_X11 hown hK hP 0 rfl rfl 13 (by decide) (hg _ g_699) (fun _ h9 => h9) rfl dX11_rule_5 ?_
  refine lv_sipush (v := 200) hx hb dX11_rule_8 (by decide) ?_
  refine lv_irem hx hb dX11_rule_11 (by decide) ?_
  refine lv_bipush (v := 10) hx hb dX11_rule_12 (by decide) ?_
  refine lv_iload_n hx hb dX11_rule_14 rfl (lv_at hl 1 rfl) ?_
  refine lv_imul hx hb dX11_rule_15 ?_
  refine lv_iload_n hx hb dX11_rule_16 rfl (lv_at hl 2 rfl) ?_
  refine lv_iadd hx hb dX11_rule_17 ?_
  obtain ⟨hb_1, hk⟩ := hk
  refine va_iast hx hb hK hP hD hS 10 0 rfl rfl (hb_1) dX11_rule_18 (fun H locs hP hD hS => ?_)
  have hP : va_P D vwCl (wM g (M.1, M.2.1, M.2.2.1, M.2.2.2.1, M.2.2.2.2.1, M.2.2.2.2.2.1, M.2.2.2.2.2.2.1, M.2.2.2.2.2.2.2.1, M.2.2.2.2.2.2.2.2.1, M.2.2.2.2.2.2.2.2.2.1, M.2.2.2.2.2.2.2.2.2.2.1, M.2.2.2.2.2.2.2.2.2.2.2.1, upd M.2.2.2.2.2.2.2.2.2.2.2.2.1 (M.2.2.2.2.2.2.2.2.2.2.2.2.2.1 - M.2.2.2.2.2.2.2.2.2.2.2.2.2.1 / 200 * 200).toNatClampNeg ((10 * a) + k), M.2.2.2.2.2.2.2.2.2.2.2.2.2.1, M.2.2.2.2.2.2.2.2.2.2.2.2.2.2.1, M.2.2.2.2.2.2.2.2.2.2.2.2.2.2.2.1, M.2.2.2.2.2.2.2.2.2.2.2.2.2.2.2.2)) H := hP
  have hD : va_D A (wM g (M.1, M.2.1, M.2.2.1, M.2.2.2.1, M.2.2.2.2.1, M.2.2.2.2.2.1, M.2.2.2.2.2.2.1, M.2.2.2.2.2.2.2.1, M.2.2.2.2.2.2.2.2.1, M.2.2.2.2.2.2.2.2.2.1, M.2.2.2.2.2.2.2.2.2.2.1, M.2.2.2.2.2.2.2.2.2.2.2.1, upd M.2.2.2.2.2.2.2.2.2.2.2.2.1 (M.2.2.2.2.2.2.2.2.2.2.2.2.2.1 - M.2.2.2.2.2.2.2.2.2.2.2.2.2.1 / 200 * 200).toNatClampNeg ((10 * a) + k), M.2.2.2.2.2.2.2.2.2.2.2.2.2.1, M.2.2.2.2.2.2.2.2.2.2.2.2.2.2.1, M.2.2.2.2.2.2.2.2.2.2.2.2.2.2.2.1, M.2.2.2.2.2.2.2.2.2.2.2.2.2.2.2.2)) := hD
  refine lv_aload_n hx hb dX11_rule_19 rfl (lv_at hl 0 rfl) ?_
  refine lv_dup hx hb dX11_rule_20 rfl ?_
  refine va_get (D := D) (ci := 12) (v := .int M.2.2.2.2.2.2.2.2.2.2.2.2.2.1) (C := RX11) (T := TX11) (N := 17) hx hb hg in_X11 hown hK hP 0 rfl rfl 13 (by decide) (hg _ g_699) (fun _ h9 => h9) rfl dX11_rule_21 ?_
  refine lv_iconst (v := 1) hx hb dX11_rule_24 (by decide) ?_
  refine lv_iadd hx hb dX11_rule_25 ?_
  refine va_put (D := D) (ci := 12) (v := .int (M.2.2.2.2.2.2.2.2.2.2.2.2.2.1 + 1)) (ty := .int) (C := RX11) (T := TX11) (N := 17) hx hb hg in_X11 tyX11 tyX11_ok nmX11 hown hK hP hD hS 0 rfl rfl 13 (by decide) (hg _ g_699) (fun _ h9 => h9) rfl (by decide +kernel) rfl rfl (Nat.le_of_ble_eq_true rfl) dX11_rule_26 (fun H locs hP hD hS => ?_)
  have hP : va_P D vwCl (wM g (M.1, M.2.1, M.2.2.1, M.2.2.2.1, M.2.2.2.2.1, M.2.2.2.2.2.1, M.2.2.2.2.2.2.1, M.2.2.2.2.2.2.2.1, M.2.2.2.2.2.2.2.2.1, M.2.2.2.2.2.2.2.2.2.1, M.2.2.2.2.2.2.2.2.2.2.1, M.2.2.2.2.2.2.2.2.2.2.2.1, upd M.2.2.2.2.2.2.2.2.2.2.2.2.1 (M.2.2.2.2.2.2.2.2.2.2.2.2.2.1 - M.2.2.2.2.2.2.2.2.2.2.2.2.2.1 / 200 * 200).toNatClampNeg ((10 * a) + k), (M.2.2.2.2.2.2.2.2.2.2.2.2.2.1 + 1), M.2.2.2.2.2.2.2.2.2.2.2.2.2.2.1, M.2.2.2.2.2.2.2.2.2.2.2.2.2.2.2.1, M.2.2.2.2.2.2.2.2.2.2.2.2.2.2.2.2)) H := hP
  have hD : va_D A (wM g (M.1, M.2.1, M.2.2.1, M.2.2.2.1, M.2.2.2.2.1, M.2.2.2.2.2.1, M.2.2.2.2.2.2.1, M.2.2.2.2.2.2.2.1, M.2.2.2.2.2.2.2.2.1, M.2.2.2.2.2.2.2.2.2.1, M.2.2.2.2.2.2.2.2.2.2.1, M.2.2.2.2.2.2.2.2.2.2.2.1, upd M.2.2.2.2.2.2.2.2.2.2.2.2.1 (M.2.2.2.2.2.2.2.2.2.2.2.2.2.1 - M.2.2.2.2.2.2.2.2.2.2.2.2.2.1 / 200 * 200).toNatClampNeg ((10 * a) + k), (M.2.2.2.2.2.2.2.2.2.2.2.2.2.1 + 1), M.2.2.2.2.2.2.2.2.2.2.2.2.2.2.1, M.2.2.2.2.2.2.2.2.2.2.2.2.2.2.2.1, M.2.2.2.2.2.2.2.2.2.2.2.2.2.2.2.2)) := hD
  exact W.vret hx hb hr (fun t9 ht hW => ⟨⟨wM g (M.1, M.2.1, M.2.2.1, M.2.2.2.1, M.2.2.2.2.1, M.2.2.2.2.2.1, M.2.2.2.2.2.2.1, M.2.2.2.2.2.2.2.1, M.2.2.2.2.2.2.2.2.1, M.2.2.2.2.2.2.2.2.2.1, M.2.2.2.2.2.2.2.2.2.2.1, M.2.2.2.2.2.2.2.2.2.2.2.1, upd M.2.2.2.2.2.2.2.2.2.2.2.2.1 (M.2.2.2.2.2.2.2.2.2.2.2.2.2.1 - M.2.2.2.2.2.2.2.2.2.2.2.2.2.1 / 200 * 200).toNatClampNeg ((10 * a) + k), (M.2.2.2.2.2.2.2.2.2.2.2.2.2.1 + 1), M.2.2.2.2.2.2.2.2.2.2.2.2.2.2.1, M.2.2.2.2.2.2.2.2.2.2.2.2.2.2.2.1, M.2.2.2.2.2.2.2.2.2.2.2.2.2.2.2.2), rfl, rfl, by rw [ht]; exact hP, va_K.moved hW.alike hK, hD⟩, hS.F ht⟩) hS.2.2 dX11_rule_29

def fX11_timberR (M : MM) (a : Int32) (b : Int32) (z : Int32) : Int32 := (if (fX11_isInR a 1 1000) = 0 then (-102) else (if (fX11_isInR b 1 1000) = 0 then (-102) else (if M.2.1 = 60 then (-104) else ((M.2.1 + 1) - 1))))
def fX11_timberS (M : MM) (a : Int32) (b : Int32) (z : Int32) : MM := (if (fX11_isInR a 1 1000) = 0 then (0, M.2.1, M.2.2.1, M.2.2.2.1, M.2.2.2.2.1, M.2.2.2.2.2.1, M.2.2.2.2.2.2.1, M.2.2.2.2.2.2.2.1, M.2.2.2.2.2.2.2.2.1, M.2.2.2.2.2.2.2.2.2.1, M.2.2.2.2.2.2.2.2.2.2.1, M.2.2.2.2.2.2.2.2.2.2.2.1, M.2.2.2.2.2.2.2.2.2.2.2.2.1, M.2.2.2.2.2.2.2.2.2.2.2.2.2.1, M.2.2.2.2.2.2.2.2.2.2.2.2.2.2.1, M.2.2.2.2.2.2.2.2.2.2.2.2.2.2.2.1, M.2.2.2.2.2.2.2.2.2.2.2.2.2.2.2.2) else (if (fX11_isInR b 1 1000) = 0 then (0, M.2.1, M.2.2.1, M.2.2.2.1, M.2.2.2.2.1, M.2.2.2.2.2.1, M.2.2.2.2.2.2.1, M.2.2.2.2.2.2.2.1, M.2.2.2.2.2.2.2.2.1, M.2.2.2.2.2.2.2.2.2.1, M.2.2.2.2.2.2.2.2.2.2.1, M.2.2.2.2.2.2.2.2.2.2.2.1, M.2.2.2.2.2.2.2.2.2.2.2.2.1, M.2.2.2.2.2.2.2.2.2.2.2.2.2.1, M.2.2.2.2.2.2.2.2.2.2.2.2.2.2.1, M.2.2.2.2.2.2.2.2.2.2.2.2.2.2.2.1, M.2.2.2.2.2.2.2.2.2.2.2.2.2.2.2.2) else (if M.2.1 = 60 then (0, M.2.1, M.2.2.1, M.2.2.2.1, M.2.2.2.2.1, M.2.2.2.2.2.1, M.2.2.2.2.2.2.1, M.2.2.2.2.2.2.2.1, M.2.2.2.2.2.2.2.2.1, M.2.2.2.2.2.2.2.2.2.1, M.2.2.2.2.2.2.2.2.2.2.1, M.2.2.2.2.2.2.2.2.2.2.2.1, M.2.2.2.2.2.2.2.2.2.2.2.2.1, M.2.2.2.2.2.2.2.2.2.2.2.2.2.1, M.2.2.2.2.2.2.2.2.2.2.2.2.2.2.1, M.2.2.2.2.2.2.2.2.2.2.2.2.2.2.2.1, M.2.2.2.2.2.2.2.2.2.2.2.2.2.2.2.2) else (0, (M.2.1 + 1), upd M.2.2.1 M.2.1.toNatClampNeg a, upd M.2.2.2.1 M.2.1.toNatClampNeg b, upd M.2.2.2.2.1 M.2.1.toNatClampNeg (vp_nar .boolean z), upd M.2.2.2.2.2.1 M.2.1.toNatClampNeg (-1), M.2.2.2.2.2.2.1, M.2.2.2.2.2.2.2.1, M.2.2.2.2.2.2.2.2.1, M.2.2.2.2.2.2.2.2.2.1, M.2.2.2.2.2.2.2.2.2.2.1, M.2.2.2.2.2.2.2.2.2.2.2.1, M.2.2.2.2.2.2.2.2.2.2.2.2.1, M.2.2.2.2.2.2.2.2.2.2.2.2.2.1, M.2.2.2.2.2.2.2.2.2.2.2.2.2.2.1, M.2.2.2.2.2.2.2.2.2.2.2.2.2.2.2.1, M.2.2.2.2.2.2.2.2.2.2.2.2.2.2.2.2))))
def fX11_timberK (M : MM) (a : Int32) (b : Int32) (z : Int32) : Prop := (((fX11_isInR a 1 1000) = 0 → True) ∧ (¬ (fX11_isInR a 1 1000) = 0 → (((fX11_isInR b 1 1000) = 0 → True) ∧ (¬ (fX11_isInR b 1 1000) = 0 → ((M.2.1 = 60 → True) ∧ (¬ M.2.1 = 60 → (vp_in M.2.1 60 ∧ True)))))))
set_option maxHeartbeats 4000000 in
set_option maxRecDepth 100000 in
theorem c_X11_timber (l : Launch) (D : va_G) (g : MA) (M : MM) (a : Int32) (b : Int32) (z : Int32) (hk : fX11_timberK M a b z) : ctI l D (tyM g) yX11_timber (wd yX11_timber cX11_timber 4 (Option.some Jvm.ClassFile.FieldType.int)) { frames := 1, cells := 0, slots := 0, locals := 22 } [.ref g.mo, .int a, .int b, .int z] (wM g M) (fun r w => r = fX11_timberR M a b z ∧ w = wM g (fX11_timberS M a b z)) := by
  intro sz
  refine Met.ofW (cc := cX11_timber) (maxL := 4) (ret := (Option.some Jvm.ClassFile.FieldType.int)) (by decide) rfl ?_
  intro p e s m args below meth c s₁ B hml hv
  obtain ⟨rfl, hsz, hP, hK, hD0⟩ := hv
  have hx := B.exec
  have hb := B.bytes
  have hr := B.returns
  have hts := atoms_spec (ws := (wd yX11_timber cX11_timber 4 (Option.some Jvm.ClassFile.FieldType.int))) B.pre
  have hg := Tb.of hts
  have hown : s.vm.findClass RX11 = some m.cls := findClass_of_methodNamed B.named
  have hlocks := B.notSynchronized
  subst hsz
  have hD := hD0.self (sz := s.heap.size)
  generalize hAe : va_A (wM g M) s.heap.size = A at hD ⊢
  have hA : ∀ q : Nat, s.heap.size ≤ q → A q := fun q h => by rw [← hAe]; exact Or.inr h
  have hS : va_S A s.heap s.heap [] := va_S.rf
  have hP : va_P D vwCl (wM g M) s.heap := hP
  have hl := lv_entry ([.ref g.mo, .int a, .int b, .int z]) (n := 4) (Nat.le_of_ble_eq_true rfl)
  rw [lg_entry_eq]
  generalize (lg_sl ([.ref g.mo, .int a, .int b, .int z]) ++ List.replicate (4 - (lg_sl ([.ref g.mo, .int a, .int b, .int z])).length) Slot.unset).toArray = ls at hl ⊢
  have hl : lv_has ls 4 [(0, .ref g.mo), (1, .int a), (2, .int b), (3, .int z)] := hl
  unfold fX11_timberK at hk
  refine lv_aload_n hx hb dX11_timber_0 rfl (lv_at hl 0 rfl) ?_
  refine lv_iconst (v := 0) hx hb dX11_timber_1 (by decide) ?_
  refine va_put (D := D) (ci := 12) (v := .int 0) (ty := .int) (C := RX11) (T := TX11) (N := 17) hx hb hg in_X11 tyX11 tyX11_ok nmX11 hown hK hP hD hS 0 rfl rfl 0 (by decide) (hg _ g_686) (fun _ h9 => h9) rfl (by decide +kernel) rfl rfl (Nat.le_of_ble_eq_true rfl) dX11_timber_2 (fun H locs hP hD hS => ?_)
  have hP : va_P D vwCl (wM g (0, M.2.1, M.2.2.1, M.2.2.2.1, M.2.2.2.2.1, M.2.2.2.2.2.1, M.2.2.2.2.2.2.1, M.2.2.2.2.2.2.2.1, M.2.2.2.2.2.2.2.2.1, M.2.2.2.2.2.2.2.2.2.1, M.2.2.2.2.2.2.2.2.2.2.1, M.2.2.2.2.2.2.2.2.2.2.2.1, M.2.2.2.2.2.2.2.2.2.2.2.2.1, M.2.2.2.2.2.2.2.2.2.2.2.2.2.1, M.2.2.2.2.2.2.2.2.2.2.2.2.2.2.1, M.2.2.2.2.2.2.2.2.2.2.2.2.2.2.2.1, M.2.2.2.2.2.2.2.2.2.2.2.2.2.2.2.2)) H := hP
  have hD : va_D A (wM g (0, M.2.1, M.2.2.1, M.2.2.2.1, M.2.2.2.2.1, M.2.2.2.2.2.1, M.2.2.2.2.2.2.1, M.2.2.2.2.2.2.2.1, M.2.2.2.2.2.2.2.2.1, M.2.2.2.2.2.2.2.2.2.1, M.2.2.2.2.2.2.2.2.2.2.1, M.2.2.2.2.2.2.2.2.2.2.2.1, M.2.2.2.2.2.2.2.2.2.2.2.2.1, M.2.2.2.2.2.2.2.2.2.2.2.2.2.1, M.2.2.2.2.2.2.2.2.2.2.2.2.2.2.1, M.2.2.2.2.2.2.2.2.2.2.2.2.2.2.2.1, M.2.2.2.2.2.2.2.2.2.2.2.2.2.2.2.2)) := hD
  refine lv_iload_n hx hb dX11_timber_5 rfl (lv_at hl 1 rfl) ?_
  refine lv_iconst (v := 1) hx hb dX11_timber_6 (by decide) ?_
  refine lv_sipush (v := 1000) hx hb dX11_timber_7 (by decide) ?_
  refine z_ie (va_runS (As := [.int a, .int 1, .int 1000]) (rest := []) ⟨hx, hb, hml, hown, hts⟩ (c_X11_isIn l D (tyM g) a 1 1000 _) (z_St 3 hts g_748 g_4 g_746 g_747 ⟨by decide, by decide, by decide +kernel⟩ ⟨Nat.le_of_ble_eq_true rfl, Nat.le_of_ble_eq_true rfl⟩) (z_preS (hP.subm [] rfl) (hD.sub [] (by decide) rfl) hK) rfl rfl hl.1 rfl (lv_room (Nat.le_of_ble_eq_true rfl)) dX11_timber_10 ⟨Nat.le_of_ble_eq_true rfl, Nat.le_of_ble_eq_true rfl⟩) hP hD hS hA (wM g (0, M.2.1, M.2.2.1, M.2.2.2.1, M.2.2.2.2.1, M.2.2.2.2.2.1, M.2.2.2.2.2.2.1, M.2.2.2.2.2.2.2.1, M.2.2.2.2.2.2.2.2.1, M.2.2.2.2.2.2.2.2.2.1, M.2.2.2.2.2.2.2.2.2.2.1, M.2.2.2.2.2.2.2.2.2.2.2.1, M.2.2.2.2.2.2.2.2.2.2.2.2.1, M.2.2.2.2.2.2.2.2.2.2.2.2.2.1, M.2.2.2.2.2.2.2.2.2.2.2.2.2.2.1, M.2.2.2.2.2.2.2.2.2.2.2.2.2.2.2.1, M.2.2.2.2.2.2.2.2.2.2.2.2.2.2.2.2)) (wM g (0, M.2.1, M.2.2.1, M.2.2.2.1, M.2.2.2.2.1, M.2.2.2.2.2.1, M.2.2.2.2.2.2.1, M.2.2.2.2.2.2.2.1, M.2.2.2.2.2.2.2.2.1, M.2.2.2.2.2.2.2.2.2.1, M.2.2.2.2.2.2.2.2.2.2.1, M.2.2.2.2.2.2.2.2.2.2.2.1, M.2.2.2.2.2.2.2.2.2.2.2.2.1, M.2.2.2.2.2.2.2.2.2.2.2.2.2.1, M.2.2.2.2.2.2.2.2.2.2.2.2.2.2.1, M.2.2.2.2.2.2.2.2.2.2.2.2.2.2.2.1, M.2.2.2.2.2.2.2.2.2.2.2.2.2.2.2.2)) [] [0, 1, 2, 3, 4, 5, 6, 7, 8, 9, 10] [0, 1, 2, 3, 4, 5, 6, 7, 8, 9, 10] rfl rfl (by decide) (by decide) rfl (by decide) (fun H locs hP hD hS => ?_)
  refine lv_if_eq (tgt := 27) hx hb dX11_timber_13 (by decide) (fun c_1 => ?_) (fun c_1 => ?_)
  · -- (fX11_isInR a 1 1000) = 0
    have hk := hk.1 c_1
    refine lv_bipush (v := (-102)) hx hb dX11_timber_27 (by decide) ?_
    exact W.iret (v := (-102)) hx hb hr (fun t9 ht hW => ⟨⟨(-102), wM g (0, M.2.1, M.2.2.1, M.2.2.2.1, M.2.2.2.2.1, M.2.2.2.2.2.1, M.2.2.2.2.2.2.1, M.2.2.2.2.2.2.2.1, M.2.2.2.2.2.2.2.2.1, M.2.2.2.2.2.2.2.2.2.1, M.2.2.2.2.2.2.2.2.2.2.1, M.2.2.2.2.2.2.2.2.2.2.2.1, M.2.2.2.2.2.2.2.2.2.2.2.2.1, M.2.2.2.2.2.2.2.2.2.2.2.2.2.1, M.2.2.2.2.2.2.2.2.2.2.2.2.2.2.1, M.2.2.2.2.2.2.2.2.2.2.2.2.2.2.2.1, M.2.2.2.2.2.2.2.2.2.2.2.2.2.2.2.2), rfl, ⟨by simp only [fX11_timberR, if_pos c_1], by simp only [fX11_timberS, if_pos c_1]⟩, by rw [ht]; exact hP, va_K.moved hW.alike hK, hD⟩, hS.F ht⟩) hS.2.2 dX11_timber_29
  · -- not (fX11_isInR a 1 1000) = 0
    have hk := hk.2 c_1
    refine lv_iload_n hx hb dX11_timber_16 rfl (lv_at hl 2 rfl) ?_
    refine lv_iconst (v := 1) hx hb dX11_timber_17 (by decide) ?_
    refine lv_sipush (v := 1000) hx hb dX11_timber_18 (by decide) ?_
    refine z_ie (va_runS (As := [.int b, .int 1, .int 1000]) (rest := []) ⟨hx, hb, hml, hown, hts⟩ (c_X11_isIn l D (tyM g) b 1 1000 _) (z_St 3 hts g_748 g_4 g_746 g_747 ⟨by decide, by decide, by decide +kernel⟩ ⟨Nat.le_of_ble_eq_true rfl, Nat.le_of_ble_eq_true rfl⟩) (z_preS (hP.subm [] rfl) (hD.sub [] (by decide) rfl) hK) rfl rfl hl.1 rfl (lv_room (Nat.le_of_ble_eq_true rfl)) dX11_timber_21 ⟨Nat.le_of_ble_eq_true rfl, Nat.le_of_ble_eq_true rfl⟩) hP hD hS hA (wM g (0, M.2.1, M.2.2.1, M.2.2.2.1, M.2.2.2.2.1, M.2.2.2.2.2.1, M.2.2.2.2.2.2.1, M.2.2.2.2.2.2.2.1, M.2.2.2.2.2.2.2.2.1, M.2.2.2.2.2.2.2.2.2.1, M.2.2.2.2.2.2.2.2.2.2.1, M.2.2.2.2.2.2.2.2.2.2.2.1, M.2.2.2.2.2.2.2.2.2.2.2.2.1, M.2.2.2.2.2.2.2.2.2.2.2.2.2.1, M.2.2.2.2.2.2.2.2.2.2.2.2.2.2.1, M.2.2.2.2.2.2.2.2.2.2.2.2.2.2.2.1, M.2.2.2.2.2.2.2.2.2.2.2.2.2.2.2.2)) (wM g (0, M.2.1, M.2.2.1, M.2.2.2.1, M.2.2.2.2.1, M.2.2.2.2.2.1, M.2.2.2.2.2.2.1, M.2.2.2.2.2.2.2.1, M.2.2.2.2.2.2.2.2.1, M.2.2.2.2.2.2.2.2.2.1, M.2.2.2.2.2.2.2.2.2.2.1, M.2.2.2.2.2.2.2.2.2.2.2.1, M.2.2.2.2.2.2.2.2.2.2.2.2.1, M.2.2.2.2.2.2.2.2.2.2.2.2.2.1, M.2.2.2.2.2.2.2.2.2.2.2.2.2.2.1, M.2.2.2.2.2.2.2.2.2.2.2.2.2.2.2.1, M.2.2.2.2.2.2.2.2.2.2.2.2.2.2.2.2)) [] [0, 1, 2, 3, 4, 5, 6, 7, 8, 9, 10] [0, 1, 2, 3, 4, 5, 6, 7, 8, 9, 10] rfl rfl (by decide) (by decide) rfl (by decide) (fun H locs hP hD hS => ?_)
    refine lv_if_ne (tgt := 30) hx hb dX11_timber_24 (by decide) (fun c_2 => ?_) (fun c_2 => ?_)
    · -- not (fX11_isInR b 1 1000) = 0
      have hk := hk.2 c_2
      refine lv_aload_n hx hb dX11_timber_30 rfl (lv_at hl 0 rfl) ?_
      refine va_get (D := D) (ci := 12) (v := .int M.2.1) (C := RX11) (T := TX11) (N := 17) hx hb hg in_X11 hown hK hP 0 rfl rfl 1 (by decide) (hg _ g_687) (fun _ h9 => h9) rfl dX11_timber_31 ?_
      refine lv_bipush (v := 60) hx hb dX11_timber_34 (by decide) ?_
      refine lv_icmp_ne (tgt := 42) hx hb dX11_timber_36 (by decide) (fun c_3 => ?_) (fun c_3 => ?_)
      · -- not M.2.1 = 60
        have hk := hk.2 c_3
        refine lv_aload_n hx hb dX11_timber_42 rfl (lv_at hl 0 rfl) ?_
        refine va_get (D := D) (ci := 12) (v := .ref g.al) (C := RX11) (T := TX11) (N := 17) hx hb hg in_X11 hown hK hP 0 rfl rfl 2 (by decide) (hg _ g_688) (fun _ h9 => h9) rfl dX11_timber_43 ?_
        refine lv_aload_n hx hb dX11_timber_46 rfl (lv_at hl 0 rfl) ?_
        refine va_get (D := D) (ci := 12) (v := .int M.2.1) (C := RX11) (T := TX11) (N := 17) hx hb hg in_X11 hown hK hP 0 rfl rfl 1 (by decide) (hg _ g_687) (fun _ h9 => h9) rfl dX11_timber_47 ?_
        refine lv_iload_n hx hb dX11_timber_50 rfl (lv_at hl 1 rfl) ?_
        obtain ⟨hb_4, hk⟩ := hk
        refine va_iast hx hb hK hP hD hS 1 0 rfl rfl (hb_4) dX11_timber_51 (fun H locs hP hD hS => ?_)
        have hP : va_P D vwCl (wM g (0, M.2.1, upd M.2.2.1 M.2.1.toNatClampNeg a, M.2.2.2.1, M.2.2.2.2.1, M.2.2.2.2.2.1, M.2.2.2.2.2.2.1, M.2.2.2.2.2.2.2.1, M.2.2.2.2.2.2.2.2.1, M.2.2.2.2.2.2.2.2.2.1, M.2.2.2.2.2.2.2.2.2.2.1, M.2.2.2.2.2.2.2.2.2.2.2.1, M.2.2.2.2.2.2.2.2.2.2.2.2.1, M.2.2.2.2.2.2.2.2.2.2.2.2.2.1, M.2.2.2.2.2.2.2.2.2.2.2.2.2.2.1, M.2.2.2.2.2.2.2.2.2.2.2.2.2.2.2.1, M.2.2.2.2.2.2.2.2.2.2.2.2.2.2.2.2)) H := hP
        have hD : va_D A (wM g (0, M.2.1, upd M.2.2.1 M.2.1.toNatClampNeg a, M.2.2.2.1, M.2.2.2.2.1, M.2.2.2.2.2.1, M.2.2.2.2.2.2.1, M.2.2.2.2.2.2.2.1, M.2.2.2.2.2.2.2.2.1, M.2.2.2.2.2.2.2.2.2.1, M.2.2.2.2.2.2.2.2.2.2.1, M.2.2.2.2.2.2.2.2.2.2.2.1, M.2.2.2.2.2.2.2.2.2.2.2.2.1, M.2.2.2.2.2.2.2.2.2.2.2.2.2.1, M.2.2.2.2.2.2.2.2.2.2.2.2.2.2.1, M.2.2.2.2.2.2.2.2.2.2.2.2.2.2.2.1, M.2.2.2.2.2.2.2.2.2.2.2.2.2.2.2.2)) := hD
        refine lv_aload_n hx hb dX11_timber_52 rfl (lv_at hl 0 rfl) ?_
        refine va_get (D := D) (ci := 12) (v := .ref g.aw) (C := RX11) (T := TX11) (N := 17) hx hb hg in_X11 hown hK hP 0 rfl rfl 3 (by decide) (hg _ g_689) (fun _ h9 => h9) rfl dX11_timber_53 ?_
        refine lv_aload_n hx hb dX11_timber_56 rfl (lv_at hl 0 rfl) ?_
        refine va_get (D := D) (ci := 12) (v := .int M.2.1) (C := RX11) (T := TX11) (N := 17) hx hb hg in_X11 hown hK hP 0 rfl rfl 1 (by decide) (hg _ g_687) (fun _ h9 => h9) rfl dX11_timber_57 ?_
        refine lv_iload_n hx hb dX11_timber_60 rfl (lv_at hl 2 rfl) ?_
        refine va_iast hx hb hK hP hD hS 2 0 rfl rfl (hb_4) dX11_timber_61 (fun H locs hP hD hS => ?_)
        have hP : va_P D vwCl (wM g (0, M.2.1, upd M.2.2.1 M.2.1.toNatClampNeg a, upd M.2.2.2.1 M.2.1.toNatClampNeg b, M.2.2.2.2.1, M.2.2.2.2.2.1, M.2.2.2.2.2.2.1, M.2.2.2.2.2.2.2.1, M.2.2.2.2.2.2.2.2.1, M.2.2.2.2.2.2.2.2.2.1, M.2.2.2.2.2.2.2.2.2.2.1, M.2.2.2.2.2.2.2.2.2.2.2.1, M.2.2.2.2.2.2.2.2.2.2.2.2.1, M.2.2.2.2.2.2.2.2.2.2.2.2.2.1, M.2.2.2.2.2.2.2.2.2.2.2.2.2.2.1, M.2.2.2.2.2.2.2.2.2.2.2.2.2.2.2.1, M.2.2.2.2.2.2.2.2.2.2.2.2.2.2.2.2)) H := hP
        have hD : va_D A (wM g (0, M.2.1, upd M.2.2.1 M.2.1.toNatClampNeg a, upd M.2.2.2.1 M.2.1.toNatClampNeg b, M.2.2.2.2.1, M.2.2.2.2.2.1, M.2.2.2.2.2.2.1, M.2.2.2.2.2.2.2.1, M.2.2.2.2.2.2.2.2.1, M.2.2.2.2.2.2.2.2.2.1, M.2.2.2.2.2.2.2.2.2.2.1, M.2.2.2.2.2.2.2.2.2.2.2.1, M.2.2.2.2.2.2.2.2.2.2.2.2.1, M.2.2.2.2.2.2.2.2.2.2.2.2.2.1, M.2.2.2.2.2.2.2.2.2.2.2.2.2.2.1, M.2.2.2.2.2.2.2.2.2.2.2.2.2.2.2.1, M.2.2.2.2.2.2.2.2.2.2.2.2.2.2.2.2)) := hD
        refine lv_aload_n hx hb dX11_timber_62 rfl (lv_at hl 0 rfl) ?_
        refine va_get (D := D) (ci := 12) (v := .ref g.az) (C := RX11) (T := TX11) (N := 17) hx hb hg in_X11 hown hK hP 0 rfl rfl 4 (by decide) (hg _ g_690) (fun _ h9 => h9) rfl dX11_timber_63 ?_
        refine lv_aload_n hx hb dX11_timber_66 rfl (lv_at hl 0 rfl) ?_
        refine va_get (D := D) (ci := 12) (v := .int M.2.1) (C := RX11) (T := TX11) (N := 17) hx hb hg in_X11 hown hK hP 0 rfl rfl 1 (by decide) (hg _ g_687) (fun _ h9 => h9) rfl dX11_timber_67 ?_
        refine lv_iload_n hx hb dX11_timber_70 rfl (lv_at hl 3 rfl) ?_
        refine va_zast hx hb hK hP hD hS 3 1 rfl rfl (hb_4) dX11_timber_71 (fun H locs hP hD hS => ?_)
        have hP : va_P D vwCl (wM g (0, M.2.1, upd M.2.2.1 M.2.1.toNatClampNeg a, upd M.2.2.2.1 M.2.1.toNatClampNeg b, upd M.2.2.2.2.1 M.2.1.toNatClampNeg (vp_nar .boolean z), M.2.2.2.2.2.1, M.2.2.2.2.2.2.1, M.2.2.2.2.2.2.2.1, M.2.2.2.2.2.2.2.2.1, M.2.2.2.2.2.2.2.2.2.1, M.2.2.2.2.2.2.2.2.2.2.1, M.2.2.2.2.2.2.2.2.2.2.2.1, M.2.2.2.2.2.2.2.2.2.2.2.2.1, M.2.2.2.2.2.2.2.2.2.2.2.2.2.1, M.2.2.2.2.2.2.2.2.2.2.2.2.2.2.1, M.2.2.2.2.2.2.2.2.2.2.2.2.2.2.2.1, M.2.2.2.2.2.2.2.2.2.2.2.2.2.2.2.2)) H := hP
        have hD : va_D A (wM g (0, M.2.1, upd M.2.2.1 M.2.1.toNatClampNeg a, upd M.2.2.2.1 M.2.1.toNatClampNeg b, upd M.2.2.2.2.1 M.2.1.toNatClampNeg (vp_nar .boolean z), M.2.2.2.2.2.1, M.2.2.2.2.2.2.1, M.2.2.2.2.2.2.2.1, M.2.2.2.2.2.2.2.2.1, M.2.2.2.2.2.2.2.2.2.1, M.2.2.2.2.2.2.2.2.2.2.1, M.2.2.2.2.2.2.2.2.2.2.2.1, M.2.2.2.2.2.2.2.2.2.2.2.2.1, M.2.2.2.2.2.2.2.2.2.2.2.2.2.1, M.2.2.2.2.2.2.2.2.2.2.2.2.2.2.1, M.2.2.2.2.2.2.2.2.2.2.2.2.2.2.2.1, M.2.2.2.2.2.2.2.2.2.2.2.2.2.2.2.2)) := hD
        refine lv_aload_n hx hb dX11_timber_72 rfl (lv_at hl 0 rfl) ?_
        refine va_get (D := D) (ci := 12) (v := .ref g.ap) (C := RX11) (T := TX11) (N := 17) hx hb hg in_X11 hown hK hP 0 rfl rfl 5 (by decide) (hg _ g_691) (fun _ h9 => h9) rfl dX11_timber_73 ?_
        refine lv_aload_n hx hb dX11_timber_76 rfl (lv_at hl 0 rfl) ?_
        refine va_get (D := D) (ci := 12) (v := .int M.2.1) (C := RX11) (T := TX11) (N := 17) hx hb hg in_X11 hown hK hP 0 rfl rfl 1 (by decide) (hg _ g_687) (fun _ h9 => h9) rfl dX11_timber_77 ?_
        refine lv_iconst (v := (-1)) hx hb dX11_timber_80 (by decide) ?_
        refine va_iast hx hb hK hP hD hS 4 0 rfl rfl (hb_4) dX11_timber_81 (fun H locs hP hD hS => ?_)
        have hP : va_P D vwCl (wM g (0, M.2.1, upd M.2.2.1 M.2.1.toNatClampNeg a, upd M.2.2.2.1 M.2.1.toNatClampNeg b, upd M.2.2.2.2.1 M.2.1.toNatClampNeg (vp_nar .boolean z), upd M.2.2.2.2.2.1 M.2.1.toNatClampNeg (-1), M.2.2.2.2.2.2.1, M.2.2.2.2.2.2.2.1, M.2.2.2.2.2.2.2.2.1, M.2.2.2.2.2.2.2.2.2.1, M.2.2.2.2.2.2.2.2.2.2.1, M.2.2.2.2.2.2.2.2.2.2.2.1, M.2.2.2.2.2.2.2.2.2.2.2.2.1, M.2.2.2.2.2.2.2.2.2.2.2.2.2.1, M.2.2.2.2.2.2.2.2.2.2.2.2.2.2.1, M.2.2.2.2.2.2.2.2.2.2.2.2.2.2.2.1, M.2.2.2.2.2.2.2.2.2.2.2.2.2.2.2.2)) H := hP
        have hD : va_D A (wM g (0, M.2.1, upd M.2.2.1 M.2.1.toNatClampNeg a, upd M.2.2.2.1 M.2.1.toNatClampNeg b, upd M.2.2.2.2.1 M.2.1.toNatClampNeg (vp_nar .boolean z), upd M.2.2.2.2.2.1 M.2.1.toNatClampNeg (-1), M.2.2.2.2.2.2.1, M.2.2.2.2.2.2.2.1, M.2.2.2.2.2.2.2.2.1, M.2.2.2.2.2.2.2.2.2.1, M.2.2.2.2.2.2.2.2.2.2.1, M.2.2.2.2.2.2.2.2.2.2.2.1, M.2.2.2.2.2.2.2.2.2.2.2.2.1, M.2.2.2.2.2.2.2.2.2.2.2.2.2.1, M.2.2.2.2.2.2.2.2.2.2.2.2.2.2.1, M.2.2.2.2.2.2.2.2.2.2.2.2.2.2.2.1, M.2.2.2.2.2.2.2.2.2.2.2.2.2.2.2.2)) := hD
        refine lv_aload_n hx hb dX11_timber_82 rfl (lv_at hl 0 rfl) ?_
        refine lv_dup hx hb dX11_timber_83 rfl ?_
        refine va_get (D := D) (ci := 12) (v := .int M.2.1) (C := RX11) (T := TX11) (N := 17) hx hb hg in_X11 hown hK hP 0 rfl rfl 1 (by decide) (hg _ g_687) (fun _ h9 => h9) rfl dX11_timber_84 ?_
        refine lv_iconst (v := 1) hx hb dX11_timber_87 (by decide) ?_
        refine lv_iadd hx hb dX11_timber_88 ?_
        refine va_put (D := D) (ci := 12) (v := .int (M.2.1 + 1)) (ty := .int) (C := RX11) (T := TX11) (N := 17) hx hb hg in_X11 tyX11 tyX11_ok nmX11 hown hK hP hD hS 0 rfl rfl 1 (by decide) (hg _ g_687) (fun _ h9 => h9) rfl (by decide +kernel) rfl rfl (Nat.le_of_ble_eq_true rfl) dX11_timber_89 (fun H locs hP hD hS => ?_)
        have hP : va_P D vwCl (wM g (0, (M.2.1 + 1), upd M.2.2.1 M.2.1.toNatClampNeg a, upd M.2.2.2.1 M.2.1.toNatClampNeg b, upd M.2.2.2.2.1 M.2.1.toNatClampNeg (vp_nar .boolean z), upd M.2.2.2.2.2.1 M.2.1.toNatClampNeg (-1), M.2.2.2.2.2.2.1, M.2.2.2.2.2.2.2.1, M.2.2.2.2.2.2.2.2.1, M.2.2.2.2.2.2.2.2.2.1, M.2.2.2.2.2.2.2.2.2.2.1, M.2.2.2.2.2.2.2.2.2.2.2.1, M.2.2.2.2.2.2.2.2.2.2.2.2.1, M.2.2.2.2.2.2.2.2.2.2.2.2.2.1, M.2.2.2.2.2.2.2.2.2.2.2.2.2.2.1, M.2.2.2.2.2.2.2.2.2.2.2.2.2.2.2.1, M.2.2.2.2.2.2.2.2.2.2.2.2.2.2.2.2)) H := hP
        have hD : va_D A (wM g (0, (M.2.1 + 1), upd M.2.2.1 M.2.1.toNatClampNeg a, upd M.2.2.2.1 M.2.1.toNatClampNeg b, upd M.2.2.2.2.1 M.2.1.toNatClampNeg (vp_nar .boolean z), upd M.2.2.2.2.2.1 M.2.1.toNatClampNeg (-1), M.2.2.2.2.2.2.1, M.2.2.2.2.2.2.2.1, M.2.2.2.2.2.2.2.2.1, M.2.2.2.2.2.2.2.2.2.1, M.2.2.2.2.2.2.2.2.2.2.1, M.2.2.2.2.2.2.2.2.2.2.2.1, M.2.2.2.2.2.2.2.2.2.2.2.2.1, M.2.2.2.2.2.2.2.2.2.2.2.2.2.1, M.2.2.2.2.2.2.2.2.2.2.2.2.2.2.1, M.2.2.2.2.2.2.2.2.2.2.2.2.2.2.2.1, M.2.2.2.2.2.2.2.2.2.2.2.2.2.2.2.2)) := hD
        refine lv_aload_n hx hb dX11_timber_92 rfl (lv_at hl 0 rfl) ?_
        refine va_get (D := D) (ci := 12) (v := .int (M.2.1 + 1)) (C := RX11) (T := TX11) (N := 17) hx hb hg in_X11 hown hK hP 0 rfl rfl 1 (by decide) (hg _ g_687) (fun _ h9 => h9) rfl dX11_timber_93 ?_
        refine lv_iconst (v := 1) hx hb dX11_timber_96 (by decide) ?_
        refine lv_isub hx hb dX11_timber_97 ?_
        exact W.iret (v := ((M.2.1 + 1) - 1)) hx hb hr (fun t9 ht hW => ⟨⟨((M.2.1 + 1) - 1), wM g (0, (M.2.1 + 1), upd M.2.2.1 M.2.1.toNatClampNeg a, upd M.2.2.2.1 M.2.1.toNatClampNeg b, upd M.2.2.2.2.1 M.2.1.toNatClampNeg (vp_nar .boolean z), upd M.2.2.2.2.2.1 M.2.1.toNatClampNeg (-1), M.2.2.2.2.2.2.1, M.2.2.2.2.2.2.2.1, M.2.2.2.2.2.2.2.2.1, M.2.2.2.2.2.2.2.2.2.1, M.2.2.2.2.2.2.2.2.2.2.1, M.2.2.2.2.2.2.2.2.2.2.2.1, M.2.2.2.2.2.2.2.2.2.2.2.2.1, M.2.2.2.2.2.2.2.2.2.2.2.2.2.1, M.2.2.2.2.2.2.2.2.2.2.2.2.2.2.1, M.2.2.2.2.2.2.2.2.2.2.2.2.2.2.2.1, M.2.2.2.2.2.2.2.2.2.2.2.2.2.2.2.2), rfl, ⟨by simp only [fX11_timberR, if_neg c_1, if_neg c_2, if_neg c_3], by simp only [fX11_timberS, if_neg c_1, if_neg c_2, if_neg c_3]⟩, by rw [ht]; exact hP, va_K.moved hW.alike hK, hD⟩, hS.F ht⟩) hS.2.2 dX11_timber_98
      · -- M.2.1 = 60
        have hk := hk.1 c_3
        refine lv_bipush (v := (-104)) hx hb dX11_timber_39 (by decide) ?_
        exact W.iret (v := (-104)) hx hb hr (fun t9 ht hW => ⟨⟨(-104), wM g (0, M.2.1, M.2.2.1, M.2.2.2.1, M.2.2.2.2.1, M.2.2.2.2.2.1, M.2.2.2.2.2.2.1, M.2.2.2.2.2.2.2.1, M.2.2.2.2.2.2.2.2.1, M.2.2.2.2.2.2.2.2.2.1, M.2.2.2.2.2.2.2.2.2.2.1, M.2.2.2.2.2.2.2.2.2.2.2.1, M.2.2.2.2.2.2.2.2.2.2.2.2.1, M.2.2.2.2.2.2.2.2.2.2.2.2.2.1, M.2.2.2.2.2.2.2.2.2.2.2.2.2.2.1, M.2.2.2.2.2.2.2.2.2.2.2.2.2.2.2.1, M.2.2.2.2.2.2.2.2.2.2.2.2.2.2.2.2), rfl, ⟨by simp only [fX11_timberR, if_neg c_1, if_neg c_2, if_pos c_3], by simp only [fX11_timberS, if_neg c_1, if_neg c_2, if_pos c_3]⟩, by rw [ht]; exact hP, va_K.moved hW.alike hK, hD⟩, hS.F ht⟩) hS.2.2 dX11_timber_41
    · -- (fX11_isInR b 1 1000) = 0
      have hk := hk.1 c_2
      refine lv_bipush (v := (-102)) hx hb dX11_timber_27 (by decide) ?_
      exact W.iret (v := (-102)) hx hb hr (fun t9 ht hW => ⟨⟨(-102), wM g (0, M.2.1, M.2.2.1, M.2.2.2.1, M.2.2.2.2.1, M.2.2.2.2.2.1, M.2.2.2.2.2.2.1, M.2.2.2.2.2.2.2.1, M.2.2.2.2.2.2.2.2.1, M.2.2.2.2.2.2.2.2.2.1, M.2.2.2.2.2.2.2.2.2.2.1, M.2.2.2.2.2.2.2.2.2.2.2.1, M.2.2.2.2.2.2.2.2.2.2.2.2.1, M.2.2.2.2.2.2.2.2.2.2.2.2.2.1, M.2.2.2.2.2.2.2.2.2.2.2.2.2.2.1, M.2.2.2.2.2.2.2.2.2.2.2.2.2.2.2.1, M.2.2.2.2.2.2.2.2.2.2.2.2.2.2.2.2), rfl, ⟨by simp only [fX11_timberR, if_neg c_1, if_pos c_2], by simp only [fX11_timberS, if_neg c_1, if_pos c_2]⟩, by rw [ht]; exact hP, va_K.moved hW.alike hK, hD⟩, hS.F ht⟩) hS.2.2 dX11_timber_29

def fX11_pileR (M : MM) (a : Int32) (b : Int32) (z : Int32) : Int32 := (if (fX11_isInR a 0 7) = 0 then (-102) else (if (fX11_isInR b 1 12) = 0 then (-102) else (if (fX11_isInR z 0 20000) = 0 then (-102) else (if M.2.2.2.2.2.2.1 = 12 then (-104) else ((M.2.2.2.2.2.2.1 + 1) - 1)))))
def fX11_pileS (M : MM) (a : Int32) (b : Int32) (z : Int32) : MM := (if (fX11_isInR a 0 7) = 0 then (0, M.2.1, M.2.2.1, M.2.2.2.1, M.2.2.2.2.1, M.2.2.2.2.2.1, M.2.2.2.2.2.2.1, M.2.2.2.2.2.2.2.1, M.2.2.2.2.2.2.2.2.1, M.2.2.2.2.2.2.2.2.2.1, M.2.2.2.2.2.2.2.2.2.2.1, M.2.2.2.2.2.2.2.2.2.2.2.1, M.2.2.2.2.2.2.2.2.2.2.2.2.1, M.2.2.2.2.2.2.2.2.2.2.2.2.2.1, M.2.2.2.2.2.2.2.2.2.2.2.2.2.2.1, M.2.2.2.2.2.2.2.2.2.2.2.2.2.2.2.1, M.2.2.2.2.2.2.2.2.2.2.2.2.2.2.2.2) else (if (fX11_isInR b 1 12) = 0 then (0, M.2.1, M.2.2.1, M.2.2.2.1, M.2.2.2.2.1, M.2.2.2.2.2.1, M.2.2.2.2.2.2.1, M.2.2.2.2.2.2.2.1, M.2.2.2.2.2.2.2.2.1, M.2.2.2.2.2.2.2.2.2.1, M.2.2.2.2.2.2.2.2.2.2.1, M.2.2.2.2.2.2.2.2.2.2.2.1, M.2.2.2.2.2.2.2.2.2.2.2.2.1, M.2.2.2.2.2.2.2.2.2.2.2.2.2.1, M.2.2.2.2.2.2.2.2.2.2.2.2.2.2.1, M.2.2.2.2.2.2.2.2.2.2.2.2.2.2.2.1, M.2.2.2.2.2.2.2.2.2.2.2.2.2.2.2.2) else (if (fX11_isInR z 0 20000) = 0 then (0, M.2.1, M.2.2.1, M.2.2.2.1, M.2.2.2.2.1, M.2.2.2.2.2.1, M.2.2.2.2.2.2.1, M.2.2.2.2.2.2.2.1, M.2.2.2.2.2.2.2.2.1, M.2.2.2.2.2.2.2.2.2.1, M.2.2.2.2.2.2.2.2.2.2.1, M.2.2.2.2.2.2.2.2.2.2.2.1, M.2.2.2.2.2.2.2.2.2.2.2.2.1, M.2.2.2.2.2.2.2.2.2.2.2.2.2.1, M.2.2.2.2.2.2.2.2.2.2.2.2.2.2.1, M.2.2.2.2.2.2.2.2.2.2.2.2.2.2.2.1, M.2.2.2.2.2.2.2.2.2.2.2.2.2.2.2.2) else (if M.2.2.2.2.2.2.1 = 12 then (0, M.2.1, M.2.2.1, M.2.2.2.1, M.2.2.2.2.1, M.2.2.2.2.2.1, M.2.2.2.2.2.2.1, M.2.2.2.2.2.2.2.1, M.2.2.2.2.2.2.2.2.1, M.2.2.2.2.2.2.2.2.2.1, M.2.2.2.2.2.2.2.2.2.2.1, M.2.2.2.2.2.2.2.2.2.2.2.1, M.2.2.2.2.2.2.2.2.2.2.2.2.1, M.2.2.2.2.2.2.2.2.2.2.2.2.2.1, M.2.2.2.2.2.2.2.2.2.2.2.2.2.2.1, M.2.2.2.2.2.2.2.2.2.2.2.2.2.2.2.1, M.2.2.2.2.2.2.2.2.2.2.2.2.2.2.2.2) else (0, M.2.1, M.2.2.1, M.2.2.2.1, M.2.2.2.2.1, M.2.2.2.2.2.1, (M.2.2.2.2.2.2.1 + 1), upd M.2.2.2.2.2.2.2.1 M.2.2.2.2.2.2.1.toNatClampNeg a, upd M.2.2.2.2.2.2.2.2.1 M.2.2.2.2.2.2.1.toNatClampNeg b, upd M.2.2.2.2.2.2.2.2.2.1 M.2.2.2.2.2.2.1.toNatClampNeg z, upd M.2.2.2.2.2.2.2.2.2.2.1 M.2.2.2.2.2.2.1.toNatClampNeg 0, M.2.2.2.2.2.2.2.2.2.2.2.1, M.2.2.2.2.2.2.2.2.2.2.2.2.1, M.2.2.2.2.2.2.2.2.2.2.2.2.2.1, M.2.2.2.2.2.2.2.2.2.2.2.2.2.2.1, M.2.2.2.2.2.2.2.2.2.2.2.2.2.2.2.1, M.2.2.2.2.2.2.2.2.2.2.2.2.2.2.2.2)))))
def fX11_pileK (M : MM) (a : Int32) (b : Int32) (z : Int32) : Prop := (((fX11_isInR a 0 7) = 0 → True) ∧ (¬ (fX11_isInR a 0 7) = 0 → (((fX11_isInR b 1 12) = 0 → True) ∧ (¬ (fX11_isInR b 1 12) = 0 → (((fX11_isInR z 0 20000) = 0 → True) ∧ (¬ (fX11_isInR z 0 20000) = 0 → ((M.2.2.2.2.2.2.1 = 12 → True) ∧ (¬ M.2.2.2.2.2.2.1 = 12 → (vp_in M.2.2.2.2.2.2.1 12 ∧ True)))))))))
set_option maxHeartbeats 4000000 in
set_option maxRecDepth 100000 in
theorem c_X11_pile (l : Launch) (D : va_G) (g : MA) (M : MM) (a : Int32) (b : Int32) (z : Int32) (hk : fX11_pileK M a b z) : ctI l D (tyM g) yX11_pile (wd yX11_pile cX11_pile 4 (Option.some Jvm.ClassFile.FieldType.int)) { frames := 1, cells := 0, slots := 0, locals := 22 } [.ref g.mo, .int a, .int b, .int z] (wM g M) (fun r w => r = fX11_pileR M a b z ∧ w = wM g (fX11_pileS M a b z)) := by
  intro sz
  refine Met.ofW (cc := cX11_pile) (maxL := 4) (ret := (Option.some Jvm.ClassFile.FieldType.int)) (by decide) rfl ?_
  intro p e s m args below meth c s₁ B hml hv
  obtain ⟨rfl, hsz, hP, hK, hD0⟩ := hv
  have hx := B.exec
  have hb := B.bytes
  have hr := B.returns
  have hts := atoms_spec (ws := (wd yX11_pile cX11_pile 4 (Option.some Jvm.ClassFile.FieldType.int))) B.pre
  have hg := Tb.of hts
  have hown : s.vm.findClass RX11 = some m.cls := findClass_of_methodNamed B.named
  have hlocks := B.notSynchronized
  subst hsz
  have hD := hD0.self (sz := s.heap.size)
  generalize hAe : va_A (wM g M) s.heap.size = A at hD ⊢
  have hA : ∀ q : Nat, s.heap.size ≤ q → A q := fun q h => by rw [← hAe]; exact Or.inr h
  have hS : va_S A s.heap s.heap [] := va_S.rf
  have hP : va_P D vwCl (wM g M) s.heap := hP
  have hl := lv_entry ([.ref g.mo, .int a, .int b, .int z]) (n := 4) (Nat.le_of_ble_eq_true rfl)
  rw [lg_entry_eq]
  generalize (lg_sl ([.ref g.mo, .int a, .int b, .int z]) ++ List.replicate (4 - (lg_sl ([.ref g.mo, .int a, .int b, .int z])).length) Slot.unset).toArray = ls at hl ⊢
  have hl : lv_has ls 4 [(0, .ref g.mo), (1, .int a), (2, .int b), (3, .int z)] := hl
  unfold fX11_pileK at hk
  refine lv_aload_n hx hb dX11_pile_0 rfl (lv_at hl 0 rfl) ?_
  refine lv_iconst (v := 0) hx hb dX11_pile_1 (by decide) ?_
  refine va_put (D := D) (ci := 12) (v := .int 0) (ty := .int) (C := RX11) (T := TX11) (N := 17) hx hb hg in_X11 tyX11 tyX11_ok nmX11 hown hK hP hD hS 0 rfl rfl 0 (by decide) (hg _ g_686) (fun _ h9 => h9) rfl (by decide +kernel) rfl rfl (Nat.le_of_ble_eq_true rfl) dX11_pile_2 (fun H locs hP hD hS => ?_)
  have hP : va_P D vwCl (wM g (0, M.2.1, M.2.2.1, M.2.2.2.1, M.2.2.2.2.1, M.2.2.2.2.2.1, M.2.2.2.2.2.2.1, M.2.2.2.2.2.2.2.1, M.2.2.2.2.2.2.2.2.1, M.2.2.2.2.2.2.2.2.2.1, M.2.2.2.2.2.2.2.2.2.2.1, M.2.2.2.2.2.2.2.2.2.2.2.1, M.2.2.2.2.2.2.2.2.2.2.2.2.1, M.2.2.2.2.2.2.2.2.2.2.2.2.2.1, M.2.2.2.2.2.2.2.2.2.2.2.2.2.2.1, M.2.2.2.2.2.2.2.2.2.2.2.2.2.2.2.1, M.2.2.2.2.2.2.2.2.2.2.2.2.2.2.2.2)) H := hP
  have hD : va_D A (wM g (0, M.2.1, M.2.2.1, M.2.2.2.1, M.2.2.2.2.1, M.2.2.2.2.2.1, M.2.2.2.2.2.2.1, M.2.2.2.2.2.2.2.1, M.2.2.2.2.2.2.2.2.1, M.2.2.2.2.2.2.2.2.2.1, M.2.2.2.2.2.2.2.2.2.2.1, M.2.2.2.2.2.2.2.2.2.2.2.1, M.2.2.2.2.2.2.2.2.2.2.2.2.1, M.2.2.2.2.2.2.2.2.2.2.2.2.2.1, M.2.2.2.2.2.2.2.2.2.2.2.2.2.2.1, M.2.2.2.2.2.2.2.2.2.2.2.2.2.2.2.1, M.2.2.2.2.2.2.2.2.2.2.2.2.2.2.2.2)) := hD
  refine lv_iload_n hx hb dX11_pile_5 rfl (lv_at hl 1 rfl) ?_
  refine lv_iconst (v := 0) hx hb dX11_pile_6 (by decide) ?_
  refine lv_bipush (v := 7) hx hb dX11_pile_7 (by decide) ?_
  refine z_ie (va_runS (As := [.int a, .int 0, .int 7]) (rest := []) ⟨hx, hb, hml, hown, hts⟩ (c_X11_isIn l D (tyM g) a 0 7 _) (z_St 3 hts g_748 g_4 g_746 g_747 ⟨by decide, by decide, by decide +kernel⟩ ⟨Nat.le_of_ble_eq_true rfl, Nat.le_of_ble_eq_true rfl⟩) (z_preS (hP.subm [] rfl) (hD.sub [] (by decide) rfl) hK) rfl rfl hl.1 rfl (lv_room (Nat.le_of_ble_eq_true rfl)) dX11_pile_9 ⟨Nat.le_of_ble_eq_true rfl, Nat.le_of_ble_eq_true rfl⟩) hP hD hS hA (wM g (0, M.2.1, M.2.2.1, M.2.2.2.1, M.2.2.2.2.1, M.2.2.2.2.2.1, M.2.2.2.2.2.2.1, M.2.2.2.2.2.2.2.1, M.2.2.2.2.2.2.2.2.1, M.2.2.2.2.2.2.2.2.2.1, M.2.2.2.2.2.2.2.2.2.2.1, M.2.2.2.2.2.2.2.2.2.2.2.1, M.2.2.2.2.2.2.2.2.2.2.2.2.1, M.2.2.2.2.2.2.2.2.2.2.2.2.2.1, M.2.2.2.2.2.2.2.2.2.2.2.2.2.2.1, M.2.2.2.2.2.2.2.2.2.2.2.2.2.2.2.1, M.2.2.2.2.2.2.2.2.2.2.2.2.2.2.2.2)) (wM g (0, M.2.1, M.2.2.1, M.2.2.2.1, M.2.2.2.2.1, M.2.2.2.2.2.1, M.2.2.2.2.2.2.1, M.2.2.2.2.2.2.2.1, M.2.2.2.2.2.2.2.2.1, M.2.2.2.2.2.2.2.2.2.1, M.2.2.2.2.2.2.2.2.2.2.1, M.2.2.2.2.2.2.2.2.2.2.2.1, M.2.2.2.2.2.2.2.2.2.2.2.2.1, M.2.2.2.2.2.2.2.2.2.2.2.2.2.1, M.2.2.2.2.2.2.2.2.2.2.2.2.2.2.1, M.2.2.2.2.2.2.2.2.2.2.2.2.2.2.2.1, M.2.2.2.2.2.2.2.2.2.2.2.2.2.2.2.2)) [] [0, 1, 2, 3, 4, 5, 6, 7, 8, 9, 10] [0, 1, 2, 3, 4, 5, 6, 7, 8, 9, 10] rfl rfl (by decide) (by decide) rfl (by decide) (fun H locs hP hD hS => ?_)
  refine lv_if_eq (tgt := 36) hx hb dX11_pile_12 (by decide) (fun c_1 => ?_) (fun c_1 => ?_)
  · -- (fX11_isInR a 0 7) = 0
    have hk := hk.1 c_1
    refine lv_bipush (v := (-102)) hx hb dX11_pile_36 (by decide) ?_
    exact W.iret (v := (-102)) hx hb hr (fun t9 ht hW => ⟨⟨(-102), wM g (0, M.2.1, M.2.2.1, M.2.2.2.1, M.2.2.2.2.1, M.2.2.2.2.2.1, M.2.2.2.2.2.2.1, M.2.2.2.2.2.2.2.1, M.2.2.2.2.2.2.2.2.1, M.2.2.2.2.2.2.2.2.2.1, M.2.2.2.2.2.2.2.2.2.2.1, M.2.2.2.2.2.2.2.2.2.2.2.1, M.2.2.2.2.2.2.2.2.2.2.2.2.1, M.2.2.2.2.2.2.2.2.2.2.2.2.2.1, M.2.2.2.2.2.2.2.2.2.2.2.2.2.2.1, M.2.2.2.2.2.2.2.2.2.2.2.2.2.2.2.1, M.2.2.2.2.2.2.2.2.2.2.2.2.2.2.2.2), rfl, ⟨by simp only [fX11_pileR, if_pos c_1], by simp only [fX11_pileS, if_pos c_1]⟩, by rw [ht]; exact hP, va_K.moved hW.alike hK, hD⟩, hS.F ht⟩) hS.2.2 dX11_pile_38
  · -- not (fX11_isInR a 0 7) = 0
    have hk := hk.2 c_1
    refine lv_iload_n hx hb dX11_pile_15 rfl (lv_at hl 2 rfl) ?_
    refine lv_iconst (v := 1) hx hb dX11_pile_16 (by decide) ?_
    refine lv_bipush (v := 12) hx hb dX11_pile_17 (by decide) ?_
    refine z_ie (va_runS (As := [.int b, .int 1, .int 12]) (rest := []) ⟨hx, hb, hml, hown, hts⟩ (c_X11_isIn l D (tyM g) b 1 12 _) (z_St 3 hts g_748 g_4 g_746 g_747 ⟨by decide, by decide, by decide +kernel⟩ ⟨Nat.le_of_ble_eq_true rfl, Nat.le_of_ble_eq_true rfl⟩) (z_preS (hP.subm [] rfl) (hD.sub [] (by decide) rfl) hK) rfl rfl hl.1 rfl (lv_room (Nat.le_of_ble_eq_true rfl)) dX11_pile_19 ⟨Nat.le_of_ble_eq_true rfl, Nat.le_of_ble_eq_true rfl⟩) hP hD hS hA (wM g (0, M.2.1, M.2.2.1, M.2.2.2.1, M.2.2.2.2.1, M.2.2.2.2.2.1, M.2.2.2.2.2.2.1, M.2.2.2.2.2.2.2.1, M.2.2.2.2.2.2.2.2.1, M.2.2.2.2.2.2.2.2.2.1, M.2.2.2.2.2.2.2.2.2.2.1, M.2.2.2.2.2.2.2.2.2.2.2.1, M.2.2.2.2.2.2.2.2.2.2.2.2.1, M.2.2.2.2.2.2.2.2.2.2.2.2.2.1, M.2.2.2.2.2.2.2.2.2.2.2.2.2.2.1, M.2.2.2.2.2.2.2.2.2.2.2.2.2.2.2.1, M.2.2.2.2.2.2.2.2.2.2.2.2.2.2.2.2)) (wM g (0, M.2.1, M.2.2.1, M.2.2.2.1, M.2.2.2.2.1, M.2.2.2.2.2.1, M.2.2.2.2.2.2.1, M.2.2.2.2.2.2.2.1, M.2.2.2.2.2.2.2.2.1, M.2.2.2.2.2.2.2.2.2.1, M.2.2.2.2.2.2.2.2.2.2.1, M.2.2.2.2.2.2.2.2.2.2.2.1, M.2.2.2.2.2.2.2.2.2.2.2.2.1, M.2.2.2.2.2.2.2.2.2.2.2.2.2.1, M.2.2.2.2.2.2.2.2.2.2.2.2.2.2.1, M.2.2.2.2.2.2.2.2.2.2.2.2.2.2.2.1, M.2.2.2.2.2.2.2.2.2.2.2.2.2.2.2.2)) [] [0, 1, 2, 3, 4, 5, 6, 7, 8, 9, 10] [0, 1, 2, 3, 4, 5, 6, 7, 8, 9, 10] rfl rfl (by decide) (by decide) rfl (by decide) (fun H locs hP hD hS => ?_)
    refine lv_if_eq (tgt := 36) hx hb dX11_pile_22 (by decide) (fun c_2 => ?_) (fun c_2 => ?_)
    · -- (fX11_isInR b 1 12) = 0
      have hk := hk.1 c_2
      refine lv_bipush (v := (-102)) hx hb dX11_pile_36 (by decide) ?_
      exact W.iret (v := (-102)) hx hb hr (fun t9 ht hW => ⟨⟨(-102), wM g (0, M.2.1, M.2.2.1, M.2.2.2.1, M.2.2.2.2.1, M.2.2.2.2.2.1, M.2.2.2.2.2.2.1, M.2.2.2.2.2.2.2.1, M.2.2.2.2.2.2.2.2.1, M.2.2.2.2.2.2.2.2.2.1, M.2.2.2.2.2.2.2.2.2.2.1, M.2.2.2.2.2.2.2.2.2.2.2.1, M.2.2.2.2.2.2.2.2.2.2.2.2.1, M.2.2.2.2.2.2.2.2.2.2.2.2.2.1, M.2.2.2.2.2.2.2.2.2.2.2.2.2.2.1, M.2.2.2.2.2.2.2.2.2.2.2.2.2.2.2.1, M.2.2.2.2.2.2.2.2.2.2.2.2.2.2.2.2), rfl, ⟨by simp only [fX11_pileR, if_neg c_1, if_pos c_2], by simp only [fX11_pileS, if_neg c_1, if_pos c_2]⟩, by rw [ht]; exact hP, va_K.moved hW.alike hK, hD⟩, hS.F ht⟩) hS.2.2 dX11_pile_38
    · -- not (fX11_isInR b 1 12) = 0
      have hk := hk.2 c_2
      refine lv_iload_n hx hb dX11_pile_25 rfl (lv_at hl 3 rfl) ?_
      refine lv_iconst (v := 0) hx hb dX11_pile_26 (by decide) ?_
      refine lv_sipush (v := 20000) hx hb dX11_pile_27 (by decide) ?_
      refine z_ie (va_runS (As := [.int z, .int 0, .int 20000]) (rest := []) ⟨hx, hb, hml, hown, hts⟩ (c_X11_isIn l D (tyM g) z 0 20000 _) (z_St 3 hts g_748 g_4 g_746 g_747 ⟨by decide, by decide, by decide +kernel⟩ ⟨Nat.le_of_ble_eq_true rfl, Nat.le_of_ble_eq_true rfl⟩) (z_preS (hP.subm [] rfl) (hD.sub [] (by decide) rfl) hK) rfl rfl hl.1 rfl (lv_room (Nat.le_of_ble_eq_true rfl)) dX11_pile_30 ⟨Nat.le_of_ble_eq_true rfl, Nat.le_of_ble_eq_true rfl⟩) hP hD hS hA (wM g (0, M.2.1, M.2.2.1, M.2.2.2.1, M.2.2.2.2.1, M.2.2.2.2.2.1, M.2.2.2.2.2.2.1, M.2.2.2.2.2.2.2.1, M.2.2.2.2.2.2.2.2.1, M.2.2.2.2.2.2.2.2.2.1, M.2.2.2.2.2.2.2.2.2.2.1, M.2.2.2.2.2.2.2.2.2.2.2.1, M.2.2.2.2.2.2.2.2.2.2.2.2.1, M.2.2.2.2.2.2.2.2.2.2.2.2.2.1, M.2.2.2.2.2.2.2.2.2.2.2.2.2.2.1, M.2.2.2.2.2.2.2.2.2.2.2.2.2.2.2.1, M.2.2.2.2.2.2.2.2.2.2.2.2.2.2.2.2)) (wM g (0, M.2.1, M.2.2.1, M.2.2.2.1, M.2.2.2.2.1, M.2.2.2.2.2.1, M.2.2.2.2.2.2.1, M.2.2.2.2.2.2.2.1, M.2.2.2.2.2.2.2.2.1, M.2.2.2.2.2.2.2.2.2.1, M.2.2.2.2.2.2.2.2.2.2.1, M.2.2.2.2.2.2.2.2.2.2.2.1, M.2.2.2.2.2.2.2.2.2.2.2.2.1, M.2.2.2.2.2.2.2.2.2.2.2.2.2.1, M.2.2.2.2.2.2.2.2.2.2.2.2.2.2.1, M.2.2.2.2.2.2.2.2.2.2.2.2.2.2.2.1, M.2.2.2.2.2.2.2.2.2.2.2.2.2.2.2.2)) [] [0, 1, 2, 3, 4, 5, 6, 7, 8, 9, 10] [0, 1, 2, 3, 4, 5, 6, 7, 8, 9, 10] rfl rfl (by decide) (by decide) rfl (by decide) (fun H locs hP hD hS => ?_)
      refine lv_if_ne (tgt := 39) hx hb dX11_pile_33 (by decide) (fun c_3 => ?_) (fun c_3 => ?_)
      · -- not (fX11_isInR z 0 20000) = 0
        have hk := hk.2 c_3
        refine lv_aload_n hx hb dX11_pile_39 rfl (lv_at hl 0 rfl) ?_
        refine va_get (D := D) (ci := 12) (v := .int M.2.2.2.2.2.2.1) (C := RX11) (T := TX11) (N := 17) hx hb hg in_X11 hown hK hP 0 rfl rfl 6 (by decide) (hg _ g_692) (fun _ h9 => h9) rfl dX11_pile_40 ?_
        refine lv_bipush (v := 12) hx hb dX11_pile_43 (by decide) ?_
        refine lv_icmp_ne (tgt := 51) hx hb dX11_pile_45 (by decide) (fun c_4 => ?_) (fun c_4 => ?_)
        · -- not M.2.2.2.2.2.2.1 = 12
          have hk := hk.2 c_4
          refine lv_aload_n hx hb dX11_pile_51 rfl (lv_at hl 0 rfl) ?_
          refine va_get (D := D) (ci := 12) (v := .ref g.ak) (C := RX11) (T := TX11) (N := 17) hx hb hg in_X11 hown hK hP 0 rfl rfl 7 (by decide) (hg _ g_693) (fun _ h9 => h9) rfl dX11_pile_52 ?_
          refine lv_aload_n hx hb dX11_pile_55 rfl (lv_at hl 0 rfl) ?_
          refine va_get (D := D) (ci := 12) (v := .int M.2.2.2.2.2.2.1) (C := RX11) (T := TX11) (N := 17) hx hb hg in_X11 hown hK hP 0 rfl rfl 6 (by decide) (hg _ g_692) (fun _ h9 => h9) rfl dX11_pile_56 ?_
          refine lv_iload_n hx hb dX11_pile_59 rfl (lv_at hl 1 rfl) ?_
          obtain ⟨hb_5, hk⟩ := hk
          refine va_iast hx hb hK hP hD hS 5 0 rfl rfl (hb_5) dX11_pile_60 (fun H locs hP hD hS => ?_)
          have hP : va_P D vwCl (wM g (0, M.2.1, M.2.2.1, M.2.2.2.1, M.2.2.2.2.1, M.2.2.2.2.2.1, M.2.2.2.2.2.2.1, upd M.2.2.2.2.2.2.2.1 M.2.2.2.2.2.2.1.toNatClampNeg a, M.2.2.2.2.2.2.2.2.1, M.2.2.2.2.2.2.2.2.2.1, M.2.2.2.2.2.2.2.2.2.2.1, M.2.2.2.2.2.2.2.2.2.2.2.1, M.2.2.2.2.2.2.2.2.2.2.2.2.1, M.2.2.2.2.2.2.2.2.2.2.2.2.2.1, M.2.2.2.2.2.2.2.2.2.2.2.2.2.2.1, M.2.2.2.2.2.2.2.2.2.2.2.2.2.2.2.1, M.2.2.2.2.2.2.2.2.2.2.2.2.2.2.2.2)) H := hP
          have hD : va_D A (wM g (0, M.2.1, M.2.2.1, M.2.2.2.1, M.2.2.2.2.1, M.2.2.2.2.2.1, M.2.2.2.2.2.2.1, upd M.2.2.2.2.2.2.2.1 M.2.2.2.2.2.2.1.toNatClampNeg a, M.2.2.2.2.2.2.2.2.1, M.2.2.2.2.2.2.2.2.2.1, M.2.2.2.2.2.2.2.2.2.2.1, M.2.2.2.2.2.2.2.2.2.2.2.1, M.2.2.2.2.2.2.2.2.2.2.2.2.1, M.2.2.2.2.2.2.2.2.2.2.2.2.2.1, M.2.2.2.2.2.2.2.2.2.2.2.2.2.2.1, M.2.2.2.2.2.2.2.2.2.2.2.2.2.2.2.1, M.2.2.2.2.2.2.2.2.2.2.2.2.2.2.2.2)) := hD
          refine lv_aload_n hx hb dX11_pile_61 rfl (lv_at hl 0 rfl) ?_
          refine va_get (D := D) (ci := 12) (v := .ref g.ac) (C := RX11) (T := TX11) (N := 17) hx hb hg in_X11 hown hK hP 0 rfl rfl 8 (by decide) (hg _ g_694) (fun _ h9 => h9) rfl dX11_pile_62 ?_
          refine lv_aload_n hx hb dX11_pile_65 rfl (lv_at hl 0 rfl) ?_
          refine va_get (D := D) (ci := 12) (v := .int M.2.2.2.2.2.2.1) (C := RX11) (T := TX11) (N := 17) hx hb hg in_X11 hown hK hP 0 rfl rfl 6 (by decide) (hg _ g_692) (fun _ h9 => h9) rfl dX11_pile_66 ?_
          refine lv_iload_n hx hb dX11_pile_69 rfl (lv_at hl 2 rfl) ?_
          refine va_iast hx hb hK hP hD hS 6 0 rfl rfl (hb_5) dX11_pile_70 (fun H locs hP hD hS => ?_)
          have hP : va_P D vwCl (wM g (0, M.2.1, M.2.2.1, M.2.2.2.1, M.2.2.2.2.1, M.2.2.2.2.2.1, M.2.2.2.2.2.2.1, upd M.2.2.2.2.2.2.2.1 M.2.2.2.2.2.2.1.toNatClampNeg a, upd M.2.2.2.2.2.2.2.2.1 M.2.2.2.2.2.2.1.toNatClampNeg b, M.2.2.2.2.2.2.2.2.2.1, M.2.2.2.2.2.2.2.2.2.2.1, M.2.2.2.2.2.2.2.2.2.2.2.1, M.2.2.2.2.2.2.2.2.2.2.2.2.1, M.2.2.2.2.2.2.2.2.2.2.2.2.2.1, M.2.2.2.2.2.2.2.2.2.2.2.2.2.2.1, M.2.2.2.2.2.2.2.2.2.2.2.2.2.2.2.1, M.2.2.2.2.2.2.2.2.2.2.2.2.2.2.2.2)) H := hP
          have hD : va_D A (wM g (0, M.2.1, M.2.2.1, M.2.2.2.1, M.2.2.2.2.1, M.2.2.2.2.2.1, M.2.2.2.2.2.2.1, upd M.2.2.2.2.2.2.2.1 M.2.2.2.2.2.2.1.toNatClampNeg a, upd M.2.2.2.2.2.2.2.2.1 M.2.2.2.2.2.2.1.toNatClampNeg b, M.2.2.2.2.2.2.2.2.2.1, M.2.2.2.2.2.2.2.2.2.2.1, M.2.2.2.2.2.2.2.2.2.2.2.1, M.2.2.2.2.2.2.2.2.2.2.2.2.1, M.2.2.2.2.2.2.2.2.2.2.2.2.2.1, M.2.2.2.2.2.2.2.2.2.2.2.2.2.2.1, M.2.2.2.2.2.2.2.2.2.2.2.2.2.2.2.1, M.2.2.2.2.2.2.2.2.2.2.2.2.2.2.2.2)) := hD
          refine lv_aload_n hx hb dX11_pile_71 rfl (lv_at hl 0 rfl) ?_
          refine va_get (D := D) (ci := 12) (v := .ref g.am) (C := RX11) (T := TX11) (N := 17) hx hb hg in_X11 hown hK hP 0 rfl rfl 9 (by decide) (hg _ g_695) (fun _ h9 => h9) rfl dX11_pile_72 ?_
          refine lv_aload_n hx hb dX11_pile_75 rfl (lv_at hl 0 rfl) ?_
          refine va_get (D := D) (ci := 12) (v := .int M.2.2.2.2.2.2.1) (C := RX11) (T := TX11) (N := 17) hx hb hg in_X11 hown hK hP 0 rfl rfl 6 (by decide) (hg _ g_692) (fun _ h9 => h9) rfl dX11_pile_76 ?_
          refine lv_iload_n hx hb dX11_pile_79 rfl (lv_at hl 3 rfl) ?_
          refine va_iast hx hb hK hP hD hS 7 0 rfl rfl (hb_5) dX11_pile_80 (fun H locs hP hD hS => ?_)
          have hP : va_P D vwCl (wM g (0, M.2.1, M.2.2.1, M.2.2.2.1, M.2.2.2.2.1, M.2.2.2.2.2.1, M.2.2.2.2.2.2.1, upd M.2.2.2.2.2.2.2.1 M.2.2.2.2.2.2.1.toNatClampNeg a, upd M.2.2.2.2.2.2.2.2.1 M.2.2.2.2.2.2.1.toNatClampNeg b, upd M.2.2.2.2.2.2.2.2.2.1 M.2.2.2.2.2.2.1.toNatClampNeg z, M.2.2.2.2.2.2.2.2.2.2.1, M.2.2.2.2.2.2.2.2.2.2.2.1, M.2.2.2.2.2.2.2.2.2.2.2.2.1, M.2.2.2.2.2.2.2.2.2.2.2.2.2.1, M.2.2.2.2.2.2.2.2.2.2.2.2.2.2.1, M.2.2.2.2.2.2.2.2.2.2.2.2.2.2.2.1, M.2.2.2.2.2.2.2.2.2.2.2.2.2.2.2.2)) H := hP
          have hD : va_D A (wM g (0, M.2.1, M.2.2.1, M.2.2.2.1, M.2.2.2.2.1, M.2.2.2.2.2.1, M.2.2.2.2.2.2.1, upd M.2.2.2.2.2.2.2.1 M.2.2.2.2.2.2.1.toNatClampNeg a, upd M.2.2.2.2.2.2.2.2.1 M.2.2.2.2.2.2.1.toNatClampNeg b, upd M.2.2.2.2.2.2.2.2.2.1 M.2.2.2.2.2.2.1.toNatClampNeg z, M.2.2.2.2.2.2.2.2.2.2.1, M.2.2.2.2.2.2.2.2.2.2.2.1, M.2.2.2.2.2.2.2.2.2.2.2.2.1, M.2.2.2.2.2.2.2.2.2.2.2.2.2.1, M.2.2.2.2.2.2.2.2.2.2.2.2.2.2.1, M.2.2.2.2.2.2.2.2.2.2.2.2.2.2.2.1, M.2.2.2.2.2.2.2.2.2.2.2.2.2.2.2.2)) := hD
          refine lv_aload_n hx hb dX11_pile_81 rfl (lv_at hl 0 rfl) ?_
          refine va_get (D := D) (ci := 12) (v := .ref g.an) (C := RX11) (T := TX11) (N := 17) hx hb hg in_X11 hown hK hP 0 rfl rfl 10 (by decide) (hg _ g_696) (fun _ h9 => h9) rfl dX11_pile_82 ?_
          refine lv_aload_n hx hb dX11_pile_85 rfl (lv_at hl 0 rfl) ?_
          refine va_get (D := D) (ci := 12) (v := .int M.2.2.2.2.2.2.1) (C := RX11) (T := TX11) (N := 17) hx hb hg in_X11 hown hK hP 0 rfl rfl 6 (by decide) (hg _ g_692) (fun _ h9 => h9) rfl dX11_pile_86 ?_
          refine lv_iconst (v := 0) hx hb dX11_pile_89 (by decide) ?_
          refine va_iast hx hb hK hP hD hS 8 0 rfl rfl (hb_5) dX11_pile_90 (fun H locs hP hD hS => ?_)
          have hP : va_P D vwCl (wM g (0, M.2.1, M.2.2.1, M.2.2.2.1, M.2.2.2.2.1, M.2.2.2.2.2.1, M.2.2.2.2.2.2.1, upd M.2.2.2.2.2.2.2.1 M.2.2.2.2.2.2.1.toNatClampNeg a, upd M.2.2.2.2.2.2.2.2.1 M.2.2.2.2.2.2.1.toNatClampNeg b, upd M.2.2.2.2.2.2.2.2.2.1 M.2.2.2.2.2.2.1.toNatClampNeg z, upd M.2.2.2.2.2.2.2.2.2.2.1 M.2.2.2.2.2.2.1.toNatClampNeg 0, M.2.2.2.2.2.2.2.2.2.2.2.1, M.2.2.2.2.2.2.2.2.2.2.2.2.1, M.2.2.2.2.2.2.2.2.2.2.2.2.2.1, M.2.2.2.2.2.2.2.2.2.2.2.2.2.2.1, M.2.2.2.2.2.2.2.2.2.2.2.2.2.2.2.1, M.2.2.2.2.2.2.2.2.2.2.2.2.2.2.2.2)) H := hP
          have hD : va_D A (wM g (0, M.2.1, M.2.2.1, M.2.2.2.1, M.2.2.2.2.1, M.2.2.2.2.2.1, M.2.2.2.2.2.2.1, upd M.2.2.2.2.2.2.2.1 M.2.2.2.2.2.2.1.toNatClampNeg a, upd M.2.2.2.2.2.2.2.2.1 M.2.2.2.2.2.2.1.toNatClampNeg b, upd M.2.2.2.2.2.2.2.2.2.1 M.2.2.2.2.2.2.1.toNatClampNeg z, upd M.2.2.2.2.2.2.2.2.2.2.1 M.2.2.2.2.2.2.1.toNatClampNeg 0, M.2.2.2.2.2.2.2.2.2.2.2.1, M.2.2.2.2.2.2.2.2.2.2.2.2.1, M.2.2.2.2.2.2.2.2.2.2.2.2.2.1, M.2.2.2.2.2.2.2.2.2.2.2.2.2.2.1, M.2.2.2.2.2.2.2.2.2.2.2.2.2.2.2.1, M.2.2.2.2.2.2.2.2.2.2.2.2.2.2.2.2)) := hD
          refine lv_aload_n hx hb dX11_pile_91 rfl (lv_at hl 0 rfl) ?_
          refine lv_dup hx hb dX11_pile_92 rfl ?_
          refine va_get (D := D) (ci := 12) (v := .int M.2.2.2.2.2.2.1) (C := RX11) (T := TX11) (N := 17) hx hb hg in_X11 hown hK hP 0 rfl rfl 6 (by decide) (hg _ g_692) (fun _ h9 => h9) rfl dX11_pile_93 ?_
          refine lv_iconst (v := 1) hx hb dX11_pile_96 (by decide) ?_
          refine lv_iadd hx hb dX11_pile_97 ?_
          refine va_put (D := D) (ci := 12) (v := .int (M.2.2.2.2.2.2.1 + 1)) (ty := .int) (C := RX11) (T := TX11) (N := 17) hx hb hg in_X11 tyX11 tyX11_ok nmX11 hown hK hP hD hS 0 rfl rfl 6 (by decide) (hg _ g_692) (fun _ h9 => h9) rfl (by decide +kernel) rfl rfl (Nat.le_of_ble_eq_true rfl) dX11_pile_98 (fun H locs hP hD hS => ?_)
          have hP : va_P D vwCl (wM g (0, M.2.1, M.2.2.1, M.2.2.2.1, M.2.2.2.2.1, M.2.2.2.2.2.1, (M.2.2.2.2.2.2.1 + 1), upd M.2.2.2.2.2.2.2.1 M.2.2.2.2.2.2.1.toNatClampNeg a, upd M.2.2.2.2.2.2.2.2.1 M.2.2.2.2.2.2.1.toNatClampNeg b, upd M.2.2.2.2.2.2.2.2.2.1 M.2.2.2.2.2.2.1.toNatClampNeg z, upd M.2.2.2.2.2.2.2.2.2.2.1 M.2.2.2.2.2.2.1.toNatClampNeg 0, M.2.2.2.2.2.2.2.2.2.2.2.1, M.2.2.2.2.2.2.2.2.2.2.2.2.1, M.2.2.2.2.2.2.2.2.2.2.2.2.2.1, M.2.2.2.2.2.2.2.2.2.2.2.2.2.2.1, M.2.2.2.2.2.2.2.2.2.2.2.2.2.2.2.1, M.2.2.2.2.2.2.2.2.2.2.2.2.2.2.2.2)) H := hP
          have hD : va_D A (wM g (0, M.2.1, M.2.2.1, M.2.2.2.1, M.2.2.2.2.1, M.2.2.2.2.2.1, (M.2.2.2.2.2.2.1 + 1), upd M.2.2.2.2.2.2.2.1 M.2.2.2.2.2.2.1.toNatClampNeg a, upd M.2.2.2.2.2.2.2.2.1 M.2.2.2.2.2.2.1.toNatClampNeg b, upd M.2.2.2.2.2.2.2.2.2.1 M.2.2.2.2.2.2.1.toNatClampNeg z, upd M.2.2.2.2.2.2.2.2.2.2.1 M.2.2.2.2.2.2.1.toNatClampNeg 0, M.2.2.2.2.2.2.2.2.2.2.2.1, M.2.2.2.2.2.2.2.2.2.2.2.2.1, M.2.2.2.2.2.2.2.2.2.2.2.2.2.1, M.2.2.2.2.2.2.2.2.2.2.2.2.2.2.1, M.2.2.2.2.2.2.2.2.2.2.2.2.2.2.2.1, M.2.2.2.2.2.2.2.2.2.2.2.2.2.2.2.2)) := hD
          refine lv_aload_n hx hb dX11_pile_101 rfl (lv_at hl 0 rfl) ?_
          refine va_get (D := D) (ci := 12) (v := .int (M.2.2.2.2.2.2.1 + 1)) (C := RX11) (T := TX11) (N := 17) hx hb hg in_X11 hown hK hP 0 rfl rfl 6 (by decide) (hg _ g_692) (fun _ h9 => h9) rfl dX11_pile_102 ?_
          refine lv_iconst (v := 1) hx hb dX11_pile_105 (by decide) ?_
          refine lv_isub hx hb dX11_pile_106 ?_
          exact W.iret (v := ((M.2.2.2.2.2.2.1 + 1) - 1)) hx hb hr (fun t9 ht hW => ⟨⟨((M.2.2.2.2.2.2.1 + 1) - 1), wM g (0, M.2.1, M.2.2.1, M.2.2.2.1, M.2.2.2.2.1, M.2.2.2.2.2.1, (M.2.2.2.2.2.2.1 + 1), upd M.2.2.2.2.2.2.2.1 M.2.2.2.2.2.2.1.toNatClampNeg a, upd M.2.2.2.2.2.2.2.2.1 M.2.2.2.2.2.2.1.toNatClampNeg b, upd M.2.2.2.2.2.2.2.2.2.1 M.2.2.2.2.2.2.1.toNatClampNeg z, upd M.2.2.2.2.2.2.2.2.2.2.1 M.2.2.2.2.2.2.1.toNatClampNeg 0, M.2.2.2.2.2.2.2.2.2.2.2.1, M.2.2.2.2.2.2.2.2.2.2.2.2.1, M.2.2.2.2.2.2.2.2.2.2.2.2.2.1, M.2.2.2.2.2.2.2.2.2.2.2.2.2.2.1, M.2.2.2.2.2.2.2.2.2.2.2.2.2.2.2.1, M.2.2.2.2.2.2.2.2.2.2.2.2.2.2.2.2), rfl, ⟨by simp only [fX11_pileR, if_neg c_1, if_neg c_2, if_neg c_3, if_neg c_4], by simp only [fX11_pileS, if_neg c_1, if_neg c_2, if_neg c_3, if_neg c_4]⟩, by rw [ht]; exact hP, va_K.moved hW.alike hK, hD⟩, hS.F ht⟩) hS.2.2 dX11_pile_107
        · -- M.2.2.2.2.2.2.1 = 12
          have hk := hk.1 c_4
          refine lv_bipush (v := (-104)) hx hb dX11_pile_48 (by decide) ?_
          exact W.iret (v := (-104)) hx hb hr (fun t9 ht hW => ⟨⟨(-104), wM g (0, M.2.1, M.2.2.1, M.2.2.2.1, M.2.2.2.2.1, M.2.2.2.2.2.1, M.2.2.2.2.2.2.1, M.2.2.2.2.2.2.2.1, M.2.2.2.2.2.2.2.2.1, M.2.2.2.2.2.2.2.2.2.1, M.2.2.2.2.2.2.2.2.2.2.1, M.2.2.2.2.2.2.2.2.2.2.2.1, M.2.2.2.2.2.2.2.2.2.2.2.2.1, M.2.2.2.2.2.2.2.2.2.2.2.2.2.1, M.2.2.2.2.2.2.2.2.2.2.2.2.2.2.1, M.2.2.2.2.2.2.2.2.2.2.2.2.2.2.2.1, M.2.2.2.2.2.2.2.2.2.2.2.2.2.2.2.2), rfl, ⟨by simp only [fX11_pileR, if_neg c_1, if_neg c_2, if_neg c_3, if_pos c_4], by simp only [fX11_pileS, if_neg c_1, if_neg c_2, if_neg c_3, if_pos c_4]⟩, by rw [ht]; exact hP, va_K.moved hW.alike hK, hD⟩, hS.F ht⟩) hS.2.2 dX11_pile_50
      · -- (fX11_isInR z 0 20000) = 0
        have hk := hk.1 c_3
        refine lv_bipush (v := (-102)) hx hb dX11_pile_36 (by decide) ?_
        exact W.iret (v := (-102)) hx hb hr (fun t9 ht hW => ⟨⟨(-102), wM g (0, M.2.1, M.2.2.1, M.2.2.2.1, M.2.2.2.2.1, M.2.2.2.2.2.1, M.2.2.2.2.2.2.1, M.2.2.2.2.2.2.2.1, M.2.2.2.2.2.2.2.2.1, M.2.2.2.2.2.2.2.2.2.1, M.2.2.2.2.2.2.2.2.2.2.1, M.2.2.2.2.2.2.2.2.2.2.2.1, M.2.2.2.2.2.2.2.2.2.2.2.2.1, M.2.2.2.2.2.2.2.2.2.2.2.2.2.1, M.2.2.2.2.2.2.2.2.2.2.2.2.2.2.1, M.2.2.2.2.2.2.2.2.2.2.2.2.2.2.2.1, M.2.2.2.2.2.2.2.2.2.2.2.2.2.2.2.2), rfl, ⟨by simp only [fX11_pileR, if_neg c_1, if_neg c_2, if_pos c_3], by simp only [fX11_pileS, if_neg c_1, if_neg c_2, if_pos c_3]⟩, by rw [ht]; exact hP, va_K.moved hW.alike hK, hD⟩, hS.F ht⟩) hS.2.2 dX11_pile_38

def lX11_loadOf_1R (M : MM) (pl : Int32) : Nat → Int32 × Int32 × Int32 → Int32
  | 0, _ => 0
  | n + 1, x => (if (((fX11_ruleS (fX11_ruleS M 2 5) 2 0).2.2.2.2.2.2.2.2.2.2.1) pl.toNatClampNeg) ≤ x.2.2 then (2 * x.1) else (if (((fX11_ruleS (fX11_ruleS M 2 5) 2 0).2.2.2.2.1) (((fX11_ruleS (fX11_ruleS M 2 5) 2 0).2.2.2.2.2.2.2.2.2.2.2.1) ((12 * pl) + x.2.2).toNatClampNeg).toNatClampNeg) = 0 then lX11_loadOf_1R M pl n ((x.1 + (((fX11_ruleS (fX11_ruleS M 2 5) 2 0).2.2.2.1) (((fX11_ruleS (fX11_ruleS M 2 5) 2 0).2.2.2.2.2.2.2.2.2.2.2.1) ((12 * pl) + x.2.2).toNatClampNeg).toNatClampNeg)), (x.2.1 + 0), (x.2.2 + 1)) else lX11_loadOf_1R M pl n ((x.1 + (((fX11_ruleS (fX11_ruleS M 2 5) 2 0).2.2.2.1) (((fX11_ruleS (fX11_ruleS M 2 5) 2 0).2.2.2.2.2.2.2.2.2.2.2.1) ((12 * pl) + x.2.2).toNatClampNeg).toNatClampNeg)), (x.2.1 + 1), (x.2.2 + 1))))
def lX11_loadOf_1S (M : MM) (pl : Int32) : Nat → Int32 × Int32 × Int32 → MM
  | 0, _ => M
  | n + 1, x => (if (((fX11_ruleS (fX11_ruleS M 2 5) 2 0).2.2.2.2.2.2.2.2.2.2.1) pl.toNatClampNeg) ≤ x.2.2 then fX11_ruleS (fX11_ruleS M 2 5) 2 0 else (if (((fX11_ruleS (fX11_ruleS M 2 5) 2 0).2.2.2.2.1) (((fX11_ruleS (fX11_ruleS M 2 5) 2 0).2.2.2.2.2.2.2.2.2.2.2.1) ((12 * pl) + x.2.2).toNatClampNeg).toNatClampNeg) = 0 then lX11_loadOf_1S M pl n ((x.1 + (((fX11_ruleS (fX11_ruleS M 2 5) 2 0).2.2.2.1) (((fX11_ruleS (fX11_ruleS M 2 5) 2 0).2.2.2.2.2.2.2.2.2.2.2.1) ((12 * pl) + x.2.2).toNatClampNeg).toNatClampNeg)), (x.2.1 + 0), (x.2.2 + 1)) else lX11_loadOf_1S M pl n ((x.1 + (((fX11_ruleS (fX11_ruleS M 2 5) 2 0).2.2.2.1) (((fX11_ruleS (fX11_ruleS M 2 5) 2 0).2.2.2.2.2.2.2.2.2.2.2.1) ((12 * pl) + x.2.2).toNatClampNeg).toNatClampNeg)), (x.2.1 + 1), (x.2.2 + 1))))
def lX11_loadOf_1K (M : MM) (pl : Int32) : Nat → Int32 × Int32 × Int32 → Prop
  | 0, _ => True
  | n + 1, x => (((((fX11_ruleS (fX11_ruleS M 2 5) 2 0).2.2.2.2.2.2.2.2.2.2.1) pl.toNatClampNeg) ≤ x.2.2 → True) ∧ (¬ (((fX11_ruleS (fX11_ruleS M 2 5) 2 0).2.2.2.2.2.2.2.2.2.2.1) pl.toNatClampNeg) ≤ x.2.2 → (vp_in ((12 * pl) + x.2.2) 144 ∧ vp_in (((fX11_ruleS (fX11_ruleS M 2 5) 2 0).2.2.2.2.2.2.2.2.2.2.2.1) ((12 * pl) + x.2.2).toNatClampNeg) 60 ∧ (((((fX11_ruleS (fX11_ruleS M 2 5) 2 0).2.2.2.2.1) (((fX11_ruleS (fX11_ruleS M 2 5) 2 0).2.2.2.2.2.2.2.2.2.2.2.1) ((12 * pl) + x.2.2).toNatClampNeg).toNatClampNeg) = 0 → (lX11_loadOf_1K M pl n ((x.1 + (((fX11_ruleS (fX11_ruleS M 2 5) 2 0).2.2.2.1) (((fX11_ruleS (fX11_ruleS M 2 5) 2 0).2.2.2.2.2.2.2.2.2.2.2.1) ((12 * pl) + x.2.2).toNatClampNeg).toNatClampNeg)), (x.2.1 + 0), (x.2.2 + 1)) ∧ True)) ∧ (¬ (((fX11_ruleS (fX11_ruleS M 2 5) 2 0).2.2.2.2.1) (((fX11_ruleS (fX11_ruleS M 2 5) 2 0).2.2.2.2.2.2.2.2.2.2.2.1) ((12 * pl) + x.2.2).toNatClampNeg).toNatClampNeg) = 0 → (lX11_loadOf_1K M pl n ((x.1 + (((fX11_ruleS (fX11_ruleS M 2 5) 2 0).2.2.2.1) (((fX11_ruleS (fX11_ruleS M 2 5) 2 0).2.2.2.2.2.2.2.2.2.2.2.1) ((12 * pl) + x.2.2).toNatClampNeg).toNatClampNeg)), (x.2.1 + 1), (x.2.2 + 1)) ∧ True))))))
def lX11_loadOf_2R (M : MM) (pl : Int32) : Nat → Int32 × Int32 × Int32 → Int32
  | 0, _ => 0
  | n + 1, x => (if (((fX11_ruleS M 2 0).2.2.2.2.2.2.2.2.2.2.1) pl.toNatClampNeg) ≤ x.2.2 then x.1 else (if (((fX11_ruleS M 2 0).2.2.2.2.1) (((fX11_ruleS M 2 0).2.2.2.2.2.2.2.2.2.2.2.1) ((12 * pl) + x.2.2).toNatClampNeg).toNatClampNeg) = 0 then lX11_loadOf_2R M pl n ((x.1 + (((fX11_ruleS M 2 0).2.2.2.1) (((fX11_ruleS M 2 0).2.2.2.2.2.2.2.2.2.2.2.1) ((12 * pl) + x.2.2).toNatClampNeg).toNatClampNeg)), (x.2.1 + 0), (x.2.2 + 1)) else lX11_loadOf_2R M pl n ((x.1 + (((fX11_ruleS M 2 0).2.2.2.1) (((fX11_ruleS M 2 0).2.2.2.2.2.2.2.2.2.2.2.1) ((12 * pl) + x.2.2).toNatClampNeg).toNatClampNeg)), (x.2.1 + 1), (x.2.2 + 1))))
def lX11_loadOf_2S (M : MM) (pl : Int32) : Nat → Int32 × Int32 × Int32 → MM
  | 0, _ => M
  | n + 1, x => (if (((fX11_ruleS M 2 0).2.2.2.2.2.2.2.2.2.2.1) pl.toNatClampNeg) ≤ x.2.2 then fX11_ruleS M 2 0 else (if (((fX11_ruleS M 2 0).2.2.2.2.1) (((fX11_ruleS M 2 0).2.2.2.2.2.2.2.2.2.2.2.1) ((12 * pl) + x.2.2).toNatClampNeg).toNatClampNeg) = 0 then lX11_loadOf_2S M pl n ((x.1 + (((fX11_ruleS M 2 0).2.2.2.1) (((fX11_ruleS M 2 0).2.2.2.2.2.2.2.2.2.2.2.1) ((12 * pl) + x.2.2).toNatClampNeg).toNatClampNeg)), (x.2.1 + 0), (x.2.2 + 1)) else lX11_loadOf_2S M pl n ((x.1 + (((fX11_ruleS M 2 0).2.2.2.1) (((fX11_ruleS M 2 0).2.2.2.2.2.2.2.2.2.2.2.1) ((12 * pl) + x.2.2).toNatClampNeg).toNatClampNeg)), (x.2.1 + 1), (x.2.2 + 1))))
def lX11_loadOf_2K (M : MM) (pl : Int32) : Nat → Int32 × Int32 × Int32 → Prop
  | 0, _ => True
  | n + 1, x => (((((fX11_ruleS M 2 0).2.2.2.2.2.2.2.2.2.2.1) pl.toNatClampNeg) ≤ x.2.2 → True) ∧ (¬ (((fX11_ruleS M 2 0).2.2.2.2.2.2.2.2.2.2.1) pl.toNatClampNeg) ≤ x.2.2 → (vp_in ((12 * pl) + x.2.2) 144 ∧ vp_in (((fX11_ruleS M 2 0).2.2.2.2.2.2.2.2.2.2.2.1) ((12 * pl) + x.2.2).toNatClampNeg) 60 ∧ (((((fX11_ruleS M 2 0).2.2.2.2.1) (((fX11_ruleS M 2 0).2.2.2.2.2.2.2.2.2.2.2.1) ((12 * pl) + x.2.2).toNatClampNeg).toNatClampNeg) = 0 → (lX11_loadOf_2K M pl n ((x.1 + (((fX11_ruleS M 2 0).2.2.2.1) (((fX11_ruleS M 2 0).2.2.2.2.2.2.2.2.2.2.2.1) ((12 * pl) + x.2.2).toNatClampNeg).toNatClampNeg)), (x.2.1 + 0), (x.2.2 + 1)) ∧ True)) ∧ (¬ (((fX11_ruleS M 2 0).2.2.2.2.1) (((fX11_ruleS M 2 0).2.2.2.2.2.2.2.2.2.2.2.1) ((12 * pl) + x.2.2).toNatClampNeg).toNatClampNeg) = 0 → (lX11_loadOf_2K M pl n ((x.1 + (((fX11_ruleS M 2 0).2.2.2.1) (((fX11_ruleS M 2 0).2.2.2.2.2.2.2.2.2.2.2.1) ((12 * pl) + x.2.2).toNatClampNeg).toNatClampNeg)), (x.2.1 + 1), (x.2.2 + 1)) ∧ True))))))
def lX11_loadOf_3R (M : MM) (pl : Int32) : Nat → Int32 × Int32 × Int32 → Int32
  | 0, _ => 0
  | n + 1, x => (if (((fX11_ruleS (fX11_ruleS M 2 6) 2 0).2.2.2.2.2.2.2.2.2.2.1) pl.toNatClampNeg) ≤ x.2.2 then (x.1 + (10 * x.2.1)) else (if (((fX11_ruleS (fX11_ruleS M 2 6) 2 0).2.2.2.2.1) (((fX11_ruleS (fX11_ruleS M 2 6) 2 0).2.2.2.2.2.2.2.2.2.2.2.1) ((12 * pl) + x.2.2).toNatClampNeg).toNatClampNeg) = 0 then lX11_loadOf_3R M pl n ((x.1 + (((fX11_ruleS (fX11_ruleS M 2 6) 2 0).2.2.2.1) (((fX11_ruleS (fX11_ruleS M 2 6) 2 0).2.2.2.2.2.2.2.2.2.2.2.1) ((12 * pl) + x.2.2).toNatClampNeg).toNatClampNeg)), (x.2.1 + 0), (x.2.2 + 1)) else lX11_loadOf_3R M pl n ((x.1 + (((fX11_ruleS (fX11_ruleS M 2 6) 2 0).2.2.2.1) (((fX11_ruleS (fX11_ruleS M 2 6) 2 0).2.2.2.2.2.2.2.2.2.2.2.1) ((12 * pl) + x.2.2).toNatClampNeg).toNatClampNeg)), (x.2.1 + 1), (x.2.2 + 1))))
def lX11_loadOf_3S (M : MM) (pl : Int32) : Nat → Int32 × Int32 × Int32 → MM
  | 0, _ => M
  | n + 1, x => (if (((fX11_ruleS (fX11_ruleS M 2 6) 2 0).2.2.2.2.2.2.2.2.2.2.1) pl.toNatClampNeg) ≤ x.2.2 then fX11_ruleS (fX11_ruleS M 2 6) 2 0 else (if (((fX11_ruleS (fX11_ruleS M 2 6) 2 0).2.2.2.2.1) (((fX11_ruleS (fX11_ruleS M 2 6) 2 0).2.2.2.2.2.2.2.2.2.2.2.1) ((12 * pl) + x.2.2).toNatClampNeg).toNatClampNeg) = 0 then lX11_loadOf_3S M pl n ((x.1 + (((fX11_ruleS (fX11_ruleS M 2 6) 2 0).2.2.2.1) (((fX11_ruleS (fX11_ruleS M 2 6) 2 0).2.2.2.2.2.2.2.2.2.2.2.1) ((12 * pl) + x.2.2).toNatClampNeg).toNatClampNeg)), (x.2.1 + 0), (x.2.2 + 1)) else lX11_loadOf_3S M pl n ((x.1 + (((fX11_ruleS (fX11_ruleS M 2 6) 2 0).2.2.2.1) (((fX11_ruleS (fX11_ruleS M 2 6) 2 0).2.2.2.2.2.2.2.2.2.2.2.1) ((12 * pl) + x.2.2).toNatClampNeg).toNatClampNeg)), (x.2.1 + 1), (x.2.2 + 1))))
def lX11_loadOf_3K (M : MM) (pl : Int32) : Nat → Int32 × Int32 × Int32 → Prop
  | 0, _ => True
  | n + 1, x => (((((fX11_ruleS (fX11_ruleS M 2 6) 2 0).2.2.2.2.2.2.2.2.2.2.1) pl.toNatClampNeg) ≤ x.2.2 → True) ∧ (¬ (((fX11_ruleS (fX11_ruleS M 2 6) 2 0).2.2.2.2.2.2.2.2.2.2.1) pl.toNatClampNeg) ≤ x.2.2 → (vp_in ((12 * pl) + x.2.2) 144 ∧ vp_in (((fX11_ruleS (fX11_ruleS M 2 6) 2 0).2.2.2.2.2.2.2.2.2.2.2.1) ((12 * pl) + x.2.2).toNatClampNeg) 60 ∧ (((((fX11_ruleS (fX11_ruleS M 2 6) 2 0).2.2.2.2.1) (((fX11_ruleS (fX11_ruleS M 2 6) 2 0).2.2.2.2.2.2.2.2.2.2.2.1) ((12 * pl) + x.2.2).toNatClampNeg).toNatClampNeg) = 0 → (lX11_loadOf_3K M pl n ((x.1 + (((fX11_ruleS (fX11_ruleS M 2 6) 2 0).2.2.2.1) (((fX11_ruleS (fX11_ruleS M 2 6) 2 0).2.2.2.2.2.2.2.2.2.2.2.1) ((12 * pl) + x.2.2).toNatClampNeg).toNatClampNeg)), (x.2.1 + 0), (x.2.2 + 1)) ∧ True)) ∧ (¬ (((fX11_ruleS (fX11_ruleS M 2 6) 2 0).2.2.2.2.1) (((fX11_ruleS (fX11_ruleS M 2 6) 2 0).2.2.2.2.2.2.2.2.2.2.2.1) ((12 * pl) + x.2.2).toNatClampNeg).toNatClampNeg) = 0 → (lX11_loadOf_3K M pl n ((x.1 + (((fX11_ruleS (fX11_ruleS M 2 6) 2 0).2.2.2.1) (((fX11_ruleS (fX11_ruleS M 2 6) 2 0).2.2.2.2.2.2.2.2.2.2.2.1) ((12 * pl) + x.2.2).toNatClampNeg).toNatClampNeg)), (x.2.1 + 1), (x.2.2 + 1)) ∧ True))))))
def lX11_loadOf_4R (M : MM) (pl : Int32) : Nat → Int32 × Int32 × Int32 → Int32
  | 0, _ => 0
  | n + 1, x => (if (((fX11_ruleS (fX11_ruleS M 2 5) 2 0).2.2.2.2.2.2.2.2.2.2.1) pl.toNatClampNeg) ≤ x.2.2 then (2 * x.1) else (if (((fX11_ruleS (fX11_ruleS M 2 5) 2 0).2.2.2.2.1) (((fX11_ruleS (fX11_ruleS M 2 5) 2 0).2.2.2.2.2.2.2.2.2.2.2.1) ((12 * pl) + x.2.2).toNatClampNeg).toNatClampNeg) = 0 then lX11_loadOf_4R M pl n ((x.1 + (((fX11_ruleS (fX11_ruleS M 2 5) 2 0).2.2.2.1) (((fX11_ruleS (fX11_ruleS M 2 5) 2 0).2.2.2.2.2.2.2.2.2.2.2.1) ((12 * pl) + x.2.2).toNatClampNeg).toNatClampNeg)), (x.2.1 + 0), (x.2.2 + 1)) else lX11_loadOf_4R M pl n ((x.1 + (((fX11_ruleS (fX11_ruleS M 2 5) 2 0).2.2.2.1) (((fX11_ruleS (fX11_ruleS M 2 5) 2 0).2.2.2.2.2.2.2.2.2.2.2.1) ((12 * pl) + x.2.2).toNatClampNeg).toNatClampNeg)), (x.2.1 + 1), (x.2.2 + 1))))
def lX11_loadOf_4S (M : MM) (pl : Int32) : Nat → Int32 × Int32 × Int32 → MM
  | 0, _ => M
  | n + 1, x => (if (((fX11_ruleS (fX11_ruleS M 2 5) 2 0).2.2.2.2.2.2.2.2.2.2.1) pl.toNatClampNeg) ≤ x.2.2 then fX11_ruleS (fX11_ruleS M 2 5) 2 0 else (if (((fX11_ruleS (fX11_ruleS M 2 5) 2 0).2.2.2.2.1) (((fX11_ruleS (fX11_ruleS M 2 5) 2 0).2.2.2.2.2.2.2.2.2.2.2.1) ((12 * pl) + x.2.2).toNatClampNeg).toNatClampNeg) = 0 then lX11_loadOf_4S M pl n ((x.1 + (((fX11_ruleS (fX11_ruleS M 2 5) 2 0).2.2.2.1) (((fX11_ruleS (fX11_ruleS M 2 5) 2 0).2.2.2.2.2.2.2.2.2.2.2.1) ((12 * pl) + x.2.2).toNatClampNeg).toNatClampNeg)), (x.2.1 + 0), (x.2.2 + 1)) else lX11_loadOf_4S M pl n ((x.1 + (((fX11_ruleS (fX11_ruleS M 2 5) 2 0).2.2.2.1) (((fX11_ruleS (fX11_ruleS M 2 5) 2 0).2.2.2.2.2.2.2.2.2.2.2.1) ((12 * pl) + x.2.2).toNatClampNeg).toNatClampNeg)), (x.2.1 + 1), (x.2.2 + 1))))
def lX11_loadOf_4K (M : MM) (pl : Int32) : Nat → Int32 × Int32 × Int32 → Prop
  | 0, _ => True
  | n + 1, x => (((((fX11_ruleS (fX11_ruleS M 2 5) 2 0).2.2.2.2.2.2.2.2.2.2.1) pl.toNatClampNeg) ≤ x.2.2 → True) ∧ (¬ (((fX11_ruleS (fX11_ruleS M 2 5) 2 0).2.2.2.2.2.2.2.2.2.2.1) pl.toNatClampNeg) ≤ x.2.2 → (vp_in ((12 * pl) + x.2.2) 144 ∧ vp_in (((fX11_ruleS (fX11_ruleS M 2 5) 2 0).2.2.2.2.2.2.2.2.2.2.2.1) ((12 * pl) + x.2.2).toNatClampNeg) 60 ∧ (((((fX11_ruleS (fX11_ruleS M 2 5) 2 0).2.2.2.2.1) (((fX11_ruleS (fX11_ruleS M 2 5) 2 0).2.2.2.2.2.2.2.2.2.2.2.1) ((12 * pl) + x.2.2).toNatClampNeg).toNatClampNeg) = 0 → (lX11_loadOf_4K M pl n ((x.1 + (((fX11_ruleS (fX11_ruleS M 2 5) 2 0).2.2.2.1) (((fX11_ruleS (fX11_ruleS M 2 5) 2 0).2.2.2.2.2.2.2.2.2.2.2.1) ((12 * pl) + x.2.2).toNatClampNeg).toNatClampNeg)), (x.2.1 + 0), (x.2.2 + 1)) ∧ True)) ∧ (¬ (((fX11_ruleS (fX11_ruleS M 2 5) 2 0).2.2.2.2.1) (((fX11_ruleS (fX11_ruleS M 2 5) 2 0).2.2.2.2.2.2.2.2.2.2.2.1) ((12 * pl) + x.2.2).toNatClampNeg).toNatClampNeg) = 0 → (lX11_loadOf_4K M pl n ((x.1 + (((fX11_ruleS (fX11_ruleS M 2 5) 2 0).2.2.2.1) (((fX11_ruleS (fX11_ruleS M 2 5) 2 0).2.2.2.2.2.2.2.2.2.2.2.1) ((12 * pl) + x.2.2).toNatClampNeg).toNatClampNeg)), (x.2.1 + 1), (x.2.2 + 1)) ∧ True))))))
def fX11_loadOfR (M : MM) (pl : Int32) : Int32 := (if (M.2.2.2.2.2.2.2.1 pl.toNatClampNeg) = 5 then lX11_loadOf_1R M pl (((fX11_ruleS (fX11_ruleS M 2 5) 2 0).2.2.2.2.2.2.2.2.2.2.1 pl.toNatClampNeg).toNatClampNeg + 1) (0, 0, 0) else (if (M.2.2.2.2.2.2.2.1 pl.toNatClampNeg) = 7 then lX11_loadOf_4R M pl (((fX11_ruleS (fX11_ruleS M 2 5) 2 0).2.2.2.2.2.2.2.2.2.2.1 pl.toNatClampNeg).toNatClampNeg + 1) (0, 0, 0) else (if (M.2.2.2.2.2.2.2.1 pl.toNatClampNeg) = 6 then lX11_loadOf_3R M pl (((fX11_ruleS (fX11_ruleS M 2 6) 2 0).2.2.2.2.2.2.2.2.2.2.1 pl.toNatClampNeg).toNatClampNeg + 1) (0, 0, 0) else lX11_loadOf_2R M pl (((fX11_ruleS M 2 0).2.2.2.2.2.2.2.2.2.2.1 pl.toNatClampNeg).toNatClampNeg + 1) (0, 0, 0))))
def fX11_loadOfS (M : MM) (pl : Int32) : MM := (if (M.2.2.2.2.2.2.2.1 pl.toNatClampNeg) = 5 then lX11_loadOf_1S M pl (((fX11_ruleS (fX11_ruleS M 2 5) 2 0).2.2.2.2.2.2.2.2.2.2.1 pl.toNatClampNeg).toNatClampNeg + 1) (0, 0, 0) else (if (M.2.2.2.2.2.2.2.1 pl.toNatClampNeg) = 7 then lX11_loadOf_4S M pl (((fX11_ruleS (fX11_ruleS M 2 5) 2 0).2.2.2.2.2.2.2.2.2.2.1 pl.toNatClampNeg).toNatClampNeg + 1) (0, 0, 0) else (if (M.2.2.2.2.2.2.2.1 pl.toNatClampNeg) = 6 then lX11_loadOf_3S M pl (((fX11_ruleS (fX11_ruleS M 2 6) 2 0).2.2.2.2.2.2.2.2.2.2.1 pl.toNatClampNeg).toNatClampNeg + 1) (0, 0, 0) else lX11_loadOf_2S M pl (((fX11_ruleS M 2 0).2.2.2.2.2.2.2.2.2.2.1 pl.toNatClampNeg).toNatClampNeg + 1) (0, 0, 0))))
def fX11_loadOfK (M : MM) (pl : Int32) : Prop := (vp_in pl 12 ∧ (((M.2.2.2.2.2.2.2.1 pl.toNatClampNeg) = 5 → (fX11_ruleK M 2 5 ∧ fX11_ruleK (fX11_ruleS M 2 5) 2 0 ∧ lX11_loadOf_1K M pl (((fX11_ruleS (fX11_ruleS M 2 5) 2 0).2.2.2.2.2.2.2.2.2.2.1 pl.toNatClampNeg).toNatClampNeg + 1) (0, 0, 0) ∧ True)) ∧ (¬ (M.2.2.2.2.2.2.2.1 pl.toNatClampNeg) = 5 → (((M.2.2.2.2.2.2.2.1 pl.toNatClampNeg) = 7 → (fX11_ruleK M 2 5 ∧ fX11_ruleK (fX11_ruleS M 2 5) 2 0 ∧ lX11_loadOf_4K M pl (((fX11_ruleS (fX11_ruleS M 2 5) 2 0).2.2.2.2.2.2.2.2.2.2.1 pl.toNatClampNeg).toNatClampNeg + 1) (0, 0, 0) ∧ True)) ∧ (¬ (M.2.2.2.2.2.2.2.1 pl.toNatClampNeg) = 7 → (((M.2.2.2.2.2.2.2.1 pl.toNatClampNeg) = 6 → (fX11_ruleK M 2 6 ∧ fX11_ruleK (fX11_ruleS M 2 6) 2 0 ∧ lX11_loadOf_3K M pl (((fX11_ruleS (fX11_ruleS M 2 6) 2 0).2.2.2.2.2.2.2.2.2.2.1 pl.toNatClampNeg).toNatClampNeg + 1) (0, 0, 0) ∧ True)) ∧ (¬ (M.2.2.2.2.2.2.2.1 pl.toNatClampNeg) = 6 → (fX11_ruleK M 2 0 ∧ lX11_loadOf_2K M pl (((fX11_ruleS M 2 0).2.2.2.2.2.2.2.2.2.2.1 pl.toNatClampNeg).toNatClampNeg + 1) (0, 0, 0) ∧ True))))))))
set_option maxHeartbeats 4000000 in
set_option maxRecDepth 100000 in
theorem c_X11_loadOf (l : Launch) (D : va_G) (g : MA) (M : MM) (pl : Int32) (hk : fX11_loadOfK M pl) : ctI l D (tyM g) yX11_loadOf (wd yX11_loadOf cX11_loadOf 7 (Option.some Jvm.ClassFile.FieldType.int)) { frames := 1, cells := 0, slots := 0, locals := 22 } [.ref g.mo, .int pl] (wM g M) (fun r w => r = fX11_loadOfR M pl ∧ w = wM g (fX11_loadOfS M pl)) := by
  intro sz
  refine Met.ofW (cc := cX11_loadOf) (maxL := 7) (ret := (Option.some Jvm.ClassFile.FieldType.int)) (by decide) rfl ?_
  intro p e s m args below meth c s₁ B hml hv
  obtain ⟨rfl, hsz, hP, hK, hD0⟩ := hv
  have hx := B.exec
  have hb := B.bytes
  have hr := B.returns
  have hts := atoms_spec (ws := (wd yX11_loadOf cX11_loadOf 7 (Option.some Jvm.ClassFile.FieldType.int))) B.pre
  have hg := Tb.of hts
  have hown : s.vm.findClass RX11 = some m.cls := findClass_of_methodNamed B.named
  have hlocks := B.notSynchronized
  subst hsz
  have hD := hD0.self (sz := s.heap.size)
  generalize hAe : va_A (wM g M) s.heap.size = A at hD ⊢
  have hA : ∀ q : Nat, s.heap.size ≤ q → A q := fun q h => by rw [← hAe]; exact Or.inr h
  have hS : va_S A s.heap s.heap [] := va_S.rf
  have hP : va_P D vwCl (wM g M) s.heap := hP
  have hl := lv_entry ([.ref g.mo, .int pl]) (n := 7) (Nat.le_of_ble_eq_true rfl)
  rw [lg_entry_eq]
  generalize (lg_sl ([.ref g.mo, .int pl]) ++ List.replicate (7 - (lg_sl ([.ref g.mo, .int pl])).length) Slot.unset).toArray = ls at hl ⊢
  have hl : lv_has ls 7 [(0, .ref g.mo), (1, .int pl)] := hl
  unfold fX11_loadOfK at hk
  refine lv_aload_n hx hb dX11_loadOf_0 rfl (lv_at hl 0 rfl) ?_
  refine va_get (D := D) (ci := 12) (v := .ref g.ak) (C := RX11) (T := TX11) (N := 17) hx hb hg in_X11 hown hK hP 0 rfl rfl 7 (by decide) (hg _ g_693) (fun _ h9 => h9) rfl dX11_loadOf_1 ?_
  refine lv_iload_n hx hb dX11_loadOf_4 rfl (lv_at hl 1 rfl) ?_
  obtain ⟨hb_1, hk⟩ := hk
  refine va_iald hx hb hK hP 5 0 rfl rfl (hb_1) dX11_loadOf_5 ?_
  refine lv_istore_n (lv' := [(2, .int (M.2.2.2.2.2.2.2.1 pl.toNatClampNeg)), (0, .ref g.mo), (1, .int pl)]) hx hb dX11_loadOf_6 rfl hl (by decide) rfl (fun ls hl => ?_)
  refine lv_iload_n hx hb dX11_loadOf_7 rfl (lv_at hl 0 rfl) ?_
  refine lv_iconst (v := 5) hx hb dX11_loadOf_8 (by decide) ?_
  refine lv_icmp_eq (tgt := 18) hx hb dX11_loadOf_9 (by decide) (fun c_2 => ?_) (fun c_2 => ?_)
  · -- (M.2.2.2.2.2.2.2.1 pl.toNatClampNeg) = 5
    have hk := hk.1 c_2
    refine lv_iconst (v := 1) hx hb dX11_loadOf_18 (by decide) ?_
    refine lv_goto (tgt := 23) hx hb dX11_loadOf_19 (by decide) ?_
    refine lv_istore_n (lv' := [(3, .int 1), (2, .int (M.2.2.2.2.2.2.2.1 pl.toNatClampNeg)), (0, .ref g.mo), (1, .int pl)]) hx hb dX11_loadOf_23 rfl hl (by decide) rfl (fun ls hl => ?_)
    refine lv_iload_n hx hb dX11_loadOf_24 rfl (lv_at hl 0 rfl) ?_
    refine lv_if_eq (tgt := 34) hx hb dX11_loadOf_25 (by decide) (fun c_3 => ?_) (fun c_3 => ?_)
    · -- 1 = 0
      exact absurd c_3 (by decide)
    · -- not 1 = 0
      refine lv_aload_n hx hb dX11_loadOf_28 rfl (lv_at hl 2 rfl) ?_
      refine lv_iconst (v := 2) hx hb dX11_loadOf_29 (by decide) ?_
      refine lv_iconst (v := 5) hx hb dX11_loadOf_30 (by decide) ?_
      obtain ⟨hc_4, hk⟩ := hk
      refine z_ve (va_runV (As := [.int 2, .int 5]) (rest := []) ⟨hx, hb, hml, hown, hts⟩ (c_X11_rule l D g M 2 5 hc_4 _) (z_V 2 hts g_772 g_4 g_769 g_771 gp_8 ⟨by decide, by decide, by decide +kernel⟩ ⟨Nat.le_of_ble_eq_true rfl, Nat.le_of_ble_eq_true rfl⟩) (z_preV (ci := 12) (q0 := 0) (hP.subm [0, 1, 2, 3, 4, 5, 6, 7, 8, 9, 10] rfl) (hD.sub [0, 1, 2, 3, 4, 5, 6, 7, 8, 9, 10] (by decide) rfl) hK rfl rfl) rfl rfl hl.1 rfl (lv_room (Nat.le_of_ble_eq_true rfl)) dX11_loadOf_31 ⟨Nat.le_of_ble_eq_true rfl, Nat.le_of_ble_eq_true rfl⟩) hP hD hS hA (([] : va_W)) (wM g (fX11_ruleS M 2 5)) [0, 1, 2, 3, 4, 5, 6, 7, 8, 9, 10] [] [0, 1, 2, 3, 4, 5, 6, 7, 8, 9, 10] rfl rfl (by decide) (by decide) rfl (by decide) (fun H locs hP hD hS => ?_)
      refine lv_iload_n hx hb dX11_loadOf_34 rfl (lv_at hl 1 rfl) ?_
      refine lv_bipush (v := 6) hx hb dX11_loadOf_35 (by decide) ?_
      refine lv_icmp_ne (tgt := 47) hx hb dX11_loadOf_37 (by decide) (fun c_5 => ?_) (fun c_5 => ?_)
      · -- not (M.2.2.2.2.2.2.2.1 pl.toNatClampNeg) = 6
        refine lv_aload_n hx hb dX11_loadOf_47 rfl (lv_at hl 2 rfl) ?_
        refine lv_iconst (v := 2) hx hb dX11_loadOf_48 (by decide) ?_
        refine lv_iconst (v := 0) hx hb dX11_loadOf_49 (by decide) ?_
        obtain ⟨hc_6, hk⟩ := hk
        refine z_ve (va_runV (As := [.int 2, .int 0]) (rest := []) ⟨hx, hb, hml, hown, hts⟩ (c_X11_rule l D g (fX11_ruleS M 2 5) 2 0 hc_6 _) (z_V 2 hts g_772 g_4 g_769 g_771 gp_8 ⟨by decide, by decide, by decide +kernel⟩ ⟨Nat.le_of_ble_eq_true rfl, Nat.le_of_ble_eq_true rfl⟩) (z_preV (ci := 12) (q0 := 0) (hP.subm [0, 1, 2, 3, 4, 5, 6, 7, 8, 9, 10] rfl) (hD.sub [0, 1, 2, 3, 4, 5, 6, 7, 8, 9, 10] (by decide) rfl) hK rfl rfl) rfl rfl hl.1 rfl (lv_room (Nat.le_of_ble_eq_true rfl)) dX11_loadOf_50 ⟨Nat.le_of_ble_eq_true rfl, Nat.le_of_ble_eq_true rfl⟩) hP hD hS hA (([] : va_W)) (wM g (fX11_ruleS (fX11_ruleS M 2 5) 2 0)) [0, 1, 2, 3, 4, 5, 6, 7, 8, 9, 10] [] [0, 1, 2, 3, 4, 5, 6, 7, 8, 9, 10] rfl rfl (by decide) (by decide) rfl (by decide) (fun H locs hP hD hS => ?_)
        refine lv_iconst (v := 0) hx hb dX11_loadOf_53 (by decide) ?_
        refine lv_istore (lv' := [(4, .int 0), (3, .int 1), (2, .int (M.2.2.2.2.2.2.2.1 pl.toNatClampNeg)), (0, .ref g.mo), (1, .int pl)]) hx hb dX11_loadOf_54 hl (by decide) rfl (fun ls hl => ?_)
        refine lv_iconst (v := 0) hx hb dX11_loadOf_56 (by decide) ?_
        refine lv_istore (lv' := [(5, .int 0), (4, .int 0), (3, .int 1), (2, .int (M.2.2.2.2.2.2.2.1 pl.toNatClampNeg)), (0, .ref g.mo), (1, .int pl)]) hx hb dX11_loadOf_57 hl (by decide) rfl (fun ls hl => ?_)
        refine lv_iconst (v := 0) hx hb dX11_loadOf_59 (by decide) ?_
        refine lv_istore (lv' := [(6, .int 0), (5, .int 0), (4, .int 0), (3, .int 1), (2, .int (M.2.2.2.2.2.2.2.1 pl.toNatClampNeg)), (0, .ref g.mo), (1, .int pl)]) hx hb dX11_loadOf_60 hl (by decide) rfl (fun ls hl => ?_)
        obtain ⟨hL_7, hk⟩ := hk
        refine z_loop (pc := 62) (fun n (x : Int32 × Int32 × Int32) H locs ls => ((((fX11_ruleS (fX11_ruleS M 2 5) 2 0).2.2.2.2.2.2.2.2.2.2.1 pl.toNatClampNeg).toInt - x.2.2.toInt).toNat < n ∧ lX11_loadOf_1R M pl n x = fX11_loadOfR M pl ∧ lX11_loadOf_1S M pl n x = fX11_loadOfS M pl ∧ lX11_loadOf_1K M pl n x) ∧ va_P D vwCl (wM g (fX11_ruleS (fX11_ruleS M 2 5) 2 0)) H ∧ va_D A (wM g (fX11_ruleS (fX11_ruleS M 2 5) 2 0)) ∧ va_S A s.heap H locs ∧ lv_has ls 7 [(0, .ref g.mo), (1, .int pl), (2, .int (M.2.2.2.2.2.2.2.1 pl.toNatClampNeg)), (3, .int 1), (4, .int x.1), (5, .int x.2.1), (6, .int x.2.2)]) (fun x H locs ls h => absurd h.1.1 (Nat.not_lt_zero _)) ?_ (((fX11_ruleS (fX11_ruleS M 2 5) 2 0).2.2.2.2.2.2.2.2.2.2.1 pl.toNatClampNeg).toNatClampNeg + 1) (0, 0, 0) _ _ _ ⟨⟨lp_st _, (by simp only [fX11_loadOfR, if_pos c_2]), (by simp only [fX11_loadOfS, if_pos c_2]), hL_7⟩, hP, hD, hS, lv_sub hl [5, 6, 4, 3, 2, 1, 0] rfl⟩
        intro n x H locs ls hI ih
        obtain ⟨hI, hP, hD, hS, hl⟩ := hI
        have hk : (((((fX11_ruleS (fX11_ruleS M 2 5) 2 0).2.2.2.2.2.2.2.2.2.2.1) pl.toNatClampNeg) ≤ x.2.2 → True) ∧ (¬ (((fX11_ruleS (fX11_ruleS M 2 5) 2 0).2.2.2.2.2.2.2.2.2.2.1) pl.toNatClampNeg) ≤ x.2.2 → (vp_in ((12 * pl) + x.2.2) 144 ∧ vp_in (((fX11_ruleS (fX11_ruleS M 2 5) 2 0).2.2.2.2.2.2.2.2.2.2.2.1) ((12 * pl) + x.2.2).toNatClampNeg) 60 ∧ (((((fX11_ruleS (fX11_ruleS M 2 5) 2 0).2.2.2.2.1) (((fX11_ruleS (fX11_ruleS M 2 5) 2 0).2.2.2.2.2.2.2.2.2.2.2.1) ((12 * pl) + x.2.2).toNatClampNeg).toNatClampNeg) = 0 → (lX11_loadOf_1K M pl n ((x.1 + (((fX11_ruleS (fX11_ruleS M 2 5) 2 0).2.2.2.1) (((fX11_ruleS (fX11_ruleS M 2 5) 2 0).2.2.2.2.2.2.2.2.2.2.2.1) ((12 * pl) + x.2.2).toNatClampNeg).toNatClampNeg)), (x.2.1 + 0), (x.2.2 + 1)) ∧ True)) ∧ (¬ (((fX11_ruleS (fX11_ruleS M 2 5) 2 0).2.2.2.2.1) (((fX11_ruleS (fX11_ruleS M 2 5) 2 0).2.2.2.2.2.2.2.2.2.2.2.1) ((12 * pl) + x.2.2).toNatClampNeg).toNatClampNeg) = 0 → (lX11_loadOf_1K M pl n ((x.1 + (((fX11_ruleS (fX11_ruleS M 2 5) 2 0).2.2.2.1) (((fX11_ruleS (fX11_ruleS M 2 5) 2 0).2.2.2.2.2.2.2.2.2.2.2.1) ((12 * pl) + x.2.2).toNatClampNeg).toNatClampNeg)), (x.2.1 + 1), (x.2.2 + 1)) ∧ True)))))) := hI.2.2.2
        refine lv_iload hx hb dX11_loadOf_62 (lv_at hl 6 rfl) ?_
        refine lv_aload_n hx hb dX11_loadOf_64 rfl (lv_at hl 0 rfl) ?_
        refine va_get (D := D) (ci := 12) (v := .ref g.an) (C := RX11) (T := TX11) (N := 17) hx hb hg in_X11 hown hK hP 0 rfl rfl 10 (by decide) (hg _ g_696) (fun _ h9 => h9) rfl dX11_loadOf_65 ?_
        refine lv_iload_n hx hb dX11_loadOf_68 rfl (lv_at hl 1 rfl) ?_
        refine va_iald hx hb hK hP 8 0 rfl rfl (hb_1) dX11_loadOf_69 ?_
        refine lv_icmp_ge (tgt := 131) hx hb dX11_loadOf_70 (by decide) (fun c_8 => ?_) (fun c_8 => ?_)
        · -- (((fX11_ruleS (fX11_ruleS M 2 5) 2 0).2.2.2.2.2.2.2.2.2.2.1) pl.toNatClampNeg) ≤ x.2.2
          have hk := hk.1 c_8
          refine lv_iload_n hx hb dX11_loadOf_131 rfl (lv_at hl 3 rfl) ?_
          refine lv_if_eq (tgt := 142) hx hb dX11_loadOf_132 (by decide) (fun c_9 => ?_) (fun c_9 => ?_)
          · -- 1 = 0
            exact absurd c_9 (by decide)
          · -- not 1 = 0
            refine lv_iconst (v := 2) hx hb dX11_loadOf_135 (by decide) ?_
            refine lv_iload hx hb dX11_loadOf_136 (lv_at hl 4 rfl) ?_
            refine lv_imul hx hb dX11_loadOf_138 ?_
            refine lv_goto (tgt := 161) hx hb dX11_loadOf_139 (by decide) ?_
            exact W.iret (v := (2 * x.1)) hx hb hr (fun t9 ht hW => ⟨⟨(2 * x.1), wM g (fX11_ruleS (fX11_ruleS M 2 5) 2 0), rfl, ⟨(by rw [← hI.2.1]; simp only [lX11_loadOf_1R, if_pos c_8]), (by rw [← hI.2.2.1]; simp only [lX11_loadOf_1S, if_pos c_8])⟩, by rw [ht]; exact hP, va_K.moved hW.alike hK, hD⟩, hS.F ht⟩) hS.2.2 dX11_loadOf_161
        · -- not (((fX11_ruleS (fX11_ruleS M 2 5) 2 0).2.2.2.2.2.2.2.2.2.2.1) pl.toNatClampNeg) ≤ x.2.2
          have hk := hk.2 c_8
          refine lv_iload hx hb dX11_loadOf_73 (lv_at hl 4 rfl) ?_
          refine lv_aload_n hx hb dX11_loadOf_75 rfl (lv_at hl 0 rfl) ?_
          refine va_get (D := D) (ci := 12) (v := .ref g.aw) (C := RX11) (T := TX11) (N := 17) hx hb hg in_X11 hown hK hP 0 rfl rfl 3 (by decide) (hg _ g_689) (fun _ h9 => h9) rfl dX11_loadOf_76 ?_
          refine lv_aload_n hx hb dX11_loadOf_79 rfl (lv_at hl 0 rfl) ?_
          refine va_get (D := D) (ci := 12) (v := .ref g.ar) (C := RX11) (T := TX11) (N := 17) hx hb hg in_X11 hown hK hP 0 rfl rfl 11 (by decide) (hg _ g_697) (fun _ h9 => h9) rfl dX11_loadOf_80 ?_
          refine lv_bipush (v := 12) hx hb dX11_loadOf_83 (by decide) ?_
          refine lv_iload_n hx hb dX11_loadOf_85 rfl (lv_at hl 1 rfl) ?_
          refine lv_imul hx hb dX11_loadOf_86 ?_
          refine lv_iload hx hb dX11_loadOf_87 (lv_at hl 6 rfl) ?_
          refine lv_iadd hx hb dX11_loadOf_89 ?_
          obtain ⟨hb_10, hk⟩ := hk
          refine va_iald hx hb hK hP 9 0 rfl rfl (hb_10) dX11_loadOf_90 ?_
          obtain ⟨hb_11, hk⟩ := hk
          refine va_iald hx hb hK hP 2 0 rfl rfl (hb_11) dX11_loadOf_91 ?_
          refine lv_iadd hx hb dX11_loadOf_92 ?_
          refine lv_istore (lv' := [(4, .int (x.1 + (((fX11_ruleS (fX11_ruleS M 2 5) 2 0).2.2.2.1) (((fX11_ruleS (fX11_ruleS M 2 5) 2 0).2.2.2.2.2.2.2.2.2.2.2.1) ((12 * pl) + x.2.2).toNatClampNeg).toNatClampNeg))), (0, .ref g.mo), (1, .int pl), (2, .int (M.2.2.2.2.2.2.2.1 pl.toNatClampNeg)), (3, .int 1), (5, .int x.2.1), (6, .int x.2.2)]) hx hb dX11_loadOf_93 hl (by decide) rfl (fun ls hl => ?_)
          refine lv_iload hx hb dX11_loadOf_95 (lv_at hl 5 rfl) ?_
          refine lv_aload_n hx hb dX11_loadOf_97 rfl (lv_at hl 1 rfl) ?_
          refine va_get (D := D) (ci := 12) (v := .ref g.az) (C := RX11) (T := TX11) (N := 17) hx hb hg in_X11 hown hK hP 0 rfl rfl 4 (by decide) (hg _ g_690) (fun _ h9 => h9) rfl dX11_loadOf_98 ?_
          refine lv_aload_n hx hb dX11_loadOf_101 rfl (lv_at hl 1 rfl) ?_
          refine va_get (D := D) (ci := 12) (v := .ref g.ar) (C := RX11) (T := TX11) (N := 17) hx hb hg in_X11 hown hK hP 0 rfl rfl 11 (by decide) (hg _ g_697) (fun _ h9 => h9) rfl dX11_loadOf_102 ?_
          refine lv_bipush (v := 12) hx hb dX11_loadOf_105 (by decide) ?_
          refine lv_iload_n hx hb dX11_loadOf_107 rfl (lv_at hl 2 rfl) ?_
          refine lv_imul hx hb dX11_loadOf_108 ?_
          refine lv_iload hx hb dX11_loadOf_109 (lv_at hl 6 rfl) ?_
          refine lv_iadd hx hb dX11_loadOf_111 ?_
          refine va_iald hx hb hK hP 9 0 rfl rfl (hb_10) dX11_loadOf_112 ?_
          refine va_zald hx hb hK hP 3 1 rfl rfl (hb_11) dX11_loadOf_113 ?_
          refine lv_if_eq (tgt := 121) hx hb dX11_loadOf_114 (by decide) (fun c_12 => ?_) (fun c_12 => ?_)
          · -- (((fX11_ruleS (fX11_ruleS M 2 5) 2 0).2.2.2.2.1) (((fX11_ruleS (fX11_ruleS M 2 5) 2 0).2.2.2.2.2.2.2.2.2.2.2.1) ((12 * pl) + x.2.2).toNatClampNeg).toNatClampNeg) = 0
            have hk := hk.1 c_12
            refine lv_iconst (v := 0) hx hb dX11_loadOf_121 (by decide) ?_
            refine lv_iadd hx hb dX11_loadOf_122 ?_
            refine lv_istore (lv' := [(5, .int (x.2.1 + 0)), (4, .int (x.1 + (((fX11_ruleS (fX11_ruleS M 2 5) 2 0).2.2.2.1) (((fX11_ruleS (fX11_ruleS M 2 5) 2 0).2.2.2.2.2.2.2.2.2.2.2.1) ((12 * pl) + x.2.2).toNatClampNeg).toNatClampNeg))), (0, .ref g.mo), (1, .int pl), (2, .int (M.2.2.2.2.2.2.2.1 pl.toNatClampNeg)), (3, .int 1), (6, .int x.2.2)]) hx hb dX11_loadOf_123 hl (by decide) rfl (fun ls hl => ?_)
            refine lv_iinc (v := (x.2.2 + 1)) (lv' := [(6, .int (x.2.2 + 1)), (5, .int (x.2.1 + 0)), (4, .int (x.1 + (((fX11_ruleS (fX11_ruleS M 2 5) 2 0).2.2.2.1) (((fX11_ruleS (fX11_ruleS M 2 5) 2 0).2.2.2.2.2.2.2.2.2.2.2.1) ((12 * pl) + x.2.2).toNatClampNeg).toNatClampNeg))), (0, .ref g.mo), (1, .int pl), (2, .int (M.2.2.2.2.2.2.2.1 pl.toNatClampNeg)), (3, .int 1)]) hx hb dX11_loadOf_125 hl (k := 6) rfl rfl (by decide) rfl (fun ls hl => ?_)
            refine lv_goto (tgt := 62) hx hb dX11_loadOf_128 (by decide) ?_
            obtain ⟨hL_13, hk⟩ := hk
            exact ih ((x.1 + (((fX11_ruleS (fX11_ruleS M 2 5) 2 0).2.2.2.1) (((fX11_ruleS (fX11_ruleS M 2 5) 2 0).2.2.2.2.2.2.2.2.2.2.2.1) ((12 * pl) + x.2.2).toNatClampNeg).toNatClampNeg)), (x.2.1 + 0), (x.2.2 + 1)) _ _ _ ⟨⟨lp_up c_8 hI.1, (by rw [← hI.2.1]; simp only [lX11_loadOf_1R, if_neg c_8, if_pos c_12]), (by rw [← hI.2.2.1]; simp only [lX11_loadOf_1S, if_neg c_8, if_pos c_12]), hL_13⟩, hP, hD, hS, lv_sub hl [3, 4, 5, 6, 2, 1, 0] rfl⟩
          · -- not (((fX11_ruleS (fX11_ruleS M 2 5) 2 0).2.2.2.2.1) (((fX11_ruleS (fX11_ruleS M 2 5) 2 0).2.2.2.2.2.2.2.2.2.2.2.1) ((12 * pl) + x.2.2).toNatClampNeg).toNatClampNeg) = 0
            have hk := hk.2 c_12
            refine lv_iconst (v := 1) hx hb dX11_loadOf_117 (by decide) ?_
            refine lv_goto (tgt := 122) hx hb dX11_loadOf_118 (by decide) ?_
            refine lv_iadd hx hb dX11_loadOf_122 ?_
            refine lv_istore (lv' := [(5, .int (x.2.1 + 1)), (4, .int (x.1 + (((fX11_ruleS (fX11_ruleS M 2 5) 2 0).2.2.2.1) (((fX11_ruleS (fX11_ruleS M 2 5) 2 0).2.2.2.2.2.2.2.2.2.2.2.1) ((12 * pl) + x.2.2).toNatClampNeg).toNatClampNeg))), (0, .ref g.mo), (1, .int pl), (2, .int (M.2.2.2.2.2.2.2.1 pl.toNatClampNeg)), (3, .int 1), (6, .int x.2.2)]) hx hb dX11_loadOf_123 hl (by decide) rfl (fun ls hl => ?_)
            refine lv_iinc (v := (x.2.2 + 1)) (lv' := [(6, .int (x.2.2 + 1)), (5, .int (x.2.1 + 1)), (4, .int (x.1 + (((fX11_ruleS (fX11_ruleS M 2 5) 2 0).2.2.2.1) (((fX11_ruleS (fX11_ruleS M 2 5) 2 0).2.2.2.2.2.2.2.2.2.2.2.1) ((12 * pl) + x.2.2).toNatClampNeg).toNatClampNeg))), (0, .ref g.mo), (1, .int pl), (2, .int (M.2.2.2.2.2.2.2.1 pl.toNatClampNeg)), (3, .int 1)]) hx hb dX11_loadOf_125 hl (k := 6) rfl rfl (by decide) rfl (fun ls hl => ?_)
            refine lv_goto (tgt := 62) hx hb dX11_loadOf_128 (by decide) ?_
            obtain ⟨hL_14, hk⟩ := hk
            exact ih ((x.1 + (((fX11_ruleS (fX11_ruleS M 2 5) 2 0).2.2.2.1) (((fX11_ruleS (fX11_ruleS M 2 5) 2 0).2.2.2.2.2.2.2.2.2.2.2.1) ((12 * pl) + x.2.2).toNatClampNeg).toNatClampNeg)), (x.2.1 + 1), (x.2.2 + 1)) _ _ _ ⟨⟨lp_up c_8 hI.1, (by rw [← hI.2.1]; simp only [lX11_loadOf_1R, if_neg c_8, if_neg c_12]), (by rw [← hI.2.2.1]; simp only [lX11_loadOf_1S, if_neg c_8, if_neg c_12]), hL_14⟩, hP, hD, hS, lv_sub hl [3, 4, 5, 6, 2, 1, 0] rfl⟩
      · -- (M.2.2.2.2.2.2.2.1 pl.toNatClampNeg) = 6
        exact absurd (c_2.symm.trans c_5) (by decide)
  · -- not (M.2.2.2.2.2.2.2.1 pl.toNatClampNeg) = 5
    have hk := hk.2 c_2
    refine lv_iload_n hx hb dX11_loadOf_12 rfl (lv_at hl 0 rfl) ?_
    refine lv_bipush (v := 7) hx hb dX11_loadOf_13 (by decide) ?_
    refine lv_icmp_ne (tgt := 22) hx hb dX11_loadOf_15 (by decide) (fun c_15 => ?_) (fun c_15 => ?_)
    · -- not (M.2.2.2.2.2.2.2.1 pl.toNatClampNeg) = 7
      have hk := hk.2 c_15
      refine lv_iconst (v := 0) hx hb dX11_loadOf_22 (by decide) ?_
      refine lv_istore_n (lv' := [(3, .int 0), (2, .int (M.2.2.2.2.2.2.2.1 pl.toNatClampNeg)), (0, .ref g.mo), (1, .int pl)]) hx hb dX11_loadOf_23 rfl hl (by decide) rfl (fun ls hl => ?_)
      refine lv_iload_n hx hb dX11_loadOf_24 rfl (lv_at hl 0 rfl) ?_
      refine lv_if_eq (tgt := 34) hx hb dX11_loadOf_25 (by decide) (fun c_16 => ?_) (fun c_16 => ?_)
      · -- 0 = 0
        refine lv_iload_n hx hb dX11_loadOf_34 rfl (lv_at hl 1 rfl) ?_
        refine lv_bipush (v := 6) hx hb dX11_loadOf_35 (by decide) ?_
        refine lv_icmp_ne (tgt := 47) hx hb dX11_loadOf_37 (by decide) (fun c_17 => ?_) (fun c_17 => ?_)
        · -- not (M.2.2.2.2.2.2.2.1 pl.toNatClampNeg) = 6
          have hk := hk.2 c_17
          refine lv_aload_n hx hb dX11_loadOf_47 rfl (lv_at hl 2 rfl) ?_
          refine lv_iconst (v := 2) hx hb dX11_loadOf_48 (by decide) ?_
          refine lv_iconst (v := 0) hx hb dX11_loadOf_49 (by decide) ?_
          obtain ⟨hc_18, hk⟩ := hk
          refine z_ve (va_runV (As := [.int 2, .int 0]) (rest := []) ⟨hx, hb, hml, hown, hts⟩ (c_X11_rule l D g M 2 0 hc_18 _) (z_V 2 hts g_772 g_4 g_769 g_771 gp_8 ⟨by decide, by decide, by decide +kernel⟩ ⟨Nat.le_of_ble_eq_true rfl, Nat.le_of_ble_eq_true rfl⟩) (z_preV (ci := 12) (q0 := 0) (hP.subm [0, 1, 2, 3, 4, 5, 6, 7, 8, 9, 10] rfl) (hD.sub [0, 1, 2, 3, 4, 5, 6, 7, 8, 9, 10] (by decide) rfl) hK rfl rfl) rfl rfl hl.1 rfl (lv_room (Nat.le_of_ble_eq_true rfl)) dX11_loadOf_50 ⟨Nat.le_of_ble_eq_true rfl, Nat.le_of_ble_eq_true rfl⟩) hP hD hS hA (([] : va_W)) (wM g (fX11_ruleS M 2 0)) [0, 1, 2, 3, 4, 5, 6, 7, 8, 9, 10] [] [0, 1, 2, 3, 4, 5, 6, 7, 8, 9, 10] rfl rfl (by decide) (by decide) rfl (by decide) (fun H locs hP hD hS => ?_)
          refine lv_iconst (v := 0) hx hb dX11_loadOf_53 (by decide) ?_
          refine lv_istore (lv' := [(4, .int 0), (3, .int 0), (2, .int (M.2.2.2.2.2.2.2.1 pl.toNatClampNeg)), (0, .ref g.mo), (1, .int pl)]) hx hb dX11_loadOf_54 hl (by decide) rfl (fun ls hl => ?_)
          refine lv_iconst (v := 0) hx hb dX11_loadOf_56 (by decide) ?_
          refine lv_istore (lv' := [(5, .int 0), (4, .int 0), (3, .int 0), (2, .int (M.2.2.2.2.2.2.2.1 pl.toNatClampNeg)), (0, .ref g.mo), (1, .int pl)]) hx hb dX11_loadOf_57 hl (by decide) rfl (fun ls hl => ?_)
          refine lv_iconst (v := 0) hx hb dX11_loadOf_59 (by decide) ?_
          refine lv_istore (lv' := [(6, .int 0), (5, .int 0), (4, .int 0), (3, .int 0), (2, .int (M.2.2.2.2.2.2.2.1 pl.toNatClampNeg)), (0, .ref g.mo), (1, .int pl)]) hx hb dX11_loadOf_60 hl (by decide) rfl (fun ls hl => ?_)
          obtain ⟨hL_19, hk⟩ := hk
          refine z_loop (pc := 62) (fun n (x : Int32 × Int32 × Int32) H locs ls => ((((fX11_ruleS M 2 0).2.2.2.2.2.2.2.2.2.2.1 pl.toNatClampNeg).toInt - x.2.2.toInt).toNat < n ∧ lX11_loadOf_2R M pl n x = fX11_loadOfR M pl ∧ lX11_loadOf_2S M pl n x = fX11_loadOfS M pl ∧ lX11_loadOf_2K M pl n x) ∧ va_P D vwCl (wM g (fX11_ruleS M 2 0)) H ∧ va_D A (wM g (fX11_ruleS M 2 0)) ∧ va_S A s.heap H locs ∧ lv_has ls 7 [(0, .ref g.mo), (1, .int pl), (2, .int (M.2.2.2.2.2.2.2.1 pl.toNatClampNeg)), (3, .int 0), (4, .int x.1), (5, .int x.2.1), (6, .int x.2.2)]) (fun x H locs ls h => absurd h.1.1 (Nat.not_lt_zero _)) ?_ (((fX11_ruleS M 2 0).2.2.2.2.2.2.2.2.2.2.1 pl.toNatClampNeg).toNatClampNeg + 1) (0, 0, 0) _ _ _ ⟨⟨lp_st _, (by simp only [fX11_loadOfR, if_neg c_2, if_neg c_15, if_neg c_17]), (by simp only [fX11_loadOfS, if_neg c_2, if_neg c_15, if_neg c_17]), hL_19⟩, hP, hD, hS, lv_sub hl [5, 6, 4, 3, 2, 1, 0] rfl⟩
          intro n x H locs ls hI ih
          obtain ⟨hI, hP, hD, hS, hl⟩ := hI
          have hk : (((((fX11_ruleS M 2 0).2.2.2.2.2.2.2.2.2.2.1) pl.toNatClampNeg) ≤ x.2.2 → True) ∧ (¬ (((fX11_ruleS M 2 0).2.2.2.2.2.2.2.2.2.2.1) pl.toNatClampNeg) ≤ x.2.2 → (vp_in ((12 * pl) + x.2.2) 144 ∧ vp_in (((fX11_ruleS M 2 0).2.2.2.2.2.2.2.2.2.2.2.1) ((12 * pl) + x.2.2).toNatClampNeg) 60 ∧ (((((fX11_ruleS M 2 0).2.2.2.2.1) (((fX11_ruleS M 2 0).2.2.2.2.2.2.2.2.2.2.2.1) ((12 * pl) + x.2.2).toNatClampNeg).toNatClampNeg) = 0 → (lX11_loadOf_2K M pl n ((x.1 + (((fX11_ruleS M 2 0).2.2.2.1) (((fX11_ruleS M 2 0).2.2.2.2.2.2.2.2.2.2.2.1) ((12 * pl) + x.2.2).toNatClampNeg).toNatClampNeg)), (x.2.1 + 0), (x.2.2 + 1)) ∧ True)) ∧ (¬ (((fX11_ruleS M 2 0).2.2.2.2.1) (((fX11_ruleS M 2 0).2.2.2.2.2.2.2.2.2.2.2.1) ((12 * pl) + x.2.2).toNatClampNeg).toNatClampNeg) = 0 → (lX11_loadOf_2K M pl n ((x.1 + (((fX11_ruleS M 2 0).2.2.2.1) (((fX11_ruleS M 2 0).2.2.2.2.2.2.2.2.2.2.2.1) ((12 * pl) + x.2.2).toNatClampNeg).toNatClampNeg)), (x.2.1 + 1), (x.2.2 + 1)) ∧ True)))))) := hI.2.2.2
          refine lv_iload hx hb dX11_loadOf_62 (lv_at hl 6 rfl) ?_
          refine lv_aload_n hx hb dX11_loadOf_64 rfl (lv_at hl 0 rfl) ?_
          refine va_get (D := D) (ci := 12) (v := .ref g.an) (C := RX11) (T := TX11) (N := 17) hx hb hg in_X11 hown hK hP 0 rfl rfl 10 (by decide) (hg _ g_696) (fun _ h9 => h9) rfl dX11_loadOf_65 ?_
          refine lv_iload_n hx hb dX11_loadOf_68 rfl (lv_at hl 1 rfl) ?_
          refine va_iald hx hb hK hP 8 0 rfl rfl (hb_1) dX11_loadOf_69 ?_
          refine lv_icmp_ge (tgt := 131) hx hb dX11_loadOf_70 (by decide) (fun c_20 => ?_) (fun c_20 => ?_)
          · -- (((fX11_ruleS M 2 0).2.2.2.2.2.2.2.2.2.2.1) pl.toNatClampNeg) ≤ x.2.2
            have hk := hk.1 c_20
            refine lv_iload_n hx hb dX11_loadOf_131 rfl (lv_at hl 3 rfl) ?_
            refine lv_if_eq (tgt := 142) hx hb dX11_loadOf_132 (by decide) (fun c_21 => ?_) (fun c_21 => ?_)
            · -- 0 = 0
              refine lv_iload_n hx hb dX11_loadOf_142 rfl (lv_at hl 2 rfl) ?_
              refine lv_bipush (v := 6) hx hb dX11_loadOf_143 (by decide) ?_
              refine lv_icmp_ne (tgt := 159) hx hb dX11_loadOf_145 (by decide) (fun c_22 => ?_) (fun c_22 => ?_)
              · -- not (M.2.2.2.2.2.2.2.1 pl.toNatClampNeg) = 6
                refine lv_iload hx hb dX11_loadOf_159 (lv_at hl 4 rfl) ?_
                exact W.iret (v := x.1) hx hb hr (fun t9 ht hW => ⟨⟨x.1, wM g (fX11_ruleS M 2 0), rfl, ⟨(by rw [← hI.2.1]; simp only [lX11_loadOf_2R, if_pos c_20]), (by rw [← hI.2.2.1]; simp only [lX11_loadOf_2S, if_pos c_20])⟩, by rw [ht]; exact hP, va_K.moved hW.alike hK, hD⟩, hS.F ht⟩) hS.2.2 dX11_loadOf_161
              · -- (M.2.2.2.2.2.2.2.1 pl.toNatClampNeg) = 6
                exact absurd c_22 c_17
            · -- not 0 = 0
              exact absurd (by decide) c_21
          · -- not (((fX11_ruleS M 2 0).2.2.2.2.2.2.2.2.2.2.1) pl.toNatClampNeg) ≤ x.2.2
            have hk := hk.2 c_20
            refine lv_iload hx hb dX11_loadOf_73 (lv_at hl 4 rfl) ?_
            refine lv_aload_n hx hb dX11_loadOf_75 rfl (lv_at hl 0 rfl) ?_
            refine va_get (D := D) (ci := 12) (v := .ref g.aw) (C := RX11) (T := TX11) (N := 17) hx hb hg in_X11 hown hK hP 0 rfl rfl 3 (by decide) (hg _ g_689) (fun _ h9 => h9) rfl dX11_loadOf_76 ?_
            refine lv_aload_n hx hb dX11_loadOf_79 rfl (lv_at hl 0 rfl) ?_
            refine va_get (D := D) (ci := 12) (v := .ref g.ar) (C := RX11) (T := TX11) (N := 17) hx hb hg in_X11 hown hK hP 0 rfl rfl 11 (by decide) (hg _ g_697) (fun _ h9 => h9) rfl dX11_loadOf_80 ?_
            refine lv_bipush (v := 12) hx hb dX11_loadOf_83 (by decide) ?_
            refine lv_iload_n hx hb dX11_loadOf_85 rfl (lv_at hl 1 rfl) ?_
            refine lv_imul hx hb dX11_loadOf_86 ?_
            refine lv_iload hx hb dX11_loadOf_87 (lv_at hl 6 rfl) ?_
            refine lv_iadd hx hb dX11_loadOf_89 ?_
            obtain ⟨hb_23, hk⟩ := hk
            refine va_iald hx hb hK hP 9 0 rfl rfl (hb_23) dX11_loadOf_90 ?_
            obtain ⟨hb_24, hk⟩ := hk
            refine va_iald hx hb hK hP 2 0 rfl rfl (hb_24) dX11_loadOf_91 ?_
            refine lv_iadd hx hb dX11_loadOf_92 ?_
            refine lv_istore (lv' := [(4, .int (x.1 + (((fX11_ruleS M 2 0).2.2.2.1) (((fX11_ruleS M 2 0).2.2.2.2.2.2.2.2.2.2.2.1) ((12 * pl) + x.2.2).toNatClampNeg).toNatClampNeg))), (0, .ref g.mo), (1, .int pl), (2, .int (M.2.2.2.2.2.2.2.1 pl.toNatClampNeg)), (3, .int 0), (5, .int x.2.1), (6, .int x.2.2)]) hx hb dX11_loadOf_93 hl (by decide) rfl (fun ls hl => ?_)
            refine lv_iload hx hb dX11_loadOf_95 (lv_at hl 5 rfl) ?_
            refine lv_aload_n hx hb dX11_loadOf_97 rfl (lv_at hl 1 rfl) ?_
            refine va_get (D := D) (ci := 12) (v := .ref g.az) (C := RX11) (T := TX11) (N := 17) hx hb hg in_X11 hown hK hP 0 rfl rfl 4 (by decide) (hg _ g_690) (fun _ h9 => h9) rfl dX11_loadOf_98 ?_
            refine lv_aload_n hx hb dX11_loadOf_101 rfl (lv_at hl 1 rfl) ?_
            refine va_get (D := D) (ci := 12) (v := .ref g.ar) (C := RX11) (T := TX11) (N := 17) hx hb hg in_X11 hown hK hP 0 rfl rfl 11 (by decide) (hg _ g_697) (fun _ h9 => h9) rfl dX11_loadOf_102 ?_
            refine lv_bipush (v := 12) hx hb dX11_loadOf_105 (by decide) ?_
            refine lv_iload_n hx hb dX11_loadOf_107 rfl (lv_at hl 2 rfl) ?_
            refine lv_imul hx hb dX11_loadOf_108 ?_
            refine lv_iload hx hb dX11_loadOf_109 (lv_at hl 6 rfl) ?_
            refine lv_iadd hx hb dX11_loadOf_111 ?_
            refine va_iald hx hb hK hP 9 0 rfl rfl (hb_23) dX11_loadOf_112 ?_
            refine va_zald hx hb hK hP 3 1 rfl rfl (hb_24) dX11_loadOf_113 ?_
            refine lv_if_eq (tgt := 121) hx hb dX11_loadOf_114 (by decide) (fun c_25 => ?_) (fun c_25 => ?_)
            · -- (((fX11_ruleS M 2 0).2.2.2.2.1) (((fX11_ruleS M 2 0).2.2.2.2.2.2.2.2.2.2.2.1) ((12 * pl) + x.2.2).toNatClampNeg).toNatClampNeg) = 0
              have hk := hk.1 c_25
              refine lv_iconst (v := 0) hx hb dX11_loadOf_121 (by decide) ?_
              refine lv_iadd hx hb dX11_loadOf_122 ?_
              refine lv_istore (lv' := [(5, .int (x.2.1 + 0)), (4, .int (x.1 + (((fX11_ruleS M 2 0).2.2.2.1) (((fX11_ruleS M 2 0).2.2.2.2.2.2.2.2.2.2.2.1) ((12 * pl) + x.2.2).toNatClampNeg).toNatClampNeg))), (0, .ref g.mo), (1, .int pl), (2, .int (M.2.2.2.2.2.2.2.1 pl.toNatClampNeg)), (3, .int 0), (6, .int x.2.2)]) hx hb dX11_loadOf_123 hl (by decide) rfl (fun ls hl => ?_)
              refine lv_iinc (v := (x.2.2 + 1)) (lv' := [(6, .int (x.2.2 + 1)), (5, .int (x.2.1 + 0)), (4, .int (x.1 + (((fX11_ruleS M 2 0).2.2.2.1) (((fX11_ruleS M 2 0).2.2.2.2.2.2.2.2.2.2.2.1) ((12 * pl) + x.2.2).toNatClampNeg).toNatClampNeg))), (0, .ref g.mo), (1, .int pl), (2, .int (M.2.2.2.2.2.2.2.1 pl.toNatClampNeg)), (3, .int 0)]) hx hb dX11_loadOf_125 hl (k := 6) rfl rfl (by decide) rfl (fun ls hl => ?_)
              refine lv_goto (tgt := 62) hx hb dX11_loadOf_128 (by decide) ?_
              obtain ⟨hL_26, hk⟩ := hk
              exact ih ((x.1 + (((fX11_ruleS M 2 0).2.2.2.1) (((fX11_ruleS M 2 0).2.2.2.2.2.2.2.2.2.2.2.1) ((12 * pl) + x.2.2).toNatClampNeg).toNatClampNeg)), (x.2.1 + 0), (x.2.2 + 1)) _ _ _ ⟨⟨lp_up c_20 hI.1, (by rw [← hI.2.1]; simp only [lX11_loadOf_2R, if_neg c_20, if_pos c_25]), (by rw [← hI.2.2.1]; simp only [lX11_loadOf_2S, if_neg c_20, if_pos c_25]), hL_26⟩, hP, hD, hS, lv_sub hl [3, 4, 5, 6, 2, 1, 0] rfl⟩
            · -- not (((fX11_ruleS M 2 0).2.2.2.2.1) (((fX11_ruleS M 2 0).2.2.2.2.2.2.2.2.2.2.2.1) ((12 * pl) + x.2.2).toNatClampNeg).toNatClampNeg) = 0
              have hk := hk.2 c_25
              refine lv_iconst (v := 1) hx hb dX11_loadOf_117 (by decide) ?_
              refine lv_goto (tgt := 122) hx hb dX11_loadOf_118 (by decide) ?_
              refine lv_iadd hx hb dX11_loadOf_122 ?_
              refine lv_istore (lv' := [(5, .int (x.2.1 + 1)), (4, .int (x.1 + (((fX11_ruleS M 2 0).2.2.2.1) (((fX11_ruleS M 2 0).2.2.2.2.2.2.2.2.2.2.2.1) ((12 * pl) + x.2.2).toNatClampNeg).toNatClampNeg))), (0, .ref g.mo), (1, .int pl), (2, .int (M.2.2.2.2.2.2.2.1 pl.toNatClampNeg)), (3, .int 0), (6, .int x.2.2)]) hx hb dX11_loadOf_123 hl (by decide) rfl (fun ls hl => ?_)
              refine lv_iinc (v := (x.2.2 + 1)) (lv' := [(6, .int (x.2.2 + 1)), (5, .int (x.2.1 + 1)), (4, .int (x.1 + (((fX11_ruleS M 2 0).2.2.2.1) (((fX11_ruleS M 2 0).2.2.2.2.2.2.2.2.2.2.2.1) ((12 * pl) + x.2.2).toNatClampNeg).toNatClampNeg))), (0, .ref g.mo), (1, .int pl), (2, .int (M.2.2.2.2.2.2.2.1 pl.toNatClampNeg)), (3, .int 0)]) hx hb dX11_loadOf_125 hl (k := 6) rfl rfl (by decide) rfl (fun ls hl => ?_)
              refine lv_goto (tgt := 62) hx hb dX11_loadOf_128 (by decide) ?_
              obtain ⟨hL_27, hk⟩ := hk
              exact ih ((x.1 + (((fX11_ruleS M 2 0).2.2.2.1) (((fX11_ruleS M 2 0).2.2.2.2.2.2.2.2.2.2.2.1) ((12 * pl) + x.2.2).toNatClampNeg).toNatClampNeg)), (x.2.1 + 1), (x.2.2 + 1)) _ _ _ ⟨⟨lp_up c_20 hI.1, (by rw [← hI.2.1]; simp only [lX11_loadOf_2R, if_neg c_20, if_neg c_25]), (by rw [← hI.2.2.1]; simp only [lX11_loadOf_2S, if_neg c_20, if_neg c_25]), hL_27⟩, hP, hD, hS, lv_sub hl [3, 4, 5, 6, 2, 1, 0] rfl⟩
        · -- (M.2.2.2.2.2.2.2.1 pl.toNatClampNeg) = 6
          have hk := hk.1 c_17
          refine lv_aload_n hx hb dX11_loadOf_40 rfl (lv_at hl 2 rfl) ?_
          refine lv_iconst (v := 2) hx hb dX11_loadOf_41 (by decide) ?_
          refine lv_bipush (v := 6) hx hb dX11_loadOf_42 (by decide) ?_
          obtain ⟨hc_28, hk⟩ := hk
          refine z_ve (va_runV (As := [.int 2, .int 6]) (rest := []) ⟨hx, hb, hml, hown, hts⟩ (c_X11_rule l D g M 2 6 hc_28 _) (z_V 2 hts g_772 g_4 g_769 g_771 gp_8 ⟨by decide, by decide, by decide +kernel⟩ ⟨Nat.le_of_ble_eq_true rfl, Nat.le_of_ble_eq_true rfl⟩) (z_preV (ci := 12) (q0 := 0) (hP.subm [0, 1, 2, 3, 4, 5, 6, 7, 8, 9, 10] rfl) (hD.sub [0, 1, 2, 3, 4, 5, 6, 7, 8, 9, 10] (by decide) rfl) hK rfl rfl) rfl rfl hl.1 rfl (lv_room (Nat.le_of_ble_eq_true rfl)) dX11_loadOf_44 ⟨Nat.le_of_ble_eq_true rfl, Nat.le_of_ble_eq_true rfl⟩) hP hD hS hA (([] : va_W)) (wM g (fX11_ruleS M 2 6)) [0, 1, 2, 3, 4, 5, 6, 7, 8, 9, 10] [] [0, 1, 2, 3, 4, 5, 6, 7, 8, 9, 10] rfl rfl (by decide) (by decide) rfl (by decide) (fun H locs hP hD hS => ?_)
          refine lv_aload_n hx hb dX11_loadOf_47 rfl (lv_at hl 2 rfl) ?_
          refine lv_iconst (v := 2) hx hb dX11_loadOf_48 (by decide) ?_
          refine lv_iconst (v := 0) hx hb dX11_loadOf_49 (by decide) ?_
          obtain ⟨hc_29, hk⟩ := hk
          refine z_ve (va_runV (As := [.int 2, .int 0]) (rest := []) ⟨hx, hb, hml, hown, hts⟩ (c_X11_rule l D g (fX11_ruleS M 2 6) 2 0 hc_29 _) (z_V 2 hts g_772 g_4 g_769 g_771 gp_8 ⟨by decide, by decide, by decide +kernel⟩ ⟨Nat.le_of_ble_eq_true rfl, Nat.le_of_ble_eq_true rfl⟩) (z_preV (ci := 12) (q0 := 0) (hP.subm [0, 1, 2, 3, 4, 5, 6, 7, 8, 9, 10] rfl) (hD.sub [0, 1, 2, 3, 4, 5, 6, 7, 8, 9, 10] (by decide) rfl) hK rfl rfl) rfl rfl hl.1 rfl (lv_room (Nat.le_of_ble_eq_true rfl)) dX11_loadOf_50 ⟨Nat.le_of_ble_eq_true rfl, Nat.le_of_ble_eq_true rfl⟩) hP hD hS hA (([] : va_W)) (wM g (fX11_ruleS (fX11_ruleS M 2 6) 2 0)) [0, 1, 2, 3, 4, 5, 6, 7, 8, 9, 10] [] [0, 1, 2, 3, 4, 5, 6, 7, 8, 9, 10] rfl rfl (by decide) (by decide) rfl (by decide) (fun H locs hP hD hS => ?_)
          refine lv_iconst (v := 0) hx hb dX11_loadOf_53 (by decide) ?_
          refine lv_istore (lv' := [(4, .int 0), (3, .int 0), (2, .int (M.2.2.2.2.2.2.2.1 pl.toNatClampNeg)), (0, .ref g.mo), (1, .int pl)]) hx hb dX11_loadOf_54 hl (by decide) rfl (fun ls hl => ?_)
          refine lv_iconst (v := 0) hx hb dX11_loadOf_56 (by decide) ?_
          refine lv_istore (lv' := [(5, .int 0), (4, .int 0), (3, .int 0), (2, .int (M.2.2.2.2.2.2.2.1 pl.toNatClampNeg)), (0, .ref g.mo), (1, .int pl)]) hx hb dX11_loadOf_57 hl (by decide) rfl (fun ls hl => ?_)
          refine lv_iconst (v := 0) hx hb dX11_loadOf_59 (by decide) ?_
          refine lv_istore (lv' := [(6, .int 0), (5, .int 0), (4, .int 0), (3, .int 0), (2, .int (M.2.2.2.2.2.2.2.1 pl.toNatClampNeg)), (0, .ref g.mo), (1, .int pl)]) hx hb dX11_loadOf_60 hl (by decide) rfl (fun ls hl => ?_)
          obtain ⟨hL_30, hk⟩ := hk
          refine z_loop (pc := 62) (fun n (x : Int32 × Int32 × Int32) H locs ls => ((((fX11_ruleS (fX11_ruleS M 2 6) 2 0).2.2.2.2.2.2.2.2.2.2.1 pl.toNatClampNeg).toInt - x.2.2.toInt).toNat < n ∧ lX11_loadOf_3R M pl n x = fX11_loadOfR M pl ∧ lX11_loadOf_3S M pl n x = fX11_loadOfS M pl ∧ lX11_loadOf_3K M pl n x) ∧ va_P D vwCl (wM g (fX11_ruleS (fX11_ruleS M 2 6) 2 0)) H ∧ va_D A (wM g (fX11_ruleS (fX11_ruleS M 2 6) 2 0)) ∧ va_S A s.heap H locs ∧ lv_has ls 7 [(0, .ref g.mo), (1, .int pl), (2, .int (M.2.2.2.2.2.2.2.1 pl.toNatClampNeg)), (3, .int 0), (4, .int x.1), (5, .int x.2.1), (6, .int x.2.2)]) (fun x H locs ls h => absurd h.1.1 (Nat.not_lt_zero _)) ?_ (((fX11_ruleS (fX11_ruleS M 2 6) 2 0).2.2.2.2.2.2.2.2.2.2.1 pl.toNatClampNeg).toNatClampNeg + 1) (0, 0, 0) _ _ _ ⟨⟨lp_st _, (by simp only [fX11_loadOfR, if_neg c_2, if_neg c_15, if_pos c_17]), (by simp only [fX11_loadOfS, if_neg c_2, if_neg c_15, if_pos c_17]), hL_30⟩, hP, hD, hS, lv_sub hl [5, 6, 4, 3, 2, 1, 0] rfl⟩
          intro n x H locs ls hI ih
          obtain ⟨hI, hP, hD, hS, hl⟩ := hI
          have hk : (((((fX11_ruleS (fX11_ruleS M 2 6) 2 0).2.2.2.2.2.2.2.2.2.2.1) pl.toNatClampNeg) ≤ x.2.2 → True) ∧ (¬ (((fX11_ruleS (fX11_ruleS M 2 6) 2 0).2.2.2.2.2.2.2.2.2.2.1) pl.toNatClampNeg) ≤ x.2.2 → (vp_in ((12 * pl) + x.2.2) 144 ∧ vp_in (((fX11_ruleS (fX11_ruleS M 2 6) 2 0).2.2.2.2.2.2.2.2.2.2.2.1) ((12 * pl) + x.2.2).toNatClampNeg) 60 ∧ (((((fX11_ruleS (fX11_ruleS M 2 6) 2 0).2.2.2.2.1) (((fX11_ruleS (fX11_ruleS M 2 6) 2 0).2.2.2.2.2.2.2.2.2.2.2.1) ((12 * pl) + x.2.2).toNatClampNeg).toNatClampNeg) = 0 → (lX11_loadOf_3K M pl n ((x.1 + (((fX11_ruleS (fX11_ruleS M 2 6) 2 0).2.2.2.1) (((fX11_ruleS (fX11_ruleS M 2 6) 2 0).2.2.2.2.2.2.2.2.2.2.2.1) ((12 * pl) + x.2.2).toNatClampNeg).toNatClampNeg)), (x.2.1 + 0), (x.2.2 + 1)) ∧ True)) ∧ (¬ (((fX11_ruleS (fX11_ruleS M 2 6) 2 0).2.2.2.2.1) (((fX11_ruleS (fX11_ruleS M 2 6) 2 0).2.2.2.2.2.2.2.2.2.2.2.1) ((12 * pl) + x.2.2).toNatClampNeg).toNatClampNeg) = 0 → (lX11_loadOf_3K M pl n ((x.1 + (((fX11_ruleS (fX11_ruleS M 2 6) 2 0).2.2.2.1) (((fX11_ruleS (fX11_ruleS M 2 6) 2 0).2.2.2.2.2.2.2.2.2.2.2.1) ((12 * pl) + x.2.2).toNatClampNeg).toNatClampNeg)), (x.2.1 + 1), (x.2.2 + 1)) ∧ True)))))) := hI.2.2.2
          refine lv_iload hx hb dX11_loadOf_62 (lv_at hl 6 rfl) ?_
          refine lv_aload_n hx hb dX11_loadOf_64 rfl (lv_at hl 0 rfl) ?_
          refine va_get (D := D) (ci := 12) (v := .ref g.an) (C := RX11) (T := TX11) (N := 17) hx hb hg in_X11 hown hK hP 0 rfl rfl 10 (by decide) (hg _ g_696) (fun _ h9 => h9) rfl dX11_loadOf_65 ?_
          refine lv_iload_n hx hb dX11_loadOf_68 rfl (lv_at hl 1 rfl) ?_
          refine va_iald hx hb hK hP 8 0 rfl rfl (hb_1) dX11_loadOf_69 ?_
          refine lv_icmp_ge (tgt := 131) hx hb dX11_loadOf_70 (by decide) (fun c_31 => ?_) (fun c_31 => ?_)
          · -- (((fX11_ruleS (fX11_ruleS M 2 6) 2 0).2.2.2.2.2.2.2.2.2.2.1) pl.toNatClampNeg) ≤ x.2.2
            have hk := hk.1 c_31
            refine lv_iload_n hx hb dX11_loadOf_131 rfl (lv_at hl 3 rfl) ?_
            refine lv_if_eq (tgt := 142) hx hb dX11_loadOf_132 (by decide) (fun c_32 => ?_) (fun c_32 => ?_)
            · -- 0 = 0
              refine lv_iload_n hx hb dX11_loadOf_142 rfl (lv_at hl 2 rfl) ?_
              refine lv_bipush (v := 6) hx hb dX11_loadOf_143 (by decide) ?_
              refine lv_icmp_ne (tgt := 159) hx hb dX11_loadOf_145 (by decide) (fun c_33 => ?_) (fun c_33 => ?_)
              · -- not (M.2.2.2.2.2.2.2.1 pl.toNatClampNeg) = 6
                exact absurd c_17 c_33
              · -- (M.2.2.2.2.2.2.2.1 pl.toNatClampNeg) = 6
                refine lv_iload hx hb dX11_loadOf_148 (lv_at hl 4 rfl) ?_
                refine lv_bipush (v := 10) hx hb dX11_loadOf_150 (by decide) ?_
                refine lv_iload hx hb dX11_loadOf_152 (lv_at hl 5 rfl) ?_
                refine lv_imul hx hb dX11_loadOf_154 ?_
                refine lv_iadd hx hb dX11_loadOf_155 ?_
                refine lv_goto (tgt := 161) hx hb dX11_loadOf_156 (by decide) ?_
                exact W.iret (v := (x.1 + (10 * x.2.1))) hx hb hr (fun t9 ht hW => ⟨⟨(x.1 + (10 * x.2.1)), wM g (fX11_ruleS (fX11_ruleS M 2 6) 2 0), rfl, ⟨(by rw [← hI.2.1]; simp only [lX11_loadOf_3R, if_pos c_31]), (by rw [← hI.2.2.1]; simp only [lX11_loadOf_3S, if_pos c_31])⟩, by rw [ht]; exact hP, va_K.moved hW.alike hK, hD⟩, hS.F ht⟩) hS.2.2 dX11_loadOf_161
            · -- not 0 = 0
              exact absurd (by decide) c_32
          · -- not (((fX11_ruleS (fX11_ruleS M 2 6) 2 0).2.2.2.2.2.2.2.2.2.2.1) pl.toNatClampNeg) ≤ x.2.2
            have hk := hk.2 c_31
            refine lv_iload hx hb dX11_loadOf_73 (lv_at hl 4 rfl) ?_
            refine lv_aload_n hx hb dX11_loadOf_75 rfl (lv_at hl 0 rfl) ?_
            refine va_get (D := D) (ci := 12) (v := .ref g.aw) (C := RX11) (T := TX11) (N := 17) hx hb hg in_X11 hown hK hP 0 rfl rfl 3 (by decide) (hg _ g_689) (fun _ h9 => h9) rfl dX11_loadOf_76 ?_
            refine lv_aload_n hx hb dX11_loadOf_79 rfl (lv_at hl 0 rfl) ?_
            refine va_get (D := D) (ci := 12) (v := .ref g.ar) (C := RX11) (T := TX11) (N := 17) hx hb hg in_X11 hown hK hP 0 rfl rfl 11 (by decide) (hg _ g_697) (fun _ h9 => h9) rfl dX11_loadOf_80 ?_
            refine lv_bipush (v := 12) hx hb dX11_loadOf_83 (by decide) ?_
            refine lv_iload_n hx hb dX11_loadOf_85 rfl (lv_at hl 1 rfl) ?_
            refine lv_imul hx hb dX11_loadOf_86 ?_
            refine lv_iload hx hb dX11_loadOf_87 (lv_at hl 6 rfl) ?_
            refine lv_iadd hx hb dX11_loadOf_89 ?_
            obtain ⟨hb_34, hk⟩ := hk
            refine va_iald hx hb hK hP 9 0 rfl rfl (hb_34) dX11_loadOf_90 ?_
            obtain ⟨hb_35, hk⟩ := hk
            refine va_iald hx hb hK hP 2 0 rfl rfl (hb_35) dX11_loadOf_91 ?_
            refine lv_iadd hx hb dX11_loadOf_92 ?_
            refine lv_istore (lv' := [(4, .int (x.1 + (((fX11_ruleS (fX11_ruleS M 2 6) 2 0).2.2.2.1) (((fX11_ruleS (fX11_ruleS M 2 6) 2 0).2.2.2.2.2.2.2.2.2.2.2.1) ((12 * pl) + x.2.2).toNatClampNeg).toNatClampNeg))), (0, .ref g.mo), (1, .int pl), (2, .int (M.2.2.2.2.2.2.2.1 pl.toNatClampNeg)), (3, .int 0), (5, .int x.2.1), (6, .int x.2.2)]) hx hb dX11_loadOf_93 hl (by decide) rfl (fun ls hl => ?_)
            refine lv_iload hx hb dX11_loadOf_95 (lv_at hl 5 rfl) ?_
            refine lv_aload_n hx hb dX11_loadOf_97 rfl (lv_at hl 1 rfl) ?_
            refine va_get (D := D) (ci := 12) (v := .ref g.az) (C := RX11) (T := TX11) (N := 17) hx hb hg in_X11 hown hK hP 0 rfl rfl 4 (by decide) (hg _ g_690) (fun _ h9 => h9) rfl dX11_loadOf_98 ?_
            refine lv_aload_n hx hb dX11_loadOf_101 rfl (lv_at hl 1 rfl) ?_
            refine va_get (D := D) (ci := 12) (v := .ref g.ar) (C := RX11) (T := TX11) (N := 17) hx hb hg in_X11 hown hK hP 0 rfl rfl 11 (by decide) (hg _ g_697) (fun _ h9 => h9) rfl dX11_loadOf_102 ?_
            refine lv_bipush (v := 12) hx hb dX11_loadOf_105 (by decide) ?_
            refine lv_iload_n hx hb dX11_loadOf_107 rfl (lv_at hl 2 rfl) ?_
            refine lv_imul hx hb dX11_loadOf_108 ?_
            refine lv_iload hx hb dX11_loadOf_109 (lv_at hl 6 rfl) ?_
            refine lv_iadd hx hb dX11_loadOf_111 ?_
            refine va_iald hx hb hK hP 9 0 rfl rfl (hb_34) dX11_loadOf_112 ?_
            refine va_zald hx hb hK hP 3 1 rfl rfl (hb_35) dX11_loadOf_113 ?_
            refine lv_if_eq (tgt := 121) hx hb dX11_loadOf_114 (by decide) (fun c_36 => ?_) (fun c_36 => ?_)
            · -- (((fX11_ruleS (fX11_ruleS M 2 6) 2 0).2.2.2.2.1) (((fX11_ruleS (fX11_ruleS M 2 6) 2 0).2.2.2.2.2.2.2.2.2.2.2.1) ((12 * pl) + x.2.2).toNatClampNeg).toNatClampNeg) = 0
              have hk := hk.1 c_36
              refine lv_iconst (v := 0) hx hb dX11_loadOf_121 (by decide) ?_
              refine lv_iadd hx hb dX11_loadOf_122 ?_
              refine lv_istore (lv' := [(5, .int (x.2.1 + 0)), (4, .int (x.1 + (((fX11_ruleS (fX11_ruleS M 2 6) 2 0).2.2.2.1) (((fX11_ruleS (fX11_ruleS M 2 6) 2 0).2.2.2.2.2.2.2.2.2.2.2.1) ((12 * pl) + x.2.2).toNatClampNeg).toNatClampNeg))), (0, .ref g.mo), (1, .int pl), (2, .int (M.2.2.2.2.2.2.2.1 pl.toNatClampNeg)), (3, .int 0), (6, .int x.2.2)]) hx hb dX11_loadOf_123 hl (by decide) rfl (fun ls hl => ?_)
              refine lv_iinc (v := (x.2.2 + 1)) (lv' := [(6, .int (x.2.2 + 1)), (5, .int (x.2.1 + 0)), (4, .int (x.1 + (((fX11_ruleS (fX11_ruleS M 2 6) 2 0).2.2.2.1) (((fX11_ruleS (fX11_ruleS M 2 6) 2 0).2.2.2.2.2.2.2.2.2.2.2.1) ((12 * pl) + x.2.2).toNatClampNeg).toNatClampNeg))), (0, .ref g.mo), (1, .int pl), (2, .int (M.2.2.2.2.2.2.2.1 pl.toNatClampNeg)), (3, .int 0)]) hx hb dX11_loadOf_125 hl (k := 6) rfl rfl (by decide) rfl (fun ls hl => ?_)
              refine lv_goto (tgt := 62) hx hb dX11_loadOf_128 (by decide) ?_
              obtain ⟨hL_37, hk⟩ := hk
              exact ih ((x.1 + (((fX11_ruleS (fX11_ruleS M 2 6) 2 0).2.2.2.1) (((fX11_ruleS (fX11_ruleS M 2 6) 2 0).2.2.2.2.2.2.2.2.2.2.2.1) ((12 * pl) + x.2.2).toNatClampNeg).toNatClampNeg)), (x.2.1 + 0), (x.2.2 + 1)) _ _ _ ⟨⟨lp_up c_31 hI.1, (by rw [← hI.2.1]; simp only [lX11_loadOf_3R, if_neg c_31, if_pos c_36]), (by rw [← hI.2.2.1]; simp only [lX11_loadOf_3S, if_neg c_31, if_pos c_36]), hL_37⟩, hP, hD, hS, lv_sub hl [3, 4, 5, 6, 2, 1, 0] rfl⟩
            · -- not (((fX11_ruleS (fX11_ruleS M 2 6) 2 0).2.2.2.2.1) (((fX11_ruleS (fX11_ruleS M 2 6) 2 0).2.2.2.2.2.2.2.2.2.2.2.1) ((12 * pl) + x.2.2).toNatClampNeg).toNatClampNeg) = 0
              have hk := hk.2 c_36
              refine lv_iconst (v := 1) hx hb dX11_loadOf_117 (by decide) ?_
              refine lv_goto (tgt := 122) hx hb dX11_loadOf_118 (by decide) ?_
              refine lv_iadd hx hb dX11_loadOf_122 ?_
              refine lv_istore (lv' := [(5, .int (x.2.1 + 1)), (4, .int (x.1 + (((fX11_ruleS (fX11_ruleS M 2 6) 2 0).2.2.2.1) (((fX11_ruleS (fX11_ruleS M 2 6) 2 0).2.2.2.2.2.2.2.2.2.2.2.1) ((12 * pl) + x.2.2).toNatClampNeg).toNatClampNeg))), (0, .ref g.mo), (1, .int pl), (2, .int (M.2.2.2.2.2.2.2.1 pl.toNatClampNeg)), (3, .int 0), (6, .int x.2.2)]) hx hb dX11_loadOf_123 hl (by decide) rfl (fun ls hl => ?_)
              refine lv_iinc (v := (x.2.2 + 1)) (lv' := [(6, .int (x.2.2 + 1)), (5, .int (x.2.1 + 1)), (4, .int (x.1 + (((fX11_ruleS (fX11_ruleS M 2 6) 2 0).2.2.2.1) (((fX11_ruleS (fX11_ruleS M 2 6) 2 0).2.2.2.2.2.2.2.2.2.2.2.1) ((12 * pl) + x.2.2).toNatClampNeg).toNatClampNeg))), (0, .ref g.mo), (1, .int pl), (2, .int (M.2.2.2.2.2.2.2.1 pl.toNatClampNeg)), (3, .int 0)]) hx hb dX11_loadOf_125 hl (k := 6) rfl rfl (by decide) rfl (fun ls hl => ?_)
              refine lv_goto (tgt := 62) hx hb dX11_loadOf_128 (by decide) ?_
              obtain ⟨hL_38, hk⟩ := hk
              exact ih ((x.1 + (((fX11_ruleS (fX11_ruleS M 2 6) 2 0).2.2.2.1) (((fX11_ruleS (fX11_ruleS M 2 6) 2 0).2.2.2.2.2.2.2.2.2.2.2.1) ((12 * pl) + x.2.2).toNatClampNeg).toNatClampNeg)), (x.2.1 + 1), (x.2.2 + 1)) _ _ _ ⟨⟨lp_up c_31 hI.1, (by rw [← hI.2.1]; simp only [lX11_loadOf_3R, if_neg c_31, if_neg c_36]), (by rw [← hI.2.2.1]; simp only [lX11_loadOf_3S, if_neg c_31, if_neg c_36]), hL_38⟩, hP, hD, hS, lv_sub hl [3, 4, 5, 6, 2, 1, 0] rfl⟩
      · -- not 0 = 0
        exact absurd (by decide) c_16
    · -- (M.2.2.2.2.2.2.2.1 pl.toNatClampNeg) = 7
      have hk := hk.1 c_15
      refine lv_iconst (v := 1) hx hb dX11_loadOf_18 (by decide) ?_
      refine lv_goto (tgt := 23) hx hb dX11_loadOf_19 (by decide) ?_
      refine lv_istore_n (lv' := [(3, .int 1), (2, .int (M.2.2.2.2.2.2.2.1 pl.toNatClampNeg)), (0, .ref g.mo), (1, .int pl)]) hx hb dX11_loadOf_23 rfl hl (by decide) rfl (fun ls hl => ?_)
      refine lv_iload_n hx hb dX11_loadOf_24 rfl (lv_at hl 0 rfl) ?_
      refine lv_if_eq (tgt := 34) hx hb dX11_loadOf_25 (by decide) (fun c_39 => ?_) (fun c_39 => ?_)
      · -- 1 = 0
        exact absurd c_39 (by decide)
      · -- not 1 = 0
        refine lv_aload_n hx hb dX11_loadOf_28 rfl (lv_at hl 2 rfl) ?_
        refine lv_iconst (v := 2) hx hb dX11_loadOf_29 (by decide) ?_
        refine lv_iconst (v := 5) hx hb dX11_loadOf_30 (by decide) ?_
        obtain ⟨hc_40, hk⟩ := hk
        refine z_ve (va_runV (As := [.int 2, .int 5]) (rest := []) ⟨hx, hb, hml, hown, hts⟩ (c_X11_rule l D g M 2 5 hc_40 _) (z_V 2 hts g_772 g_4 g_769 g_771 gp_8 ⟨by decide, by decide, by decide +kernel⟩ ⟨Nat.le_of_ble_eq_true rfl, Nat.le_of_ble_eq_true rfl⟩) (z_preV (ci := 12) (q0 := 0) (hP.subm [0, 1, 2, 3, 4, 5, 6, 7, 8, 9, 10] rfl) (hD.sub [0, 1, 2, 3, 4, 5, 6, 7, 8, 9, 10] (by decide) rfl) hK rfl rfl) rfl rfl hl.1 rfl (lv_room (Nat.le_of_ble_eq_true rfl)) dX11_loadOf_31 ⟨Nat.le_of_ble_eq_true rfl, Nat.le_of_ble_eq_true rfl⟩) hP hD hS hA (([] : va_W)) (wM g (fX11_ruleS M 2 5)) [0, 1, 2, 3, 4, 5, 6, 7, 8, 9, 10] [] [0, 1, 2, 3, 4, 5, 6, 7, 8, 9, 10] rfl rfl (by decide) (by decide) rfl (by decide) (fun H locs hP hD hS => ?_)
        refine lv_iload_n hx hb dX11_loadOf_34 rfl (lv_at hl 1 rfl) ?_
        refine lv_bipush (v := 6) hx hb dX11_loadOf_35 (by decide) ?_
        refine lv_icmp_ne (tgt := 47) hx hb dX11_loadOf_37 (by decide) (fun c_41 => ?_) (fun c_41 => ?_)
        · -- not (M.2.2.2.2.2.2.2.1 pl.toNatClampNeg) = 6
          refine lv_aload_n hx hb dX11_loadOf_47 rfl (lv_at hl 2 rfl) ?_
          refine lv_iconst (v := 2) hx hb dX11_loadOf_48 (by decide) ?_
          refine lv_iconst (v := 0) hx hb dX11_loadOf_49 (by decide) ?_
          obtain ⟨hc_42, hk⟩ := hk
          refine z_ve (va_runV (As := [.int 2, .int 0]) (rest := []) ⟨hx, hb, hml, hown, hts⟩ (c_X11_rule l D g (fX11_ruleS M 2 5) 2 0 hc_42 _) (z_V 2 hts g_772 g_4 g_769 g_771 gp_8 ⟨by decide, by decide, by decide +kernel⟩ ⟨Nat.le_of_ble_eq_true rfl, Nat.le_of_ble_eq_true rfl⟩) (z_preV (ci := 12) (q0 := 0) (hP.subm [0, 1, 2, 3, 4, 5, 6, 7, 8, 9, 10] rfl) (hD.sub [0, 1, 2, 3, 4, 5, 6, 7, 8, 9, 10] (by decide) rfl) hK rfl rfl) rfl rfl hl.1 rfl (lv_room (Nat.le_of_ble_eq_true rfl)) dX11_loadOf_50 ⟨Nat.le_of_ble_eq_true rfl, Nat.le_of_ble_eq_true rfl⟩) hP hD hS hA (([] : va_W)) (wM g (fX11_ruleS (fX11_ruleS M 2 5) 2 0)) [0, 1, 2, 3, 4, 5, 6, 7, 8, 9, 10] [] [0, 1, 2, 3, 4, 5, 6, 7, 8, 9, 10] rfl rfl (by decide) (by decide) rfl (by decide) (fun H locs hP hD hS => ?_)
          refine lv_iconst (v := 0) hx hb dX11_loadOf_53 (by decide) ?_
          refine lv_istore (lv' := [(4, .int 0), (3, .int 1), (2, .int (M.2.2.2.2.2.2.2.1 pl.toNatClampNeg)), (0, .ref g.mo), (1, .int pl)]) hx hb dX11_loadOf_54 hl (by decide) rfl (fun ls hl => ?_)
          refine lv_iconst (v := 0) hx hb dX11_loadOf_56 (by decide) ?_
          refine lv_istore (lv' := [(5, .int 0), (4, .int 0), (3, .int 1), (2, .int (M.2.2.2.2.2.2.2.1 pl.toNatClampNeg)), (0, .ref g.mo), (1, .int pl)]) hx hb dX11_loadOf_57 hl (by decide) rfl (fun ls hl => ?_)
          refine lv_iconst (v := 0) hx hb dX11_loadOf_59 (by decide) ?_
          refine lv_istore (lv' := [(6, .int 0), (5, .int 0), (4, .int 0), (3, .int 1), (2, .int (M.2.2.2.2.2.2.2.1 pl.toNatClampNeg)), (0, .ref g.mo), (1, .int pl)]) hx hb dX11_loadOf_60 hl (by decide) rfl (fun ls hl => ?_)
          obtain ⟨hL_43, hk⟩ := hk
          refine z_loop (pc := 62) (fun n (x : Int32 × Int32 × Int32) H locs ls => ((((fX11_ruleS (fX11_ruleS M 2 5) 2 0).2.2.2.2.2.2.2.2.2.2.1 pl.toNatClampNeg).toInt - x.2.2.toInt).toNat < n ∧ lX11_loadOf_4R M pl n x = fX11_loadOfR M pl ∧ lX11_loadOf_4S M pl n x = fX11_loadOfS M pl ∧ lX11_loadOf_4K M pl n x) ∧ va_P D vwCl (wM g (fX11_ruleS (fX11_ruleS M 2 5) 2 0)) H ∧ va_D A (wM g (fX11_ruleS (fX11_ruleS M 2 5) 2 0)) ∧ va_S A s.heap H locs ∧ lv_has ls 7 [(0, .ref g.mo), (1, .int pl), (2, .int (M.2.2.2.2.2.2.2.1 pl.toNatClampNeg)), (3, .int 1), (4, .int x.1), (5, .int x.2.1), (6, .int x.2.2)]) (fun x H locs ls h => absurd h.1.1 (Nat.not_lt_zero _)) ?_ (((fX11_ruleS (fX11_ruleS M 2 5) 2 0).2.2.2.2.2.2.2.2.2.2.1 pl.toNatClampNeg).toNatClampNeg + 1) (0, 0, 0) _ _ _ ⟨⟨lp_st _, (by simp only [fX11_loadOfR, if_neg c_2, if_pos c_15]), (by simp only [fX11_loadOfS, if_neg c_2, if_pos c_15]), hL_43⟩, hP, hD, hS, lv_sub hl [5, 6, 4, 3, 2, 1, 0] rfl⟩
          intro n x H locs ls hI ih
          obtain ⟨hI, hP, hD, hS, hl⟩ := hI
          have hk : (((((fX11_ruleS (fX11_ruleS M 2 5) 2 0).2.2.2.2.2.2.2.2.2.2.1) pl.toNatClampNeg) ≤ x.2.2 → True) ∧ (¬ (((fX11_ruleS (fX11_ruleS M 2 5) 2 0).2.2.2.2.2.2.2.2.2.2.1) pl.toNatClampNeg) ≤ x.2.2 → (vp_in ((12 * pl) + x.2.2) 144 ∧ vp_in (((fX11_ruleS (fX11_ruleS M 2 5) 2 0).2.2.2.2.2.2.2.2.2.2.2.1) ((12 * pl) + x.2.2).toNatClampNeg) 60 ∧ (((((fX11_ruleS (fX11_ruleS M 2 5) 2 0).2.2.2.2.1) (((fX11_ruleS (fX11_ruleS M 2 5) 2 0).2.2.2.2.2.2.2.2.2.2.2.1) ((12 * pl) + x.2.2).toNatClampNeg).toNatClampNeg) = 0 → (lX11_loadOf_4K M pl n ((x.1 + (((fX11_ruleS (fX11_ruleS M 2 5) 2 0).2.2.2.1) (((fX11_ruleS (fX11_ruleS M 2 5) 2 0).2.2.2.2.2.2.2.2.2.2.2.1) ((12 * pl) + x.2.2).toNatClampNeg).toNatClampNeg)), (x.2.1 + 0), (x.2.2 + 1)) ∧ True)) ∧ (¬ (((fX11_ruleS (fX11_ruleS M 2 5) 2 0).2.2.2.2.1) (((fX11_ruleS (fX11_ruleS M 2 5) 2 0).2.2.2.2.2.2.2.2.2.2.2.1) ((12 * pl) + x.2.2).toNatClampNeg).toNatClampNeg) = 0 → (lX11_loadOf_4K M pl n ((x.1 + (((fX11_ruleS (fX11_ruleS M 2 5) 2 0).2.2.2.1) (((fX11_ruleS (fX11_ruleS M 2 5) 2 0).2.2.2.2.2.2.2.2.2.2.2.1) ((12 * pl) + x.2.2).toNatClampNeg).toNatClampNeg)), (x.2.1 + 1), (x.2.2 + 1)) ∧ True)))))) := hI.2.2.2
          refine lv_iload hx hb dX11_loadOf_62 (lv_at hl 6 rfl) ?_
          refine lv_aload_n hx hb dX11_loadOf_64 rfl (lv_at hl 0 rfl) ?_
          refine va_get (D := D) (ci := 12) (v := .ref g.an) (C := RX11) (T := TX11) (N := 17) hx hb hg in_X11 hown hK hP 0 rfl rfl 10 (by decide) (hg _ g_696) (fun _ h9 => h9) rfl dX11_loadOf_65 ?_
          refine lv_iload_n hx hb dX11_loadOf_68 rfl (lv_at hl 1 rfl) ?_
          refine va_iald hx hb hK hP 8 0 rfl rfl (hb_1) dX11_loadOf_69 ?_
          refine lv_icmp_ge (tgt := 131) hx hb dX11_loadOf_70 (by decide) (fun c_44 => ?_) (fun c_44 => ?_)
          · -- (((fX11_ruleS (fX11_ruleS M 2 5) 2 0).2.2.2.2.2.2.2.2.2.2.1) pl.toNatClampNeg) ≤ x.2.2
            have hk := hk.1 c_44
            refine lv_iload_n hx hb dX11_loadOf_131 rfl (lv_at hl 3 rfl) ?_
            refine lv_if_eq (tgt := 142) hx hb dX11_loadOf_132 (by decide) (fun c_45 => ?_) (fun c_45 => ?_)
            · -- 1 = 0
              exact absurd c_45 (by decide)
            · -- not 1 = 0
              refine lv_iconst (v := 2) hx hb dX11_loadOf_135 (by decide) ?_
              refine lv_iload hx hb dX11_loadOf_136 (lv_at hl 4 rfl) ?_
              refine lv_imul hx hb dX11_loadOf_138 ?_
              refine lv_goto (tgt := 161) hx hb dX11_loadOf_139 (by decide) ?_
              exact W.iret (v := (2 * x.1)) hx hb hr (fun t9 ht hW => ⟨⟨(2 * x.1), wM g (fX11_ruleS (fX11_ruleS M 2 5) 2 0), rfl, ⟨(by rw [← hI.2.1]; simp only [lX11_loadOf_4R, if_pos c_44]), (by rw [← hI.2.2.1]; simp only [lX11_loadOf_4S, if_pos c_44])⟩, by rw [ht]; exact hP, va_K.moved hW.alike hK, hD⟩, hS.F ht⟩) hS.2.2 dX11_loadOf_161
          · -- not (((fX11_ruleS (fX11_ruleS M 2 5) 2 0).2.2.2.2.2.2.2.2.2.2.1) pl.toNatClampNeg) ≤ x.2.2
            have hk := hk.2 c_44
            refine lv_iload hx hb dX11_loadOf_73 (lv_at hl 4 rfl) ?_
            refine lv_aload_n hx hb dX11_loadOf_75 rfl (lv_at hl 0 rfl) ?_
            refine va_get (D := D) (ci := 12) (v := .ref g.aw) (C := RX11) (T := TX11) (N := 17) hx hb hg in_X11 hown hK hP 0 rfl rfl 3 (by decide) (hg _ g_689) (fun _ h9 => h9) rfl dX11_loadOf_76 ?_
            refine lv_aload_n hx hb dX11_loadOf_79 rfl (lv_at hl 0 rfl) ?_
            refine va_get (D := D) (ci := 12) (v := .ref g.ar) (C := RX11) (T := TX11) (N := 17) hx hb hg in_X11 hown hK hP 0 rfl rfl 11 (by decide) (hg _ g_697) (fun _ h9 => h9) rfl dX11_loadOf_80 ?_
            refine lv_bipush (v := 12) hx hb dX11_loadOf_83 (by decide) ?_
            refine lv_iload_n hx hb dX11_loadOf_85 rfl (lv_at hl 1 rfl) ?_
            refine lv_imul hx hb dX11_loadOf_86 ?_
            refine lv_iload hx hb dX11_loadOf_87 (lv_at hl 6 rfl) ?_
            refine lv_iadd hx hb dX11_loadOf_89 ?_
            obtain ⟨hb_46, hk⟩ := hk
            refine va_iald hx hb hK hP 9 0 rfl rfl (hb_46) dX11_loadOf_90 ?_
            obtain ⟨hb_47, hk⟩ := hk
            refine va_iald hx hb hK hP 2 0 rfl rfl (hb_47) dX11_loadOf_91 ?_
            refine lv_iadd hx hb dX11_loadOf_92 ?_
            refine lv_istore (lv' := [(4, .int (x.1 + (((fX11_ruleS (fX11_ruleS M 2 5) 2 0).2.2.2.1) (((fX11_ruleS (fX11_ruleS M 2 5) 2 0).2.2.2.2.2.2.2.2.2.2.2.1) ((12 * pl) + x.2.2).toNatClampNeg).toNatClampNeg))), (0, .ref g.mo), (1, .int pl), (2, .int (M.2.2.2.2.2.2.2.1 pl.toNatClampNeg)), (3, .int 1), (5, .int x.2.1), (6, .int x.2.2)]) hx hb dX11_loadOf_93 hl (by decide) rfl (fun ls hl => ?_)
            refine lv_iload hx hb dX11_loadOf_95 (lv_at hl 5 rfl) ?_
            refine lv_aload_n hx hb dX11_loadOf_97 rfl (lv_at hl 1 rfl) ?_
            refine va_get (D := D) (ci := 12) (v := .ref g.az) (C := RX11) (T := TX11) (N := 17) hx hb hg in_X11 hown hK hP 0 rfl rfl 4 (by decide) (hg _ g_690) (fun _ h9 => h9) rfl dX11_loadOf_98 ?_
            refine lv_aload_n hx hb dX11_loadOf_101 rfl (lv_at hl 1 rfl) ?_
            refine va_get (D := D) (ci := 12) (v := .ref g.ar) (C := RX11) (T := TX11) (N := 17) hx hb hg in_X11 hown hK hP 0 rfl rfl 11 (by decide) (hg _ g_697) (fun _ h9 => h9) rfl dX11_loadOf_102 ?_
            refine lv_bipush (v := 12) hx hb dX11_loadOf_105 (by decide) ?_
            refine lv_iload_n hx hb dX11_loadOf_107 rfl (lv_at hl 2 rfl) ?_
            refine lv_imul hx hb dX11_loadOf_108 ?_
            refine lv_iload hx hb dX11_loadOf_109 (lv_at hl 6 rfl) ?_
            refine lv_iadd hx hb dX11_loadOf_111 ?_
            refine va_iald hx hb hK hP 9 0 rfl rfl (hb_46) dX11_loadOf_112 ?_
            refine va_zald hx hb hK hP 3 1 rfl rfl (hb_47) dX11_loadOf_113 ?_
            refine lv_if_eq (tgt := 121) hx hb dX11_loadOf_114 (by decide) (fun c_48 => ?_) (fun c_48 => ?_)
            · -- (((fX11_ruleS (fX11_ruleS M 2 5) 2 0).2.2.2.2.1) (((fX11_ruleS (fX11_ruleS M 2 5) 2 0).2.2.2.2.2.2.2.2.2.2.2.1) ((12 * pl) + x.2.2).toNatClampNeg).toNatClampNeg) = 0
              have hk := hk.1 c_48
              refine lv_iconst (v := 0) hx hb dX11_loadOf_121 (by decide) ?_
              refine lv_iadd hx hb dX11_loadOf_122 ?_
              refine lv_istore (lv' := [(5, .int (x.2.1 + 0)), (4, .int (x.1 + (((fX11_ruleS (fX11_ruleS M 2 5) 2 0).2.2.2.1) (((fX11_ruleS (fX11_ruleS M 2 5) 2 0).2.2.2.2.2.2.2.2.2.2.2.1) ((12 * pl) + x.2.2).toNatClampNeg).toNatClampNeg))), (0, .ref g.mo), (1, .int pl), (2, .int (M.2.2.2.2.2.2.2.1 pl.toNatClampNeg)), (3, .int 1), (6, .int x.2.2)]) hx hb dX11_loadOf_123 hl (by decide) rfl (fun ls hl => ?_)
              refine lv_iinc (v := (x.2.2 + 1)) (lv' := [(6, .int (x.2.2 + 1)), (5, .int (x.2.1 + 0)), (4, .int (x.1 + (((fX11_ruleS (fX11_ruleS M 2 5) 2 0).2.2.2.1) (((fX11_ruleS (fX11_ruleS M 2 5) 2 0).2.2.2.2.2.2.2.2.2.2.2.1) ((12 * pl) + x.2.2).toNatClampNeg).toNatClampNeg))), (0, .ref g.mo), (1, .int pl), (2, .int (M.2.2.2.2.2.2.2.1 pl.toNatClampNeg)), (3, .int 1)]) hx hb dX11_loadOf_125 hl (k := 6) rfl rfl (by decide) rfl (fun ls hl => ?_)
              refine lv_goto (tgt := 62) hx hb dX11_loadOf_128 (by decide) ?_
              obtain ⟨hL_49, hk⟩ := hk
              exact ih ((x.1 + (((fX11_ruleS (fX11_ruleS M 2 5) 2 0).2.2.2.1) (((fX11_ruleS (fX11_ruleS M 2 5) 2 0).2.2.2.2.2.2.2.2.2.2.2.1) ((12 * pl) + x.2.2).toNatClampNeg).toNatClampNeg)), (x.2.1 + 0), (x.2.2 + 1)) _ _ _ ⟨⟨lp_up c_44 hI.1, (by rw [← hI.2.1]; simp only [lX11_loadOf_4R, if_neg c_44, if_pos c_48]), (by rw [← hI.2.2.1]; simp only [lX11_loadOf_4S, if_neg c_44, if_pos c_48]), hL_49⟩, hP, hD, hS, lv_sub hl [3, 4, 5, 6, 2, 1, 0] rfl⟩
            · -- not (((fX11_ruleS (fX11_ruleS M 2 5) 2 0).2.2.2.2.1) (((fX11_ruleS (fX11_ruleS M 2 5) 2 0).2.2.2.2.2.2.2.2.2.2.2.1) ((12 * pl) + x.2.2).toNatClampNeg).toNatClampNeg) = 0
              have hk := hk.2 c_48
              refine lv_iconst (v := 1) hx hb dX11_loadOf_117 (by decide) ?_
              refine lv_goto (tgt := 122) hx hb dX11_loadOf_118 (by decide) ?_
              refine lv_iadd hx hb dX11_loadOf_122 ?_
              refine lv_istore (lv' := [(5, .int (x.2.1 + 1)), (4, .int (x.1 + (((fX11_ruleS (fX11_ruleS M 2 5) 2 0).2.2.2.1) (((fX11_ruleS (fX11_ruleS M 2 5) 2 0).2.2.2.2.2.2.2.2.2.2.2.1) ((12 * pl) + x.2.2).toNatClampNeg).toNatClampNeg))), (0, .ref g.mo), (1, .int pl), (2, .int (M.2.2.2.2.2.2.2.1 pl.toNatClampNeg)), (3, .int 1), (6, .int x.2.2)]) hx hb dX11_loadOf_123 hl (by decide) rfl (fun ls hl => ?_)
              refine lv_iinc (v := (x.2.2 + 1)) (lv' := [(6, .int (x.2.2 + 1)), (5, .int (x.2.1 + 1)), (4, .int (x.1 + (((fX11_ruleS (fX11_ruleS M 2 5) 2 0).2.2.2.1) (((fX11_ruleS (fX11_ruleS M 2 5) 2 0).2.2.2.2.2.2.2.2.2.2.2.1) ((12 * pl) + x.2.2).toNatClampNeg).toNatClampNeg))), (0, .ref g.mo), (1, .int pl), (2, .int (M.2.2.2.2.2.2.2.1 pl.toNatClampNeg)), (3, .int 1)]) hx hb dX11_loadOf_125 hl (k := 6) rfl rfl (by decide) rfl (fun ls hl => ?_)
              refine lv_goto (tgt := 62) hx hb dX11_loadOf_128 (by decide) ?_
              obtain ⟨hL_50, hk⟩ := hk
              exact ih ((x.1 + (((fX11_ruleS (fX11_ruleS M 2 5) 2 0).2.2.2.1) (((fX11_ruleS (fX11_ruleS M 2 5) 2 0).2.2.2.2.2.2.2.2.2.2.2.1) ((12 * pl) + x.2.2).toNatClampNeg).toNatClampNeg)), (x.2.1 + 1), (x.2.2 + 1)) _ _ _ ⟨⟨lp_up c_44 hI.1, (by rw [← hI.2.1]; simp only [lX11_loadOf_4R, if_neg c_44, if_neg c_48]), (by rw [← hI.2.2.1]; simp only [lX11_loadOf_4S, if_neg c_44, if_neg c_48]), hL_50⟩, hP, hD, hS, lv_sub hl [3, 4, 5, 6, 2, 1, 0] rfl⟩
        · -- (M.2.2.2.2.2.2.2.1 pl.toNatClampNeg) = 6
          exact absurd (c_15.symm.trans c_41) (by decide)

def fX11_putPlainR (M : MM) (pl : Int32) (tb : Int32) : Int32 := (if (((fX11_ruleS M 0 0).2.2.2.2.2.2.2.2.2.2.1) pl.toNatClampNeg) = (((fX11_ruleS M 0 0).2.2.2.2.2.2.2.2.1) pl.toNatClampNeg) then 0 else 1)
def fX11_putPlainS (M : MM) (pl : Int32) (tb : Int32) : MM := (if (((fX11_ruleS M 0 0).2.2.2.2.2.2.2.2.2.2.1) pl.toNatClampNeg) = (((fX11_ruleS M 0 0).2.2.2.2.2.2.2.2.1) pl.toNatClampNeg) then fX11_ruleS M 0 0 else ((fX11_ruleS M 0 0).1, (fX11_ruleS M 0 0).2.1, (fX11_ruleS M 0 0).2.2.1, (fX11_ruleS M 0 0).2.2.2.1, (fX11_ruleS M 0 0).2.2.2.2.1, upd ((fX11_ruleS M 0 0).2.2.2.2.2.1) tb.toNatClampNeg pl, (fX11_ruleS M 0 0).2.2.2.2.2.2.1, (fX11_ruleS M 0 0).2.2.2.2.2.2.2.1, (fX11_ruleS M 0 0).2.2.2.2.2.2.2.2.1, (fX11_ruleS M 0 0).2.2.2.2.2.2.2.2.2.1, upd ((fX11_ruleS M 0 0).2.2.2.2.2.2.2.2.2.2.1) pl.toNatClampNeg ((((fX11_ruleS M 0 0).2.2.2.2.2.2.2.2.2.2.1) pl.toNatClampNeg) + 1), upd ((fX11_ruleS M 0 0).2.2.2.2.2.2.2.2.2.2.2.1) ((12 * pl) + (((fX11_ruleS M 0 0).2.2.2.2.2.2.2.2.2.2.1) pl.toNatClampNeg)).toNatClampNeg tb, (fX11_ruleS M 0 0).2.2.2.2.2.2.2.2.2.2.2.2.1, (fX11_ruleS M 0 0).2.2.2.2.2.2.2.2.2.2.2.2.2.1, (fX11_ruleS M 0 0).2.2.2.2.2.2.2.2.2.2.2.2.2.2.1, (fX11_ruleS M 0 0).2.2.2.2.2.2.2.2.2.2.2.2.2.2.2.1, (fX11_ruleS M 0 0).2.2.2.2.2.2.2.2.2.2.2.2.2.2.2.2))
def fX11_putPlainK (M : MM) (pl : Int32) (tb : Int32) : Prop := (fX11_ruleK M 0 0 ∧ vp_in pl 12 ∧ (((((fX11_ruleS M 0 0).2.2.2.2.2.2.2.2.2.2.1) pl.toNatClampNeg) = (((fX11_ruleS M 0 0).2.2.2.2.2.2.2.2.1) pl.toNatClampNeg) → True) ∧ (¬ (((fX11_ruleS M 0 0).2.2.2.2.2.2.2.2.2.2.1) pl.toNatClampNeg) = (((fX11_ruleS M 0 0).2.2.2.2.2.2.2.2.1) pl.toNatClampNeg) → (vp_in ((12 * pl) + (((fX11_ruleS M 0 0).2.2.2.2.2.2.2.2.2.2.1) pl.toNatClampNeg)) 144 ∧ vp_in tb 60 ∧ True))))
set_option maxHeartbeats 4000000 in
set_option maxRecDepth 100000 in
theorem c_X11_putPlain (l : Launch) (D : va_G) (g : MA) (M : MM) (pl : Int32) (tb : Int32) (hk : fX11_putPlainK M pl tb) : ctI l D (tyM g) yX11_putPlain (wd yX11_putPlain cX11_putPlain 3 (Option.some Jvm.ClassFile.FieldType.boolean)) { frames := 1, cells := 0, slots := 0, locals := 22 } [.ref g.mo, .int pl, .int tb] (wM g M) (fun r w => r = fX11_putPlainR M pl tb ∧ w = wM g (fX11_putPlainS M pl tb)) := by
  intro sz
  refine Met.ofW (cc := cX11_putPlain) (maxL := 3) (ret := (Option.some Jvm.ClassFile.FieldType.boolean)) (by decide) rfl ?_
  intro p e s m args below meth c s₁ B hml hv
  obtain ⟨rfl, hsz, hP, hK, hD0⟩ := hv
  have hx := B.exec
  have hb := B.bytes
  have hr := B.returns
  have hts := atoms_spec (ws := (wd yX11_putPlain cX11_putPlain 3 (Option.some Jvm.ClassFile.FieldType.boolean))) B.pre
  have hg := Tb.of hts
  have hown : s.vm.findClass RX11 = some m.cls := findClass_of_methodNamed B.named
  have hlocks := B.notSynchronized
  subst hsz
  have hD := hD0.self (sz := s.heap.size)
  generalize hAe : va_A (wM g M) s.heap.size = A at hD ⊢
  have hA : ∀ q : Nat, s.heap.size ≤ q → A q := fun q h => by rw [← hAe]; exact Or.inr h
  have hS : va_S A s.heap s.heap [] := va_S.rf
  have hP : va_P D vwCl (wM g M) s.heap := hP
  have hl := lv_entry ([.ref g.mo, .int pl, .int tb]) (n := 3) (Nat.le_of_ble_eq_true rfl)
  rw [lg_entry_eq]
  generalize (lg_sl ([.ref g.mo, .int pl, .int tb]) ++ List.replicate (3 - (lg_sl ([.ref g.mo, .int pl, .int tb])).length) Slot.unset).toArray = ls at hl ⊢
  have hl : lv_has ls 3 [(0, .ref g.mo), (1, .int pl), (2, .int tb)] := hl
  unfold fX11_putPlainK at hk
  refine lv_aload_n hx hb dX11_putPlain_0 rfl (lv_at hl 0 rfl) ?_
  refine lv_iconst (v := 0) hx hb dX11_putPlain_1 (by decide) ?_
  refine lv_iconst (v := 0) hx hb dX11_putPlain_2 (by decide) ?_
  obtain ⟨hc_1, hk⟩ := hk
  refine z_ve (va_runV (As := [.int 0, .int 0]) (rest := []) ⟨hx, hb, hml, hown, hts⟩ (c_X11_rule l D g M 0 0 hc_1 _) (z_V 2 hts g_772 g_4 g_769 g_771 gp_8 ⟨by decide, by decide, by decide +kernel⟩ ⟨Nat.le_of_ble_eq_true rfl, Nat.le_of_ble_eq_true rfl⟩) (z_preV (ci := 12) (q0 := 0) (hP.subm [0, 1, 2, 3, 4, 5, 6, 7, 8, 9, 10] rfl) (hD.sub [0, 1, 2, 3, 4, 5, 6, 7, 8, 9, 10] (by decide) rfl) hK rfl rfl) rfl rfl hl.1 rfl (lv_room (Nat.le_of_ble_eq_true rfl)) dX11_putPlain_3 ⟨Nat.le_of_ble_eq_true rfl, Nat.le_of_ble_eq_true rfl⟩) hP hD hS hA (([] : va_W)) (wM g (fX11_ruleS M 0 0)) [0, 1, 2, 3, 4, 5, 6, 7, 8, 9, 10] [] [0, 1, 2, 3, 4, 5, 6, 7, 8, 9, 10] rfl rfl (by decide) (by decide) rfl (by decide) (fun H locs hP hD hS => ?_)
  refine lv_aload_n hx hb dX11_putPlain_6 rfl (lv_at hl 0 rfl) ?_
  refine va_get (D := D) (ci := 12) (v := .ref g.an) (C := RX11) (T := TX11) (N := 17) hx hb hg in_X11 hown hK hP 0 rfl rfl 10 (by decide) (hg _ g_696) (fun _ h9 => h9) rfl dX11_putPlain_7 ?_
  refine lv_iload_n hx hb dX11_putPlain_10 rfl (lv_at hl 1 rfl) ?_
  obtain ⟨hb_2, hk⟩ := hk
  refine va_iald hx hb hK hP 8 0 rfl rfl (hb_2) dX11_putPlain_11 ?_
  refine lv_aload_n hx hb dX11_putPlain_12 rfl (lv_at hl 0 rfl) ?_
  refine va_get (D := D) (ci := 12) (v := .ref g.ac) (C := RX11) (T := TX11) (N := 17) hx hb hg in_X11 hown hK hP 0 rfl rfl 8 (by decide) (hg _ g_694) (fun _ h9 => h9) rfl dX11_putPlain_13 ?_
  refine lv_iload_n hx hb dX11_putPlain_16 rfl (lv_at hl 1 rfl) ?_
  refine va_iald hx hb hK hP 6 0 rfl rfl (hb_2) dX11_putPlain_17 ?_
  refine lv_icmp_ne (tgt := 23) hx hb dX11_putPlain_18 (by decide) (fun c_3 => ?_) (fun c_3 => ?_)
  · -- not (((fX11_ruleS M 0 0).2.2.2.2.2.2.2.2.2.2.1) pl.toNatClampNeg) = (((fX11_ruleS M 0 0).2.2.2.2.2.2.2.2.1) pl.toNatClampNeg)
    have hk := hk.2 c_3
    refine lv_aload_n hx hb dX11_putPlain_23 rfl (lv_at hl 0 rfl) ?_
    refine va_get (D := D) (ci := 12) (v := .ref g.ar) (C := RX11) (T := TX11) (N := 17) hx hb hg in_X11 hown hK hP 0 rfl rfl 11 (by decide) (hg _ g_697) (fun _ h9 => h9) rfl dX11_putPlain_24 ?_
    refine lv_bipush (v := 12) hx hb dX11_putPlain_27 (by decide) ?_
    refine lv_iload_n hx hb dX11_putPlain_29 rfl (lv_at hl 1 rfl) ?_
    refine lv_imul hx hb dX11_putPlain_30 ?_
    refine lv_aload_n hx hb dX11_putPlain_31 rfl (lv_at hl 0 rfl) ?_
    refine va_get (D := D) (ci := 12) (v := .ref g.an) (C := RX11) (T := TX11) (N := 17) hx hb hg in_X11 hown hK hP 0 rfl rfl 10 (by decide) (hg _ g_696) (fun _ h9 => h9) rfl dX11_putPlain_32 ?_
    refine lv_iload_n hx hb dX11_putPlain_35 rfl (lv_at hl 1 rfl) ?_
    refine va_iald hx hb hK hP 8 0 rfl rfl (hb_2) dX11_putPlain_36 ?_
    refine lv_iadd hx hb dX11_putPlain_37 ?_
    refine lv_iload_n hx hb dX11_putPlain_38 rfl (lv_at hl 2 rfl) ?_
    obtain ⟨hb_4, hk⟩ := hk
    refine va_iast hx hb hK hP hD hS 9 0 rfl rfl (hb_4) dX11_putPlain_39 (fun H locs hP hD hS => ?_)
    have hP : va_P D vwCl (wM g ((fX11_ruleS M 0 0).1, (fX11_ruleS M 0 0).2.1, (fX11_ruleS M 0 0).2.2.1, (fX11_ruleS M 0 0).2.2.2.1, (fX11_ruleS M 0 0).2.2.2.2.1, (fX11_ruleS M 0 0).2.2.2.2.2.1, (fX11_ruleS M 0 0).2.2.2.2.2.2.1, (fX11_ruleS M 0 0).2.2.2.2.2.2.2.1, (fX11_ruleS M 0 0).2.2.2.2.2.2.2.2.1, (fX11_ruleS M 0 0).2.2.2.2.2.2.2.2.2.1, (fX11_ruleS M 0 0).2.2.2.2.2.2.2.2.2.2.1, upd ((fX11_ruleS M 0 0).2.2.2.2.2.2.2.2.2.2.2.1) ((12 * pl) + (((fX11_ruleS M 0 0).2.2.2.2.2.2.2.2.2.2.1) pl.toNatClampNeg)).toNatClampNeg tb, (fX11_ruleS M 0 0).2.2.2.2.2.2.2.2.2.2.2.2.1, (fX11_ruleS M 0 0).2.2.2.2.2.2.2.2.2.2.2.2.2.1, (fX11_ruleS M 0 0).2.2.2.2.2.2.2.2.2.2.2.2.2.2.1, (fX11_ruleS M 0 0).2.2.2.2.2.2.2.2.2.2.2.2.2.2.2.1, (fX11_ruleS M 0 0).2.2.2.2.2.2.2.2.2.2.2.2.2.2.2.2)) H := hP
    have hD : va_D A (wM g ((fX11_ruleS M 0 0).1, (fX11_ruleS M 0 0).2.1, (fX11_ruleS M 0 0).2.2.1, (fX11_ruleS M 0 0).2.2.2.1, (fX11_ruleS M 0 0).2.2.2.2.1, (fX11_ruleS M 0 0).2.2.2.2.2.1, (fX11_ruleS M 0 0).2.2.2.2.2.2.1, (fX11_ruleS M 0 0).2.2.2.2.2.2.2.1, (fX11_ruleS M 0 0).2.2.2.2.2.2.2.2.1, (fX11_ruleS M 0 0).2.2.2.2.2.2.2.2.2.1, (fX11_ruleS M 0 0).2.2.2.2.2.2.2.2.2.2.1, upd ((fX11_ruleS M 0 0).2.2.2.2.2.2.2.2.2.2.2.1) ((12 * pl) + (((fX11_ruleS M 0 0).2.2.2.2.2.2.2.2.2.2.1) pl.toNatClampNeg)).toNatClampNeg tb, (fX11_ruleS M 0 0).2.2.2.2.2.2.2.2.2.2.2.2.1, (fX11_ruleS M 0 0).2.2.2.2.2.2.2.2.2.2.2.2.2.1, (fX11_ruleS M 0 0).2.2.2.2.2.2.2.2.2.2.2.2.2.2.1, (fX11_ruleS M 0 0).2.2.2.2.2.2.2.2.2.2.2.2.2.2.2.1, (fX11_ruleS M 0 0).2.2.2.2.2.2.2.2.2.2.2.2.2.2.2.2)) := hD
    refine lv_aload_n hx hb dX11_putPlain_40 rfl (lv_at hl 0 rfl) ?_
    refine va_get (D := D) (ci := 12) (v := .ref g.an) (C := RX11) (T := TX11) (N := 17) hx hb hg in_X11 hown hK hP 0 rfl rfl 10 (by decide) (hg _ g_696) (fun _ h9 => h9) rfl dX11_putPlain_41 ?_
    refine lv_iload_n hx hb dX11_putPlain_44 rfl (lv_at hl 1 rfl) ?_
    refine lv_dup2_11 hx hb dX11_putPlain_45 rfl rfl ?_
    refine va_iald hx hb hK hP 8 0 rfl rfl (hb_2) dX11_putPlain_46 ?_
    refine lv_iconst (v := 1) hx hb dX11_putPlain_47 (by decide) ?_
    refine lv_iadd hx hb dX11_putPlain_48 ?_
    refine va_iast hx hb hK hP hD hS 8 0 rfl rfl (hb_2) dX11_putPlain_49 (fun H locs hP hD hS => ?_)
    have hP : va_P D vwCl (wM g ((fX11_ruleS M 0 0).1, (fX11_ruleS M 0 0).2.1, (fX11_ruleS M 0 0).2.2.1, (fX11_ruleS M 0 0).2.2.2.1, (fX11_ruleS M 0 0).2.2.2.2.1, (fX11_ruleS M 0 0).2.2.2.2.2.1, (fX11_ruleS M 0 0).2.2.2.2.2.2.1, (fX11_ruleS M 0 0).2.2.2.2.2.2.2.1, (fX11_ruleS M 0 0).2.2.2.2.2.2.2.2.1, (fX11_ruleS M 0 0).2.2.2.2.2.2.2.2.2.1, upd ((fX11_ruleS M 0 0).2.2.2.2.2.2.2.2.2.2.1) pl.toNatClampNeg ((((fX11_ruleS M 0 0).2.2.2.2.2.2.2.2.2.2.1) pl.toNatClampNeg) + 1), upd ((fX11_ruleS M 0 0).2.2.2.2.2.2.2.2.2.2.2.1) ((12 * pl) + (((fX11_ruleS M 0 0).2.2.2.2.2.2.2.2.2.2.1) pl.toNatClampNeg)).toNatClampNeg tb, (fX11_ruleS M 0 0).2.2.2.2.2.2.2.2.2.2.2.2.1, (fX11_ruleS M 0 0).2.2.2.2.2.2.2.2.2.2.2.2.2.1, (fX11_ruleS M 0 0).2.2.2.2.2.2.2.2.2.2.2.2.2.2.1, (fX11_ruleS M 0 0).2.2.2.2.2.2.2.2.2.2.2.2.2.2.2.1, (fX11_ruleS M 0 0).2.2.2.2.2.2.2.2.2.2.2.2.2.2.2.2)) H := hP
    have hD : va_D A (wM g ((fX11_ruleS M 0 0).1, (fX11_ruleS M 0 0).2.1, (fX11_ruleS M 0 0).2.2.1, (fX11_ruleS M 0 0).2.2.2.1, (fX11_ruleS M 0 0).2.2.2.2.1, (fX11_ruleS M 0 0).2.2.2.2.2.1, (fX11_ruleS M 0 0).2.2.2.2.2.2.1, (fX11_ruleS M 0 0).2.2.2.2.2.2.2.1, (fX11_ruleS M 0 0).2.2.2.2.2.2.2.2.1, (fX11_ruleS M 0 0).2.2.2.2.2.2.2.2.2.1, upd ((fX11_ruleS M 0 0).2.2.2.2.2.2.2.2.2.2.1) pl.toNatClampNeg ((((fX11_ruleS M 0 0).2.2.2.2.2.2.2.2.2.2.1) pl.toNatClampNeg) + 1), upd ((fX11_ruleS M 0 0).2.2.2.2.2.2.2.2.2.2.2.1) ((12 * pl) + (((fX11_ruleS M 0 0).2.2.2.2.2.2.2.2.2.2.1) pl.toNatClampNeg)).toNatClampNeg tb, (fX11_ruleS M 0 0).2.2.2.2.2.2.2.2.2.2.2.2.1, (fX11_ruleS M 0 0).2.2.2.2.2.2.2.2.2.2.2.2.2.1, (fX11_ruleS M 0 0).2.2.2.2.2.2.2.2.2.2.2.2.2.2.1, (fX11_ruleS M 0 0).2.2.2.2.2.2.2.2.2.2.2.2.2.2.2.1, (fX11_ruleS M 0 0).2.2.2.2.2.2.2.2.2.2.2.2.2.2.2.2)) := hD
    refine lv_aload_n hx hb dX11_putPlain_50 rfl (lv_at hl 0 rfl) ?_
    refine va_get (D := D) (ci := 12) (v := .ref g.ap) (C := RX11) (T := TX11) (N := 17) hx hb hg in_X11 hown hK hP 0 rfl rfl 5 (by decide) (hg _ g_691) (fun _ h9 => h9) rfl dX11_putPlain_51 ?_
    refine lv_iload_n hx hb dX11_putPlain_54 rfl (lv_at hl 2 rfl) ?_
    refine lv_iload_n hx hb dX11_putPlain_55 rfl (lv_at hl 1 rfl) ?_
    obtain ⟨hb_5, hk⟩ := hk
    refine va_iast hx hb hK hP hD hS 4 0 rfl rfl (hb_5) dX11_putPlain_56 (fun H locs hP hD hS => ?_)
    have hP : va_P D vwCl (wM g ((fX11_ruleS M 0 0).1, (fX11_ruleS M 0 0).2.1, (fX11_ruleS M 0 0).2.2.1, (fX11_ruleS M 0 0).2.2.2.1, (fX11_ruleS M 0 0).2.2.2.2.1, upd ((fX11_ruleS M 0 0).2.2.2.2.2.1) tb.toNatClampNeg pl, (fX11_ruleS M 0 0).2.2.2.2.2.2.1, (fX11_ruleS M 0 0).2.2.2.2.2.2.2.1, (fX11_ruleS M 0 0).2.2.2.2.2.2.2.2.1, (fX11_ruleS M 0 0).2.2.2.2.2.2.2.2.2.1, upd ((fX11_ruleS M 0 0).2.2.2.2.2.2.2.2.2.2.1) pl.toNatClampNeg ((((fX11_ruleS M 0 0).2.2.2.2.2.2.2.2.2.2.1) pl.toNatClampNeg) + 1), upd ((fX11_ruleS M 0 0).2.2.2.2.2.2.2.2.2.2.2.1) ((12 * pl) + (((fX11_ruleS M 0 0).2.2.2.2.2.2.2.2.2.2.1) pl.toNatClampNeg)).toNatClampNeg tb, (fX11_ruleS M 0 0).2.2.2.2.2.2.2.2.2.2.2.2.1, (fX11_ruleS M 0 0).2.2.2.2.2.2.2.2.2.2.2.2.2.1, (fX11_ruleS M 0 0).2.2.2.2.2.2.2.2.2.2.2.2.2.2.1, (fX11_ruleS M 0 0).2.2.2.2.2.2.2.2.2.2.2.2.2.2.2.1, (fX11_ruleS M 0 0).2.2.2.2.2.2.2.2.2.2.2.2.2.2.2.2)) H := hP
    have hD : va_D A (wM g ((fX11_ruleS M 0 0).1, (fX11_ruleS M 0 0).2.1, (fX11_ruleS M 0 0).2.2.1, (fX11_ruleS M 0 0).2.2.2.1, (fX11_ruleS M 0 0).2.2.2.2.1, upd ((fX11_ruleS M 0 0).2.2.2.2.2.1) tb.toNatClampNeg pl, (fX11_ruleS M 0 0).2.2.2.2.2.2.1, (fX11_ruleS M 0 0).2.2.2.2.2.2.2.1, (fX11_ruleS M 0 0).2.2.2.2.2.2.2.2.1, (fX11_ruleS M 0 0).2.2.2.2.2.2.2.2.2.1, upd ((fX11_ruleS M 0 0).2.2.2.2.2.2.2.2.2.2.1) pl.toNatClampNeg ((((fX11_ruleS M 0 0).2.2.2.2.2.2.2.2.2.2.1) pl.toNatClampNeg) + 1), upd ((fX11_ruleS M 0 0).2.2.2.2.2.2.2.2.2.2.2.1) ((12 * pl) + (((fX11_ruleS M 0 0).2.2.2.2.2.2.2.2.2.2.1) pl.toNatClampNeg)).toNatClampNeg tb, (fX11_ruleS M 0 0).2.2.2.2.2.2.2.2.2.2.2.2.1, (fX11_ruleS M 0 0).2.2.2.2.2.2.2.2.2.2.2.2.2.1, (fX11_ruleS M 0 0).2.2.2.2.2.2.2.2.2.2.2.2.2.2.1, (fX11_ruleS M 0 0).2.2.2.2.2.2.2.2.2.2.2.2.2.2.2.1, (fX11_ruleS M 0 0).2.2.2.2.2.2.2.2.2.2.2.2.2.2.2.2)) := hD
    refine lv_iconst (v := 1) hx hb dX11_putPlain_57 (by decide) ?_
    exact W.zret (v := 1) (ty := .boolean) hx hb hr rfl (fun t9 ht hW => ⟨⟨1, wM g ((fX11_ruleS M 0 0).1, (fX11_ruleS M 0 0).2.1, (fX11_ruleS M 0 0).2.2.1, (fX11_ruleS M 0 0).2.2.2.1, (fX11_ruleS M 0 0).2.2.2.2.1, upd ((fX11_ruleS M 0 0).2.2.2.2.2.1) tb.toNatClampNeg pl, (fX11_ruleS M 0 0).2.2.2.2.2.2.1, (fX11_ruleS M 0 0).2.2.2.2.2.2.2.1, (fX11_ruleS M 0 0).2.2.2.2.2.2.2.2.1, (fX11_ruleS M 0 0).2.2.2.2.2.2.2.2.2.1, upd ((fX11_ruleS M 0 0).2.2.2.2.2.2.2.2.2.2.1) pl.toNatClampNeg ((((fX11_ruleS M 0 0).2.2.2.2.2.2.2.2.2.2.1) pl.toNatClampNeg) + 1), upd ((fX11_ruleS M 0 0).2.2.2.2.2.2.2.2.2.2.2.1) ((12 * pl) + (((fX11_ruleS M 0 0).2.2.2.2.2.2.2.2.2.2.1) pl.toNatClampNeg)).toNatClampNeg tb, (fX11_ruleS M 0 0).2.2.2.2.2.2.2.2.2.2.2.2.1, (fX11_ruleS M 0 0).2.2.2.2.2.2.2.2.2.2.2.2.2.1, (fX11_ruleS M 0 0).2.2.2.2.2.2.2.2.2.2.2.2.2.2.1, (fX11_ruleS M 0 0).2.2.2.2.2.2.2.2.2.2.2.2.2.2.2.1, (fX11_ruleS M 0 0).2.2.2.2.2.2.2.2.2.2.2.2.2.2.2.2), rfl, ⟨by simp only [fX11_putPlainR, if_neg c_3], by simp only [fX11_putPlainS, if_neg c_3]⟩, by rw [ht]; exact hP, va_K.moved hW.alike hK, hD⟩, hS.F ht⟩) hS.2.2 dX11_putPlain_58
  · -- (((fX11_ruleS M 0 0).2.2.2.2.2.2.2.2.2.2.1) pl.toNatClampNeg) = (((fX11_ruleS M 0 0).2.2.2.2.2.2.2.2.1) pl.toNatClampNeg)
    have hk := hk.1 c_3
    refine lv_iconst (v := 0) hx hb dX11_putPlain_21 (by decide) ?_
    exact W.zret (v := 0) (ty := .boolean) hx hb hr rfl (fun t9 ht hW => ⟨⟨0, wM g (fX11_ruleS M 0 0), rfl, ⟨by simp only [fX11_putPlainR, if_pos c_3], by simp only [fX11_putPlainS, if_pos c_3]⟩, by rw [ht]; exact hP, va_K.moved hW.alike hK, hD⟩, hS.F ht⟩) hS.2.2 dX11_putPlain_22

theorem nb_putPlain (M : MM) (pl tb : Int32) : narrow .boolean (.int (fX11_putPlainR M pl tb)) = .int (fX11_putPlainR M pl tb) := by
  have h : fX11_putPlainR M pl tb = 0 ∨ fX11_putPlainR M pl tb = 1 := by
    unfold fX11_putPlainR
    split <;> simp
  rcases h with h | h <;> rw [h] <;> rfl
def lX11_putSorted_1R (M : MM) (pl : Int32) (tb : Int32) : Nat → Int32 × MM → Int32
  | 0, _ => 0
  | n + 1, x => (if (fX11_putPlainR (fX11_ruleS M 0 2) pl tb) = 0 then (fX11_putPlainR (fX11_ruleS M 0 2) pl tb) else (if x.1 ≤ (12 * pl) then (fX11_putPlainR (fX11_ruleS M 0 2) pl tb) else (if (x.2.2.2.1 tb.toNatClampNeg) ≤ (x.2.2.2.1 (x.2.2.2.2.2.2.2.2.2.2.2.2.1 (x.1 - 1).toNatClampNeg).toNatClampNeg) then (fX11_putPlainR (fX11_ruleS M 0 2) pl tb) else lX11_putSorted_1R M pl tb n ((x.1 + (-1)), (x.2.1, x.2.2.1, x.2.2.2.1, x.2.2.2.2.1, x.2.2.2.2.2.1, x.2.2.2.2.2.2.1, x.2.2.2.2.2.2.2.1, x.2.2.2.2.2.2.2.2.1, x.2.2.2.2.2.2.2.2.2.1, x.2.2.2.2.2.2.2.2.2.2.1, x.2.2.2.2.2.2.2.2.2.2.2.1, upd (upd x.2.2.2.2.2.2.2.2.2.2.2.2.1 x.1.toNatClampNeg (x.2.2.2.2.2.2.2.2.2.2.2.2.1 (x.1 - 1).toNatClampNeg)) (x.1 - 1).toNatClampNeg tb, x.2.2.2.2.2.2.2.2.2.2.2.2.2.1, x.2.2.2.2.2.2.2.2.2.2.2.2.2.2.1, x.2.2.2.2.2.2.2.2.2.2.2.2.2.2.2.1, x.2.2.2.2.2.2.2.2.2.2.2.2.2.2.2.2.1, x.2.2.2.2.2.2.2.2.2.2.2.2.2.2.2.2.2)))))
def lX11_putSorted_1S (M : MM) (pl : Int32) (tb : Int32) : Nat → Int32 × MM → MM
  | 0, _ => M
  | n + 1, x => (if (fX11_putPlainR (fX11_ruleS M 0 2) pl tb) = 0 then x.2 else (if x.1 ≤ (12 * pl) then x.2 else (if (x.2.2.2.1 tb.toNatClampNeg) ≤ (x.2.2.2.1 (x.2.2.2.2.2.2.2.2.2.2.2.2.1 (x.1 - 1).toNatClampNeg).toNatClampNeg) then x.2 else lX11_putSorted_1S M pl tb n ((x.1 + (-1)), (x.2.1, x.2.2.1, x.2.2.2.1, x.2.2.2.2.1, x.2.2.2.2.2.1, x.2.2.2.2.2.2.1, x.2.2.2.2.2.2.2.1, x.2.2.2.2.2.2.2.2.1, x.2.2.2.2.2.2.2.2.2.1, x.2.2.2.2.2.2.2.2.2.2.1, x.2.2.2.2.2.2.2.2.2.2.2.1, upd (upd x.2.2.2.2.2.2.2.2.2.2.2.2.1 x.1.toNatClampNeg (x.2.2.2.2.2.2.2.2.2.2.2.2.1 (x.1 - 1).toNatClampNeg)) (x.1 - 1).toNatClampNeg tb, x.2.2.2.2.2.2.2.2.2.2.2.2.2.1, x.2.2.2.2.2.2.2.2.2.2.2.2.2.2.1, x.2.2.2.2.2.2.2.2.2.2.2.2.2.2.2.1, x.2.2.2.2.2.2.2.2.2.2.2.2.2.2.2.2.1, x.2.2.2.2.2.2.2.2.2.2.2.2.2.2.2.2.2)))))
def lX11_putSorted_1K (M : MM) (pl : Int32) (tb : Int32) : Nat → Int32 × MM → Prop
  | 0, _ => True
  | n + 1, x => (((fX11_putPlainR (fX11_ruleS M 0 2) pl tb) = 0 → True) ∧ (¬ (fX11_putPlainR (fX11_ruleS M 0 2) pl tb) = 0 → ((x.1 ≤ (12 * pl) → True) ∧ (¬ x.1 ≤ (12 * pl) → (vp_in (x.1 - 1) 144 ∧ vp_in (x.2.2.2.2.2.2.2.2.2.2.2.2.1 (x.1 - 1).toNatClampNeg) 60 ∧ vp_in tb 60 ∧ (((x.2.2.2.1 tb.toNatClampNeg) ≤ (x.2.2.2.1 (x.2.2.2.2.2.2.2.2.2.2.2.2.1 (x.1 - 1).toNatClampNeg).toNatClampNeg) → True) ∧ (¬ (x.2.2.2.1 tb.toNatClampNeg) ≤ (x.2.2.2.1 (x.2.2.2.2.2.2.2.2.2.2.2.2.1 (x.1 - 1).toNatClampNeg).toNatClampNeg) → (vp_in x.1 144 ∧ lX11_putSorted_1K M pl tb n ((x.1 + (-1)), (x.2.1, x.2.2.1, x.2.2.2.1, x.2.2.2.2.1, x.2.2.2.2.2.1, x.2.2.2.2.2.2.1, x.2.2.2.2.2.2.2.1, x.2.2.2.2.2.2.2.2.1, x.2.2.2.2.2.2.2.2.2.1, x.2.2.2.2.2.2.2.2.2.2.1, x.2.2.2.2.2.2.2.2.2.2.2.1, upd (upd x.2.2.2.2.2.2.2.2.2.2.2.2.1 x.1.toNatClampNeg (x.2.2.2.2.2.2.2.2.2.2.2.2.1 (x.1 - 1).toNatClampNeg)) (x.1 - 1).toNatClampNeg tb, x.2.2.2.2.2.2.2.2.2.2.2.2.2.1, x.2.2.2.2.2.2.2.2.2.2.2.2.2.2.1, x.2.2.2.2.2.2.2.2.2.2.2.2.2.2.2.1, x.2.2.2.2.2.2.2.2.2.2.2.2.2.2.2.2.1, x.2.2.2.2.2.2.2.2.2.2.2.2.2.2.2.2.2)) ∧ True))))))))
def fX11_putSortedR (M : MM) (pl : Int32) (tb : Int32) : Int32 := lX11_putSorted_1R M pl tb (((((12 * pl) + (((fX11_putPlainS (fX11_ruleS M 0 2) pl tb).2.2.2.2.2.2.2.2.2.2.1) pl.toNatClampNeg)) - 1).toInt - (12 * pl).toInt).toNat + 1) ((((12 * pl) + (((fX11_putPlainS (fX11_ruleS M 0 2) pl tb).2.2.2.2.2.2.2.2.2.2.1) pl.toNatClampNeg)) - 1), fX11_putPlainS (fX11_ruleS M 0 2) pl tb)
def fX11_putSortedS (M : MM) (pl : Int32) (tb : Int32) : MM := lX11_putSorted_1S M pl tb (((((12 * pl) + (((fX11_putPlainS (fX11_ruleS M 0 2) pl tb).2.2.2.2.2.2.2.2.2.2.1) pl.toNatClampNeg)) - 1).toInt - (12 * pl).toInt).toNat + 1) ((((12 * pl) + (((fX11_putPlainS (fX11_ruleS M 0 2) pl tb).2.2.2.2.2.2.2.2.2.2.1) pl.toNatClampNeg)) - 1), fX11_putPlainS (fX11_ruleS M 0 2) pl tb)
def fX11_putSortedK (M : MM) (pl : Int32) (tb : Int32) : Prop := (fX11_ruleK M 0 2 ∧ fX11_putPlainK (fX11_ruleS M 0 2) pl tb ∧ vp_in pl 12 ∧ lX11_putSorted_1K M pl tb (((((12 * pl) + (((fX11_putPlainS (fX11_ruleS M 0 2) pl tb).2.2.2.2.2.2.2.2.2.2.1) pl.toNatClampNeg)) - 1).toInt - (12 * pl).toInt).toNat + 1) ((((12 * pl) + (((fX11_putPlainS (fX11_ruleS M 0 2) pl tb).2.2.2.2.2.2.2.2.2.2.1) pl.toNatClampNeg)) - 1), fX11_putPlainS (fX11_ruleS M 0 2) pl tb) ∧ True)
set_option maxHeartbeats 4000000 in
set_option maxRecDepth 100000 in
theorem c_X11_putSorted (l : Launch) (D : va_G) (g : MA) (M : MM) (pl : Int32) (tb : Int32) (hk : fX11_putSortedK M pl tb) : ctI l D (tyM g) yX11_putSorted (wd yX11_putSorted cX11_putSorted 5 (Option.some Jvm.ClassFile.FieldType.boolean)) { frames := 2, cells := 0, slots := 0, locals := 44 } [.ref g.mo, .int pl, .int tb] (wM g M) (fun r w => r = fX11_putSortedR M pl tb ∧ w = wM g (fX11_putSortedS M pl tb)) := by
  intro sz
  refine Met.ofW (cc := cX11_putSorted) (maxL := 5) (ret := (Option.some Jvm.ClassFile.FieldType.boolean)) (by decide) rfl ?_
  intro p e s m args below meth c s₁ B hml hv
  obtain ⟨rfl, hsz, hP, hK, hD0⟩ := hv
  have hx := B.exec
  have hb := B.bytes
  have hr := B.returns
  have hts := atoms_spec (ws := (wd yX11_putSorted cX11_putSorted 5 (Option.some Jvm.ClassFile.FieldType.boolean))) B.pre
  have hg := Tb.of hts
  have hown : s.vm.findClass RX11 = some m.cls := findClass_of_methodNamed B.named
  have hlocks := B.notSynchronized
  subst hsz
  have hD := hD0.self (sz := s.heap.size)
  generalize hAe : va_A (wM g M) s.heap.size = A at hD ⊢
  have hA : ∀ q : Nat, s.heap.size ≤ q → A q := fun q h => by rw [← hAe]; exact Or.inr h
  have hS : va_S A s.heap s.heap [] := va_S.rf
  have hP : va_P D vwCl (wM g M) s.heap := hP
  have hl := lv_entry ([.ref g.mo, .int pl, .int tb]) (n := 5) (Nat.le_of_ble_eq_true rfl)
  rw [lg_entry_eq]
  generalize (lg_sl ([.ref g.mo, .int pl, .int tb]) ++ List.replicate (5 - (lg_sl ([.ref g.mo, .int pl, .int tb])).length) Slot.unset).toArray = ls at hl ⊢
  have hl : lv_has ls 5 [(0, .ref g.mo), (1, .int pl), (2, .int tb)] := hl
  unfold fX11_putSortedK at hk
  refine lv_aload_n hx hb dX11_putSorted_0 rfl (lv_at hl 0 rfl) ?_
  refine lv_iconst (v := 0) hx hb dX11_putSorted_1 (by decide) ?_
  refine lv_iconst (v := 2) hx hb dX11_putSorted_2 (by decide) ?_
  obtain ⟨hc_1, hk⟩ := hk
  refine z_ve (va_runV (As := [.int 0, .int 2]) (rest := []) ⟨hx, hb, hml, hown, hts⟩ (c_X11_rule l D g M 0 2 hc_1 _) (z_V 2 hts g_772 g_4 g_769 g_771 gp_8 ⟨by decide, by decide, by decide +kernel⟩ ⟨Nat.le_of_ble_eq_true rfl, Nat.le_of_ble_eq_true rfl⟩) (z_preV (ci := 12) (q0 := 0) (hP.subm [0, 1, 2, 3, 4, 5, 6, 7, 8, 9, 10] rfl) (hD.sub [0, 1, 2, 3, 4, 5, 6, 7, 8, 9, 10] (by decide) rfl) hK rfl rfl) rfl rfl hl.1 rfl (lv_room (Nat.le_of_ble_eq_true rfl)) dX11_putSorted_3 ⟨Nat.le_of_ble_eq_true rfl, Nat.le_of_ble_eq_true rfl⟩) hP hD hS hA (([] : va_W)) (wM g (fX11_ruleS M 0 2)) [0, 1, 2, 3, 4, 5, 6, 7, 8, 9, 10] [] [0, 1, 2, 3, 4, 5, 6, 7, 8, 9, 10] rfl rfl (by decide) (by decide) rfl (by decide) (fun H locs hP hD hS => ?_)
  refine lv_aload_n hx hb dX11_putSorted_6 rfl (lv_at hl 0 rfl) ?_
  refine lv_iload_n hx hb dX11_putSorted_7 rfl (lv_at hl 1 rfl) ?_
  refine lv_iload_n hx hb dX11_putSorted_8 rfl (lv_at hl 2 rfl) ?_
  obtain ⟨hc_2, hk⟩ := hk
  refine z_ie (va_runV (As := [.int pl, .int tb]) (rest := []) ⟨hx, hb, hml, hown, hts⟩ (c_X11_putPlain l D g (fX11_ruleS M 0 2) pl tb hc_2 _) (z_V 2 hts g_780 g_4 g_777 g_779 gp_10 ⟨by decide, by decide, by decide +kernel⟩ ⟨Nat.le_of_ble_eq_true rfl, Nat.le_of_ble_eq_true rfl⟩) (z_preV (ci := 12) (q0 := 0) (hP.subm [0, 1, 2, 3, 4, 5, 6, 7, 8, 9, 10] rfl) (hD.sub [0, 1, 2, 3, 4, 5, 6, 7, 8, 9, 10] (by decide) rfl) hK rfl rfl) rfl rfl hl.1 rfl (lv_room (Nat.le_of_ble_eq_true rfl)) dX11_putSorted_9 ⟨Nat.le_of_ble_eq_true rfl, Nat.le_of_ble_eq_true rfl⟩) hP hD hS hA (([] : va_W)) (wM g (fX11_putPlainS (fX11_ruleS M 0 2) pl tb)) [0, 1, 2, 3, 4, 5, 6, 7, 8, 9, 10] [] [0, 1, 2, 3, 4, 5, 6, 7, 8, 9, 10] rfl rfl (by decide) (by decide) rfl (by decide) (fun H locs hP hD hS => ?_)
  refine lv_istore_n (lv' := [(3, .int (fX11_putPlainR (fX11_ruleS M 0 2) pl tb)), (0, .ref g.mo), (1, .int pl), (2, .int tb)]) hx hb dX11_putSorted_12 rfl hl (by decide) rfl (fun ls hl => ?_)
  refine lv_bipush (v := 12) hx hb dX11_putSorted_13 (by decide) ?_
  refine lv_iload_n hx hb dX11_putSorted_15 rfl (lv_at hl 2 rfl) ?_
  refine lv_imul hx hb dX11_putSorted_16 ?_
  refine lv_aload_n hx hb dX11_putSorted_17 rfl (lv_at hl 1 rfl) ?_
  refine va_get (D := D) (ci := 12) (v := .ref g.an) (C := RX11) (T := TX11) (N := 17) hx hb hg in_X11 hown hK hP 0 rfl rfl 10 (by decide) (hg _ g_696) (fun _ h9 => h9) rfl dX11_putSorted_18 ?_
  refine lv_iload_n hx hb dX11_putSorted_21 rfl (lv_at hl 2 rfl) ?_
  obtain ⟨hb_3, hk⟩ := hk
  refine va_iald hx hb hK hP 8 0 rfl rfl (hb_3) dX11_putSorted_22 ?_
  refine lv_iadd hx hb dX11_putSorted_23 ?_
  refine lv_iconst (v := 1) hx hb dX11_putSorted_24 (by decide) ?_
  refine lv_isub hx hb dX11_putSorted_25 ?_
  refine lv_istore (lv' := [(4, .int (((12 * pl) + (((fX11_putPlainS (fX11_ruleS M 0 2) pl tb).2.2.2.2.2.2.2.2.2.2.1) pl.toNatClampNeg)) - 1)), (3, .int (fX11_putPlainR (fX11_ruleS M 0 2) pl tb)), (0, .ref g.mo), (1, .int pl), (2, .int tb)]) hx hb dX11_putSorted_26 hl (by decide) rfl (fun ls hl => ?_)
  obtain ⟨hL_4, hk⟩ := hk
  refine z_loop (pc := 28) (fun n (x : Int32 × MM) H locs ls => ((x.1.toInt - (12 * pl).toInt).toNat < n ∧ lX11_putSorted_1R M pl tb n x = fX11_putSortedR M pl tb ∧ lX11_putSorted_1S M pl tb n x = fX11_putSortedS M pl tb ∧ lX11_putSorted_1K M pl tb n x) ∧ va_P D vwCl (wM g x.2) H ∧ va_D A (wM g x.2) ∧ va_S A s.heap H locs ∧ lv_has ls 5 [(0, .ref g.mo), (1, .int pl), (2, .int tb), (3, .int (fX11_putPlainR (fX11_ruleS M 0 2) pl tb)), (4, .int x.1)]) (fun x H locs ls h => absurd h.1.1 (Nat.not_lt_zero _)) ?_ (((((12 * pl) + (((fX11_putPlainS (fX11_ruleS M 0 2) pl tb).2.2.2.2.2.2.2.2.2.2.1) pl.toNatClampNeg)) - 1).toInt - (12 * pl).toInt).toNat + 1) ((((12 * pl) + (((fX11_putPlainS (fX11_ruleS M 0 2) pl tb).2.2.2.2.2.2.2.2.2.2.1) pl.toNatClampNeg)) - 1), fX11_putPlainS (fX11_ruleS M 0 2) pl tb) _ _ _ ⟨⟨Nat.lt_succ_self _, (by simp only [fX11_putSortedR]), (by simp only [fX11_putSortedS]), hL_4⟩, hP, hD, hS, lv_sub hl [2, 3, 4, 1, 0] rfl⟩
  intro n x H locs ls hI ih
  obtain ⟨hI, hP, hD, hS, hl⟩ := hI
  have hk : (((fX11_putPlainR (fX11_ruleS M 0 2) pl tb) = 0 → True) ∧ (¬ (fX11_putPlainR (fX11_ruleS M 0 2) pl tb) = 0 → ((x.1 ≤ (12 * pl) → True) ∧ (¬ x.1 ≤ (12 * pl) → (vp_in (x.1 - 1) 144 ∧ vp_in (x.2.2.2.2.2.2.2.2.2.2.2.2.1 (x.1 - 1).toNatClampNeg) 60 ∧ vp_in tb 60 ∧ (((x.2.2.2.1 tb.toNatClampNeg) ≤ (x.2.2.2.1 (x.2.2.2.2.2.2.2.2.2.2.2.2.1 (x.1 - 1).toNatClampNeg).toNatClampNeg) → True) ∧ (¬ (x.2.2.2.1 tb.toNatClampNeg) ≤ (x.2.2.2.1 (x.2.2.2.2.2.2.2.2.2.2.2.2.1 (x.1 - 1).toNatClampNeg).toNatClampNeg) → (vp_in x.1 144 ∧ lX11_putSorted_1K M pl tb n ((x.1 + (-1)), (x.2.1, x.2.2.1, x.2.2.2.1, x.2.2.2.2.1, x.2.2.2.2.2.1, x.2.2.2.2.2.2.1, x.2.2.2.2.2.2.2.1, x.2.2.2.2.2.2.2.2.1, x.2.2.2.2.2.2.2.2.2.1, x.2.2.2.2.2.2.2.2.2.2.1, x.2.2.2.2.2.2.2.2.2.2.2.1, upd (upd x.2.2.2.2.2.2.2.2.2.2.2.2.1 x.1.toNatClampNeg (x.2.2.2.2.2.2.2.2.2.2.2.2.1 (x.1 - 1).toNatClampNeg)) (x.1 - 1).toNatClampNeg tb, x.2.2.2.2.2.2.2.2.2.2.2.2.2.1, x.2.2.2.2.2.2.2.2.2.2.2.2.2.2.1, x.2.2.2.2.2.2.2.2.2.2.2.2.2.2.2.1, x.2.2.2.2.2.2.2.2.2.2.2.2.2.2.2.2.1, x.2.2.2.2.2.2.2.2.2.2.2.2.2.2.2.2.2)) ∧ True)))))))) := hI.2.2.2
  refine lv_iload_n hx hb dX11_putSorted_28 rfl (lv_at hl 3 rfl) ?_
  refine lv_if_eq (tgt := 96) hx hb dX11_putSorted_29 (by decide) (fun c_5 => ?_) (fun c_5 => ?_)
  · -- (fX11_putPlainR (fX11_ruleS M 0 2) pl tb) = 0
    have hk := hk.1 c_5
    refine lv_iload_n hx hb dX11_putSorted_96 rfl (lv_at hl 3 rfl) ?_
    exact W.zret (v := (fX11_putPlainR (fX11_ruleS M 0 2) pl tb)) (ty := .boolean) hx hb hr (nb_putPlain _ _ _) (fun t9 ht hW => ⟨⟨(fX11_putPlainR (fX11_ruleS M 0 2) pl tb), wM g x.2, rfl, ⟨(by rw [← hI.2.1]; simp only [lX11_putSorted_1R, if_pos c_5]), (by rw [← hI.2.2.1]; simp only [lX11_putSorted_1S, if_pos c_5])⟩, by rw [ht]; exact hP, va_K.moved hW.alike hK, hD⟩, hS.F ht⟩) hS.2.2 dX11_putSorted_97
  · -- not (fX11_putPlainR (fX11_ruleS M 0 2) pl tb) = 0
    have hk := hk.2 c_5
    refine lv_iload hx hb dX11_putSorted_32 (lv_at hl 4 rfl) ?_
    refine lv_bipush (v := 12) hx hb dX11_putSorted_34 (by decide) ?_
    refine lv_iload_n hx hb dX11_putSorted_36 rfl (lv_at hl 1 rfl) ?_
    refine lv_imul hx hb dX11_putSorted_37 ?_
    refine lv_icmp_le (tgt := 96) hx hb dX11_putSorted_38 (by decide) (fun c_6 => ?_) (fun c_6 => ?_)
    · -- x.1 ≤ (12 * pl)
      have hk := hk.1 c_6
      refine lv_iload_n hx hb dX11_putSorted_96 rfl (lv_at hl 3 rfl) ?_
      exact W.zret (v := (fX11_putPlainR (fX11_ruleS M 0 2) pl tb)) (ty := .boolean) hx hb hr (nb_putPlain _ _ _) (fun t9 ht hW => ⟨⟨(fX11_putPlainR (fX11_ruleS M 0 2) pl tb), wM g x.2, rfl, ⟨(by rw [← hI.2.1]; simp only [lX11_putSorted_1R, if_neg c_5, if_pos c_6]), (by rw [← hI.2.2.1]; simp only [lX11_putSorted_1S, if_neg c_5, if_pos c_6])⟩, by rw [ht]; exact hP, va_K.moved hW.alike hK, hD⟩, hS.F ht⟩) hS.2.2 dX11_putSorted_97
    · -- not x.1 ≤ (12 * pl)
      have hk := hk.2 c_6
      refine lv_aload_n hx hb dX11_putSorted_41 rfl (lv_at hl 0 rfl) ?_
      refine va_get (D := D) (ci := 12) (v := .ref g.al) (C := RX11) (T := TX11) (N := 17) hx hb hg in_X11 hown hK hP 0 rfl rfl 2 (by decide) (hg _ g_688) (fun _ h9 => h9) rfl dX11_putSorted_42 ?_
      refine lv_aload_n hx hb dX11_putSorted_45 rfl (lv_at hl 0 rfl) ?_
      refine va_get (D := D) (ci := 12) (v := .ref g.ar) (C := RX11) (T := TX11) (N := 17) hx hb hg in_X11 hown hK hP 0 rfl rfl 11 (by decide) (hg _ g_697) (fun _ h9 => h9) rfl dX11_putSorted_46 ?_
      refine lv_iload hx hb dX11_putSorted_49 (lv_at hl 4 rfl) ?_
      refine lv_iconst (v := 1) hx hb dX11_putSorted_51 (by decide) ?_
      refine lv_isub hx hb dX11_putSorted_52 ?_
      obtain ⟨hb_7, hk⟩ := hk
      refine va_iald hx hb hK hP 9 0 rfl rfl (hb_7) dX11_putSorted_53 ?_
      obtain ⟨hb_8, hk⟩ := hk
      refine va_iald hx hb hK hP 1 0 rfl rfl (hb_8) dX11_putSorted_54 ?_
      refine lv_aload_n hx hb dX11_putSorted_55 rfl (lv_at hl 0 rfl) ?_
      refine va_get (D := D) (ci := 12) (v := .ref g.al) (C := RX11) (T := TX11) (N := 17) hx hb hg in_X11 hown hK hP 0 rfl rfl 2 (by decide) (hg _ g_688) (fun _ h9 => h9) rfl dX11_putSorted_56 ?_
      refine lv_iload_n hx hb dX11_putSorted_59 rfl (lv_at hl 2 rfl) ?_
      obtain ⟨hb_9, hk⟩ := hk
      refine va_iald hx hb hK hP 1 0 rfl rfl (hb_9) dX11_putSorted_60 ?_
      refine lv_icmp_ge (tgt := 96) hx hb dX11_putSorted_61 (by decide) (fun c_10 => ?_) (fun c_10 => ?_)
      · -- (x.2.2.2.1 tb.toNatClampNeg) ≤ (x.2.2.2.1 (x.2.2.2.2.2.2.2.2.2.2.2.2.1 (x.1 - 1).toNatClampNeg).toNatClampNeg)
        have hk := hk.1 c_10
        refine lv_iload_n hx hb dX11_putSorted_96 rfl (lv_at hl 3 rfl) ?_
        exact W.zret (v := (fX11_putPlainR (fX11_ruleS M 0 2) pl tb)) (ty := .boolean) hx hb hr (nb_putPlain _ _ _) (fun t9 ht hW => ⟨⟨(fX11_putPlainR (fX11_ruleS M 0 2) pl tb), wM g x.2, rfl, ⟨(by rw [← hI.2.1]; simp only [lX11_putSorted_1R, if_neg c_5, if_neg c_6, if_pos c_10]), (by rw [← hI.2.2.1]; simp only [lX11_putSorted_1S, if_neg c_5, if_neg c_6, if_pos c_10])⟩, by rw [ht]; exact hP, va_K.moved hW.alike hK, hD⟩, hS.F ht⟩) hS.2.2 dX11_putSorted_97
      · -- not (x.2.2.2.1 tb.toNatClampNeg) ≤ (x.2.2.2.1 (x.2.2.2.2.2.2.2.2.2.2.2.2.1 (x.1 - 1).toNatClampNeg).toNatClampNeg)
        have hk := hk.2 c_10
        refine lv_aload_n hx hb dX11_putSorted_64 rfl (lv_at hl 0 rfl) ?_
        refine va_get (D := D) (ci := 12) (v := .ref g.ar) (C := RX11) (T := TX11) (N := 17) hx hb hg in_X11 hown hK hP 0 rfl rfl 11 (by decide) (hg _ g_697) (fun _ h9 => h9) rfl dX11_putSorted_65 ?_
        refine lv_iload hx hb dX11_putSorted_68 (lv_at hl 4 rfl) ?_
        refine lv_aload_n hx hb dX11_putSorted_70 rfl (lv_at hl 0 rfl) ?_
        refine va_get (D := D) (ci := 12) (v := .ref g.ar) (C := RX11) (T := TX11) (N := 17) hx hb hg in_X11 hown hK hP 0 rfl rfl 11 (by decide) (hg _ g_697) (fun _ h9 => h9) rfl dX11_putSorted_71 ?_
        refine lv_iload hx hb dX11_putSorted_74 (lv_at hl 4 rfl) ?_
        refine lv_iconst (v := 1) hx hb dX11_putSorted_76 (by decide) ?_
        refine lv_isub hx hb dX11_putSorted_77 ?_
        refine va_iald hx hb hK hP 9 0 rfl rfl (hb_7) dX11_putSorted_78 ?_
        obtain ⟨hb_11, hk⟩ := hk
        refine va_iast hx hb hK hP hD hS 9 0 rfl rfl (hb_11) dX11_putSorted_79 (fun H locs hP hD hS => ?_)
        have hP : va_P D vwCl (wM g (x.2.1, x.2.2.1, x.2.2.2.1, x.2.2.2.2.1, x.2.2.2.2.2.1, x.2.2.2.2.2.2.1, x.2.2.2.2.2.2.2.1, x.2.2.2.2.2.2.2.2.1, x.2.2.2.2.2.2.2.2.2.1, x.2.2.2.2.2.2.2.2.2.2.1, x.2.2.2.2.2.2.2.2.2.2.2.1, upd x.2.2.2.2.2.2.2.2.2.2.2.2.1 x.1.toNatClampNeg (x.2.2.2.2.2.2.2.2.2.2.2.2.1 (x.1 - 1).toNatClampNeg), x.2.2.2.2.2.2.2.2.2.2.2.2.2.1, x.2.2.2.2.2.2.2.2.2.2.2.2.2.2.1, x.2.2.2.2.2.2.2.2.2.2.2.2.2.2.2.1, x.2.2.2.2.2.2.2.2.2.2.2.2.2.2.2.2.1, x.2.2.2.2.2.2.2.2.2.2.2.2.2.2.2.2.2)) H := hP
        have hD : va_D A (wM g (x.2.1, x.2.2.1, x.2.2.2.1, x.2.2.2.2.1, x.2.2.2.2.2.1, x.2.2.2.2.2.2.1, x.2.2.2.2.2.2.2.1, x.2.2.2.2.2.2.2.2.1, x.2.2.2.2.2.2.2.2.2.1, x.2.2.2.2.2.2.2.2.2.2.1, x.2.2.2.2.2.2.2.2.2.2.2.1, upd x.2.2.2.2.2.2.2.2.2.2.2.2.1 x.1.toNatClampNeg (x.2.2.2.2.2.2.2.2.2.2.2.2.1 (x.1 - 1).toNatClampNeg), x.2.2.2.2.2.2.2.2.2.2.2.2.2.1, x.2.2.2.2.2.2.2.2.2.2.2.2.2.2.1, x.2.2.2.2.2.2.2.2.2.2.2.2.2.2.2.1, x.2.2.2.2.2.2.2.2.2.2.2.2.2.2.2.2.1, x.2.2.2.2.2.2.2.2.2.2.2.2.2.2.2.2.2)) := hD
        refine lv_aload_n hx hb dX11_putSorted_80 rfl (lv_at hl 0 rfl) ?_
        refine va_get (D := D) (ci := 12) (v := .ref g.ar) (C := RX11) (T := TX11) (N := 17) hx hb hg in_X11 hown hK hP 0 rfl rfl 11 (by decide) (hg _ g_697) (fun _ h9 => h9) rfl dX11_putSorted_81 ?_
        refine lv_iload hx hb dX11_putSorted_84 (lv_at hl 4 rfl) ?_
        refine lv_iconst (v := 1) hx hb dX11_putSorted_86 (by decide) ?_
        refine lv_isub hx hb dX11_putSorted_87 ?_
        refine lv_iload_n hx hb dX11_putSorted_88 rfl (lv_at hl 2 rfl) ?_
        refine va_iast hx hb hK hP hD hS 9 0 rfl rfl (hb_7) dX11_putSorted_89 (fun H locs hP hD hS => ?_)
        have hP : va_P D vwCl (wM g (x.2.1, x.2.2.1, x.2.2.2.1, x.2.2.2.2.1, x.2.2.2.2.2.1, x.2.2.2.2.2.2.1, x.2.2.2.2.2.2.2.1, x.2.2.2.2.2.2.2.2.1, x.2.2.2.2.2.2.2.2.2.1, x.2.2.2.2.2.2.2.2.2.2.1, x.2.2.2.2.2.2.2.2.2.2.2.1, upd (upd x.2.2.2.2.2.2.2.2.2.2.2.2.1 x.1.toNatClampNeg (x.2.2.2.2.2.2.2.2.2.2.2.2.1 (x.1 - 1).toNatClampNeg)) (x.1 - 1).toNatClampNeg tb, x.2.2.2.2.2.2.2.2.2.2.2.2.2.1, x.2.2.2.2.2.2.2.2.2.2.2.2.2.2.1, x.2.2.2.2.2.2.2.2.2.2.2.2.2.2.2.1, x.2.2.2.2.2.2.2.2.2.2.2.2.2.2.2.2.1, x.2.2.2.2.2.2.2.2.2.2.2.2.2.2.2.2.2)) H := hP
        have hD : va_D A (wM g (x.2.1, x.2.2.1, x.2.2.2.1, x.2.2.2.2.1, x.2.2.2.2.2.1, x.2.2.2.2.2.2.1, x.2.2.2.2.2.2.2.1, x.2.2.2.2.2.2.2.2.1, x.2.2.2.2.2.2.2.2.2.1, x.2.2.2.2.2.2.2.2.2.2.1, x.2.2.2.2.2.2.2.2.2.2.2.1, upd (upd x.2.2.2.2.2.2.2.2.2.2.2.2.1 x.1.toNatClampNeg (x.2.2.2.2.2.2.2.2.2.2.2.2.1 (x.1 - 1).toNatClampNeg)) (x.1 - 1).toNatClampNeg tb, x.2.2.2.2.2.2.2.2.2.2.2.2.2.1, x.2.2.2.2.2.2.2.2.2.2.2.2.2.2.1, x.2.2.2.2.2.2.2.2.2.2.2.2.2.2.2.1, x.2.2.2.2.2.2.2.2.2.2.2.2.2.2.2.2.1, x.2.2.2.2.2.2.2.2.2.2.2.2.2.2.2.2.2)) := hD
        refine lv_iinc (v := (x.1 + (-1))) (lv' := [(4, .int (x.1 + (-1))), (0, .ref g.mo), (1, .int pl), (2, .int tb), (3, .int (fX11_putPlainR (fX11_ruleS M 0 2) pl tb))]) hx hb dX11_putSorted_90 hl (k := 4) rfl rfl (by decide) rfl (fun ls hl => ?_)
        refine lv_goto (tgt := 28) hx hb dX11_putSorted_93 (by decide) ?_
        obtain ⟨hL_12, hk⟩ := hk
        exact ih ((x.1 + (-1)), (x.2.1, x.2.2.1, x.2.2.2.1, x.2.2.2.2.1, x.2.2.2.2.2.1, x.2.2.2.2.2.2.1, x.2.2.2.2.2.2.2.1, x.2.2.2.2.2.2.2.2.1, x.2.2.2.2.2.2.2.2.2.1, x.2.2.2.2.2.2.2.2.2.2.1, x.2.2.2.2.2.2.2.2.2.2.2.1, upd (upd x.2.2.2.2.2.2.2.2.2.2.2.2.1 x.1.toNatClampNeg (x.2.2.2.2.2.2.2.2.2.2.2.2.1 (x.1 - 1).toNatClampNeg)) (x.1 - 1).toNatClampNeg tb, x.2.2.2.2.2.2.2.2.2.2.2.2.2.1, x.2.2.2.2.2.2.2.2.2.2.2.2.2.2.1, x.2.2.2.2.2.2.2.2.2.2.2.2.2.2.2.1, x.2.2.2.2.2.2.2.2.2.2.2.2.2.2.2.2.1, x.2.2.2.2.2.2.2.2.2.2.2.2.2.2.2.2.2)) _ _ _ ⟨⟨lp_dn2 c_6 hI.1, (by rw [← hI.2.1]; simp only [lX11_putSorted_1R, if_neg c_5, if_neg c_6, if_neg c_10]), (by rw [← hI.2.2.1]; simp only [lX11_putSorted_1S, if_neg c_5, if_neg c_6, if_neg c_10]), hL_12⟩, hP, hD, hS, lv_sub hl [1, 2, 3, 4, 0] rfl⟩
