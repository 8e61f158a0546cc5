theorem tk_in {h : Int32} (h1 : ¬ h < 1) (h2 : h ≤ 12) : vp_in (h - 1) 12 := by
  rw [Int32.lt_iff_toInt_lt] at h1
  rw [Int32.le_iff_toInt_le] at h2
  rw [show (1 : Int32).toInt = 1 from rfl] at h1
  rw [show (12 : Int32).toInt = 12 from rfl] at h2
  have e : (h - 1).toInt = h.toInt - 1 := by
    rw [Int32.toInt_sub, show (1 : Int32).toInt = 1 from rfl]
    exact Int.bmod_eq_of_le (by omega) (by omega)
  rw [vp_in_iff, e]
  omega
theorem sw_in0 {h : Int32} (h1 : ¬ h < 1) (h2 : ¬ 12 ≤ h) : vp_in h 12 := by
  rw [Int32.lt_iff_toInt_lt, show (1 : Int32).toInt = 1 from rfl] at h1
  rw [Int32.le_iff_toInt_le, show (12 : Int32).toInt = 12 from rfl] at h2
  rw [vp_in_iff]
  omega
theorem sw_in1 {h : Int32} (h1 : ¬ h < 1) (h2 : ¬ 12 ≤ h) : vp_in (h - 1) 12 := by
  refine tk_in h1 ?_
  rw [Int32.le_iff_toInt_le] at h2 ⊢
  omega
def fX4_howManyR (P : PP) (T : TT) (X : DD)  : Int32 := P.2.2.2.2
set_option maxHeartbeats 4000000 in
set_option maxRecDepth 100000 in
theorem c_X4_howMany (l : Launch) (D : va_G) (g : GA) (ci h rw : Nat) (hci : pkAll ci) (P : PP) (T : TT) (X : DD)  : ctI l D (tyA g) yX4_howMany (wd yX4_howMany cX4_howMany 1 (Option.some Jvm.ClassFile.FieldType.int)) { frames := 0, cells := 0, slots := 0, locals := 0 } [.ref h] (wA g ci h rw P T X) (fun r w => r = fX4_howManyR P T X ∧ w = wA g ci h rw P T X) := by
  intro sz
  refine Met.ofW (cc := cX4_howMany) (maxL := 1) (ret := (Option.some Jvm.ClassFile.FieldType.int)) (by decide) rfl ?_
  intro p e s m args below meth c s₁ B hml hv
  obtain ⟨rfl, hsz, hP, hK, hD0⟩ := hv
  have hx := B.exec
  have hb := B.bytes
  have hr := B.returns
  have hts := atoms_spec (ws := (wd yX4_howMany cX4_howMany 1 (Option.some Jvm.ClassFile.FieldType.int))) B.pre
  have hg := Tb.of hts
  have hown : s.vm.findClass RX4 = some m.cls := findClass_of_methodNamed B.named
  have hlocks := B.notSynchronized
  subst hsz
  have hD := hD0.self (sz := s.heap.size)
  generalize hAe : va_A (wA g ci h rw P T X) s.heap.size = A at hD ⊢
  have hA : ∀ q : Nat, s.heap.size ≤ q → A q := fun q h => by rw [← hAe]; exact Or.inr h
  have hS : va_S A s.heap s.heap [] := va_S.rf
  have hP : va_P D vwCl (wA g ci h rw P T X) s.heap := hP
  have hl := lv_entry ([.ref h]) (n := 1) (Nat.le_of_ble_eq_true rfl)
  rw [lg_entry_eq]
  generalize (lg_sl ([.ref h]) ++ List.replicate (1 - (lg_sl ([.ref h])).length) Slot.unset).toArray = ls at hl ⊢
  have hl : lv_has ls 1 [(0, .ref h)] := hl
  have hca : pkAll ci := hci
  refine lv_aload_n hx hb dX4_howMany_0 rfl (lv_at hl 0 rfl) ?_
  refine va_get (D := D) (ci := ci) (v := .int P.2.2.2.2) (C := vn ci) (T := TX4) (N := 7) hx hb hg (pq_in hca) hown hK hP 0 rfl (pq_cl hca) 6 (by decide) (hg _ g_149) (fun _ h9 => h9) rfl dX4_howMany_1 ?_
  exact W.iret (v := P.2.2.2.2) hx hb hr (fun t9 ht hW => ⟨⟨P.2.2.2.2, wA g ci h rw P T X, rfl, ⟨rfl, rfl⟩, by rw [ht]; exact hP, va_K.moved hW.alike hK, hD⟩, hS.F ht⟩) hS.2.2 dX4_howMany_4

def fX4_timberAtR (P : PP) (T : TT) (X : DD) (i : Int32) : Int32 := (if i < 0 then (-1) else (if P.2.2.2.2 ≤ i then (-1) else (if 12 ≤ i then (-1) else (P.2.2.2.1 i.toNatClampNeg))))
set_option maxHeartbeats 4000000 in
set_option maxRecDepth 100000 in
theorem c_X4_timberAt (l : Launch) (D : va_G) (g : GA) (ci h rw : Nat) (hci : pkAll ci) (P : PP) (T : TT) (X : DD) (i : Int32) : ctI l D (tyA g) yX4_timberAt (wd yX4_timberAt cX4_timberAt 2 (Option.some Jvm.ClassFile.FieldType.int)) { frames := 0, cells := 0, slots := 0, locals := 0 } [.ref h, .int i] (wA g ci h rw P T X) (fun r w => r = fX4_timberAtR P T X i ∧ w = wA g ci h rw P T X) := by
  intro sz
  refine Met.ofW (cc := cX4_timberAt) (maxL := 2) (ret := (Option.some Jvm.ClassFile.FieldType.int)) (by decide) rfl ?_
  intro p e s m args below meth c s₁ B hml hv
  obtain ⟨rfl, hsz, hP, hK, hD0⟩ := hv
  have hx := B.exec
  have hb := B.bytes
  have hr := B.returns
  have hts := atoms_spec (ws := (wd yX4_timberAt cX4_timberAt 2 (Option.some Jvm.ClassFile.FieldType.int))) B.pre
  have hg := Tb.of hts
  have hown : s.vm.findClass RX4 = some m.cls := findClass_of_methodNamed B.named
  have hlocks := B.notSynchronized
  subst hsz
  have hD := hD0.self (sz := s.heap.size)
  generalize hAe : va_A (wA g ci h rw P T X) s.heap.size = A at hD ⊢
  have hA : ∀ q : Nat, s.heap.size ≤ q → A q := fun q h => by rw [← hAe]; exact Or.inr h
  have hS : va_S A s.heap s.heap [] := va_S.rf
  have hP : va_P D vwCl (wA g ci h rw P T X) s.heap := hP
  have hl := lv_entry ([.ref h, .int i]) (n := 2) (Nat.le_of_ble_eq_true rfl)
  rw [lg_entry_eq]
  generalize (lg_sl ([.ref h, .int i]) ++ List.replicate (2 - (lg_sl ([.ref h, .int i])).length) Slot.unset).toArray = ls at hl ⊢
  have hl : lv_has ls 2 [(0, .ref h), (1, .int i)] := hl
  have hca : pkAll ci := hci
  refine lv_iload_n hx hb dX4_timberAt_0 rfl (lv_at hl 1 rfl) ?_
  refine lv_if_lt (tgt := 30) hx hb dX4_timberAt_1 (by decide) (fun c_1 => ?_) (fun c_1 => ?_)
  · -- i < 0
    refine lv_iconst (v := (-1)) hx hb dX4_timberAt_30 (by decide) ?_
    exact W.iret (v := (-1)) hx hb hr (fun t9 ht hW => ⟨⟨(-1), wA g ci h rw P T X, rfl, ⟨by simp only [fX4_timberAtR, if_pos c_1], rfl⟩, by rw [ht]; exact hP, va_K.moved hW.alike hK, hD⟩, hS.F ht⟩) hS.2.2 dX4_timberAt_31
  · -- not i < 0
    refine lv_iload_n hx hb dX4_timberAt_4 rfl (lv_at hl 1 rfl) ?_
    refine lv_aload_n hx hb dX4_timberAt_5 rfl (lv_at hl 0 rfl) ?_
    refine va_get (D := D) (ci := ci) (v := .int P.2.2.2.2) (C := vn ci) (T := TX4) (N := 7) hx hb hg (pq_in hca) hown hK hP 0 rfl (pq_cl hca) 6 (by decide) (hg _ g_149) (fun _ h9 => h9) rfl dX4_timberAt_6 ?_
    refine lv_icmp_ge (tgt := 30) hx hb dX4_timberAt_9 (by decide) (fun c_2 => ?_) (fun c_2 => ?_)
    · -- P.2.2.2.2 ≤ i
      refine lv_iconst (v := (-1)) hx hb dX4_timberAt_30 (by decide) ?_
      exact W.iret (v := (-1)) hx hb hr (fun t9 ht hW => ⟨⟨(-1), wA g ci h rw P T X, rfl, ⟨by simp only [fX4_timberAtR, if_neg c_1, if_pos c_2], rfl⟩, by rw [ht]; exact hP, va_K.moved hW.alike hK, hD⟩, hS.F ht⟩) hS.2.2 dX4_timberAt_31
    · -- not P.2.2.2.2 ≤ i
      refine lv_iload_n hx hb dX4_timberAt_12 rfl (lv_at hl 1 rfl) ?_
      refine lv_aload_n hx hb dX4_timberAt_13 rfl (lv_at hl 0 rfl) ?_
      refine va_get (D := D) (ci := ci) (v := .ref rw) (C := vn ci) (T := TX4) (N := 7) hx hb hg (pq_in hca) hown hK hP 0 rfl (pq_cl hca) 5 (by decide) (hg _ g_148) (fun _ h9 => h9) rfl dX4_timberAt_14 ?_
      refine va_alen hx hb hK hP 1 0 rfl rfl (v := 12) rfl dX4_timberAt_17 ?_
      refine lv_icmp_ge (tgt := 30) hx hb dX4_timberAt_18 (by decide) (fun c_3 => ?_) (fun c_3 => ?_)
      · -- 12 ≤ i
        refine lv_iconst (v := (-1)) hx hb dX4_timberAt_30 (by decide) ?_
        exact W.iret (v := (-1)) hx hb hr (fun t9 ht hW => ⟨⟨(-1), wA g ci h rw P T X, rfl, ⟨by simp only [fX4_timberAtR, if_neg c_1, if_neg c_2, if_pos c_3], rfl⟩, by rw [ht]; exact hP, va_K.moved hW.alike hK, hD⟩, hS.F ht⟩) hS.2.2 dX4_timberAt_31
      · -- not 12 ≤ i
        refine lv_aload_n hx hb dX4_timberAt_21 rfl (lv_at hl 0 rfl) ?_
        refine va_get (D := D) (ci := ci) (v := .ref rw) (C := vn ci) (T := TX4) (N := 7) hx hb hg (pq_in hca) hown hK hP 0 rfl (pq_cl hca) 5 (by decide) (hg _ g_148) (fun _ h9 => h9) rfl dX4_timberAt_22 ?_
        refine lv_iload_n hx hb dX4_timberAt_25 rfl (lv_at hl 1 rfl) ?_
        refine va_iald hx hb hK hP 1 0 rfl rfl (in_nle (v := 12) (by decide) c_1 c_3) dX4_timberAt_26 ?_
        refine lv_goto (tgt := 31) hx hb dX4_timberAt_27 (by decide) ?_
        exact W.iret (v := (P.2.2.2.1 i.toNatClampNeg)) hx hb hr (fun t9 ht hW => ⟨⟨(P.2.2.2.1 i.toNatClampNeg), wA g ci h rw P T X, rfl, ⟨by simp only [fX4_timberAtR, if_neg c_1, if_neg c_2, if_neg c_3], rfl⟩, by rw [ht]; exact hP, va_K.moved hW.alike hK, hD⟩, hS.F ht⟩) hS.2.2 dX4_timberAt_31

def fX4_isFullR (P : PP) (T : TT) (X : DD)  : Int32 := (if P.2.2.2.2 < P.2.1 then 0 else 1)
set_option maxHeartbeats 4000000 in
set_option maxRecDepth 100000 in
theorem c_X4_isFull (l : Launch) (D : va_G) (g : GA) (ci h rw : Nat) (hci : pkAll ci) (P : PP) (T : TT) (X : DD)  : ctI l D (tyA g) yX4_isFull (wd yX4_isFull cX4_isFull 1 (Option.some Jvm.ClassFile.FieldType.boolean)) { frames := 0, cells := 0, slots := 0, locals := 0 } [.ref h] (wA g ci h rw P T X) (fun r w => r = fX4_isFullR P T X ∧ w = wA g ci h rw P T X) := by
  intro sz
  refine Met.ofW (cc := cX4_isFull) (maxL := 1) (ret := (Option.some Jvm.ClassFile.FieldType.boolean)) (by decide) rfl ?_
  intro p e s m args below meth c s₁ B hml hv
  obtain ⟨rfl, hsz, hP, hK, hD0⟩ := hv
  have hx := B.exec
  have hb := B.bytes
  have hr := B.returns
  have hts := atoms_spec (ws := (wd yX4_isFull cX4_isFull 1 (Option.some Jvm.ClassFile.FieldType.boolean))) B.pre
  have hg := Tb.of hts
  have hown : s.vm.findClass RX4 = some m.cls := findClass_of_methodNamed B.named
  have hlocks := B.notSynchronized
  subst hsz
  have hD := hD0.self (sz := s.heap.size)
  generalize hAe : va_A (wA g ci h rw P T X) s.heap.size = A at hD ⊢
  have hA : ∀ q : Nat, s.heap.size ≤ q → A q := fun q h => by rw [← hAe]; exact Or.inr h
  have hS : va_S A s.heap s.heap [] := va_S.rf
  have hP : va_P D vwCl (wA g ci h rw P T X) s.heap := hP
  have hl := lv_entry ([.ref h]) (n := 1) (Nat.le_of_ble_eq_true rfl)
  rw [lg_entry_eq]
  generalize (lg_sl ([.ref h]) ++ List.replicate (1 - (lg_sl ([.ref h])).length) Slot.unset).toArray = ls at hl ⊢
  have hl : lv_has ls 1 [(0, .ref h)] := hl
  have hca : pkAll ci := hci
  refine lv_aload_n hx hb dX4_isFull_0 rfl (lv_at hl 0 rfl) ?_
  refine va_get (D := D) (ci := ci) (v := .int P.2.2.2.2) (C := vn ci) (T := TX4) (N := 7) hx hb hg (pq_in hca) hown hK hP 0 rfl (pq_cl hca) 6 (by decide) (hg _ g_149) (fun _ h9 => h9) rfl dX4_isFull_1 ?_
  refine lv_aload_n hx hb dX4_isFull_4 rfl (lv_at hl 0 rfl) ?_
  refine va_get (D := D) (ci := ci) (v := .int P.2.1) (C := vn ci) (T := TX4) (N := 7) hx hb hg (pq_in hca) hown hK hP 0 rfl (pq_cl hca) 3 (by decide) (hg _ g_144) (fun _ h9 => h9) rfl dX4_isFull_5 ?_
  refine lv_icmp_lt (tgt := 15) hx hb dX4_isFull_8 (by decide) (fun c_1 => ?_) (fun c_1 => ?_)
  · -- P.2.2.2.2 < P.2.1
    refine lv_iconst (v := 0) hx hb dX4_isFull_15 (by decide) ?_
    exact W.zret (v := 0) (ty := .boolean) hx hb hr rfl (fun t9 ht hW => ⟨⟨0, wA g ci h rw P T X, rfl, ⟨by simp only [fX4_isFullR, if_pos c_1], rfl⟩, by rw [ht]; exact hP, va_K.moved hW.alike hK, hD⟩, hS.F ht⟩) hS.2.2 dX4_isFull_16
  · -- not P.2.2.2.2 < P.2.1
    refine lv_iconst (v := 1) hx hb dX4_isFull_11 (by decide) ?_
    refine lv_goto (tgt := 16) hx hb dX4_isFull_12 (by decide) ?_
    exact W.zret (v := 1) (ty := .boolean) hx hb hr rfl (fun t9 ht hW => ⟨⟨1, wA g ci h rw P T X, rfl, ⟨by simp only [fX4_isFullR, if_neg c_1], rfl⟩, by rw [ht]; exact hP, va_K.moved hW.alike hK, hD⟩, hS.F ht⟩) hS.2.2 dX4_isFull_16

def fX4_putActR (P : PP) (T : TT) (X : DD) (t : Int32) : Int32 := (if P.2.2.2.2 < 0 then 0 else (if P.2.1 ≤ P.2.2.2.2 then 0 else (if P.2.2.2.2 < 12 then 1 else 0)))
def fX4_putActS (P : PP) (T : TT) (X : DD) (t : Int32) : PP × TT × DD := ((if P.2.2.2.2 < 0 then P else (if P.2.1 ≤ P.2.2.2.2 then P else (if P.2.2.2.2 < 12 then (P.1, P.2.1, P.2.2.1, upd P.2.2.2.1 P.2.2.2.2.toNatClampNeg t, (P.2.2.2.2 + 1)) else P))), (if P.2.2.2.2 < 0 then T else (if P.2.1 ≤ P.2.2.2.2 then T else (if P.2.2.2.2 < 12 then fX7_setPileS T t P.1 else T))), fX8_beginS X 0 0)
set_option maxHeartbeats 4000000 in
set_option maxRecDepth 100000 in
theorem c_X4_putAct (l : Launch) (D : va_G) (g : GA) (ci h rw : Nat) (hci : pkAll ci) (P : PP) (T : TT) (X : DD) (t : Int32) : ctI l D (tyA g) yX4_putAct (wd yX4_putAct cX4_putAct 2 (Option.some Jvm.ClassFile.FieldType.int)) { frames := 2, cells := 0, slots := 0, locals := 43 } [.ref h, .int t] (wA g ci h rw P T X) (fun r w => r = fX4_putActR P T X t ∧ w = wA g ci h rw (fX4_putActS P T X t).1 (fX4_putActS P T X t).2.1 (fX4_putActS P T X t).2.2) := by
  intro sz
  refine Met.ofW (cc := cX4_putAct) (maxL := 2) (ret := (Option.some Jvm.ClassFile.FieldType.int)) (by decide) rfl ?_
  intro p e s m args below meth c s₁ B hml hv
  obtain ⟨rfl, hsz, hP, hK, hD0⟩ := hv
  have hx := B.exec
  have hb := B.bytes
  have hr := B.returns
  have hts := atoms_spec (ws := (wd yX4_putAct cX4_putAct 2 (Option.some Jvm.ClassFile.FieldType.int))) B.pre
  have hg := Tb.of hts
  have hown : s.vm.findClass RX4 = some m.cls := findClass_of_methodNamed B.named
  have hlocks := B.notSynchronized
  subst hsz
  have hD := hD0.self (sz := s.heap.size)
  generalize hAe : va_A (wA g ci h rw P T X) s.heap.size = A at hD ⊢
  have hA : ∀ q : Nat, s.heap.size ≤ q → A q := fun q h => by rw [← hAe]; exact Or.inr h
  have hS : va_S A s.heap s.heap [] := va_S.rf
  have hP : va_P D vwCl (wA g ci h rw P T X) s.heap := hP
  have hl := lv_entry ([.ref h, .int t]) (n := 2) (Nat.le_of_ble_eq_true rfl)
  rw [lg_entry_eq]
  generalize (lg_sl ([.ref h, .int t]) ++ List.replicate (2 - (lg_sl ([.ref h, .int t])).length) Slot.unset).toArray = ls at hl ⊢
  have hl : lv_has ls 2 [(0, .ref h), (1, .int t)] := hl
  have hca : pkAll ci := hci
  refine lv_aload_n hx hb dX4_putAct_0 rfl (lv_at hl 0 rfl) ?_
  refine va_get (D := D) (ci := ci) (v := .ref g.dn) (C := vn ci) (T := TX4) (N := 7) hx hb hg (pq_in hca) hown hK hP 0 rfl (pq_cl hca) 1 (by decide) (hg _ g_130) (fun _ h9 => h9) rfl dX4_putAct_1 ?_
  refine lv_iconst (v := 0) hx hb dX4_putAct_4 (by decide) ?_
  refine lv_iconst (v := 0) hx hb dX4_putAct_5 (by decide) ?_
  refine z_ve (va_runV (As := [.int 0, .int 0]) (rest := []) ⟨hx, hb, hml, hown, hts⟩ (c_X8_begin l D g X 0 0 _) (z_V 2 hts g_278 g_3 g_316 g_276 g_277 ⟨by decide, by decide, by decide +kernel⟩ ⟨Nat.le_of_ble_eq_true rfl, Nat.le_of_ble_eq_true rfl⟩) (z_preV (ci := 9) (q0 := 0) (hP.subm [7, 8] rfl) (hD.sub [7, 8] (by decide) rfl) hK rfl rfl) rfl rfl hl.1 rfl (lv_room (Nat.le_of_ble_eq_true rfl)) dX4_putAct_6 ⟨Nat.le_of_ble_eq_true rfl, Nat.le_of_ble_eq_true rfl⟩) hP hD hS hA (wP g ci h rw P ++ wT g T) (wA g ci h rw P T (fX8_beginS X 0 0)) [7, 8] [0, 1, 2, 3, 4, 5, 6] [0, 1, 2, 3, 4, 5, 6, 7, 8] rfl rfl (by decide) (by decide) rfl (by decide) (fun H locs hP hD hS => ?_)
  refine lv_aload_n hx hb dX4_putAct_9 rfl (lv_at hl 0 rfl) ?_
  refine va_get (D := D) (ci := ci) (v := .int P.2.2.2.2) (C := vn ci) (T := TX4) (N := 7) hx hb hg (pq_in hca) hown hK hP 0 rfl (pq_cl hca) 6 (by decide) (hg _ g_149) (fun _ h9 => h9) rfl dX4_putAct_10 ?_
  refine lv_if_lt (tgt := 39) hx hb dX4_putAct_13 (by decide) (fun c_1 => ?_) (fun c_1 => ?_)
  · -- P.2.2.2.2 < 0
    refine lv_iconst (v := 0) hx hb dX4_putAct_39 (by decide) ?_
    exact W.iret (v := 0) hx hb hr (fun t9 ht hW => ⟨⟨0, wA g ci h rw P T (fX8_beginS X 0 0), rfl, ⟨by simp only [fX4_putActR, if_pos c_1], by simp only [fX4_putActS, if_pos c_1]⟩, by rw [ht]; exact hP, va_K.moved hW.alike hK, hD⟩, hS.F ht⟩) hS.2.2 dX4_putAct_40
  · -- not P.2.2.2.2 < 0
    refine lv_aload_n hx hb dX4_putAct_16 rfl (lv_at hl 0 rfl) ?_
    refine va_get (D := D) (ci := ci) (v := .int P.2.2.2.2) (C := vn ci) (T := TX4) (N := 7) hx hb hg (pq_in hca) hown hK hP 0 rfl (pq_cl hca) 6 (by decide) (hg _ g_149) (fun _ h9 => h9) rfl dX4_putAct_17 ?_
    refine lv_aload_n hx hb dX4_putAct_20 rfl (lv_at hl 0 rfl) ?_
    refine va_get (D := D) (ci := ci) (v := .int P.2.1) (C := vn ci) (T := TX4) (N := 7) hx hb hg (pq_in hca) hown hK hP 0 rfl (pq_cl hca) 3 (by decide) (hg _ g_144) (fun _ h9 => h9) rfl dX4_putAct_21 ?_
    refine lv_icmp_ge (tgt := 39) hx hb dX4_putAct_24 (by decide) (fun c_2 => ?_) (fun c_2 => ?_)
    · -- P.2.1 ≤ P.2.2.2.2
      refine lv_iconst (v := 0) hx hb dX4_putAct_39 (by decide) ?_
      exact W.iret (v := 0) hx hb hr (fun t9 ht hW => ⟨⟨0, wA g ci h rw P T (fX8_beginS X 0 0), rfl, ⟨by simp only [fX4_putActR, if_neg c_1, if_pos c_2], by simp only [fX4_putActS, if_neg c_1, if_pos c_2]⟩, by rw [ht]; exact hP, va_K.moved hW.alike hK, hD⟩, hS.F ht⟩) hS.2.2 dX4_putAct_40
    · -- not P.2.1 ≤ P.2.2.2.2
      refine lv_aload_n hx hb dX4_putAct_27 rfl (lv_at hl 0 rfl) ?_
      refine va_get (D := D) (ci := ci) (v := .int P.2.2.2.2) (C := vn ci) (T := TX4) (N := 7) hx hb hg (pq_in hca) hown hK hP 0 rfl (pq_cl hca) 6 (by decide) (hg _ g_149) (fun _ h9 => h9) rfl dX4_putAct_28 ?_
      refine lv_aload_n hx hb dX4_putAct_31 rfl (lv_at hl 0 rfl) ?_
      refine va_get (D := D) (ci := ci) (v := .ref rw) (C := vn ci) (T := TX4) (N := 7) hx hb hg (pq_in hca) hown hK hP 0 rfl (pq_cl hca) 5 (by decide) (hg _ g_148) (fun _ h9 => h9) rfl dX4_putAct_32 ?_
      refine va_alen hx hb hK hP 1 0 rfl rfl (v := 12) rfl dX4_putAct_35 ?_
      refine lv_icmp_lt (tgt := 41) hx hb dX4_putAct_36 (by decide) (fun c_3 => ?_) (fun c_3 => ?_)
      · -- P.2.2.2.2 < 12
        refine lv_aload_n hx hb dX4_putAct_41 rfl (lv_at hl 0 rfl) ?_
        refine va_get (D := D) (ci := ci) (v := .ref rw) (C := vn ci) (T := TX4) (N := 7) hx hb hg (pq_in hca) hown hK hP 0 rfl (pq_cl hca) 5 (by decide) (hg _ g_148) (fun _ h9 => h9) rfl dX4_putAct_42 ?_
        refine lv_aload_n hx hb dX4_putAct_45 rfl (lv_at hl 0 rfl) ?_
        refine va_get (D := D) (ci := ci) (v := .int P.2.2.2.2) (C := vn ci) (T := TX4) (N := 7) hx hb hg (pq_in hca) hown hK hP 0 rfl (pq_cl hca) 6 (by decide) (hg _ g_149) (fun _ h9 => h9) rfl dX4_putAct_46 ?_
        refine lv_iload_n hx hb dX4_putAct_49 rfl (lv_at hl 1 rfl) ?_
        refine va_iast hx hb hK hP hD hS 1 0 rfl rfl (in_lt (v := 12) (by decide) c_1 c_3) dX4_putAct_50 (fun H locs hP hD hS => ?_)
        have hP : va_P D vwCl (wA g ci h rw (P.1, P.2.1, P.2.2.1, upd P.2.2.2.1 P.2.2.2.2.toNatClampNeg t, P.2.2.2.2) T (fX8_beginS X 0 0)) H := hP
        have hD : va_D A (wA g ci h rw (P.1, P.2.1, P.2.2.1, upd P.2.2.2.1 P.2.2.2.2.toNatClampNeg t, P.2.2.2.2) T (fX8_beginS X 0 0)) := hD
        refine lv_aload_n hx hb dX4_putAct_51 rfl (lv_at hl 0 rfl) ?_
        refine lv_dup hx hb dX4_putAct_52 rfl ?_
        refine va_get (D := D) (ci := ci) (v := .int P.2.2.2.2) (C := vn ci) (T := TX4) (N := 7) hx hb hg (pq_in hca) hown hK hP 0 rfl (pq_cl hca) 6 (by decide) (hg _ g_149) (fun _ h9 => h9) rfl dX4_putAct_53 ?_
        refine lv_iconst (v := 1) hx hb dX4_putAct_56 (by decide) ?_
        refine lv_iadd hx hb dX4_putAct_57 ?_
        refine va_put (D := D) (ci := ci) (v := .int (P.2.2.2.2 + 1)) (ty := .int) (C := vn ci) (T := TX4) (N := 7) hx hb hg (pq_in hca) tyX4 tyX4_ok nmX4 hown hK hP hD hS 0 rfl (pq_cl hca) 6 (by decide) (hg _ g_149) (fun _ h9 => h9) rfl (by decide +kernel) rfl rfl (Nat.le_of_ble_eq_true rfl) dX4_putAct_58 (fun H locs hP hD hS => ?_)
        have hP : va_P D vwCl (wA g ci h rw (P.1, P.2.1, P.2.2.1, upd P.2.2.2.1 P.2.2.2.2.toNatClampNeg t, (P.2.2.2.2 + 1)) T (fX8_beginS X 0 0)) H := hP
        have hD : va_D A (wA g ci h rw (P.1, P.2.1, P.2.2.1, upd P.2.2.2.1 P.2.2.2.2.toNatClampNeg t, (P.2.2.2.2 + 1)) T (fX8_beginS X 0 0)) := hD
        refine lv_aload_n hx hb dX4_putAct_61 rfl (lv_at hl 0 rfl) ?_
        refine va_get (D := D) (ci := ci) (v := .ref g.tm) (C := vn ci) (T := TX4) (N := 7) hx hb hg (pq_in hca) hown hK hP 0 rfl (pq_cl hca) 0 (by decide) (hg _ g_119) (fun _ h9 => h9) rfl dX4_putAct_62 ?_
        refine lv_iload_n hx hb dX4_putAct_65 rfl (lv_at hl 1 rfl) ?_
        refine lv_aload_n hx hb dX4_putAct_66 rfl (lv_at hl 0 rfl) ?_
        refine va_get (D := D) (ci := ci) (v := .int P.1) (C := vn ci) (T := TX4) (N := 7) hx hb hg (pq_in hca) hown hK hP 0 rfl (pq_cl hca) 2 (by decide) (hg _ g_143) (fun _ h9 => h9) rfl dX4_putAct_67 ?_
        refine z_ve (va_runV (As := [.int t, .int P.1]) (rest := []) ⟨hx, hb, hml, hown, hts⟩ (c_X7_setPile l D g T t P.1 _) (z_V 2 hts g_461 g_2 g_458 g_459 g_460 ⟨by decide, by decide, by decide +kernel⟩ ⟨Nat.le_of_ble_eq_true rfl, Nat.le_of_ble_eq_true rfl⟩) (z_preV (ci := 8) (q0 := 0) (hP.subm [2, 3, 4, 5, 6] rfl) (hD.sub [2, 3, 4, 5, 6] (by decide) rfl) hK rfl rfl) rfl rfl hl.1 rfl (lv_room (Nat.le_of_ble_eq_true rfl)) dX4_putAct_70 ⟨Nat.le_of_ble_eq_true rfl, Nat.le_of_ble_eq_true rfl⟩) hP hD hS hA (wP g ci h rw (P.1, P.2.1, P.2.2.1, upd P.2.2.2.1 P.2.2.2.2.toNatClampNeg t, (P.2.2.2.2 + 1)) ++ wD g (fX8_beginS X 0 0)) (wA g ci h rw (P.1, P.2.1, P.2.2.1, upd P.2.2.2.1 P.2.2.2.2.toNatClampNeg t, (P.2.2.2.2 + 1)) (fX7_setPileS T t P.1) (fX8_beginS X 0 0)) [2, 3, 4, 5, 6] [0, 1, 7, 8] [0, 1, 4, 5, 6, 7, 8, 2, 3] rfl rfl (by decide) (by decide) rfl (by decide) (fun H locs hP hD hS => ?_)
        refine lv_iconst (v := 1) hx hb dX4_putAct_73 (by decide) ?_
        exact W.iret (v := 1) hx hb hr (fun t9 ht hW => ⟨⟨1, wA g ci h rw (P.1, P.2.1, P.2.2.1, upd P.2.2.2.1 P.2.2.2.2.toNatClampNeg t, (P.2.2.2.2 + 1)) (fX7_setPileS T t P.1) (fX8_beginS X 0 0), rfl, ⟨by simp only [fX4_putActR, if_neg c_1, if_neg c_2, if_pos c_3], by simp only [fX4_putActS, if_neg c_1, if_neg c_2, if_pos c_3]⟩, by rw [ht]; exact hP, va_K.moved hW.alike hK, hD⟩, hS.F ht⟩) hS.2.2 dX4_putAct_74
      · -- not P.2.2.2.2 < 12
        refine lv_iconst (v := 0) hx hb dX4_putAct_39 (by decide) ?_
        exact W.iret (v := 0) hx hb hr (fun t9 ht hW => ⟨⟨0, wA g ci h rw P T (fX8_beginS X 0 0), rfl, ⟨by simp only [fX4_putActR, if_neg c_1, if_neg c_2, if_neg c_3], by simp only [fX4_putActS, if_neg c_1, if_neg c_2, if_neg c_3]⟩, by rw [ht]; exact hP, va_K.moved hW.alike hK, hD⟩, hS.F ht⟩) hS.2.2 dX4_putAct_40

def fX4_takeActR (P : PP) (T : TT) (X : DD)  : Int32 := (if P.2.2.2.2 < 1 then (-1) else (if P.2.2.2.2 ≤ 12 then (P.2.2.2.1 (P.2.2.2.2 - 1).toNatClampNeg) else (-1)))
def fX4_takeActS (P : PP) (T : TT) (X : DD)  : PP × TT × DD := ((if P.2.2.2.2 < 1 then P else (if P.2.2.2.2 ≤ 12 then (P.1, P.2.1, P.2.2.1, P.2.2.2.1, (P.2.2.2.2 - 1)) else P)), (if P.2.2.2.2 < 1 then T else (if P.2.2.2.2 ≤ 12 then fX7_setPileS T (P.2.2.2.1 (P.2.2.2.2 - 1).toNatClampNeg) (-1) else T)), fX8_beginS X 1 0)
set_option maxHeartbeats 4000000 in
set_option maxRecDepth 100000 in
theorem c_X4_takeAct (l : Launch) (D : va_G) (g : GA) (ci h rw : Nat) (hci : pkAll ci) (P : PP) (T : TT) (X : DD)  : ctI l D (tyA g) yX4_takeAct (wd yX4_takeAct cX4_takeAct 2 (Option.some Jvm.ClassFile.FieldType.int)) { frames := 2, cells := 0, slots := 0, locals := 43 } [.ref h] (wA g ci h rw P T X) (fun r w => r = fX4_takeActR P T X ∧ w = wA g ci h rw (fX4_takeActS P T X).1 (fX4_takeActS P T X).2.1 (fX4_takeActS P T X).2.2) := by
  intro sz
  refine Met.ofW (cc := cX4_takeAct) (maxL := 2) (ret := (Option.some Jvm.ClassFile.FieldType.int)) (by decide) rfl ?_
  intro p e s m args below meth c s₁ B hml hv
  obtain ⟨rfl, hsz, hP, hK, hD0⟩ := hv
  have hx := B.exec
  have hb := B.bytes
  have hr := B.returns
  have hts := atoms_spec (ws := (wd yX4_takeAct cX4_takeAct 2 (Option.some Jvm.ClassFile.FieldType.int))) B.pre
  have hg := Tb.of hts
  have hown : s.vm.findClass RX4 = some m.cls := findClass_of_methodNamed B.named
  have hlocks := B.notSynchronized
  subst hsz
  have hD := hD0.self (sz := s.heap.size)
  generalize hAe : va_A (wA g ci h rw P T X) s.heap.size = A at hD ⊢
  have hA : ∀ q : Nat, s.heap.size ≤ q → A q := fun q h => by rw [← hAe]; exact Or.inr h
  have hS : va_S A s.heap s.heap [] := va_S.rf
  have hP : va_P D vwCl (wA g ci h rw P T X) s.heap := hP
  have hl := lv_entry ([.ref h]) (n := 2) (Nat.le_of_ble_eq_true rfl)
  rw [lg_entry_eq]
  generalize (lg_sl ([.ref h]) ++ List.replicate (2 - (lg_sl ([.ref h])).length) Slot.unset).toArray = ls at hl ⊢
  have hl : lv_has ls 2 [(0, .ref h)] := hl
  have hca : pkAll ci := hci
  refine lv_aload_n hx hb dX4_takeAct_0 rfl (lv_at hl 0 rfl) ?_
  refine va_get (D := D) (ci := ci) (v := .ref g.dn) (C := vn ci) (T := TX4) (N := 7) hx hb hg (pq_in hca) hown hK hP 0 rfl (pq_cl hca) 1 (by decide) (hg _ g_130) (fun _ h9 => h9) rfl dX4_takeAct_1 ?_
  refine lv_iconst (v := 1) hx hb dX4_takeAct_4 (by decide) ?_
  refine lv_iconst (v := 0) hx hb dX4_takeAct_5 (by decide) ?_
  refine z_ve (va_runV (As := [.int 1, .int 0]) (rest := []) ⟨hx, hb, hml, hown, hts⟩ (c_X8_begin l D g X 1 0 _) (z_V 2 hts g_278 g_3 g_316 g_276 g_277 ⟨by decide, by decide, by decide +kernel⟩ ⟨Nat.le_of_ble_eq_true rfl, Nat.le_of_ble_eq_true rfl⟩) (z_preV (ci := 9) (q0 := 0) (hP.subm [7, 8] rfl) (hD.sub [7, 8] (by decide) rfl) hK rfl rfl) rfl rfl hl.1 rfl (lv_room (Nat.le_of_ble_eq_true rfl)) dX4_takeAct_6 ⟨Nat.le_of_ble_eq_true rfl, Nat.le_of_ble_eq_true rfl⟩) hP hD hS hA (wP g ci h rw P ++ wT g T) (wA g ci h rw P T (fX8_beginS X 1 0)) [7, 8] [0, 1, 2, 3, 4, 5, 6] [0, 1, 2, 3, 4, 5, 6, 7, 8] rfl rfl (by decide) (by decide) rfl (by decide) (fun H locs hP hD hS => ?_)
  refine lv_aload_n hx hb dX4_takeAct_9 rfl (lv_at hl 0 rfl) ?_
  refine va_get (D := D) (ci := ci) (v := .int P.2.2.2.2) (C := vn ci) (T := TX4) (N := 7) hx hb hg (pq_in hca) hown hK hP 0 rfl (pq_cl hca) 6 (by decide) (hg _ g_149) (fun _ h9 => h9) rfl dX4_takeAct_10 ?_
  refine lv_iconst (v := 1) hx hb dX4_takeAct_13 (by decide) ?_
  refine lv_icmp_lt (tgt := 29) hx hb dX4_takeAct_14 (by decide) (fun c_1 => ?_) (fun c_1 => ?_)
  · -- P.2.2.2.2 < 1
    refine lv_iconst (v := (-1)) hx hb dX4_takeAct_29 (by decide) ?_
    exact W.iret (v := (-1)) hx hb hr (fun t9 ht hW => ⟨⟨(-1), wA g ci h rw P T (fX8_beginS X 1 0), rfl, ⟨by simp only [fX4_takeActR, if_pos c_1], by simp only [fX4_takeActS, if_pos c_1]⟩, by rw [ht]; exact hP, va_K.moved hW.alike hK, hD⟩, hS.F ht⟩) hS.2.2 dX4_takeAct_30
  · -- not P.2.2.2.2 < 1
    refine lv_aload_n hx hb dX4_takeAct_17 rfl (lv_at hl 0 rfl) ?_
    refine va_get (D := D) (ci := ci) (v := .int P.2.2.2.2) (C := vn ci) (T := TX4) (N := 7) hx hb hg (pq_in hca) hown hK hP 0 rfl (pq_cl hca) 6 (by decide) (hg _ g_149) (fun _ h9 => h9) rfl dX4_takeAct_18 ?_
    refine lv_aload_n hx hb dX4_takeAct_21 rfl (lv_at hl 0 rfl) ?_
    refine va_get (D := D) (ci := ci) (v := .ref rw) (C := vn ci) (T := TX4) (N := 7) hx hb hg (pq_in hca) hown hK hP 0 rfl (pq_cl hca) 5 (by decide) (hg _ g_148) (fun _ h9 => h9) rfl dX4_takeAct_22 ?_
    refine va_alen hx hb hK hP 1 0 rfl rfl (v := 12) rfl dX4_takeAct_25 ?_
    refine lv_icmp_le (tgt := 31) hx hb dX4_takeAct_26 (by decide) (fun c_2 => ?_) (fun c_2 => ?_)
    · -- P.2.2.2.2 ≤ 12
      refine lv_aload_n hx hb dX4_takeAct_31 rfl (lv_at hl 0 rfl) ?_
      refine lv_dup hx hb dX4_takeAct_32 rfl ?_
      refine va_get (D := D) (ci := ci) (v := .int P.2.2.2.2) (C := vn ci) (T := TX4) (N := 7) hx hb hg (pq_in hca) hown hK hP 0 rfl (pq_cl hca) 6 (by decide) (hg _ g_149) (fun _ h9 => h9) rfl dX4_takeAct_33 ?_
      refine lv_iconst (v := 1) hx hb dX4_takeAct_36 (by decide) ?_
      refine lv_isub hx hb dX4_takeAct_37 ?_
      refine va_put (D := D) (ci := ci) (v := .int (P.2.2.2.2 - 1)) (ty := .int) (C := vn ci) (T := TX4) (N := 7) hx hb hg (pq_in hca) tyX4 tyX4_ok nmX4 hown hK hP hD hS 0 rfl (pq_cl hca) 6 (by decide) (hg _ g_149) (fun _ h9 => h9) rfl (by decide +kernel) rfl rfl (Nat.le_of_ble_eq_true rfl) dX4_takeAct_38 (fun H locs hP hD hS => ?_)
      have hP : va_P D vwCl (wA g ci h rw (P.1, P.2.1, P.2.2.1, P.2.2.2.1, (P.2.2.2.2 - 1)) T (fX8_beginS X 1 0)) H := hP
      have hD : va_D A (wA g ci h rw (P.1, P.2.1, P.2.2.1, P.2.2.2.1, (P.2.2.2.2 - 1)) T (fX8_beginS X 1 0)) := hD
      refine lv_aload_n hx hb dX4_takeAct_41 rfl (lv_at hl 0 rfl) ?_
      refine va_get (D := D) (ci := ci) (v := .ref rw) (C := vn ci) (T := TX4) (N := 7) hx hb hg (pq_in hca) hown hK hP 0 rfl (pq_cl hca) 5 (by decide) (hg _ g_148) (fun _ h9 => h9) rfl dX4_takeAct_42 ?_
      refine lv_aload_n hx hb dX4_takeAct_45 rfl (lv_at hl 0 rfl) ?_
      refine va_get (D := D) (ci := ci) (v := .int (P.2.2.2.2 - 1)) (C := vn ci) (T := TX4) (N := 7) hx hb hg (pq_in hca) hown hK hP 0 rfl (pq_cl hca) 6 (by decide) (hg _ g_149) (fun _ h9 => h9) rfl dX4_takeAct_46 ?_
      refine va_iald hx hb hK hP 1 0 rfl rfl (tk_in c_1 c_2) dX4_takeAct_49 ?_
      refine lv_istore_n (lv' := [(1, .int (P.2.2.2.1 (P.2.2.2.2 - 1).toNatClampNeg)), (0, .ref h)]) hx hb dX4_takeAct_50 rfl hl (by decide) rfl (fun ls hl => ?_)
      refine lv_aload_n hx hb dX4_takeAct_51 rfl (lv_at hl 1 rfl) ?_
      refine va_get (D := D) (ci := ci) (v := .ref g.tm) (C := vn ci) (T := TX4) (N := 7) hx hb hg (pq_in hca) hown hK hP 0 rfl (pq_cl hca) 0 (by decide) (hg _ g_119) (fun _ h9 => h9) rfl dX4_takeAct_52 ?_
      refine lv_iload_n hx hb dX4_takeAct_55 rfl (lv_at hl 0 rfl) ?_
      refine lv_iconst (v := (-1)) hx hb dX4_takeAct_56 (by decide) ?_
      refine z_ve (va_runV (As := [.int (P.2.2.2.1 (P.2.2.2.2 - 1).toNatClampNeg), .int (-1)]) (rest := []) ⟨hx, hb, hml, hown, hts⟩ (c_X7_setPile l D g T (P.2.2.2.1 (P.2.2.2.2 - 1).toNatClampNeg) (-1) _) (z_V 2 hts g_461 g_2 g_458 g_459 g_460 ⟨by decide, by decide, by decide +kernel⟩ ⟨Nat.le_of_ble_eq_true rfl, Nat.le_of_ble_eq_true rfl⟩) (z_preV (ci := 8) (q0 := 0) (hP.subm [2, 3, 4, 5, 6] rfl) (hD.sub [2, 3, 4, 5, 6] (by decide) rfl) hK rfl rfl) rfl rfl hl.1 rfl (lv_room (Nat.le_of_ble_eq_true rfl)) dX4_takeAct_57 ⟨Nat.le_of_ble_eq_true rfl, Nat.le_of_ble_eq_true rfl⟩) hP hD hS hA (wP g ci h rw (P.1, P.2.1, P.2.2.1, P.2.2.2.1, (P.2.2.2.2 - 1)) ++ wD g (fX8_beginS X 1 0)) (wA g ci h rw (P.1, P.2.1, P.2.2.1, P.2.2.2.1, (P.2.2.2.2 - 1)) (fX7_setPileS T (P.2.2.2.1 (P.2.2.2.2 - 1).toNatClampNeg) (-1)) (fX8_beginS X 1 0)) [2, 3, 4, 5, 6] [0, 1, 7, 8] [0, 1, 4, 5, 6, 7, 8, 2, 3] rfl rfl (by decide) (by decide) rfl (by decide) (fun H locs hP hD hS => ?_)
      refine lv_iload_n hx hb dX4_takeAct_60 rfl (lv_at hl 0 rfl) ?_
      exact W.iret (v := (P.2.2.2.1 (P.2.2.2.2 - 1).toNatClampNeg)) hx hb hr (fun t9 ht hW => ⟨⟨(P.2.2.2.1 (P.2.2.2.2 - 1).toNatClampNeg), wA g ci h rw (P.1, P.2.1, P.2.2.1, P.2.2.2.1, (P.2.2.2.2 - 1)) (fX7_setPileS T (P.2.2.2.1 (P.2.2.2.2 - 1).toNatClampNeg) (-1)) (fX8_beginS X 1 0), rfl, ⟨by simp only [fX4_takeActR, if_neg c_1, if_pos c_2], by simp only [fX4_takeActS, if_neg c_1, if_pos c_2]⟩, by rw [ht]; exact hP, va_K.moved hW.alike hK, hD⟩, hS.F ht⟩) hS.2.2 dX4_takeAct_61
    · -- not P.2.2.2.2 ≤ 12
      refine lv_iconst (v := (-1)) hx hb dX4_takeAct_29 (by decide) ?_
      exact W.iret (v := (-1)) hx hb hr (fun t9 ht hW => ⟨⟨(-1), wA g ci h rw P T (fX8_beginS X 1 0), rfl, ⟨by simp only [fX4_takeActR, if_neg c_1, if_neg c_2], by simp only [fX4_takeActS, if_neg c_1, if_neg c_2]⟩, by rw [ht]; exact hP, va_K.moved hW.alike hK, hD⟩, hS.F ht⟩) hS.2.2 dX4_takeAct_30

def fX4_freeActR (P : PP) (T : TT) (X : DD)  : Int32 := (P.2.1 - P.2.2.2.2)
def fX4_freeActS (P : PP) (T : TT) (X : DD)  : PP × TT × DD := (P, T, fX8_beginS X 4 0)
set_option maxHeartbeats 4000000 in
set_option maxRecDepth 100000 in
theorem c_X4_freeAct (l : Launch) (D : va_G) (g : GA) (ci h rw : Nat) (hci : pkAll ci) (P : PP) (T : TT) (X : DD)  : ctI l D (tyA g) yX4_freeAct (wd yX4_freeAct cX4_freeAct 1 (Option.some Jvm.ClassFile.FieldType.int)) { frames := 2, cells := 0, slots := 0, locals := 37 } [.ref h] (wA g ci h rw P T X) (fun r w => r = fX4_freeActR P T X ∧ w = wA g ci h rw (fX4_freeActS P T X).1 (fX4_freeActS P T X).2.1 (fX4_freeActS P T X).2.2) := by
  intro sz
  refine Met.ofW (cc := cX4_freeAct) (maxL := 1) (ret := (Option.some Jvm.ClassFile.FieldType.int)) (by decide) rfl ?_
  intro p e s m args below meth c s₁ B hml hv
  obtain ⟨rfl, hsz, hP, hK, hD0⟩ := hv
  have hx := B.exec
  have hb := B.bytes
  have hr := B.returns
  have hts := atoms_spec (ws := (wd yX4_freeAct cX4_freeAct 1 (Option.some Jvm.ClassFile.FieldType.int))) B.pre
  have hg := Tb.of hts
  have hown : s.vm.findClass RX4 = some m.cls := findClass_of_methodNamed B.named
  have hlocks := B.notSynchronized
  subst hsz
  have hD := hD0.self (sz := s.heap.size)
  generalize hAe : va_A (wA g ci h rw P T X) s.heap.size = A at hD ⊢
  have hA : ∀ q : Nat, s.heap.size ≤ q → A q := fun q h => by rw [← hAe]; exact Or.inr h
  have hS : va_S A s.heap s.heap [] := va_S.rf
  have hP : va_P D vwCl (wA g ci h rw P T X) s.heap := hP
  have hl := lv_entry ([.ref h]) (n := 1) (Nat.le_of_ble_eq_true rfl)
  rw [lg_entry_eq]
  generalize (lg_sl ([.ref h]) ++ List.replicate (1 - (lg_sl ([.ref h])).length) Slot.unset).toArray = ls at hl ⊢
  have hl : lv_has ls 1 [(0, .ref h)] := hl
  have hca : pkAll ci := hci
  refine lv_aload_n hx hb dX4_freeAct_0 rfl (lv_at hl 0 rfl) ?_
  refine va_get (D := D) (ci := ci) (v := .ref g.dn) (C := vn ci) (T := TX4) (N := 7) hx hb hg (pq_in hca) hown hK hP 0 rfl (pq_cl hca) 1 (by decide) (hg _ g_130) (fun _ h9 => h9) rfl dX4_freeAct_1 ?_
  refine lv_iconst (v := 4) hx hb dX4_freeAct_4 (by decide) ?_
  refine lv_iconst (v := 0) hx hb dX4_freeAct_5 (by decide) ?_
  refine z_ve (va_runV (As := [.int 4, .int 0]) (rest := []) ⟨hx, hb, hml, hown, hts⟩ (c_X8_begin l D g X 4 0 _) (z_V 2 hts g_278 g_3 g_316 g_276 g_277 ⟨by decide, by decide, by decide +kernel⟩ ⟨Nat.le_of_ble_eq_true rfl, Nat.le_of_ble_eq_true rfl⟩) (z_preV (ci := 9) (q0 := 0) (hP.subm [7, 8] rfl) (hD.sub [7, 8] (by decide) rfl) hK rfl rfl) rfl rfl hl.1 rfl (lv_room (Nat.le_of_ble_eq_true rfl)) dX4_freeAct_6 ⟨Nat.le_of_ble_eq_true rfl, Nat.le_of_ble_eq_true rfl⟩) hP hD hS hA (wP g ci h rw P ++ wT g T) (wA g ci h rw P T (fX8_beginS X 4 0)) [7, 8] [0, 1, 2, 3, 4, 5, 6] [0, 1, 2, 3, 4, 5, 6, 7, 8] rfl rfl (by decide) (by decide) rfl (by decide) (fun H locs hP hD hS => ?_)
  refine lv_aload_n hx hb dX4_freeAct_9 rfl (lv_at hl 0 rfl) ?_
  refine va_get (D := D) (ci := ci) (v := .int P.2.1) (C := vn ci) (T := TX4) (N := 7) hx hb hg (pq_in hca) hown hK hP 0 rfl (pq_cl hca) 3 (by decide) (hg _ g_144) (fun _ h9 => h9) rfl dX4_freeAct_10 ?_
  refine lv_aload_n hx hb dX4_freeAct_13 rfl (lv_at hl 0 rfl) ?_
  refine va_get (D := D) (ci := ci) (v := .int P.2.2.2.2) (C := vn ci) (T := TX4) (N := 7) hx hb hg (pq_in hca) hown hK hP 0 rfl (pq_cl hca) 6 (by decide) (hg _ g_149) (fun _ h9 => h9) rfl dX4_freeAct_14 ?_
  refine lv_isub hx hb dX4_freeAct_17 ?_
  exact W.iret (v := (P.2.1 - P.2.2.2.2)) hx hb hr (fun t9 ht hW => ⟨⟨(P.2.1 - P.2.2.2.2), wA g ci h rw P T (fX8_beginS X 4 0), rfl, ⟨rfl, rfl⟩, by rw [ht]; exact hP, va_K.moved hW.alike hK, hD⟩, hS.F ht⟩) hS.2.2 dX4_freeAct_18

def fX4_swapWithUnderS (P : PP) (T : TT) (X : DD) (i : Int32) : PP × TT × DD := ((if i < 1 then P else (if P.2.2.2.2 ≤ i then P else (if 12 ≤ i then P else (P.1, P.2.1, P.2.2.1, upd (upd P.2.2.2.1 (i - 1).toNatClampNeg (P.2.2.2.1 i.toNatClampNeg)) i.toNatClampNeg (P.2.2.2.1 (i - 1).toNatClampNeg), P.2.2.2.2)))), T, X)
set_option maxHeartbeats 4000000 in
set_option maxRecDepth 100000 in
theorem c_X4_swapWithUnder (l : Launch) (D : va_G) (g : GA) (ci h rw : Nat) (hci : pkAll ci) (P : PP) (T : TT) (X : DD) (i : Int32) : ctV l D (tyA g) yX4_swapWithUnder (wd yX4_swapWithUnder cX4_swapWithUnder 3 (Option.none : Option Jvm.ClassFile.FieldType)) { frames := 0, cells := 0, slots := 0, locals := 0 } [.ref h, .int i] (wA g ci h rw P T X) (fun w => w = wA g ci h rw (fX4_swapWithUnderS P T X i).1 (fX4_swapWithUnderS P T X i).2.1 (fX4_swapWithUnderS P T X i).2.2) := by
  intro sz
  refine Met.ofW (cc := cX4_swapWithUnder) (maxL := 3) (ret := (Option.none : Option Jvm.ClassFile.FieldType)) (by decide) rfl ?_
  intro p e s m args below meth c s₁ B hml hv
  obtain ⟨rfl, hsz, hP, hK, hD0⟩ := hv
  have hx := B.exec
  have hb := B.bytes
  have hr := B.returns
  have hts := atoms_spec (ws := (wd yX4_swapWithUnder cX4_swapWithUnder 3 (Option.none : Option Jvm.ClassFile.FieldType))) B.pre
  have hg := Tb.of hts
  have hown : s.vm.findClass RX4 = some m.cls := findClass_of_methodNamed B.named
  have hlocks := B.notSynchronized
  subst hsz
  have hD := hD0.self (sz := s.heap.size)
  generalize hAe : va_A (wA g ci h rw P T X) s.heap.size = A at hD ⊢
  have hA : ∀ q : Nat, s.heap.size ≤ q → A q := fun q h => by rw [← hAe]; exact Or.inr h
  have hS : va_S A s.heap s.heap [] := va_S.rf
  have hP : va_P D vwCl (wA g ci h rw P T X) s.heap := hP
  have hl := lv_entry ([.ref h, .int i]) (n := 3) (Nat.le_of_ble_eq_true rfl)
  rw [lg_entry_eq]
  generalize (lg_sl ([.ref h, .int i]) ++ List.replicate (3 - (lg_sl ([.ref h, .int i])).length) Slot.unset).toArray = ls at hl ⊢
  have hl : lv_has ls 3 [(0, .ref h), (1, .int i)] := hl
  have hca : pkAll ci := hci
  refine lv_iload_n hx hb dX4_swapWithUnder_0 rfl (lv_at hl 1 rfl) ?_
  refine lv_iconst (v := 1) hx hb dX4_swapWithUnder_1 (by decide) ?_
  refine lv_icmp_lt (tgt := 52) hx hb dX4_swapWithUnder_2 (by decide) (fun c_1 => ?_) (fun c_1 => ?_)
  · -- i < 1
    exact W.vret hx hb hr (fun t9 ht hW => ⟨⟨wA g ci h rw P T X, rfl, by simp only [fX4_swapWithUnderS, if_pos c_1], by rw [ht]; exact hP, va_K.moved hW.alike hK, hD⟩, hS.F ht⟩) hS.2.2 dX4_swapWithUnder_52
  · -- not i < 1
    refine lv_iload_n hx hb dX4_swapWithUnder_5 rfl (lv_at hl 1 rfl) ?_
    refine lv_aload_n hx hb dX4_swapWithUnder_6 rfl (lv_at hl 0 rfl) ?_
    refine va_get (D := D) (ci := ci) (v := .int P.2.2.2.2) (C := vn ci) (T := TX4) (N := 7) hx hb hg (pq_in hca) hown hK hP 0 rfl (pq_cl hca) 6 (by decide) (hg _ g_149) (fun _ h9 => h9) rfl dX4_swapWithUnder_7 ?_
    refine lv_icmp_ge (tgt := 52) hx hb dX4_swapWithUnder_10 (by decide) (fun c_2 => ?_) (fun c_2 => ?_)
    · -- P.2.2.2.2 ≤ i
      exact W.vret hx hb hr (fun t9 ht hW => ⟨⟨wA g ci h rw P T X, rfl, by simp only [fX4_swapWithUnderS, if_neg c_1, if_pos c_2], by rw [ht]; exact hP, va_K.moved hW.alike hK, hD⟩, hS.F ht⟩) hS.2.2 dX4_swapWithUnder_52
    · -- not P.2.2.2.2 ≤ i
      refine lv_iload_n hx hb dX4_swapWithUnder_13 rfl (lv_at hl 1 rfl) ?_
      refine lv_aload_n hx hb dX4_swapWithUnder_14 rfl (lv_at hl 0 rfl) ?_
      refine va_get (D := D) (ci := ci) (v := .ref rw) (C := vn ci) (T := TX4) (N := 7) hx hb hg (pq_in hca) hown hK hP 0 rfl (pq_cl hca) 5 (by decide) (hg _ g_148) (fun _ h9 => h9) rfl dX4_swapWithUnder_15 ?_
      refine va_alen hx hb hK hP 1 0 rfl rfl (v := 12) rfl dX4_swapWithUnder_18 ?_
      refine lv_icmp_ge (tgt := 52) hx hb dX4_swapWithUnder_19 (by decide) (fun c_3 => ?_) (fun c_3 => ?_)
      · -- 12 ≤ i
        exact W.vret hx hb hr (fun t9 ht hW => ⟨⟨wA g ci h rw P T X, rfl, by simp only [fX4_swapWithUnderS, if_neg c_1, if_neg c_2, if_pos c_3], by rw [ht]; exact hP, va_K.moved hW.alike hK, hD⟩, hS.F ht⟩) hS.2.2 dX4_swapWithUnder_52
      · -- not 12 ≤ i
        refine lv_aload_n hx hb dX4_swapWithUnder_22 rfl (lv_at hl 0 rfl) ?_
        refine va_get (D := D) (ci := ci) (v := .ref rw) (C := vn ci) (T := TX4) (N := 7) hx hb hg (pq_in hca) hown hK hP 0 rfl (pq_cl hca) 5 (by decide) (hg _ g_148) (fun _ h9 => h9) rfl dX4_swapWithUnder_23 ?_
        refine lv_iload_n hx hb dX4_swapWithUnder_26 rfl (lv_at hl 1 rfl) ?_
        refine lv_iconst (v := 1) hx hb dX4_swapWithUnder_27 (by decide) ?_
        refine lv_isub hx hb dX4_swapWithUnder_28 ?_
        refine va_iald hx hb hK hP 1 0 rfl rfl (sw_in1 c_1 c_3) dX4_swapWithUnder_29 ?_
        refine lv_istore_n (lv' := [(2, .int (P.2.2.2.1 (i - 1).toNatClampNeg)), (0, .ref h), (1, .int i)]) hx hb dX4_swapWithUnder_30 rfl hl (by decide) rfl (fun ls hl => ?_)
        refine lv_aload_n hx hb dX4_swapWithUnder_31 rfl (lv_at hl 1 rfl) ?_
        refine va_get (D := D) (ci := ci) (v := .ref rw) (C := vn ci) (T := TX4) (N := 7) hx hb hg (pq_in hca) hown hK hP 0 rfl (pq_cl hca) 5 (by decide) (hg _ g_148) (fun _ h9 => h9) rfl dX4_swapWithUnder_32 ?_
        refine lv_iload_n hx hb dX4_swapWithUnder_35 rfl (lv_at hl 2 rfl) ?_
        refine lv_iconst (v := 1) hx hb dX4_swapWithUnder_36 (by decide) ?_
        refine lv_isub hx hb dX4_swapWithUnder_37 ?_
        refine lv_aload_n hx hb dX4_swapWithUnder_38 rfl (lv_at hl 1 rfl) ?_
        refine va_get (D := D) (ci := ci) (v := .ref rw) (C := vn ci) (T := TX4) (N := 7) hx hb hg (pq_in hca) hown hK hP 0 rfl (pq_cl hca) 5 (by decide) (hg _ g_148) (fun _ h9 => h9) rfl dX4_swapWithUnder_39 ?_
        refine lv_iload_n hx hb dX4_swapWithUnder_42 rfl (lv_at hl 2 rfl) ?_
        refine va_iald hx hb hK hP 1 0 rfl rfl (sw_in0 c_1 c_3) dX4_swapWithUnder_43 ?_
        refine va_iast hx hb hK hP hD hS 1 0 rfl rfl (sw_in1 c_1 c_3) dX4_swapWithUnder_44 (fun H locs hP hD hS => ?_)
        have hP : va_P D vwCl (wA g ci h rw (P.1, P.2.1, P.2.2.1, upd P.2.2.2.1 (i - 1).toNatClampNeg (P.2.2.2.1 i.toNatClampNeg), P.2.2.2.2) T X) H := hP
        have hD : va_D A (wA g ci h rw (P.1, P.2.1, P.2.2.1, upd P.2.2.2.1 (i - 1).toNatClampNeg (P.2.2.2.1 i.toNatClampNeg), P.2.2.2.2) T X) := hD
        refine lv_aload_n hx hb dX4_swapWithUnder_45 rfl (lv_at hl 1 rfl) ?_
        refine va_get (D := D) (ci := ci) (v := .ref rw) (C := vn ci) (T := TX4) (N := 7) hx hb hg (pq_in hca) hown hK hP 0 rfl (pq_cl hca) 5 (by decide) (hg _ g_148) (fun _ h9 => h9) rfl dX4_swapWithUnder_46 ?_
        refine lv_iload_n hx hb dX4_swapWithUnder_49 rfl (lv_at hl 2 rfl) ?_
        refine lv_iload_n hx hb dX4_swapWithUnder_50 rfl (lv_at hl 0 rfl) ?_
        refine va_iast hx hb hK hP hD hS 1 0 rfl rfl (sw_in0 c_1 c_3) dX4_swapWithUnder_51 (fun H locs hP hD hS => ?_)
        have hP : va_P D vwCl (wA g ci h rw (P.1, P.2.1, P.2.2.1, upd (upd P.2.2.2.1 (i - 1).toNatClampNeg (P.2.2.2.1 i.toNatClampNeg)) i.toNatClampNeg (P.2.2.2.1 (i - 1).toNatClampNeg), P.2.2.2.2) T X) H := hP
        have hD : va_D A (wA g ci h rw (P.1, P.2.1, P.2.2.1, upd (upd P.2.2.2.1 (i - 1).toNatClampNeg (P.2.2.2.1 i.toNatClampNeg)) i.toNatClampNeg (P.2.2.2.1 (i - 1).toNatClampNeg), P.2.2.2.2) T X) := hD
        exact W.vret hx hb hr (fun t9 ht hW => ⟨⟨wA g ci h rw (P.1, P.2.1, P.2.2.1, upd (upd P.2.2.2.1 (i - 1).toNatClampNeg (P.2.2.2.1 i.toNatClampNeg)) i.toNatClampNeg (P.2.2.2.1 (i - 1).toNatClampNeg), P.2.2.2.2) T X, rfl, by simp only [fX4_swapWithUnderS, if_neg c_1, if_neg c_2, if_neg c_3], by rw [ht]; exact hP, va_K.moved hW.alike hK, hD⟩, hS.F ht⟩) hS.2.2 dX4_swapWithUnder_52

def lX4_load (P : PP) (T : TT) (X : DD) : Nat → Int32 → Int32 → Int32
  | 0, sum, _ => sum
  | n + 1, sum, pl => if P.2.2.2.2 ≤ pl then sum else lX4_load P T X n (sum + fX7_weightOfR T (fX4_timberAtR P T X pl)) (pl + 1)
def fX4_loadActR (P : PP) (T : TT) (X : DD) : Int32 := lX4_load P T (fX8_beginS X 2 0) (P.2.2.2.2.toNatClampNeg + 1) 0 0
def fX4_loadActS (P : PP) (T : TT) (X : DD) : PP × TT × DD := (P, T, fX8_beginS X 2 0)
set_option maxHeartbeats 4000000 in
set_option maxRecDepth 100000 in
theorem c_X4_loadAct (l : Launch) (D : va_G) (g : GA) (ci h rw : Nat) (hci : pkAll ci) (P : PP) (T : TT) (X : DD)  : ctI l D (tyA g) yX4_loadAct (wd yX4_loadAct cX4_loadAct 3 (Option.some Jvm.ClassFile.FieldType.int)) { frames := 2, cells := 0, slots := 0, locals := 42 } [.ref h] (wA g ci h rw P T X) (fun r w => r = fX4_loadActR P T X ∧ w = wA g ci h rw (fX4_loadActS P T X).1 (fX4_loadActS P T X).2.1 (fX4_loadActS P T X).2.2) := by
  intro sz
  refine Met.ofW (cc := cX4_loadAct) (maxL := 3) (ret := (Option.some Jvm.ClassFile.FieldType.int)) (by decide) rfl ?_
  intro p e s m args below meth c s₁ B hml hv
  obtain ⟨rfl, hsz, hP, hK, hD0⟩ := hv
  have hx := B.exec
  have hb := B.bytes
  have hr := B.returns
  have hts := atoms_spec (ws := (wd yX4_loadAct cX4_loadAct 3 (Option.some Jvm.ClassFile.FieldType.int))) B.pre
  have hg := Tb.of hts
  have hown : s.vm.findClass RX4 = some m.cls := findClass_of_methodNamed B.named
  have hlocks := B.notSynchronized
  subst hsz
  have hD := hD0.self (sz := s.heap.size)
  generalize hAe : va_A (wA g ci h rw P T X) s.heap.size = A at hD ⊢
  have hA : ∀ q : Nat, s.heap.size ≤ q → A q := fun q h => by rw [← hAe]; exact Or.inr h
  have hS : va_S A s.heap s.heap [] := va_S.rf
  have hP : va_P D vwCl (wA g ci h rw P T X) s.heap := hP
  have hl := lv_entry ([.ref h]) (n := 3) (Nat.le_of_ble_eq_true rfl)
  rw [lg_entry_eq]
  generalize (lg_sl ([.ref h]) ++ List.replicate (3 - (lg_sl ([.ref h])).length) Slot.unset).toArray = ls at hl ⊢
  have hl : lv_has ls 3 [(0, .ref h)] := hl
  have hca : pkAll ci := hci
  refine lv_aload_n hx hb dX4_loadAct_0 rfl (lv_at hl 0 rfl) ?_
  refine va_get (D := D) (ci := ci) (v := .ref g.dn) (C := vn ci) (T := TX4) (N := 7) hx hb hg (pq_in hca) hown hK hP 0 rfl (pq_cl hca) 1 (by decide) (hg _ g_130) (fun _ h9 => h9) rfl dX4_loadAct_1 ?_
  refine lv_iconst (v := 2) hx hb dX4_loadAct_4 (by decide) ?_
  refine lv_iconst (v := 0) hx hb dX4_loadAct_5 (by decide) ?_
  refine z_ve (va_runV (As := [.int 2, .int 0]) (rest := []) ⟨hx, hb, hml, hown, hts⟩ (c_X8_begin l D g X 2 0 _) (z_V 2 hts g_278 g_3 g_316 g_276 g_277 ⟨by decide, by decide, by decide +kernel⟩ ⟨Nat.le_of_ble_eq_true rfl, Nat.le_of_ble_eq_true rfl⟩) (z_preV (ci := 9) (q0 := 0) (hP.subm [7, 8] rfl) (hD.sub [7, 8] (by decide) rfl) hK rfl rfl) rfl rfl hl.1 rfl (lv_room (Nat.le_of_ble_eq_true rfl)) dX4_loadAct_6 ⟨Nat.le_of_ble_eq_true rfl, Nat.le_of_ble_eq_true rfl⟩) hP hD hS hA (wP g ci h rw P ++ wT g T) (wA g ci h rw P T (fX8_beginS X 2 0)) [7, 8] [0, 1, 2, 3, 4, 5, 6] [0, 1, 2, 3, 4, 5, 6, 7, 8] rfl rfl (by decide) (by decide) rfl (by decide) (fun H locs hP hD hS => ?_)
  refine lv_iconst (v := 0) hx hb dX4_loadAct_9 (by decide) ?_
  refine lv_istore_n (lv' := [(1, .int 0), (0, .ref h)]) hx hb dX4_loadAct_10 rfl hl (by decide) rfl (fun ls hl => ?_)
  refine lv_iconst (v := 0) hx hb dX4_loadAct_11 (by decide) ?_
  refine lv_istore_n (lv' := [(2, .int 0), (1, .int 0), (0, .ref h)]) hx hb dX4_loadAct_12 rfl hl (by decide) rfl (fun ls hl => ?_)
  refine z_loop (pc := 13) (fun n (x : Int32 × Int32) H locs ls => ((P.2.2.2.2.toInt - x.2.toInt).toNat < n ∧ lX4_load P T (fX8_beginS X 2 0) n x.1 x.2 = fX4_loadActR P T X) ∧ va_P D vwCl (wA g ci h rw P T (fX8_beginS X 2 0)) H ∧ va_D A (wA g ci h rw P T (fX8_beginS X 2 0)) ∧ va_S A s.heap H locs ∧ lv_has ls 3 [(0, .ref h), (1, .int x.1), (2, .int x.2)]) (fun x H locs ls h => absurd h.1.1 (Nat.not_lt_zero _)) ?_ (P.2.2.2.2.toNatClampNeg + 1) (0, 0) _ _ _ ⟨⟨lp_st _, rfl⟩, hP, hD, hS, lv_sub hl [2, 1, 0] rfl⟩
  intro n x H locs ls hI ih
  obtain ⟨hI, hP, hD, hS, hl⟩ := hI
  refine lv_iload_n hx hb dX4_loadAct_13 rfl (lv_at hl 2 rfl) ?_
  refine lv_aload_n hx hb dX4_loadAct_14 rfl (lv_at hl 0 rfl) ?_
  refine va_get (D := D) (ci := ci) (v := .int P.2.2.2.2) (C := vn ci) (T := TX4) (N := 7) hx hb hg (pq_in hca) hown hK hP 0 rfl (pq_cl hca) 6 (by decide) (hg _ g_149) (fun _ h9 => h9) rfl dX4_loadAct_15 ?_
  refine lv_icmp_ge (tgt := 42) hx hb dX4_loadAct_18 (by decide) (fun c_1 => ?_) (fun c_1 => ?_)
  · -- P.2.2.2.2 ≤ x.2
    refine lv_iload_n hx hb dX4_loadAct_42 rfl (lv_at hl 1 rfl) ?_
    exact W.iret (v := x.1) hx hb hr (fun t9 ht hW => ⟨⟨x.1, wA g ci h rw P T (fX8_beginS X 2 0), rfl, ⟨by rw [← hI.2]; simp only [lX4_load, if_pos c_1], rfl⟩, by rw [ht]; exact hP, va_K.moved hW.alike hK, hD⟩, hS.F ht⟩) hS.2.2 dX4_loadAct_43
  · -- not P.2.2.2.2 ≤ x.2
    refine lv_iload_n hx hb dX4_loadAct_21 rfl (lv_at hl 1 rfl) ?_
    refine lv_aload_n hx hb dX4_loadAct_22 rfl (lv_at hl 0 rfl) ?_
    refine va_get (D := D) (ci := ci) (v := .ref g.tm) (C := vn ci) (T := TX4) (N := 7) hx hb hg (pq_in hca) hown hK hP 0 rfl (pq_cl hca) 0 (by decide) (hg _ g_119) (fun _ h9 => h9) rfl dX4_loadAct_23 ?_
    refine lv_aload_n hx hb dX4_loadAct_26 rfl (lv_at hl 0 rfl) ?_
    refine lv_iload_n hx hb dX4_loadAct_27 rfl (lv_at hl 2 rfl) ?_
    refine z_ie (va_runU (C := vn ci) (As := [.int x.2]) (rest := [.ref g.tm, .int x.1]) ⟨hx, hb, hml, hown, hts⟩ (c_X4_timberAt l D g ci h rw hca P T (fX8_beginS X 2 0) x.2 _) (z_U (x := ⟨"PileHeirs$Plain", "timberAt", "(I)I"⟩) (owner := RX4) 1 hts g_303 g_5 g_317 g_846 g_302 g_303 (sl_Plain_timberAt hca) g_302 ⟨by decide, by decide, by decide +kernel⟩ ⟨Nat.le_of_ble_eq_true rfl, Nat.le_of_ble_eq_true rfl⟩) (z_preV (ci := ci) (q0 := 0) (hP.subm [0, 1, 2, 3, 4, 5, 6, 7, 8] rfl) (hD.sub [0, 1, 2, 3, 4, 5, 6, 7, 8] (by decide) rfl) hK (pq_cl hca) rfl) rfl rfl hl.1 rfl (lv_room (Nat.le_of_ble_eq_true rfl)) dX4_loadAct_28 ⟨Nat.le_of_ble_eq_true rfl, Nat.le_of_ble_eq_true rfl⟩) hP hD hS hA (([] : va_W)) (wA g ci h rw P T (fX8_beginS X 2 0)) [0, 1, 2, 3, 4, 5, 6, 7, 8] [] [0, 1, 2, 3, 4, 5, 6, 7, 8] rfl rfl (by decide) (by decide) rfl (by decide) (fun H locs hP hD hS => ?_)
    refine z_ie (va_runV (As := [.int (fX4_timberAtR P T (fX8_beginS X 2 0) x.2)]) (rest := [.int x.1]) ⟨hx, hb, hml, hown, hts⟩ (c_X7_weightOf l D g T (fX4_timberAtR P T (fX8_beginS X 2 0) x.2) _) (z_V 1 hts g_321 g_2 g_318 g_319 g_320 ⟨by decide, by decide, by decide +kernel⟩ ⟨Nat.le_of_ble_eq_true rfl, Nat.le_of_ble_eq_true rfl⟩) (z_preV (ci := 8) (q0 := 0) (hP.subm [2, 3, 4, 5, 6] rfl) (hD.sub [2, 3, 4, 5, 6] (by decide) rfl) hK rfl rfl) rfl rfl hl.1 rfl (lv_room (Nat.le_of_ble_eq_true rfl)) dX4_loadAct_31 ⟨Nat.le_of_ble_eq_true rfl, Nat.le_of_ble_eq_true rfl⟩) hP hD hS hA (wP g ci h rw P ++ wD g (fX8_beginS X 2 0)) (wA g ci h rw P T (fX8_beginS X 2 0)) [2, 3, 4, 5, 6] [0, 1, 7, 8] [0, 1, 4, 5, 6, 7, 8, 2, 3] rfl rfl (by decide) (by decide) rfl (by decide) (fun H locs hP hD hS => ?_)
    refine lv_iadd hx hb dX4_loadAct_34 ?_
    refine lv_istore_n (lv' := [(1, .int (x.1 + (fX7_weightOfR T (fX4_timberAtR P T (fX8_beginS X 2 0) x.2)))), (0, .ref h), (2, .int x.2)]) hx hb dX4_loadAct_35 rfl hl (by decide) rfl (fun ls hl => ?_)
    refine lv_iinc (v := (x.2 + 1)) (lv' := [(2, .int (x.2 + 1)), (1, .int (x.1 + (fX7_weightOfR T (fX4_timberAtR P T (fX8_beginS X 2 0) x.2)))), (0, .ref h)]) hx hb dX4_loadAct_36 hl (k := 2) rfl rfl (by decide) rfl (fun ls hl => ?_)
    refine lv_goto (tgt := 13) hx hb dX4_loadAct_39 (by decide) ?_
    exact ih ((x.1 + (fX7_weightOfR T (fX4_timberAtR P T (fX8_beginS X 2 0) x.2))), (x.2 + 1)) _ _ _ ⟨⟨lp_up c_1 hI.1, by rw [← hI.2]; simp only [lX4_load, if_neg c_1]⟩, hP, hD, hS, lv_sub hl [2, 1, 0] rfl⟩

def lX4_search (P : PP) (T : TT) (X : DD) (i : Int32) : Nat → Int32 → Int32
  | 0, _ => -1
  | n + 1, pl => if P.2.2.2.2 ≤ pl then -1 else if fX7_lengthOfR T (fX4_timberAtR P T X pl) < i then lX4_search P T X i n (pl + 1) else pl
def fX4_searchActR (P : PP) (T : TT) (X : DD) (i : Int32) : Int32 := lX4_search P T (fX8_beginS X 3 0) i (P.2.2.2.2.toNatClampNeg + 1) 0
def fX4_searchActS (P : PP) (T : TT) (X : DD) (i : Int32) : PP × TT × DD := (P, T, fX8_beginS X 3 0)
set_option maxHeartbeats 4000000 in
set_option maxRecDepth 100000 in
theorem c_X4_searchAct (l : Launch) (D : va_G) (g : GA) (ci h rw : Nat) (hci : pkAll ci) (P : PP) (T : TT) (X : DD) (i : Int32) : ctI l D (tyA g) yX4_searchAct (wd yX4_searchAct cX4_searchAct 3 (Option.some Jvm.ClassFile.FieldType.int)) { frames := 2, cells := 0, slots := 0, locals := 42 } [.ref h, .int i] (wA g ci h rw P T X) (fun r w => r = fX4_searchActR P T X i ∧ w = wA g ci h rw (fX4_searchActS P T X i).1 (fX4_searchActS P T X i).2.1 (fX4_searchActS P T X i).2.2) := by
  intro sz
  refine Met.ofW (cc := cX4_searchAct) (maxL := 3) (ret := (Option.some Jvm.ClassFile.FieldType.int)) (by decide) rfl ?_
  intro p e s m args below meth c s₁ B hml hv
  obtain ⟨rfl, hsz, hP, hK, hD0⟩ := hv
  have hx := B.exec
  have hb := B.bytes
  have hr := B.returns
  have hts := atoms_spec (ws := (wd yX4_searchAct cX4_searchAct 3 (Option.some Jvm.ClassFile.FieldType.int))) B.pre
  have hg := Tb.of hts
  have hown : s.vm.findClass RX4 = some m.cls := findClass_of_methodNamed B.named
  have hlocks := B.notSynchronized
  subst hsz
  have hD := hD0.self (sz := s.heap.size)
  generalize hAe : va_A (wA g ci h rw P T X) s.heap.size = A at hD ⊢
  have hA : ∀ q : Nat, s.heap.size ≤ q → A q := fun q h => by rw [← hAe]; exact Or.inr h
  have hS : va_S A s.heap s.heap [] := va_S.rf
  have hP : va_P D vwCl (wA g ci h rw P T X) s.heap := hP
  have hl := lv_entry ([.ref h, .int i]) (n := 3) (Nat.le_of_ble_eq_true rfl)
  rw [lg_entry_eq]
  generalize (lg_sl ([.ref h, .int i]) ++ List.replicate (3 - (lg_sl ([.ref h, .int i])).length) Slot.unset).toArray = ls at hl ⊢
  have hl : lv_has ls 3 [(0, .ref h), (1, .int i)] := hl
  have hca : pkAll ci := hci
  refine lv_aload_n hx hb dX4_searchAct_0 rfl (lv_at hl 0 rfl) ?_
  refine va_get (D := D) (ci := ci) (v := .ref g.dn) (C := vn ci) (T := TX4) (N := 7) hx hb hg (pq_in hca) hown hK hP 0 rfl (pq_cl hca) 1 (by decide) (hg _ g_130) (fun _ h9 => h9) rfl dX4_searchAct_1 ?_
  refine lv_iconst (v := 3) hx hb dX4_searchAct_4 (by decide) ?_
  refine lv_iconst (v := 0) hx hb dX4_searchAct_5 (by decide) ?_
  refine z_ve (va_runV (As := [.int 3, .int 0]) (rest := []) ⟨hx, hb, hml, hown, hts⟩ (c_X8_begin l D g X 3 0 _) (z_V 2 hts g_278 g_3 g_316 g_276 g_277 ⟨by decide, by decide, by decide +kernel⟩ ⟨Nat.le_of_ble_eq_true rfl, Nat.le_of_ble_eq_true rfl⟩) (z_preV (ci := 9) (q0 := 0) (hP.subm [7, 8] rfl) (hD.sub [7, 8] (by decide) rfl) hK rfl rfl) rfl rfl hl.1 rfl (lv_room (Nat.le_of_ble_eq_true rfl)) dX4_searchAct_6 ⟨Nat.le_of_ble_eq_true rfl, Nat.le_of_ble_eq_true rfl⟩) hP hD hS hA (wP g ci h rw P ++ wT g T) (wA g ci h rw P T (fX8_beginS X 3 0)) [7, 8] [0, 1, 2, 3, 4, 5, 6] [0, 1, 2, 3, 4, 5, 6, 7, 8] rfl rfl (by decide) (by decide) rfl (by decide) (fun H locs hP hD hS => ?_)
  refine lv_iconst (v := 0) hx hb dX4_searchAct_9 (by decide) ?_
  refine lv_istore_n (lv' := [(2, .int 0), (0, .ref h), (1, .int i)]) hx hb dX4_searchAct_10 rfl hl (by decide) rfl (fun ls hl => ?_)
  refine z_loop (pc := 11) (fun n (x : Int32) H locs ls => ((P.2.2.2.2.toInt - x.toInt).toNat < n ∧ lX4_search P T (fX8_beginS X 3 0) i n x = fX4_searchActR P T X i) ∧ va_P D vwCl (wA g ci h rw P T (fX8_beginS X 3 0)) H ∧ va_D A (wA g ci h rw P T (fX8_beginS X 3 0)) ∧ va_S A s.heap H locs ∧ lv_has ls 3 [(0, .ref h), (1, .int i), (2, .int x)]) (fun x H locs ls h => absurd h.1.1 (Nat.not_lt_zero _)) ?_ (P.2.2.2.2.toNatClampNeg + 1) 0 _ _ _ ⟨⟨lp_st _, rfl⟩, hP, hD, hS, lv_sub hl [1, 2, 0] rfl⟩
  intro n x H locs ls hI ih
  obtain ⟨hI, hP, hD, hS, hl⟩ := hI
  refine lv_iload_n hx hb dX4_searchAct_11 rfl (lv_at hl 2 rfl) ?_
  refine lv_aload_n hx hb dX4_searchAct_12 rfl (lv_at hl 0 rfl) ?_
  refine va_get (D := D) (ci := ci) (v := .int P.2.2.2.2) (C := vn ci) (T := TX4) (N := 7) hx hb hg (pq_in hca) hown hK hP 0 rfl (pq_cl hca) 6 (by decide) (hg _ g_149) (fun _ h9 => h9) rfl dX4_searchAct_13 ?_
  refine lv_icmp_ge (tgt := 43) hx hb dX4_searchAct_16 (by decide) (fun c_1 => ?_) (fun c_1 => ?_)
  · -- P.2.2.2.2 ≤ x
    refine lv_iconst (v := (-1)) hx hb dX4_searchAct_43 (by decide) ?_
    exact W.iret (v := (-1)) hx hb hr (fun t9 ht hW => ⟨⟨(-1), wA g ci h rw P T (fX8_beginS X 3 0), rfl, ⟨by rw [← hI.2]; simp only [lX4_search, if_pos c_1], rfl⟩, by rw [ht]; exact hP, va_K.moved hW.alike hK, hD⟩, hS.F ht⟩) hS.2.2 dX4_searchAct_44
  · -- not P.2.2.2.2 ≤ x
    refine lv_aload_n hx hb dX4_searchAct_19 rfl (lv_at hl 0 rfl) ?_
    refine va_get (D := D) (ci := ci) (v := .ref g.tm) (C := vn ci) (T := TX4) (N := 7) hx hb hg (pq_in hca) hown hK hP 0 rfl (pq_cl hca) 0 (by decide) (hg _ g_119) (fun _ h9 => h9) rfl dX4_searchAct_20 ?_
    refine lv_aload_n hx hb dX4_searchAct_23 rfl (lv_at hl 0 rfl) ?_
    refine lv_iload_n hx hb dX4_searchAct_24 rfl (lv_at hl 2 rfl) ?_
    refine z_ie (va_runU (C := vn ci) (As := [.int x]) (rest := [.ref g.tm]) ⟨hx, hb, hml, hown, hts⟩ (c_X4_timberAt l D g ci h rw hca P T (fX8_beginS X 3 0) x _) (z_U (x := ⟨"PileHeirs$Plain", "timberAt", "(I)I"⟩) (owner := RX4) 1 hts g_303 g_5 g_317 g_846 g_302 g_303 (sl_Plain_timberAt hca) g_302 ⟨by decide, by decide, by decide +kernel⟩ ⟨Nat.le_of_ble_eq_true rfl, Nat.le_of_ble_eq_true rfl⟩) (z_preV (ci := ci) (q0 := 0) (hP.subm [0, 1, 2, 3, 4, 5, 6, 7, 8] rfl) (hD.sub [0, 1, 2, 3, 4, 5, 6, 7, 8] (by decide) rfl) hK (pq_cl hca) rfl) rfl rfl hl.1 rfl (lv_room (Nat.le_of_ble_eq_true rfl)) dX4_searchAct_25 ⟨Nat.le_of_ble_eq_true rfl, Nat.le_of_ble_eq_true rfl⟩) hP hD hS hA (([] : va_W)) (wA g ci h rw P T (fX8_beginS X 3 0)) [0, 1, 2, 3, 4, 5, 6, 7, 8] [] [0, 1, 2, 3, 4, 5, 6, 7, 8] rfl rfl (by decide) (by decide) rfl (by decide) (fun H locs hP hD hS => ?_)
    refine z_ie (va_runV (As := [.int (fX4_timberAtR P T (fX8_beginS X 3 0) x)]) (rest := []) ⟨hx, hb, hml, hown, hts⟩ (c_X7_lengthOf l D g T (fX4_timberAtR P T (fX8_beginS X 3 0) x) _) (z_V 1 hts g_356 g_2 g_353 g_354 g_355 ⟨by decide, by decide, by decide +kernel⟩ ⟨Nat.le_of_ble_eq_true rfl, Nat.le_of_ble_eq_true rfl⟩) (z_preV (ci := 8) (q0 := 0) (hP.subm [2, 3, 4, 5, 6] rfl) (hD.sub [2, 3, 4, 5, 6] (by decide) rfl) hK rfl rfl) rfl rfl hl.1 rfl (lv_room (Nat.le_of_ble_eq_true rfl)) dX4_searchAct_28 ⟨Nat.le_of_ble_eq_true rfl, Nat.le_of_ble_eq_true rfl⟩) hP hD hS hA (wP g ci h rw P ++ wD g (fX8_beginS X 3 0)) (wA g ci h rw P T (fX8_beginS X 3 0)) [2, 3, 4, 5, 6] [0, 1, 7, 8] [0, 1, 4, 5, 6, 7, 8, 2, 3] rfl rfl (by decide) (by decide) rfl (by decide) (fun H locs hP hD hS => ?_)
    refine lv_iload_n hx hb dX4_searchAct_31 rfl (lv_at hl 1 rfl) ?_
    refine lv_icmp_lt (tgt := 37) hx hb dX4_searchAct_32 (by decide) (fun c_2 => ?_) (fun c_2 => ?_)
    · -- (fX7_lengthOfR T (fX4_timberAtR P T (fX8_beginS X 3 0) x)) < i
      refine lv_iinc (v := (x + 1)) (lv' := [(2, .int (x + 1)), (0, .ref h), (1, .int i)]) hx hb dX4_searchAct_37 hl (k := 2) rfl rfl (by decide) rfl (fun ls hl => ?_)
      refine lv_goto (tgt := 11) hx hb dX4_searchAct_40 (by decide) ?_
      exact ih (x + 1) _ _ _ ⟨⟨lp_up c_1 hI.1, by rw [← hI.2]; simp only [lX4_search, if_neg c_1, if_pos c_2]⟩, hP, hD, hS, lv_sub hl [1, 2, 0] rfl⟩
    · -- not (fX7_lengthOfR T (fX4_timberAtR P T (fX8_beginS X 3 0) x)) < i
      refine lv_iload_n hx hb dX4_searchAct_35 rfl (lv_at hl 2 rfl) ?_
      exact W.iret (v := x) hx hb hr (fun t9 ht hW => ⟨⟨x, wA g ci h rw P T (fX8_beginS X 3 0), rfl, ⟨by rw [← hI.2]; simp only [lX4_search, if_neg c_1, if_neg c_2], rfl⟩, by rw [ht]; exact hP, va_K.moved hW.alike hK, hD⟩, hS.F ht⟩) hS.2.2 dX4_searchAct_36
