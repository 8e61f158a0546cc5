theorem lp_dn {a : Int32} {n : Nat} (h : ¬ a ≤ 0) (hn : a.toInt.toNat < n + 1) : (a + (-1)).toInt.toNat < n := by
  rw [Int32.le_iff_toInt_le, Int32.toInt_zero] at h
  have h1 := Int32.toInt_lt a
  have e : (a + (-1)).toInt = a.toInt - 1 := by
    rw [Int32.toInt_add, show (-1 : Int32).toInt = -1 from rfl]
    exact Int.bmod_eq_of_le (by omega) (by omega)
  rw [e]
  omega
def lX5_sink (T : TT) (X : DD) (i : Int32) : Nat → PP → Int32 → PP
  | 0, P, _ => P
  | n + 1, P, pl => if pl ≤ 0 then P else if fX7_lengthOfR T (fX4_timberAtR P T X (pl - 1)) < i then lX5_sink T X i n (fX4_swapWithUnderS P T X pl).1 (pl + (-1)) else P
def fX5_sinkTopmostS (P : PP) (T : TT) (X : DD) (i : Int32) : PP × TT × DD := (lX5_sink T X i ((fX4_howManyR P T X - 1).toInt.toNat + 1) P (fX4_howManyR P T X - 1), T, X)
set_option maxHeartbeats 4000000 in
set_option maxRecDepth 100000 in
theorem c_X5_sinkTopmost (l : Launch) (D : va_G) (g : GA) (ci h rw : Nat) (hci : pkSo ci) (P : PP) (T : TT) (X : DD) (i : Int32) : ctV l D (tyA g) yX5_sinkTopmost (wd yX5_sinkTopmost cX5_sinkTopmost 3 (Option.none : Option Jvm.ClassFile.FieldType)) { frames := 2, cells := 0, slots := 0, locals := 42 } [.ref h, .int i] (wA g ci h rw P T X) (fun w => w = wA g ci h rw (fX5_sinkTopmostS P T X i).1 (fX5_sinkTopmostS P T X i).2.1 (fX5_sinkTopmostS P T X i).2.2) := by
  intro sz
  refine Met.ofW (cc := cX5_sinkTopmost) (maxL := 3) (ret := (Option.none : Option Jvm.ClassFile.FieldType)) (by decide) rfl ?_
  intro p e s m args below meth c s₁ B hml hv
  obtain ⟨rfl, hsz, hP, hK, hD0⟩ := hv
  have hx := B.exec
  have hb := B.bytes
  have hr := B.returns
  have hts := atoms_spec (ws := (wd yX5_sinkTopmost cX5_sinkTopmost 3 (Option.none : Option Jvm.ClassFile.FieldType))) B.pre
  have hg := Tb.of hts
  have hown : s.vm.findClass RX5 = some m.cls := findClass_of_methodNamed B.named
  have hlocks := B.notSynchronized
  subst hsz
  have hD := hD0.self (sz := s.heap.size)
  generalize hAe : va_A (wA g ci h rw P T X) s.heap.size = A at hD ⊢
  have hA : ∀ q : Nat, s.heap.size ≤ q → A q := fun q h => by rw [← hAe]; exact Or.inr h
  have hS : va_S A s.heap s.heap [] := va_S.rf
  have hP : va_P D vwCl (wA g ci h rw P T X) s.heap := hP
  have hl := lv_entry ([.ref h, .int i]) (n := 3) (Nat.le_of_ble_eq_true rfl)
  rw [lg_entry_eq]
  generalize (lg_sl ([.ref h, .int i]) ++ List.replicate (3 - (lg_sl ([.ref h, .int i])).length) Slot.unset).toArray = ls at hl ⊢
  have hl : lv_has ls 3 [(0, .ref h), (1, .int i)] := hl
  have hca : pkAll ci := pkSo_pkAll hci
  refine lv_aload_n hx hb dX5_sinkTopmost_0 rfl (lv_at hl 0 rfl) ?_
  refine z_ie (va_runU (C := vn ci) (As := []) (rest := []) ⟨hx, hb, hml, hown, hts⟩ (c_X4_howMany l D g ci h rw hca P T X _) (z_U (x := ⟨"PileHeirs$Sorted", "howMany", "()I"⟩) (owner := RX4) 0 hts g_297 g_5 g_467 g_468 g_296 g_297 (sl_Sorted_howMany hci) g_296 ⟨by decide, by decide, by decide +kernel⟩ ⟨Nat.le_of_ble_eq_true rfl, Nat.le_of_ble_eq_true rfl⟩) (z_preV (ci := ci) (q0 := 0) (hP.subm [0, 1, 2, 3, 4, 5, 6, 7, 8] rfl) (hD.sub [0, 1, 2, 3, 4, 5, 6, 7, 8] (by decide) rfl) hK (pq_cl hca) rfl) rfl rfl hl.1 rfl (lv_room (Nat.le_of_ble_eq_true rfl)) dX5_sinkTopmost_1 ⟨Nat.le_of_ble_eq_true rfl, Nat.le_of_ble_eq_true rfl⟩) hP hD hS hA (([] : va_W)) (wA g ci h rw P T X) [0, 1, 2, 3, 4, 5, 6, 7, 8] [] [0, 1, 2, 3, 4, 5, 6, 7, 8] rfl rfl (by decide) (by decide) rfl (by decide) (fun H locs hP hD hS => ?_)
  refine lv_iconst (v := 1) hx hb dX5_sinkTopmost_4 (by decide) ?_
  refine lv_isub hx hb dX5_sinkTopmost_5 ?_
  refine lv_istore_n (lv' := [(2, .int ((fX4_howManyR P T X) - 1)), (0, .ref h), (1, .int i)]) hx hb dX5_sinkTopmost_6 rfl hl (by decide) rfl (fun ls hl => ?_)
  refine z_loop (pc := 7) (fun n (x : PP × Int32) H locs ls => (x.2.toInt.toNat < n ∧ (lX5_sink T X i n x.1 x.2, T, X) = fX5_sinkTopmostS P T X i) ∧ va_P D vwCl (wA g ci h rw x.1 T X) H ∧ va_D A (wA g ci h rw x.1 T X) ∧ va_S A s.heap H locs ∧ lv_has ls 3 [(0, .ref h), (1, .int i), (2, .int x.2)]) (fun x H locs ls h => absurd h.1.1 (Nat.not_lt_zero _)) ?_ ((fX4_howManyR P T X - 1).toInt.toNat + 1) (P, fX4_howManyR P T X - 1) _ _ _ ⟨⟨Nat.lt_succ_self _, rfl⟩, hP, hD, hS, lv_sub hl [1, 2, 0] rfl⟩
  intro n x H locs ls hI ih
  obtain ⟨hI, hP, hD, hS, hl⟩ := hI
  refine lv_iload_n hx hb dX5_sinkTopmost_7 rfl (lv_at hl 2 rfl) ?_
  refine lv_if_le (tgt := 41) hx hb dX5_sinkTopmost_8 (by decide) (fun c_1 => ?_) (fun c_1 => ?_)
  · -- x.2 ≤ 0
    exact W.vret hx hb hr (fun t9 ht hW => ⟨⟨wA g ci h rw x.1 T X, rfl, (by rw [← hI.2]; simp only [lX5_sink, if_pos c_1]), by rw [ht]; exact hP, va_K.moved hW.alike hK, hD⟩, hS.F ht⟩) hS.2.2 dX5_sinkTopmost_41
  · -- not x.2 ≤ 0
    refine lv_aload_n hx hb dX5_sinkTopmost_11 rfl (lv_at hl 0 rfl) ?_
    refine va_get (D := D) (ci := ci) (v := .ref g.tm) (C := vn ci) (T := TX4) (N := 7) hx hb hg (pq_in hca) hown hK hP 0 rfl (pq_cl hca) 0 (by decide) (hg _ g_124) (u_same (hg _ g_125)) rfl dX5_sinkTopmost_12 ?_
    refine lv_aload_n hx hb dX5_sinkTopmost_15 rfl (lv_at hl 0 rfl) ?_
    refine lv_iload_n hx hb dX5_sinkTopmost_16 rfl (lv_at hl 2 rfl) ?_
    refine lv_iconst (v := 1) hx hb dX5_sinkTopmost_17 (by decide) ?_
    refine lv_isub hx hb dX5_sinkTopmost_18 ?_
    refine z_ie (va_runU (C := vn ci) (As := [.int (x.2 - 1)]) (rest := [.ref g.tm]) ⟨hx, hb, hml, hown, hts⟩ (c_X4_timberAt l D g ci h rw hca x.1 T X (x.2 - 1) _) (z_U (x := ⟨"PileHeirs$Sorted", "timberAt", "(I)I"⟩) (owner := RX4) 1 hts g_303 g_5 g_472 g_473 g_302 g_303 (sl_Sorted_timberAt hci) g_302 ⟨by decide, by decide, by decide +kernel⟩ ⟨Nat.le_of_ble_eq_true rfl, Nat.le_of_ble_eq_true rfl⟩) (z_preV (ci := ci) (q0 := 0) (hP.subm [0, 1, 2, 3, 4, 5, 6, 7, 8] rfl) (hD.sub [0, 1, 2, 3, 4, 5, 6, 7, 8] (by decide) rfl) hK (pq_cl hca) rfl) rfl rfl hl.1 rfl (lv_room (Nat.le_of_ble_eq_true rfl)) dX5_sinkTopmost_19 ⟨Nat.le_of_ble_eq_true rfl, Nat.le_of_ble_eq_true rfl⟩) hP hD hS hA (([] : va_W)) (wA g ci h rw x.1 T X) [0, 1, 2, 3, 4, 5, 6, 7, 8] [] [0, 1, 2, 3, 4, 5, 6, 7, 8] rfl rfl (by decide) (by decide) rfl (by decide) (fun H locs hP hD hS => ?_)
    refine z_ie (va_runV (As := [.int (fX4_timberAtR x.1 T X (x.2 - 1))]) (rest := []) ⟨hx, hb, hml, hown, hts⟩ (c_X7_lengthOf l D g T (fX4_timberAtR x.1 T X (x.2 - 1)) _) (z_V 1 hts g_356 g_2 g_462 g_354 g_355 ⟨by decide, by decide, by decide +kernel⟩ ⟨Nat.le_of_ble_eq_true rfl, Nat.le_of_ble_eq_true rfl⟩) (z_preV (ci := 8) (q0 := 0) (hP.subm [2, 3, 4, 5, 6] rfl) (hD.sub [2, 3, 4, 5, 6] (by decide) rfl) hK rfl rfl) rfl rfl hl.1 rfl (lv_room (Nat.le_of_ble_eq_true rfl)) dX5_sinkTopmost_22 ⟨Nat.le_of_ble_eq_true rfl, Nat.le_of_ble_eq_true rfl⟩) hP hD hS hA (wP g ci h rw x.1 ++ wD g X) (wA g ci h rw x.1 T X) [2, 3, 4, 5, 6] [0, 1, 7, 8] [0, 1, 4, 5, 6, 7, 8, 2, 3] rfl rfl (by decide) (by decide) rfl (by decide) (fun H locs hP hD hS => ?_)
    refine lv_iload_n hx hb dX5_sinkTopmost_25 rfl (lv_at hl 1 rfl) ?_
    refine lv_icmp_lt (tgt := 30) hx hb dX5_sinkTopmost_26 (by decide) (fun c_2 => ?_) (fun c_2 => ?_)
    · -- (fX7_lengthOfR T (fX4_timberAtR x.1 T X (x.2 - 1))) < i
      refine lv_aload_n hx hb dX5_sinkTopmost_30 rfl (lv_at hl 0 rfl) ?_
      refine lv_iload_n hx hb dX5_sinkTopmost_31 rfl (lv_at hl 2 rfl) ?_
      refine z_ve (va_runU (C := vn ci) (As := [.int x.2]) (rest := []) ⟨hx, hb, hml, hown, hts⟩ (c_X4_swapWithUnder l D g ci h rw hca x.1 T X x.2 _) (z_U (x := ⟨"PileHeirs$Sorted", "swapWithUnder", "(I)V"⟩) (owner := RX4) 1 hts g_484 g_5 g_477 g_478 g_483 g_484 (sl_Sorted_swapWithUnder hci) g_483 ⟨by decide, by decide, by decide +kernel⟩ ⟨Nat.le_of_ble_eq_true rfl, Nat.le_of_ble_eq_true rfl⟩) (z_preV (ci := ci) (q0 := 0) (hP.subm [0, 1, 2, 3, 4, 5, 6, 7, 8] rfl) (hD.sub [0, 1, 2, 3, 4, 5, 6, 7, 8] (by decide) rfl) hK (pq_cl hca) rfl) rfl rfl hl.1 rfl (lv_room (Nat.le_of_ble_eq_true rfl)) dX5_sinkTopmost_32 ⟨Nat.le_of_ble_eq_true rfl, Nat.le_of_ble_eq_true rfl⟩) hP hD hS hA (([] : va_W)) (wA g ci h rw ((fX4_swapWithUnderS x.1 T X x.2).1) T X) [0, 1, 2, 3, 4, 5, 6, 7, 8] [] [0, 1, 2, 3, 4, 5, 6, 7, 8] rfl rfl (by decide) (by decide) rfl (by decide) (fun H locs hP hD hS => ?_)
      refine lv_iinc (v := (x.2 + (-1))) (lv' := [(2, .int (x.2 + (-1))), (0, .ref h), (1, .int i)]) hx hb dX5_sinkTopmost_35 hl (k := 2) rfl rfl (by decide) rfl (fun ls hl => ?_)
      refine lv_goto (tgt := 7) hx hb dX5_sinkTopmost_38 (by decide) ?_
      exact ih ((fX4_swapWithUnderS x.1 T X x.2).1, (x.2 + (-1))) _ _ _ ⟨⟨lp_dn c_1 hI.1, by rw [← hI.2]; simp only [lX5_sink, if_neg c_1, if_pos c_2]⟩, hP, hD, hS, lv_sub hl [1, 2, 0] rfl⟩
    · -- not (fX7_lengthOfR T (fX4_timberAtR x.1 T X (x.2 - 1))) < i
      exact W.vret hx hb hr (fun t9 ht hW => ⟨⟨wA g ci h rw x.1 T X, rfl, (by rw [← hI.2]; simp only [lX5_sink, if_neg c_1, if_neg c_2]), by rw [ht]; exact hP, va_K.moved hW.alike hK, hD⟩, hS.F ht⟩) hS.2.2 dX5_sinkTopmost_29

def fX5_putActR (P : PP) (T : TT) (X : DD) (t : Int32) : Int32 := (if (fX4_putActR P T (fX8_beginS X 0 2) t) = 1 then (fX4_putActR P T (fX8_beginS X 0 2) t) else (fX4_putActR P T (fX8_beginS X 0 2) t))
def fX5_putActS (P : PP) (T : TT) (X : DD) (t : Int32) : PP × TT × DD := ((if (fX4_putActR P T (fX8_beginS X 0 2) t) = 1 then (fX5_sinkTopmostS ((fX4_putActS P T (fX8_beginS X 0 2) t).1) ((fX4_putActS P T (fX8_beginS X 0 2) t).2.1) ((fX4_putActS P T (fX8_beginS X 0 2) t).2.2) (fX7_lengthOfR ((fX4_putActS P T (fX8_beginS X 0 2) t).2.1) t)).1 else (fX4_putActS P T (fX8_beginS X 0 2) t).1), (fX4_putActS P T (fX8_beginS X 0 2) t).2.1, (fX4_putActS P T (fX8_beginS X 0 2) t).2.2)
set_option maxHeartbeats 4000000 in
set_option maxRecDepth 100000 in
theorem c_X5_putAct (l : Launch) (D : va_G) (g : GA) (ci h rw : Nat) (hci : pkSo ci) (P : PP) (T : TT) (X : DD) (t : Int32) : ctI l D (tyA g) yX5_putAct (wd yX5_putAct cX5_putAct 3 (Option.some Jvm.ClassFile.FieldType.int)) { frames := 3, cells := 0, slots := 0, locals := 64 } [.ref h, .int t] (wA g ci h rw P T X) (fun r w => r = fX5_putActR P T X t ∧ w = wA g ci h rw (fX5_putActS P T X t).1 (fX5_putActS P T X t).2.1 (fX5_putActS P T X t).2.2) := by
  intro sz
  refine Met.ofW (cc := cX5_putAct) (maxL := 3) (ret := (Option.some Jvm.ClassFile.FieldType.int)) (by decide) rfl ?_
  intro p e s m args below meth c s₁ B hml hv
  obtain ⟨rfl, hsz, hP, hK, hD0⟩ := hv
  have hx := B.exec
  have hb := B.bytes
  have hr := B.returns
  have hts := atoms_spec (ws := (wd yX5_putAct cX5_putAct 3 (Option.some Jvm.ClassFile.FieldType.int))) B.pre
  have hg := Tb.of hts
  have hown : s.vm.findClass RX5 = some m.cls := findClass_of_methodNamed B.named
  have hlocks := B.notSynchronized
  subst hsz
  have hD := hD0.self (sz := s.heap.size)
  generalize hAe : va_A (wA g ci h rw P T X) s.heap.size = A at hD ⊢
  have hA : ∀ q : Nat, s.heap.size ≤ q → A q := fun q h => by rw [← hAe]; exact Or.inr h
  have hS : va_S A s.heap s.heap [] := va_S.rf
  have hP : va_P D vwCl (wA g ci h rw P T X) s.heap := hP
  have hl := lv_entry ([.ref h, .int t]) (n := 3) (Nat.le_of_ble_eq_true rfl)
  rw [lg_entry_eq]
  generalize (lg_sl ([.ref h, .int t]) ++ List.replicate (3 - (lg_sl ([.ref h, .int t])).length) Slot.unset).toArray = ls at hl ⊢
  have hl : lv_has ls 3 [(0, .ref h), (1, .int t)] := hl
  have hca : pkAll ci := pkSo_pkAll hci
  refine lv_aload_n hx hb dX5_putAct_0 rfl (lv_at hl 0 rfl) ?_
  refine va_get (D := D) (ci := ci) (v := .ref g.dn) (C := vn ci) (T := TX4) (N := 7) hx hb hg (pq_in hca) hown hK hP 0 rfl (pq_cl hca) 1 (by decide) (hg _ g_131) (u_same (hg _ g_132)) rfl dX5_putAct_1 ?_
  refine lv_iconst (v := 0) hx hb dX5_putAct_4 (by decide) ?_
  refine lv_iconst (v := 2) hx hb dX5_putAct_5 (by decide) ?_
  refine z_ve (va_runV (As := [.int 0, .int 2]) (rest := []) ⟨hx, hb, hml, hown, hts⟩ (c_X8_begin l D g X 0 2 _) (z_V 2 hts g_278 g_3 g_452 g_276 g_277 ⟨by decide, by decide, by decide +kernel⟩ ⟨Nat.le_of_ble_eq_true rfl, Nat.le_of_ble_eq_true rfl⟩) (z_preV (ci := 9) (q0 := 0) (hP.subm [7, 8] rfl) (hD.sub [7, 8] (by decide) rfl) hK rfl rfl) rfl rfl hl.1 rfl (lv_room (Nat.le_of_ble_eq_true rfl)) dX5_putAct_6 ⟨Nat.le_of_ble_eq_true rfl, Nat.le_of_ble_eq_true rfl⟩) hP hD hS hA (wP g ci h rw P ++ wT g T) (wA g ci h rw P T (fX8_beginS X 0 2)) [7, 8] [0, 1, 2, 3, 4, 5, 6] [0, 1, 2, 3, 4, 5, 6, 7, 8] rfl rfl (by decide) (by decide) rfl (by decide) (fun H locs hP hD hS => ?_)
  refine lv_aload_n hx hb dX5_putAct_9 rfl (lv_at hl 0 rfl) ?_
  refine lv_iload_n hx hb dX5_putAct_10 rfl (lv_at hl 1 rfl) ?_
  refine z_ie (z_runSU (C := vn ci) (As := [.int t]) (rest := []) (hK.1 _ _ (pq_cl hca)).2 ⟨hx, hb, hml, hown, hts⟩ (c_X4_putAct l D g ci h rw hca P T (fX8_beginS X 0 2) t _) (z_SU (x := ⟨"PileHeirs$Marked", "putAct", "(I)I"⟩) (owner := RX4) 1 hts g_457 g_5 g_453 g_454 g_178 g_456 (by decide) ⟨by decide, by decide, by decide +kernel⟩ ⟨Nat.le_of_ble_eq_true rfl, Nat.le_of_ble_eq_true rfl⟩) (sb_Marked_Plain hg) (z_preV (ci := ci) (q0 := 0) (hP.subm [0, 1, 2, 3, 4, 5, 6, 7, 8] rfl) (hD.sub [0, 1, 2, 3, 4, 5, 6, 7, 8] (by decide) rfl) hK (pq_cl hca) rfl) rfl rfl hl.1 rfl (lv_room (Nat.le_of_ble_eq_true rfl)) dX5_putAct_11 ⟨Nat.le_of_ble_eq_true rfl, Nat.le_of_ble_eq_true rfl⟩) hP hD hS hA (([] : va_W)) (wA g ci h rw ((fX4_putActS P T (fX8_beginS X 0 2) t).1) ((fX4_putActS P T (fX8_beginS X 0 2) t).2.1) ((fX4_putActS P T (fX8_beginS X 0 2) t).2.2)) [0, 1, 2, 3, 4, 5, 6, 7, 8] [] [0, 1, 2, 3, 4, 5, 6, 7, 8] rfl rfl (by decide) (by decide) rfl (by decide) (fun H locs hP hD hS => ?_)
  refine lv_istore_n (lv' := [(2, .int (fX4_putActR P T (fX8_beginS X 0 2) t)), (0, .ref h), (1, .int t)]) hx hb dX5_putAct_14 rfl hl (by decide) rfl (fun ls hl => ?_)
  refine lv_iload_n hx hb dX5_putAct_15 rfl (lv_at hl 0 rfl) ?_
  refine lv_iconst (v := 1) hx hb dX5_putAct_16 (by decide) ?_
  refine lv_icmp_ne (tgt := 32) hx hb dX5_putAct_17 (by decide) (fun c_1 => ?_) (fun c_1 => ?_)
  · -- not (fX4_putActR P T (fX8_beginS X 0 2) t) = 1
    refine lv_iload_n hx hb dX5_putAct_32 rfl (lv_at hl 0 rfl) ?_
    exact W.iret (v := (fX4_putActR P T (fX8_beginS X 0 2) t)) hx hb hr (fun t9 ht hW => ⟨⟨(fX4_putActR P T (fX8_beginS X 0 2) t), wA g ci h rw ((fX4_putActS P T (fX8_beginS X 0 2) t).1) ((fX4_putActS P T (fX8_beginS X 0 2) t).2.1) ((fX4_putActS P T (fX8_beginS X 0 2) t).2.2), rfl, ⟨by simp only [fX5_putActR, if_neg c_1], by simp only [fX5_putActS, if_neg c_1]⟩, by rw [ht]; exact hP, va_K.moved hW.alike hK, hD⟩, hS.F ht⟩) hS.2.2 dX5_putAct_33
  · -- (fX4_putActR P T (fX8_beginS X 0 2) t) = 1
    refine lv_aload_n hx hb dX5_putAct_20 rfl (lv_at hl 1 rfl) ?_
    refine lv_aload_n hx hb dX5_putAct_21 rfl (lv_at hl 1 rfl) ?_
    refine va_get (D := D) (ci := ci) (v := .ref g.tm) (C := vn ci) (T := TX4) (N := 7) hx hb hg (pq_in hca) hown hK hP 0 rfl (pq_cl hca) 0 (by decide) (hg _ g_124) (u_same (hg _ g_125)) rfl dX5_putAct_22 ?_
    refine lv_iload_n hx hb dX5_putAct_25 rfl (lv_at hl 2 rfl) ?_
    refine z_ie (va_runV (As := [.int t]) (rest := [.ref h]) ⟨hx, hb, hml, hown, hts⟩ (c_X7_lengthOf l D g ((fX4_putActS P T (fX8_beginS X 0 2) t).2.1) t _) (z_V 1 hts g_356 g_2 g_462 g_354 g_355 ⟨by decide, by decide, by decide +kernel⟩ ⟨Nat.le_of_ble_eq_true rfl, Nat.le_of_ble_eq_true rfl⟩) (z_preV (ci := 8) (q0 := 0) (hP.subm [2, 3, 4, 5, 6] rfl) (hD.sub [2, 3, 4, 5, 6] (by decide) rfl) hK rfl rfl) rfl rfl hl.1 rfl (lv_room (Nat.le_of_ble_eq_true rfl)) dX5_putAct_26 ⟨Nat.le_of_ble_eq_true rfl, Nat.le_of_ble_eq_true rfl⟩) hP hD hS hA (wP g ci h rw ((fX4_putActS P T (fX8_beginS X 0 2) t).1) ++ wD g ((fX4_putActS P T (fX8_beginS X 0 2) t).2.2)) (wA g ci h rw ((fX4_putActS P T (fX8_beginS X 0 2) t).1) ((fX4_putActS P T (fX8_beginS X 0 2) t).2.1) ((fX4_putActS P T (fX8_beginS X 0 2) t).2.2)) [2, 3, 4, 5, 6] [0, 1, 7, 8] [0, 1, 4, 5, 6, 7, 8, 2, 3] rfl rfl (by decide) (by decide) rfl (by decide) (fun H locs hP hD hS => ?_)
    refine z_ve (va_runU (C := vn ci) (As := [.int (fX7_lengthOfR ((fX4_putActS P T (fX8_beginS X 0 2) t).2.1) t)]) (rest := []) ⟨hx, hb, hml, hown, hts⟩ (c_X5_sinkTopmost l D g ci h rw hci ((fX4_putActS P T (fX8_beginS X 0 2) t).1) ((fX4_putActS P T (fX8_beginS X 0 2) t).2.1) ((fX4_putActS P T (fX8_beginS X 0 2) t).2.2) (fX7_lengthOfR ((fX4_putActS P T (fX8_beginS X 0 2) t).2.1) t) _) (z_U (x := ⟨"PileHeirs$Sorted", "sinkTopmost", "(I)V"⟩) (owner := RX5) 1 hts g_466 g_7 g_463 g_855 g_465 g_466 (sl_Sorted_sinkTopmost hci) g_465 ⟨by decide, by decide, by decide +kernel⟩ ⟨Nat.le_of_ble_eq_true rfl, Nat.le_of_ble_eq_true rfl⟩) (z_preV (ci := ci) (q0 := 0) (hP.subm [0, 1, 2, 3, 4, 5, 6, 7, 8] rfl) (hD.sub [0, 1, 2, 3, 4, 5, 6, 7, 8] (by decide) rfl) hK (pq_cl hca) rfl) rfl rfl hl.1 rfl (lv_room (Nat.le_of_ble_eq_true rfl)) dX5_putAct_29 ⟨Nat.le_of_ble_eq_true rfl, Nat.le_of_ble_eq_true rfl⟩) hP hD hS hA (([] : va_W)) (wA g ci h rw ((fX5_sinkTopmostS ((fX4_putActS P T (fX8_beginS X 0 2) t).1) ((fX4_putActS P T (fX8_beginS X 0 2) t).2.1) ((fX4_putActS P T (fX8_beginS X 0 2) t).2.2) (fX7_lengthOfR ((fX4_putActS P T (fX8_beginS X 0 2) t).2.1) t)).1) ((fX4_putActS P T (fX8_beginS X 0 2) t).2.1) ((fX4_putActS P T (fX8_beginS X 0 2) t).2.2)) [0, 1, 2, 3, 4, 5, 6, 7, 8] [] [0, 1, 2, 3, 4, 5, 6, 7, 8] rfl rfl (by decide) (by decide) rfl (by decide) (fun H locs hP hD hS => ?_)
    refine lv_iload_n hx hb dX5_putAct_32 rfl (lv_at hl 0 rfl) ?_
    exact W.iret (v := (fX4_putActR P T (fX8_beginS X 0 2) t)) hx hb hr (fun t9 ht hW => ⟨⟨(fX4_putActR P T (fX8_beginS X 0 2) t), wA g ci h rw ((fX5_sinkTopmostS ((fX4_putActS P T (fX8_beginS X 0 2) t).1) ((fX4_putActS P T (fX8_beginS X 0 2) t).2.1) ((fX4_putActS P T (fX8_beginS X 0 2) t).2.2) (fX7_lengthOfR ((fX4_putActS P T (fX8_beginS X 0 2) t).2.1) t)).1) ((fX4_putActS P T (fX8_beginS X 0 2) t).2.1) ((fX4_putActS P T (fX8_beginS X 0 2) t).2.2), rfl, ⟨by simp only [fX5_putActR, if_pos c_1], by simp only [fX5_putActS, if_pos c_1]⟩, by rw [ht]; exact hP, va_K.moved hW.alike hK, hD⟩, hS.F ht⟩) hS.2.2 dX5_putAct_33

def fX9_loadActR (P : PP) (T : TT) (X : DD)  : Int32 := (2 * (fX4_loadActR P T (fX8_beginS X 2 5)))
def fX9_loadActS (P : PP) (T : TT) (X : DD)  : PP × TT × DD := (P, T, (fX4_loadActS P T (fX8_beginS X 2 5)).2.2)
set_option maxHeartbeats 4000000 in
set_option maxRecDepth 100000 in
theorem c_X9_loadAct (l : Launch) (D : va_G) (g : GA) (ci h rw : Nat) (hci : pkTw ci) (P : PP) (T : TT) (X : DD)  : ctI l D (tyA g) yX9_loadAct (wd yX9_loadAct cX9_loadAct 1 (Option.some Jvm.ClassFile.FieldType.int)) { frames := 3, cells := 0, slots := 0, locals := 64 } [.ref h] (wA g ci h rw P T X) (fun r w => r = fX9_loadActR P T X ∧ w = wA g ci h rw (fX9_loadActS P T X).1 (fX9_loadActS P T X).2.1 (fX9_loadActS P T X).2.2) := by
  intro sz
  refine Met.ofW (cc := cX9_loadAct) (maxL := 1) (ret := (Option.some Jvm.ClassFile.FieldType.int)) (by decide) rfl ?_
  intro p e s m args below meth c s₁ B hml hv
  obtain ⟨rfl, hsz, hP, hK, hD0⟩ := hv
  have hx := B.exec
  have hb := B.bytes
  have hr := B.returns
  have hts := atoms_spec (ws := (wd yX9_loadAct cX9_loadAct 1 (Option.some Jvm.ClassFile.FieldType.int))) B.pre
  have hg := Tb.of hts
  have hown : s.vm.findClass RX9 = some m.cls := findClass_of_methodNamed B.named
  have hlocks := B.notSynchronized
  subst hsz
  have hD := hD0.self (sz := s.heap.size)
  generalize hAe : va_A (wA g ci h rw P T X) s.heap.size = A at hD ⊢
  have hA : ∀ q : Nat, s.heap.size ≤ q → A q := fun q h => by rw [← hAe]; exact Or.inr h
  have hS : va_S A s.heap s.heap [] := va_S.rf
  have hP : va_P D vwCl (wA g ci h rw P T X) s.heap := hP
  have hl := lv_entry ([.ref h]) (n := 1) (Nat.le_of_ble_eq_true rfl)
  rw [lg_entry_eq]
  generalize (lg_sl ([.ref h]) ++ List.replicate (1 - (lg_sl ([.ref h])).length) Slot.unset).toArray = ls at hl ⊢
  have hl : lv_has ls 1 [(0, .ref h)] := hl
  have hca : pkAll ci := pkTw_pkAll hci
  refine lv_aload_n hx hb dX9_loadAct_0 rfl (lv_at hl 0 rfl) ?_
  refine va_get (D := D) (ci := ci) (v := .ref g.dn) (C := vn ci) (T := TX4) (N := 7) hx hb hg (pq_in hca) hown hK hP 0 rfl (pq_cl hca) 1 (by decide) (hg _ g_135) (u_same (hg _ g_136)) rfl dX9_loadAct_1 ?_
  refine lv_iconst (v := 2) hx hb dX9_loadAct_4 (by decide) ?_
  refine lv_iconst (v := 5) hx hb dX9_loadAct_5 (by decide) ?_
  refine z_ve (va_runV (As := [.int 2, .int 5]) (rest := []) ⟨hx, hb, hml, hown, hts⟩ (c_X8_begin l D g X 2 5 _) (z_V 2 hts g_278 g_3 g_275 g_276 g_277 ⟨by decide, by decide, by decide +kernel⟩ ⟨Nat.le_of_ble_eq_true rfl, Nat.le_of_ble_eq_true rfl⟩) (z_preV (ci := 9) (q0 := 0) (hP.subm [7, 8] rfl) (hD.sub [7, 8] (by decide) rfl) hK rfl rfl) rfl rfl hl.1 rfl (lv_room (Nat.le_of_ble_eq_true rfl)) dX9_loadAct_6 ⟨Nat.le_of_ble_eq_true rfl, Nat.le_of_ble_eq_true rfl⟩) hP hD hS hA (wP g ci h rw P ++ wT g T) (wA g ci h rw P T (fX8_beginS X 2 5)) [7, 8] [0, 1, 2, 3, 4, 5, 6] [0, 1, 2, 3, 4, 5, 6, 7, 8] rfl rfl (by decide) (by decide) rfl (by decide) (fun H locs hP hD hS => ?_)
  refine lv_iconst (v := 2) hx hb dX9_loadAct_9 (by decide) ?_
  refine lv_aload_n hx hb dX9_loadAct_10 rfl (lv_at hl 0 rfl) ?_
  refine z_ie (z_runSU (C := vn ci) (As := []) (rest := [.int 2]) (hK.1 _ _ (pq_cl hca)).2 ⟨hx, hb, hml, hown, hts⟩ (c_X4_loadAct l D g ci h rw hca P T (fX8_beginS X 2 5) _) (z_SU (x := ⟨"PileHeirs$Strict", "loadAct", "()I"⟩) (owner := RX4) 0 hts g_315 g_5 g_282 g_283 g_220 g_268 (by decide) ⟨by decide, by decide, by decide +kernel⟩ ⟨Nat.le_of_ble_eq_true rfl, Nat.le_of_ble_eq_true rfl⟩) (sb_Strict_Plain hg) (z_preV (ci := ci) (q0 := 0) (hP.subm [0, 1, 2, 3, 4, 5, 6, 7, 8] rfl) (hD.sub [0, 1, 2, 3, 4, 5, 6, 7, 8] (by decide) rfl) hK (pq_cl hca) rfl) rfl rfl hl.1 rfl (lv_room (Nat.le_of_ble_eq_true rfl)) dX9_loadAct_11 ⟨Nat.le_of_ble_eq_true rfl, Nat.le_of_ble_eq_true rfl⟩) hP hD hS hA (([] : va_W)) (wA g ci h rw P T ((fX4_loadActS P T (fX8_beginS X 2 5)).2.2)) [0, 1, 2, 3, 4, 5, 6, 7, 8] [] [0, 1, 2, 3, 4, 5, 6, 7, 8] rfl rfl (by decide) (by decide) rfl (by decide) (fun H locs hP hD hS => ?_)
  refine lv_imul hx hb dX9_loadAct_14 ?_
  exact W.iret (v := (2 * (fX4_loadActR P T (fX8_beginS X 2 5)))) hx hb hr (fun t9 ht hW => ⟨⟨(2 * (fX4_loadActR P T (fX8_beginS X 2 5))), wA g ci h rw P T ((fX4_loadActS P T (fX8_beginS X 2 5)).2.2), rfl, ⟨rfl, rfl⟩, by rw [ht]; exact hP, va_K.moved hW.alike hK, hD⟩, hS.F ht⟩) hS.2.2 dX9_loadAct_15

def fX9_searchActR (P : PP) (T : TT) (X : DD) (i : Int32) : Int32 := (if (fX4_searchActR P T (fX8_beginS X 3 5) i) = (-1) then (fX4_searchActR P T ((fX4_searchActS P T (fX8_beginS X 3 5) i).2.2) (i / 2)) else (fX4_searchActR P T (fX8_beginS X 3 5) i))
def fX9_searchActS (P : PP) (T : TT) (X : DD) (i : Int32) : PP × TT × DD := (P, T, (if (fX4_searchActR P T (fX8_beginS X 3 5) i) = (-1) then (fX4_searchActS P T ((fX4_searchActS P T (fX8_beginS X 3 5) i).2.2) (i / 2)).2.2 else (fX4_searchActS P T (fX8_beginS X 3 5) i).2.2))
set_option maxHeartbeats 4000000 in
set_option maxRecDepth 100000 in
theorem c_X9_searchAct (l : Launch) (D : va_G) (g : GA) (ci h rw : Nat) (hci : pkTw ci) (P : PP) (T : TT) (X : DD) (i : Int32) : ctI l D (tyA g) yX9_searchAct (wd yX9_searchAct cX9_searchAct 3 (Option.some Jvm.ClassFile.FieldType.int)) { frames := 3, cells := 0, slots := 0, locals := 64 } [.ref h, .int i] (wA g ci h rw P T X) (fun r w => r = fX9_searchActR P T X i ∧ w = wA g ci h rw (fX9_searchActS P T X i).1 (fX9_searchActS P T X i).2.1 (fX9_searchActS P T X i).2.2) := by
  intro sz
  refine Met.ofW (cc := cX9_searchAct) (maxL := 3) (ret := (Option.some Jvm.ClassFile.FieldType.int)) (by decide) rfl ?_
  intro p e s m args below meth c s₁ B hml hv
  obtain ⟨rfl, hsz, hP, hK, hD0⟩ := hv
  have hx := B.exec
  have hb := B.bytes
  have hr := B.returns
  have hts := atoms_spec (ws := (wd yX9_searchAct cX9_searchAct 3 (Option.some Jvm.ClassFile.FieldType.int))) B.pre
  have hg := Tb.of hts
  have hown : s.vm.findClass RX9 = some m.cls := findClass_of_methodNamed B.named
  have hlocks := B.notSynchronized
  subst hsz
  have hD := hD0.self (sz := s.heap.size)
  generalize hAe : va_A (wA g ci h rw P T X) s.heap.size = A at hD ⊢
  have hA : ∀ q : Nat, s.heap.size ≤ q → A q := fun q h => by rw [← hAe]; exact Or.inr h
  have hS : va_S A s.heap s.heap [] := va_S.rf
  have hP : va_P D vwCl (wA g ci h rw P T X) s.heap := hP
  have hl := lv_entry ([.ref h, .int i]) (n := 3) (Nat.le_of_ble_eq_true rfl)
  rw [lg_entry_eq]
  generalize (lg_sl ([.ref h, .int i]) ++ List.replicate (3 - (lg_sl ([.ref h, .int i])).length) Slot.unset).toArray = ls at hl ⊢
  have hl : lv_has ls 3 [(0, .ref h), (1, .int i)] := hl
  have hca : pkAll ci := pkTw_pkAll hci
  refine lv_aload_n hx hb dX9_searchAct_0 rfl (lv_at hl 0 rfl) ?_
  refine va_get (D := D) (ci := ci) (v := .ref g.dn) (C := vn ci) (T := TX4) (N := 7) hx hb hg (pq_in hca) hown hK hP 0 rfl (pq_cl hca) 1 (by decide) (hg _ g_135) (u_same (hg _ g_136)) rfl dX9_searchAct_1 ?_
  refine lv_iconst (v := 3) hx hb dX9_searchAct_4 (by decide) ?_
  refine lv_iconst (v := 5) hx hb dX9_searchAct_5 (by decide) ?_
  refine z_ve (va_runV (As := [.int 3, .int 5]) (rest := []) ⟨hx, hb, hml, hown, hts⟩ (c_X8_begin l D g X 3 5 _) (z_V 2 hts g_278 g_3 g_275 g_276 g_277 ⟨by decide, by decide, by decide +kernel⟩ ⟨Nat.le_of_ble_eq_true rfl, Nat.le_of_ble_eq_true rfl⟩) (z_preV (ci := 9) (q0 := 0) (hP.subm [7, 8] rfl) (hD.sub [7, 8] (by decide) rfl) hK rfl rfl) rfl rfl hl.1 rfl (lv_room (Nat.le_of_ble_eq_true rfl)) dX9_searchAct_6 ⟨Nat.le_of_ble_eq_true rfl, Nat.le_of_ble_eq_true rfl⟩) hP hD hS hA (wP g ci h rw P ++ wT g T) (wA g ci h rw P T (fX8_beginS X 3 5)) [7, 8] [0, 1, 2, 3, 4, 5, 6] [0, 1, 2, 3, 4, 5, 6, 7, 8] rfl rfl (by decide) (by decide) rfl (by decide) (fun H locs hP hD hS => ?_)
  refine lv_aload_n hx hb dX9_searchAct_9 rfl (lv_at hl 0 rfl) ?_
  refine lv_iload_n hx hb dX9_searchAct_10 rfl (lv_at hl 1 rfl) ?_
  refine z_ie (z_runSU (C := vn ci) (As := [.int i]) (rest := []) (hK.1 _ _ (pq_cl hca)).2 ⟨hx, hb, hml, hown, hts⟩ (c_X4_searchAct l D g ci h rw hca P T (fX8_beginS X 3 5) i _) (z_SU (x := ⟨"PileHeirs$Strict", "searchAct", "(I)I"⟩) (owner := RX4) 1 hts g_352 g_5 g_345 g_346 g_220 g_327 (by decide) ⟨by decide, by decide, by decide +kernel⟩ ⟨Nat.le_of_ble_eq_true rfl, Nat.le_of_ble_eq_true rfl⟩) (sb_Strict_Plain hg) (z_preV (ci := ci) (q0 := 0) (hP.subm [0, 1, 2, 3, 4, 5, 6, 7, 8] rfl) (hD.sub [0, 1, 2, 3, 4, 5, 6, 7, 8] (by decide) rfl) hK (pq_cl hca) rfl) rfl rfl hl.1 rfl (lv_room (Nat.le_of_ble_eq_true rfl)) dX9_searchAct_11 ⟨Nat.le_of_ble_eq_true rfl, Nat.le_of_ble_eq_true rfl⟩) hP hD hS hA (([] : va_W)) (wA g ci h rw P T ((fX4_searchActS P T (fX8_beginS X 3 5) i).2.2)) [0, 1, 2, 3, 4, 5, 6, 7, 8] [] [0, 1, 2, 3, 4, 5, 6, 7, 8] rfl rfl (by decide) (by decide) rfl (by decide) (fun H locs hP hD hS => ?_)
  refine lv_istore_n (lv' := [(2, .int (fX4_searchActR P T (fX8_beginS X 3 5) i)), (0, .ref h), (1, .int i)]) hx hb dX9_searchAct_14 rfl hl (by decide) rfl (fun ls hl => ?_)
  refine lv_iload_n hx hb dX9_searchAct_15 rfl (lv_at hl 0 rfl) ?_
  refine lv_iconst (v := (-1)) hx hb dX9_searchAct_16 (by decide) ?_
  refine lv_icmp_ne (tgt := 30) hx hb dX9_searchAct_17 (by decide) (fun c_1 => ?_) (fun c_1 => ?_)
  · -- not (fX4_searchActR P T (fX8_beginS X 3 5) i) = (-1)
    refine lv_iload_n hx hb dX9_searchAct_30 rfl (lv_at hl 0 rfl) ?_
    exact W.iret (v := (fX4_searchActR P T (fX8_beginS X 3 5) i)) hx hb hr (fun t9 ht hW => ⟨⟨(fX4_searchActR P T (fX8_beginS X 3 5) i), wA g ci h rw P T ((fX4_searchActS P T (fX8_beginS X 3 5) i).2.2), rfl, ⟨by simp only [fX9_searchActR, if_neg c_1], by simp only [fX9_searchActS, if_neg c_1]⟩, by rw [ht]; exact hP, va_K.moved hW.alike hK, hD⟩, hS.F ht⟩) hS.2.2 dX9_searchAct_31
  · -- (fX4_searchActR P T (fX8_beginS X 3 5) i) = (-1)
    refine lv_aload_n hx hb dX9_searchAct_20 rfl (lv_at hl 1 rfl) ?_
    refine lv_iload_n hx hb dX9_searchAct_21 rfl (lv_at hl 2 rfl) ?_
    refine lv_iconst (v := 2) hx hb dX9_searchAct_22 (by decide) ?_
    refine lv_idiv hx hb dX9_searchAct_23 (by decide) ?_
    refine z_ie (z_runSU (C := vn ci) (As := [.int (i / 2)]) (rest := []) (hK.1 _ _ (pq_cl hca)).2 ⟨hx, hb, hml, hown, hts⟩ (c_X4_searchAct l D g ci h rw hca P T ((fX4_searchActS P T (fX8_beginS X 3 5) i).2.2) (i / 2) _) (z_SU (x := ⟨"PileHeirs$Strict", "searchAct", "(I)I"⟩) (owner := RX4) 1 hts g_352 g_5 g_345 g_346 g_220 g_327 (by decide) ⟨by decide, by decide, by decide +kernel⟩ ⟨Nat.le_of_ble_eq_true rfl, Nat.le_of_ble_eq_true rfl⟩) (sb_Strict_Plain hg) (z_preV (ci := ci) (q0 := 0) (hP.subm [0, 1, 2, 3, 4, 5, 6, 7, 8] rfl) (hD.sub [0, 1, 2, 3, 4, 5, 6, 7, 8] (by decide) rfl) hK (pq_cl hca) rfl) rfl rfl hl.1 rfl (lv_room (Nat.le_of_ble_eq_true rfl)) dX9_searchAct_24 ⟨Nat.le_of_ble_eq_true rfl, Nat.le_of_ble_eq_true rfl⟩) hP hD hS hA (([] : va_W)) (wA g ci h rw P T ((fX4_searchActS P T ((fX4_searchActS P T (fX8_beginS X 3 5) i).2.2) (i / 2)).2.2)) [0, 1, 2, 3, 4, 5, 6, 7, 8] [] [0, 1, 2, 3, 4, 5, 6, 7, 8] rfl rfl (by decide) (by decide) rfl (by decide) (fun H locs hP hD hS => ?_)
    refine lv_goto (tgt := 31) hx hb dX9_searchAct_27 (by decide) ?_
    exact W.iret (v := (fX4_searchActR P T ((fX4_searchActS P T (fX8_beginS X 3 5) i).2.2) (i / 2))) hx hb hr (fun t9 ht hW => ⟨⟨(fX4_searchActR P T ((fX4_searchActS P T (fX8_beginS X 3 5) i).2.2) (i / 2)), wA g ci h rw P T ((fX4_searchActS P T ((fX4_searchActS P T (fX8_beginS X 3 5) i).2.2) (i / 2)).2.2), rfl, ⟨by simp only [fX9_searchActR, if_pos c_1], by simp only [fX9_searchActS, if_pos c_1]⟩, by rw [ht]; exact hP, va_K.moved hW.alike hK, hD⟩, hS.F ht⟩) hS.2.2 dX9_searchAct_31

def lX3_load (P : PP) (T : TT) (X : DD) : Nat → Int32 → Int32 → Int32
  | 0, sum, _ => sum
  | n + 1, sum, pl => if fX4_howManyR P T X ≤ pl then sum else if fX7_isWetR T (fX4_timberAtR P T X pl) = 0 then lX3_load P T X n sum (pl + 1) else lX3_load P T X n (sum + 10) (pl + 1)
def fX3_loadActR (P : PP) (T : TT) (X : DD) : Int32 := lX3_load P T (fX4_loadActS P T (fX8_beginS X 2 6)).2.2 ((fX4_howManyR P T (fX4_loadActS P T (fX8_beginS X 2 6)).2.2).toNatClampNeg + 1) (fX4_loadActR P T (fX8_beginS X 2 6)) 0
def fX3_loadActS (P : PP) (T : TT) (X : DD) : PP × TT × DD := (P, T, (fX4_loadActS P T (fX8_beginS X 2 6)).2.2)
set_option maxHeartbeats 4000000 in
set_option maxRecDepth 100000 in
theorem c_X3_loadAct (l : Launch) (D : va_G) (g : GA) (ci h rw : Nat) (hci : pkOp ci) (P : PP) (T : TT) (X : DD)  : ctI l D (tyA g) yX3_loadAct (wd yX3_loadAct cX3_loadAct 3 (Option.some Jvm.ClassFile.FieldType.int)) { frames := 3, cells := 0, slots := 0, locals := 64 } [.ref h] (wA g ci h rw P T X) (fun r w => r = fX3_loadActR P T X ∧ w = wA g ci h rw (fX3_loadActS P T X).1 (fX3_loadActS P T X).2.1 (fX3_loadActS P T X).2.2) := by
  intro sz
  refine Met.ofW (cc := cX3_loadAct) (maxL := 3) (ret := (Option.some Jvm.ClassFile.FieldType.int)) (by decide) rfl ?_
  intro p e s m args below meth c s₁ B hml hv
  obtain ⟨rfl, hsz, hP, hK, hD0⟩ := hv
  have hx := B.exec
  have hb := B.bytes
  have hr := B.returns
  have hts := atoms_spec (ws := (wd yX3_loadAct cX3_loadAct 3 (Option.some Jvm.ClassFile.FieldType.int))) B.pre
  have hg := Tb.of hts
  have hown : s.vm.findClass RX3 = some m.cls := findClass_of_methodNamed B.named
  have hlocks := B.notSynchronized
  subst hsz
  have hD := hD0.self (sz := s.heap.size)
  generalize hAe : va_A (wA g ci h rw P T X) s.heap.size = A at hD ⊢
  have hA : ∀ q : Nat, s.heap.size ≤ q → A q := fun q h => by rw [← hAe]; exact Or.inr h
  have hS : va_S A s.heap s.heap [] := va_S.rf
  have hP : va_P D vwCl (wA g ci h rw P T X) s.heap := hP
  have hl := lv_entry ([.ref h]) (n := 3) (Nat.le_of_ble_eq_true rfl)
  rw [lg_entry_eq]
  generalize (lg_sl ([.ref h]) ++ List.replicate (3 - (lg_sl ([.ref h])).length) Slot.unset).toArray = ls at hl ⊢
  have hl : lv_has ls 3 [(0, .ref h)] := hl
  have hca : pkAll ci := pkOp_pkAll hci
  refine lv_aload_n hx hb dX3_loadAct_0 rfl (lv_at hl 0 rfl) ?_
  refine va_get (D := D) (ci := ci) (v := .ref g.dn) (C := vn ci) (T := TX4) (N := 7) hx hb hg (pq_in hca) hown hK hP 0 rfl (pq_cl hca) 1 (by decide) (hg _ g_137) (u_same (hg _ g_138)) rfl dX3_loadAct_1 ?_
  refine lv_iconst (v := 2) hx hb dX3_loadAct_4 (by decide) ?_
  refine lv_bipush (v := 6) hx hb dX3_loadAct_5 (by decide) ?_
  refine z_ve (va_runV (As := [.int 2, .int 6]) (rest := []) ⟨hx, hb, hml, hown, hts⟩ (c_X8_begin l D g X 2 6 _) (z_V 2 hts g_278 g_3 g_289 g_276 g_277 ⟨by decide, by decide, by decide +kernel⟩ ⟨Nat.le_of_ble_eq_true rfl, Nat.le_of_ble_eq_true rfl⟩) (z_preV (ci := 9) (q0 := 0) (hP.subm [7, 8] rfl) (hD.sub [7, 8] (by decide) rfl) hK rfl rfl) rfl rfl hl.1 rfl (lv_room (Nat.le_of_ble_eq_true rfl)) dX3_loadAct_7 ⟨Nat.le_of_ble_eq_true rfl, Nat.le_of_ble_eq_true rfl⟩) hP hD hS hA (wP g ci h rw P ++ wT g T) (wA g ci h rw P T (fX8_beginS X 2 6)) [7, 8] [0, 1, 2, 3, 4, 5, 6] [0, 1, 2, 3, 4, 5, 6, 7, 8] rfl rfl (by decide) (by decide) rfl (by decide) (fun H locs hP hD hS => ?_)
  refine lv_aload_n hx hb dX3_loadAct_10 rfl (lv_at hl 0 rfl) ?_
  refine z_ie (z_runSU (C := vn ci) (As := []) (rest := []) (hK.1 _ _ (pq_cl hca)).2 ⟨hx, hb, hml, hown, hts⟩ (c_X4_loadAct l D g ci h rw hca P T (fX8_beginS X 2 6) _) (z_SU (x := ⟨"PileHeirs$Drying", "loadAct", "()I"⟩) (owner := RX4) 0 hts g_315 g_5 g_290 g_291 g_234 g_268 (by decide) ⟨by decide, by decide, by decide +kernel⟩ ⟨Nat.le_of_ble_eq_true rfl, Nat.le_of_ble_eq_true rfl⟩) (sb_Drying_Plain hg) (z_preV (ci := ci) (q0 := 0) (hP.subm [0, 1, 2, 3, 4, 5, 6, 7, 8] rfl) (hD.sub [0, 1, 2, 3, 4, 5, 6, 7, 8] (by decide) rfl) hK (pq_cl hca) rfl) rfl rfl hl.1 rfl (lv_room (Nat.le_of_ble_eq_true rfl)) dX3_loadAct_11 ⟨Nat.le_of_ble_eq_true rfl, Nat.le_of_ble_eq_true rfl⟩) hP hD hS hA (([] : va_W)) (wA g ci h rw P T ((fX4_loadActS P T (fX8_beginS X 2 6)).2.2)) [0, 1, 2, 3, 4, 5, 6, 7, 8] [] [0, 1, 2, 3, 4, 5, 6, 7, 8] rfl rfl (by decide) (by decide) rfl (by decide) (fun H locs hP hD hS => ?_)
  refine lv_istore_n (lv' := [(1, .int (fX4_loadActR P T (fX8_beginS X 2 6))), (0, .ref h)]) hx hb dX3_loadAct_14 rfl hl (by decide) rfl (fun ls hl => ?_)
  refine lv_iconst (v := 0) hx hb dX3_loadAct_15 (by decide) ?_
  refine lv_istore_n (lv' := [(2, .int 0), (1, .int (fX4_loadActR P T (fX8_beginS X 2 6))), (0, .ref h)]) hx hb dX3_loadAct_16 rfl hl (by decide) rfl (fun ls hl => ?_)
  refine z_loop (pc := 17) (fun n (x : Int32 × Int32) H locs ls => (((fX4_howManyR P T (fX4_loadActS P T (fX8_beginS X 2 6)).2.2).toInt - x.2.toInt).toNat < n ∧ lX3_load P T (fX4_loadActS P T (fX8_beginS X 2 6)).2.2 n x.1 x.2 = fX3_loadActR P T X) ∧ va_P D vwCl (wA g ci h rw P T ((fX4_loadActS P T (fX8_beginS X 2 6)).2.2)) H ∧ va_D A (wA g ci h rw P T ((fX4_loadActS P T (fX8_beginS X 2 6)).2.2)) ∧ va_S A s.heap H locs ∧ lv_has ls 3 [(0, .ref h), (1, .int x.1), (2, .int x.2)]) (fun x H locs ls h => absurd h.1.1 (Nat.not_lt_zero _)) ?_ ((fX4_howManyR P T (fX4_loadActS P T (fX8_beginS X 2 6)).2.2).toNatClampNeg + 1) (fX4_loadActR P T (fX8_beginS X 2 6), 0) _ _ _ ⟨⟨lp_st _, rfl⟩, hP, hD, hS, lv_sub hl [2, 1, 0] rfl⟩
  intro n x H locs ls hI ih
  obtain ⟨hI, hP, hD, hS, hl⟩ := hI
  refine lv_iload_n hx hb dX3_loadAct_17 rfl (lv_at hl 2 rfl) ?_
  refine lv_aload_n hx hb dX3_loadAct_18 rfl (lv_at hl 0 rfl) ?_
  refine z_ie (va_runU (C := vn ci) (As := []) (rest := [.int x.2]) ⟨hx, hb, hml, hown, hts⟩ (c_X4_howMany l D g ci h rw hca P T ((fX4_loadActS P T (fX8_beginS X 2 6)).2.2) _) (z_U (x := ⟨"PileHeirs$Open", "howMany", "()I"⟩) (owner := RX4) 0 hts g_297 g_5 g_292 g_293 g_296 g_297 (sl_Open_howMany hci) g_296 ⟨by decide, by decide, by decide +kernel⟩ ⟨Nat.le_of_ble_eq_true rfl, Nat.le_of_ble_eq_true rfl⟩) (z_preV (ci := ci) (q0 := 0) (hP.subm [0, 1, 2, 3, 4, 5, 6, 7, 8] rfl) (hD.sub [0, 1, 2, 3, 4, 5, 6, 7, 8] (by decide) rfl) hK (pq_cl hca) rfl) rfl rfl hl.1 rfl (lv_room (Nat.le_of_ble_eq_true rfl)) dX3_loadAct_19 ⟨Nat.le_of_ble_eq_true rfl, Nat.le_of_ble_eq_true rfl⟩) hP hD hS hA (([] : va_W)) (wA g ci h rw P T ((fX4_loadActS P T (fX8_beginS X 2 6)).2.2)) [0, 1, 2, 3, 4, 5, 6, 7, 8] [] [0, 1, 2, 3, 4, 5, 6, 7, 8] rfl rfl (by decide) (by decide) rfl (by decide) (fun H locs hP hD hS => ?_)
  refine lv_icmp_ge (tgt := 49) hx hb dX3_loadAct_22 (by decide) (fun c_1 => ?_) (fun c_1 => ?_)
  · -- (fX4_howManyR P T ((fX4_loadActS P T (fX8_beginS X 2 6)).2.2)) ≤ x.2
    refine lv_iload_n hx hb dX3_loadAct_49 rfl (lv_at hl 1 rfl) ?_
    exact W.iret (v := x.1) hx hb hr (fun t9 ht hW => ⟨⟨x.1, wA g ci h rw P T ((fX4_loadActS P T (fX8_beginS X 2 6)).2.2), rfl, ⟨by rw [← hI.2]; simp only [lX3_load, if_pos c_1], rfl⟩, by rw [ht]; exact hP, va_K.moved hW.alike hK, hD⟩, hS.F ht⟩) hS.2.2 dX3_loadAct_50
  · -- not (fX4_howManyR P T ((fX4_loadActS P T (fX8_beginS X 2 6)).2.2)) ≤ x.2
    refine lv_aload_n hx hb dX3_loadAct_25 rfl (lv_at hl 0 rfl) ?_
    refine va_get (D := D) (ci := ci) (v := .ref g.tm) (C := vn ci) (T := TX4) (N := 7) hx hb hg (pq_in hca) hown hK hP 0 rfl (pq_cl hca) 0 (by decide) (hg _ g_120) (u_same (hg _ g_121)) rfl dX3_loadAct_26 ?_
    refine lv_aload_n hx hb dX3_loadAct_29 rfl (lv_at hl 0 rfl) ?_
    refine lv_iload_n hx hb dX3_loadAct_30 rfl (lv_at hl 2 rfl) ?_
    refine z_ie (va_runU (C := vn ci) (As := [.int x.2]) (rest := [.ref g.tm]) ⟨hx, hb, hml, hown, hts⟩ (c_X4_timberAt l D g ci h rw hca P T ((fX4_loadActS P T (fX8_beginS X 2 6)).2.2) x.2 _) (z_U (x := ⟨"PileHeirs$Open", "timberAt", "(I)I"⟩) (owner := RX4) 1 hts g_303 g_5 g_298 g_299 g_302 g_303 (sl_Open_timberAt hci) g_302 ⟨by decide, by decide, by decide +kernel⟩ ⟨Nat.le_of_ble_eq_true rfl, Nat.le_of_ble_eq_true rfl⟩) (z_preV (ci := ci) (q0 := 0) (hP.subm [0, 1, 2, 3, 4, 5, 6, 7, 8] rfl) (hD.sub [0, 1, 2, 3, 4, 5, 6, 7, 8] (by decide) rfl) hK (pq_cl hca) rfl) rfl rfl hl.1 rfl (lv_room (Nat.le_of_ble_eq_true rfl)) dX3_loadAct_31 ⟨Nat.le_of_ble_eq_true rfl, Nat.le_of_ble_eq_true rfl⟩) hP hD hS hA (([] : va_W)) (wA g ci h rw P T ((fX4_loadActS P T (fX8_beginS X 2 6)).2.2)) [0, 1, 2, 3, 4, 5, 6, 7, 8] [] [0, 1, 2, 3, 4, 5, 6, 7, 8] rfl rfl (by decide) (by decide) rfl (by decide) (fun H locs hP hD hS => ?_)
    refine z_ie (va_runV (As := [.int (fX4_timberAtR P T ((fX4_loadActS P T (fX8_beginS X 2 6)).2.2) x.2)]) (rest := []) ⟨hx, hb, hml, hown, hts⟩ (c_X7_isWet l D g T (fX4_timberAtR P T ((fX4_loadActS P T (fX8_beginS X 2 6)).2.2) x.2) _) (z_V 1 hts g_307 g_2 g_304 g_305 g_306 ⟨by decide, by decide, by decide +kernel⟩ ⟨Nat.le_of_ble_eq_true rfl, Nat.le_of_ble_eq_true rfl⟩) (z_preV (ci := 8) (q0 := 0) (hP.subm [2, 3, 4, 5, 6] rfl) (hD.sub [2, 3, 4, 5, 6] (by decide) rfl) hK rfl rfl) rfl rfl hl.1 rfl (lv_room (Nat.le_of_ble_eq_true rfl)) dX3_loadAct_34 ⟨Nat.le_of_ble_eq_true rfl, Nat.le_of_ble_eq_true rfl⟩) hP hD hS hA (wP g ci h rw P ++ wD g ((fX4_loadActS P T (fX8_beginS X 2 6)).2.2)) (wA g ci h rw P T ((fX4_loadActS P T (fX8_beginS X 2 6)).2.2)) [2, 3, 4, 5, 6] [0, 1, 7, 8] [0, 1, 4, 5, 6, 7, 8, 2, 3] rfl rfl (by decide) (by decide) rfl (by decide) (fun H locs hP hD hS => ?_)
    refine lv_if_eq (tgt := 43) hx hb dX3_loadAct_37 (by decide) (fun c_2 => ?_) (fun c_2 => ?_)
    · -- (fX7_isWetR T (fX4_timberAtR P T ((fX4_loadActS P T (fX8_beginS X 2 6)).2.2) x.2)) = 0
      refine lv_iinc (v := (x.2 + 1)) (lv' := [(2, .int (x.2 + 1)), (0, .ref h), (1, .int x.1)]) hx hb dX3_loadAct_43 hl (k := 2) rfl rfl (by decide) rfl (fun ls hl => ?_)
      refine lv_goto (tgt := 17) hx hb dX3_loadAct_46 (by decide) ?_
      exact ih (x.1, (x.2 + 1)) _ _ _ ⟨⟨lp_up c_1 hI.1, by rw [← hI.2]; simp only [lX3_load, if_neg c_1, if_pos c_2]⟩, hP, hD, hS, lv_sub hl [1, 2, 0] rfl⟩
    · -- not (fX7_isWetR T (fX4_timberAtR P T ((fX4_loadActS P T (fX8_beginS X 2 6)).2.2) x.2)) = 0
      refine lv_iinc (v := (x.1 + 10)) (lv' := [(1, .int (x.1 + 10)), (0, .ref h), (2, .int x.2)]) hx hb dX3_loadAct_40 hl (k := 1) rfl rfl (by decide) rfl (fun ls hl => ?_)
      refine lv_iinc (v := (x.2 + 1)) (lv' := [(2, .int (x.2 + 1)), (1, .int (x.1 + 10)), (0, .ref h)]) hx hb dX3_loadAct_43 hl (k := 2) rfl rfl (by decide) rfl (fun ls hl => ?_)
      refine lv_goto (tgt := 17) hx hb dX3_loadAct_46 (by decide) ?_
      exact ih ((x.1 + 10), (x.2 + 1)) _ _ _ ⟨⟨lp_up c_1 hI.1, by rw [← hI.2]; simp only [lX3_load, if_neg c_1, if_neg c_2]⟩, hP, hD, hS, lv_sub hl [2, 1, 0] rfl⟩

def fX3_putActR (P : PP) (T : TT) (X : DD) (t : Int32) : Int32 := (if ((fX7_weightOfR T t) - (fX7_weightOfR T t) / 2 * 2) = 0 then (fX5_putActR P T (fX8_beginS X 0 6) t) else (fX5_putActR P (fX7_setWetS T t 1) (fX8_beginS X 0 6) t))
def fX3_putActS (P : PP) (T : TT) (X : DD) (t : Int32) : PP × TT × DD := ((if ((fX7_weightOfR T t) - (fX7_weightOfR T t) / 2 * 2) = 0 then (fX5_putActS P T (fX8_beginS X 0 6) t).1 else (fX5_putActS P (fX7_setWetS T t 1) (fX8_beginS X 0 6) t).1), (if ((fX7_weightOfR T t) - (fX7_weightOfR T t) / 2 * 2) = 0 then (fX5_putActS P T (fX8_beginS X 0 6) t).2.1 else (fX5_putActS P (fX7_setWetS T t 1) (fX8_beginS X 0 6) t).2.1), (if ((fX7_weightOfR T t) - (fX7_weightOfR T t) / 2 * 2) = 0 then (fX5_putActS P T (fX8_beginS X 0 6) t).2.2 else (fX5_putActS P (fX7_setWetS T t 1) (fX8_beginS X 0 6) t).2.2))
set_option maxHeartbeats 4000000 in
set_option maxRecDepth 100000 in
theorem c_X3_putAct (l : Launch) (D : va_G) (g : GA) (ci h rw : Nat) (hci : pkOp ci) (P : PP) (T : TT) (X : DD) (t : Int32) : ctI l D (tyA g) yX3_putAct (wd yX3_putAct cX3_putAct 2 (Option.some Jvm.ClassFile.FieldType.int)) { frames := 4, cells := 0, slots := 0, locals := 86 } [.ref h, .int t] (wA g ci h rw P T X) (fun r w => r = fX3_putActR P T X t ∧ w = wA g ci h rw (fX3_putActS P T X t).1 (fX3_putActS P T X t).2.1 (fX3_putActS P T X t).2.2) := by
  intro sz
  refine Met.ofW (cc := cX3_putAct) (maxL := 2) (ret := (Option.some Jvm.ClassFile.FieldType.int)) (by decide) rfl ?_
  intro p e s m args below meth c s₁ B hml hv
  obtain ⟨rfl, hsz, hP, hK, hD0⟩ := hv
  have hx := B.exec
  have hb := B.bytes
  have hr := B.returns
  have hts := atoms_spec (ws := (wd yX3_putAct cX3_putAct 2 (Option.some Jvm.ClassFile.FieldType.int))) B.pre
  have hg := Tb.of hts
  have hown : s.vm.findClass RX3 = some m.cls := findClass_of_methodNamed B.named
  have hlocks := B.notSynchronized
  subst hsz
  have hD := hD0.self (sz := s.heap.size)
  generalize hAe : va_A (wA g ci h rw P T X) s.heap.size = A at hD ⊢
  have hA : ∀ q : Nat, s.heap.size ≤ q → A q := fun q h => by rw [← hAe]; exact Or.inr h
  have hS : va_S A s.heap s.heap [] := va_S.rf
  have hP : va_P D vwCl (wA g ci h rw P T X) s.heap := hP
  have hl := lv_entry ([.ref h, .int t]) (n := 2) (Nat.le_of_ble_eq_true rfl)
  rw [lg_entry_eq]
  generalize (lg_sl ([.ref h, .int t]) ++ List.replicate (2 - (lg_sl ([.ref h, .int t])).length) Slot.unset).toArray = ls at hl ⊢
  have hl : lv_has ls 2 [(0, .ref h), (1, .int t)] := hl
  have hca : pkAll ci := pkOp_pkAll hci
  refine lv_aload_n hx hb dX3_putAct_0 rfl (lv_at hl 0 rfl) ?_
  refine va_get (D := D) (ci := ci) (v := .ref g.dn) (C := vn ci) (T := TX4) (N := 7) hx hb hg (pq_in hca) hown hK hP 0 rfl (pq_cl hca) 1 (by decide) (hg _ g_137) (u_same (hg _ g_138)) rfl dX3_putAct_1 ?_
  refine lv_iconst (v := 0) hx hb dX3_putAct_4 (by decide) ?_
  refine lv_bipush (v := 6) hx hb dX3_putAct_5 (by decide) ?_
  refine z_ve (va_runV (As := [.int 0, .int 6]) (rest := []) ⟨hx, hb, hml, hown, hts⟩ (c_X8_begin l D g X 0 6 _) (z_V 2 hts g_278 g_3 g_289 g_276 g_277 ⟨by decide, by decide, by decide +kernel⟩ ⟨Nat.le_of_ble_eq_true rfl, Nat.le_of_ble_eq_true rfl⟩) (z_preV (ci := 9) (q0 := 0) (hP.subm [7, 8] rfl) (hD.sub [7, 8] (by decide) rfl) hK rfl rfl) rfl rfl hl.1 rfl (lv_room (Nat.le_of_ble_eq_true rfl)) dX3_putAct_7 ⟨Nat.le_of_ble_eq_true rfl, Nat.le_of_ble_eq_true rfl⟩) hP hD hS hA (wP g ci h rw P ++ wT g T) (wA g ci h rw P T (fX8_beginS X 0 6)) [7, 8] [0, 1, 2, 3, 4, 5, 6] [0, 1, 2, 3, 4, 5, 6, 7, 8] rfl rfl (by decide) (by decide) rfl (by decide) (fun H locs hP hD hS => ?_)
  refine lv_aload_n hx hb dX3_putAct_10 rfl (lv_at hl 0 rfl) ?_
  refine va_get (D := D) (ci := ci) (v := .ref g.tm) (C := vn ci) (T := TX4) (N := 7) hx hb hg (pq_in hca) hown hK hP 0 rfl (pq_cl hca) 0 (by decide) (hg _ g_120) (u_same (hg _ g_121)) rfl dX3_putAct_11 ?_
  refine lv_iload_n hx hb dX3_putAct_14 rfl (lv_at hl 1 rfl) ?_
  refine z_ie (va_runV (As := [.int t]) (rest := []) ⟨hx, hb, hml, hown, hts⟩ (c_X7_weightOf l D g T t _) (z_V 1 hts g_321 g_2 g_447 g_319 g_320 ⟨by decide, by decide, by decide +kernel⟩ ⟨Nat.le_of_ble_eq_true rfl, Nat.le_of_ble_eq_true rfl⟩) (z_preV (ci := 8) (q0 := 0) (hP.subm [2, 3, 4, 5, 6] rfl) (hD.sub [2, 3, 4, 5, 6] (by decide) rfl) hK rfl rfl) rfl rfl hl.1 rfl (lv_room (Nat.le_of_ble_eq_true rfl)) dX3_putAct_15 ⟨Nat.le_of_ble_eq_true rfl, Nat.le_of_ble_eq_true rfl⟩) hP hD hS hA (wP g ci h rw P ++ wD g (fX8_beginS X 0 6)) (wA g ci h rw P T (fX8_beginS X 0 6)) [2, 3, 4, 5, 6] [0, 1, 7, 8] [0, 1, 4, 5, 6, 7, 8, 2, 3] rfl rfl (by decide) (by decide) rfl (by decide) (fun H locs hP hD hS => ?_)
  refine lv_iconst (v := 2) hx hb dX3_putAct_18 (by decide) ?_
  refine lv_irem hx hb dX3_putAct_19 (by decide) ?_
  refine lv_if_eq (tgt := 32) hx hb dX3_putAct_20 (by decide) (fun c_1 => ?_) (fun c_1 => ?_)
  · -- ((fX7_weightOfR T t) - (fX7_weightOfR T t) / 2 * 2) = 0
    refine lv_aload_n hx hb dX3_putAct_32 rfl (lv_at hl 0 rfl) ?_
    refine lv_iload_n hx hb dX3_putAct_33 rfl (lv_at hl 1 rfl) ?_
    refine z_ie (z_runSU (C := vn ci) (As := [.int t]) (rest := []) (hK.1 _ _ (pq_cl hca)).2 ⟨hx, hb, hml, hown, hts⟩ (c_X5_putAct l D g ci h rw (pkOp_pkSo hci) P T (fX8_beginS X 0 6) t _) (z_SU (x := ⟨"PileHeirs$Drying", "putAct", "(I)I"⟩) (owner := RX5) 1 hts g_451 g_7 g_449 g_441 g_234 g_450 (by decide) ⟨by decide, by decide, by decide +kernel⟩ ⟨Nat.le_of_ble_eq_true rfl, Nat.le_of_ble_eq_true rfl⟩) (sb_Drying_Sorted hg) (z_preV (ci := ci) (q0 := 0) (hP.subm [0, 1, 2, 3, 4, 5, 6, 7, 8] rfl) (hD.sub [0, 1, 2, 3, 4, 5, 6, 7, 8] (by decide) rfl) hK (pq_cl hca) rfl) rfl rfl hl.1 rfl (lv_room (Nat.le_of_ble_eq_true rfl)) dX3_putAct_34 ⟨Nat.le_of_ble_eq_true rfl, Nat.le_of_ble_eq_true rfl⟩) hP hD hS hA (([] : va_W)) (wA g ci h rw ((fX5_putActS P T (fX8_beginS X 0 6) t).1) ((fX5_putActS P T (fX8_beginS X 0 6) t).2.1) ((fX5_putActS P T (fX8_beginS X 0 6) t).2.2)) [0, 1, 2, 3, 4, 5, 6, 7, 8] [] [0, 1, 2, 3, 4, 5, 6, 7, 8] rfl rfl (by decide) (by decide) rfl (by decide) (fun H locs hP hD hS => ?_)
    exact W.iret (v := (fX5_putActR P T (fX8_beginS X 0 6) t)) hx hb hr (fun t9 ht hW => ⟨⟨(fX5_putActR P T (fX8_beginS X 0 6) t), wA g ci h rw ((fX5_putActS P T (fX8_beginS X 0 6) t).1) ((fX5_putActS P T (fX8_beginS X 0 6) t).2.1) ((fX5_putActS P T (fX8_beginS X 0 6) t).2.2), rfl, ⟨by simp only [fX3_putActR, if_pos c_1], by simp only [fX3_putActS, if_pos c_1]⟩, by rw [ht]; exact hP, va_K.moved hW.alike hK, hD⟩, hS.F ht⟩) hS.2.2 dX3_putAct_37
  · -- not ((fX7_weightOfR T t) - (fX7_weightOfR T t) / 2 * 2) = 0
    refine lv_aload_n hx hb dX3_putAct_23 rfl (lv_at hl 0 rfl) ?_
    refine va_get (D := D) (ci := ci) (v := .ref g.tm) (C := vn ci) (T := TX4) (N := 7) hx hb hg (pq_in hca) hown hK hP 0 rfl (pq_cl hca) 0 (by decide) (hg _ g_120) (u_same (hg _ g_121)) rfl dX3_putAct_24 ?_
    refine lv_iload_n hx hb dX3_putAct_27 rfl (lv_at hl 1 rfl) ?_
    refine lv_iconst (v := 1) hx hb dX3_putAct_28 (by decide) ?_
    refine z_ve (va_runV (As := [.int t, .int 1]) (rest := []) ⟨hx, hb, hml, hown, hts⟩ (c_X7_setWet l D g T t 1 _) (z_V 2 hts g_439 g_2 g_448 g_437 g_438 ⟨by decide, by decide, by decide +kernel⟩ ⟨Nat.le_of_ble_eq_true rfl, Nat.le_of_ble_eq_true rfl⟩) (z_preV (ci := 8) (q0 := 0) (hP.subm [2, 3, 4, 5, 6] rfl) (hD.sub [2, 3, 4, 5, 6] (by decide) rfl) hK rfl rfl) rfl rfl hl.1 rfl (lv_room (Nat.le_of_ble_eq_true rfl)) dX3_putAct_29 ⟨Nat.le_of_ble_eq_true rfl, Nat.le_of_ble_eq_true rfl⟩) hP hD hS hA (wP g ci h rw P ++ wD g (fX8_beginS X 0 6)) (wA g ci h rw P (fX7_setWetS T t 1) (fX8_beginS X 0 6)) [2, 3, 4, 5, 6] [0, 1, 7, 8] [0, 1, 4, 5, 6, 7, 8, 2, 3] rfl rfl (by decide) (by decide) rfl (by decide) (fun H locs hP hD hS => ?_)
    refine lv_aload_n hx hb dX3_putAct_32 rfl (lv_at hl 0 rfl) ?_
    refine lv_iload_n hx hb dX3_putAct_33 rfl (lv_at hl 1 rfl) ?_
    refine z_ie (z_runSU (C := vn ci) (As := [.int t]) (rest := []) (hK.1 _ _ (pq_cl hca)).2 ⟨hx, hb, hml, hown, hts⟩ (c_X5_putAct l D g ci h rw (pkOp_pkSo hci) P (fX7_setWetS T t 1) (fX8_beginS X 0 6) t _) (z_SU (x := ⟨"PileHeirs$Drying", "putAct", "(I)I"⟩) (owner := RX5) 1 hts g_451 g_7 g_449 g_441 g_234 g_450 (by decide) ⟨by decide, by decide, by decide +kernel⟩ ⟨Nat.le_of_ble_eq_true rfl, Nat.le_of_ble_eq_true rfl⟩) (sb_Drying_Sorted hg) (z_preV (ci := ci) (q0 := 0) (hP.subm [0, 1, 2, 3, 4, 5, 6, 7, 8] rfl) (hD.sub [0, 1, 2, 3, 4, 5, 6, 7, 8] (by decide) rfl) hK (pq_cl hca) rfl) rfl rfl hl.1 rfl (lv_room (Nat.le_of_ble_eq_true rfl)) dX3_putAct_34 ⟨Nat.le_of_ble_eq_true rfl, Nat.le_of_ble_eq_true rfl⟩) hP hD hS hA (([] : va_W)) (wA g ci h rw ((fX5_putActS P (fX7_setWetS T t 1) (fX8_beginS X 0 6) t).1) ((fX5_putActS P (fX7_setWetS T t 1) (fX8_beginS X 0 6) t).2.1) ((fX5_putActS P (fX7_setWetS T t 1) (fX8_beginS X 0 6) t).2.2)) [0, 1, 2, 3, 4, 5, 6, 7, 8] [] [0, 1, 2, 3, 4, 5, 6, 7, 8] rfl rfl (by decide) (by decide) rfl (by decide) (fun H locs hP hD hS => ?_)
    exact W.iret (v := (fX5_putActR P (fX7_setWetS T t 1) (fX8_beginS X 0 6) t)) hx hb hr (fun t9 ht hW => ⟨⟨(fX5_putActR P (fX7_setWetS T t 1) (fX8_beginS X 0 6) t), wA g ci h rw ((fX5_putActS P (fX7_setWetS T t 1) (fX8_beginS X 0 6) t).1) ((fX5_putActS P (fX7_setWetS T t 1) (fX8_beginS X 0 6) t).2.1) ((fX5_putActS P (fX7_setWetS T t 1) (fX8_beginS X 0 6) t).2.2), rfl, ⟨by simp only [fX3_putActR, if_neg c_1], by simp only [fX3_putActS, if_neg c_1]⟩, by rw [ht]; exact hP, va_K.moved hW.alike hK, hD⟩, hS.F ht⟩) hS.2.2 dX3_putAct_37

def kloadActR (ci : Nat) (P : PP) (T : TT) (X : DD)  : Int32 := match ci with | 10 => fX9_loadActR P T X  | 2 => fX9_loadActR P T X  | 4 => fX3_loadActR P T X  | _ => fX4_loadActR P T X 
def kloadActS (ci : Nat) (P : PP) (T : TT) (X : DD)  : PP × TT × DD := (P, T, (match ci with | 10 => (fX9_loadActS P T X).2.2 | 2 => (fX9_loadActS P T X).2.2 | 4 => (fX3_loadActS P T X).2.2 | _ => (fX4_loadActS P T X).2.2))

set_option maxHeartbeats 4000000 in
set_option maxRecDepth 100000 in
theorem rv_X6_loadAct {p : Program} {l : Launch} {e : Env} {R : Room} {s : State} {m : MethodId} {args : Array Value} {below : List Frame} {meth : Method} {c : Code} {H : Heap} {locs : List Loc} {cells slots : Nat} {y0 : MethodName} {b0 cc : ByteArray} {n0 nL : Nat} {r0 : Option FieldType} {D : va_G} {g : GA} {ci h rw : Nat} {P : PP} {T : TT} {X : DD} {B : Nat → Prop} {rest : List Value} {fr : JFrame} 
    (hci : pkSt ci) (S : CallFix p m c cc nL s args (wd y0 b0 n0 r0) RX6) (hP : va_P D vwCl (wA g ci h rw P T X) H) (hD : va_D B (wA g ci h rw P T X)) (hK : va_K D vwCl (tyA g) s) (hR : 4 ≤ R.frames ∧ 84 ≤ R.locals) (hg : fr.method = m) (hsize : fr.locals.size = nL) (hstack : fr.stack = [].reverse ++ .ref h :: rest) (hW : 2 * fr.monitorRoom + (rest.map fun v => v.category).sum ≤ 8) (hdg : decode cc fr.pc = .ok (.invokevirtual 21, 3)) (hf : cells + 0 ≤ R.cells ∧ slots + 0 ≤ R.slots) :
    va_Run p l e R s m args below meth c H locs cells slots 0 0 fr rest (va_Qi (fun r w => r = kloadActR ci P T X  ∧ w = wA g ci h rw (kloadActS ci P T X ).1 (kloadActS ci P T X ).2.1 (kloadActS ci P T X ).2.2) (ctB D (tyA g) (va_A (wA g ci h rw P T X) H.size)) (va_A (wA g ci h rw P T X) H.size) (Value.ref h :: []).toArray) (va_A (wA g ci h rw P T X) H.size) := by
  rcases hci with rfl | rfl | rfl
  · exact va_runU (C := vn 2) (As := []) S (c_X9_loadAct l D g 2 h rw (by simp [pkTw]) P T X  _) (z_U (x := ⟨"PileHeirs$Strict", "loadAct", "()I"⟩) (owner := RX4) 0 S.2.2.2.2 g_274 g_10 g_376 g_283 g_268 g_315 g_377 g_273 ⟨by decide, by decide, by decide +kernel⟩ ⟨Nat.le_trans (Nat.le_of_ble_eq_true rfl) hR.1, Nat.le_trans (Nat.le_of_ble_eq_true rfl) hR.2⟩) (z_preV (ci := 2) (q0 := 0) hP hD hK (pq_cl (by simp [pkAll])) rfl) hg rfl hsize hstack hW hdg hf
  · exact va_runU (C := vn 7) (As := []) S (c_X4_loadAct l D g 7 h rw (by simp [pkAll]) P T X  _) (z_U (x := ⟨"PileHeirs$Strict", "loadAct", "()I"⟩) (owner := RX4) 0 S.2.2.2.2 g_315 g_5 g_376 g_283 g_268 g_315 g_378 g_268 ⟨by decide, by decide, by decide +kernel⟩ ⟨Nat.le_trans (Nat.le_of_ble_eq_true rfl) hR.1, Nat.le_trans (Nat.le_of_ble_eq_true rfl) hR.2⟩) (z_preV (ci := 7) (q0 := 0) hP hD hK (pq_cl (by simp [pkAll])) rfl) hg rfl hsize hstack hW hdg hf
  · exact va_runU (C := vn 10) (As := []) S (c_X9_loadAct l D g 10 h rw (by simp [pkTw]) P T X  _) (z_U (x := ⟨"PileHeirs$Strict", "loadAct", "()I"⟩) (owner := RX4) 0 S.2.2.2.2 g_274 g_10 g_376 g_283 g_268 g_315 g_379 g_273 ⟨by decide, by decide, by decide +kernel⟩ ⟨Nat.le_trans (Nat.le_of_ble_eq_true rfl) hR.1, Nat.le_trans (Nat.le_of_ble_eq_true rfl) hR.2⟩) (z_preV (ci := 10) (q0 := 0) hP hD hK (pq_cl (by simp [pkAll])) rfl) hg rfl hsize hstack hW hdg hf

def fX6_putActR (ci : Nat) (P : PP) (T : TT) (X : DD) (t : Int32) : Int32 := (if ((kloadActR ci P T (fX8_beginS X 0 3)) + (fX7_weightOfR T t)) ≤ P.2.2.1 then (fX4_putActR P T ((kloadActS ci P T (fX8_beginS X 0 3)).2.2) t) else 2)
def fX6_putActS (ci : Nat) (P : PP) (T : TT) (X : DD) (t : Int32) : PP × TT × DD := ((if ((kloadActR ci P T (fX8_beginS X 0 3)) + (fX7_weightOfR T t)) ≤ P.2.2.1 then (fX4_putActS P T ((kloadActS ci P T (fX8_beginS X 0 3)).2.2) t).1 else P), (if ((kloadActR ci P T (fX8_beginS X 0 3)) + (fX7_weightOfR T t)) ≤ P.2.2.1 then (fX4_putActS P T ((kloadActS ci P T (fX8_beginS X 0 3)).2.2) t).2.1 else T), (if ((kloadActR ci P T (fX8_beginS X 0 3)) + (fX7_weightOfR T t)) ≤ P.2.2.1 then (fX4_putActS P T ((kloadActS ci P T (fX8_beginS X 0 3)).2.2) t).2.2 else fX8_countHeavyS ((kloadActS ci P T (fX8_beginS X 0 3)).2.2)))
set_option maxHeartbeats 4000000 in
set_option maxRecDepth 100000 in
theorem c_X6_putAct (l : Launch) (D : va_G) (g : GA) (ci h rw : Nat) (hci : pkSt ci) (P : PP) (T : TT) (X : DD) (t : Int32) : ctI l D (tyA g) yX6_putAct (wd yX6_putAct cX6_putAct 2 (Option.some Jvm.ClassFile.FieldType.int)) { frames := 4, cells := 0, slots := 0, locals := 84 } [.ref h, .int t] (wA g ci h rw P T X) (fun r w => r = fX6_putActR ci P T X t ∧ w = wA g ci h rw (fX6_putActS ci P T X t).1 (fX6_putActS ci P T X t).2.1 (fX6_putActS ci P T X t).2.2) := by
  intro sz
  refine Met.ofW (cc := cX6_putAct) (maxL := 2) (ret := (Option.some Jvm.ClassFile.FieldType.int)) (by decide) rfl ?_
  intro p e s m args below meth c s₁ B hml hv
  obtain ⟨rfl, hsz, hP, hK, hD0⟩ := hv
  have hx := B.exec
  have hb := B.bytes
  have hr := B.returns
  have hts := atoms_spec (ws := (wd yX6_putAct cX6_putAct 2 (Option.some Jvm.ClassFile.FieldType.int))) B.pre
  have hg := Tb.of hts
  have hown : s.vm.findClass RX6 = some m.cls := findClass_of_methodNamed B.named
  have hlocks := B.notSynchronized
  subst hsz
  have hD := hD0.self (sz := s.heap.size)
  generalize hAe : va_A (wA g ci h rw P T X) s.heap.size = A at hD ⊢
  have hA : ∀ q : Nat, s.heap.size ≤ q → A q := fun q h => by rw [← hAe]; exact Or.inr h
  have hS : va_S A s.heap s.heap [] := va_S.rf
  have hP : va_P D vwCl (wA g ci h rw P T X) s.heap := hP
  have hl := lv_entry ([.ref h, .int t]) (n := 2) (Nat.le_of_ble_eq_true rfl)
  rw [lg_entry_eq]
  generalize (lg_sl ([.ref h, .int t]) ++ List.replicate (2 - (lg_sl ([.ref h, .int t])).length) Slot.unset).toArray = ls at hl ⊢
  have hl : lv_has ls 2 [(0, .ref h), (1, .int t)] := hl
  have hca : pkAll ci := pkSt_pkAll hci
  refine lv_aload_n hx hb dX6_putAct_0 rfl (lv_at hl 0 rfl) ?_
  refine va_get (D := D) (ci := ci) (v := .ref g.dn) (C := vn ci) (T := TX4) (N := 7) hx hb hg (pq_in hca) hown hK hP 0 rfl (pq_cl hca) 1 (by decide) (hg _ g_133) (u_same (hg _ g_134)) rfl dX6_putAct_1 ?_
  refine lv_iconst (v := 0) hx hb dX6_putAct_4 (by decide) ?_
  refine lv_iconst (v := 3) hx hb dX6_putAct_5 (by decide) ?_
  refine z_ve (va_runV (As := [.int 0, .int 3]) (rest := []) ⟨hx, hb, hml, hown, hts⟩ (c_X8_begin l D g X 0 3 _) (z_V 2 hts g_278 g_3 g_375 g_276 g_277 ⟨by decide, by decide, by decide +kernel⟩ ⟨Nat.le_of_ble_eq_true rfl, Nat.le_of_ble_eq_true rfl⟩) (z_preV (ci := 9) (q0 := 0) (hP.subm [7, 8] rfl) (hD.sub [7, 8] (by decide) rfl) hK rfl rfl) rfl rfl hl.1 rfl (lv_room (Nat.le_of_ble_eq_true rfl)) dX6_putAct_6 ⟨Nat.le_of_ble_eq_true rfl, Nat.le_of_ble_eq_true rfl⟩) hP hD hS hA (wP g ci h rw P ++ wT g T) (wA g ci h rw P T (fX8_beginS X 0 3)) [7, 8] [0, 1, 2, 3, 4, 5, 6] [0, 1, 2, 3, 4, 5, 6, 7, 8] rfl rfl (by decide) (by decide) rfl (by decide) (fun H locs hP hD hS => ?_)
  refine lv_aload_n hx hb dX6_putAct_9 rfl (lv_at hl 0 rfl) ?_
  refine z_ie (rv_X6_loadAct (rest := []) hci ⟨hx, hb, hml, hown, hts⟩ hP hD hK ⟨Nat.le_of_ble_eq_true rfl, Nat.le_of_ble_eq_true rfl⟩ rfl hl.1 rfl (lv_room (Nat.le_of_ble_eq_true rfl)) dX6_putAct_10 ⟨Nat.le_of_ble_eq_true rfl, Nat.le_of_ble_eq_true rfl⟩) hP hD hS hA (([] : va_W)) (wA g ci h rw P T ((kloadActS ci P T (fX8_beginS X 0 3)).2.2)) [0, 1, 2, 3, 4, 5, 6, 7, 8] [] [0, 1, 2, 3, 4, 5, 6, 7, 8] rfl rfl (by decide) (by decide) rfl (by decide) (fun H locs hP hD hS => ?_)
  refine lv_aload_n hx hb dX6_putAct_13 rfl (lv_at hl 0 rfl) ?_
  refine va_get (D := D) (ci := ci) (v := .ref g.tm) (C := vn ci) (T := TX4) (N := 7) hx hb hg (pq_in hca) hown hK hP 0 rfl (pq_cl hca) 0 (by decide) (hg _ g_122) (u_same (hg _ g_123)) rfl dX6_putAct_14 ?_
  refine lv_iload_n hx hb dX6_putAct_17 rfl (lv_at hl 1 rfl) ?_
  refine z_ie (va_runV (As := [.int t]) (rest := [.int (kloadActR ci P T (fX8_beginS X 0 3))]) ⟨hx, hb, hml, hown, hts⟩ (c_X7_weightOf l D g T t _) (z_V 1 hts g_321 g_2 g_505 g_319 g_320 ⟨by decide, by decide, by decide +kernel⟩ ⟨Nat.le_of_ble_eq_true rfl, Nat.le_of_ble_eq_true rfl⟩) (z_preV (ci := 8) (q0 := 0) (hP.subm [2, 3, 4, 5, 6] rfl) (hD.sub [2, 3, 4, 5, 6] (by decide) rfl) hK rfl rfl) rfl rfl hl.1 rfl (lv_room (Nat.le_of_ble_eq_true rfl)) dX6_putAct_18 ⟨Nat.le_of_ble_eq_true rfl, Nat.le_of_ble_eq_true rfl⟩) hP hD hS hA (wP g ci h rw P ++ wD g ((kloadActS ci P T (fX8_beginS X 0 3)).2.2)) (wA g ci h rw P T ((kloadActS ci P T (fX8_beginS X 0 3)).2.2)) [2, 3, 4, 5, 6] [0, 1, 7, 8] [0, 1, 4, 5, 6, 7, 8, 2, 3] rfl rfl (by decide) (by decide) rfl (by decide) (fun H locs hP hD hS => ?_)
  refine lv_iadd hx hb dX6_putAct_21 ?_
  refine lv_aload_n hx hb dX6_putAct_22 rfl (lv_at hl 0 rfl) ?_
  refine va_get (D := D) (ci := ci) (v := .int P.2.2.1) (C := vn ci) (T := TX4) (N := 7) hx hb hg (pq_in hca) hown hK hP 0 rfl (pq_cl hca) 4 (by decide) (hg _ g_146) (u_same (hg _ g_147)) rfl dX6_putAct_23 ?_
  refine lv_icmp_le (tgt := 38) hx hb dX6_putAct_26 (by decide) (fun c_1 => ?_) (fun c_1 => ?_)
  · -- ((kloadActR ci P T (fX8_beginS X 0 3)) + (fX7_weightOfR T t)) ≤ P.2.2.1
    refine lv_aload_n hx hb dX6_putAct_38 rfl (lv_at hl 0 rfl) ?_
    refine lv_iload_n hx hb dX6_putAct_39 rfl (lv_at hl 1 rfl) ?_
    refine z_ie (z_runSU (C := vn ci) (As := [.int t]) (rest := []) (hK.1 _ _ (pq_cl hca)).2 ⟨hx, hb, hml, hown, hts⟩ (c_X4_putAct l D g ci h rw hca P T ((kloadActS ci P T (fX8_beginS X 0 3)).2.2) t _) (z_SU (x := ⟨"PileHeirs$Marked", "putAct", "(I)I"⟩) (owner := RX4) 1 hts g_457 g_5 g_510 g_454 g_192 g_456 (by decide) ⟨by decide, by decide, by decide +kernel⟩ ⟨Nat.le_of_ble_eq_true rfl, Nat.le_of_ble_eq_true rfl⟩) (sb_Marked_Plain hg) (z_preV (ci := ci) (q0 := 0) (hP.subm [0, 1, 2, 3, 4, 5, 6, 7, 8] rfl) (hD.sub [0, 1, 2, 3, 4, 5, 6, 7, 8] (by decide) rfl) hK (pq_cl hca) rfl) rfl rfl hl.1 rfl (lv_room (Nat.le_of_ble_eq_true rfl)) dX6_putAct_40 ⟨Nat.le_of_ble_eq_true rfl, Nat.le_of_ble_eq_true rfl⟩) hP hD hS hA (([] : va_W)) (wA g ci h rw ((fX4_putActS P T ((kloadActS ci P T (fX8_beginS X 0 3)).2.2) t).1) ((fX4_putActS P T ((kloadActS ci P T (fX8_beginS X 0 3)).2.2) t).2.1) ((fX4_putActS P T ((kloadActS ci P T (fX8_beginS X 0 3)).2.2) t).2.2)) [0, 1, 2, 3, 4, 5, 6, 7, 8] [] [0, 1, 2, 3, 4, 5, 6, 7, 8] rfl rfl (by decide) (by decide) rfl (by decide) (fun H locs hP hD hS => ?_)
    exact W.iret (v := (fX4_putActR P T ((kloadActS ci P T (fX8_beginS X 0 3)).2.2) t)) hx hb hr (fun t9 ht hW => ⟨⟨(fX4_putActR P T ((kloadActS ci P T (fX8_beginS X 0 3)).2.2) t), wA g ci h rw ((fX4_putActS P T ((kloadActS ci P T (fX8_beginS X 0 3)).2.2) t).1) ((fX4_putActS P T ((kloadActS ci P T (fX8_beginS X 0 3)).2.2) t).2.1) ((fX4_putActS P T ((kloadActS ci P T (fX8_beginS X 0 3)).2.2) t).2.2), rfl, ⟨by simp only [fX6_putActR, if_pos c_1], by simp only [fX6_putActS, if_pos c_1]⟩, by rw [ht]; exact hP, va_K.moved hW.alike hK, hD⟩, hS.F ht⟩) hS.2.2 dX6_putAct_43
  · -- not ((kloadActR ci P T (fX8_beginS X 0 3)) + (fX7_weightOfR T t)) ≤ P.2.2.1
    refine lv_aload_n hx hb dX6_putAct_29 rfl (lv_at hl 0 rfl) ?_
    refine va_get (D := D) (ci := ci) (v := .ref g.dn) (C := vn ci) (T := TX4) (N := 7) hx hb hg (pq_in hca) hown hK hP 0 rfl (pq_cl hca) 1 (by decide) (hg _ g_133) (u_same (hg _ g_134)) rfl dX6_putAct_30 ?_
    refine z_ve (va_runV (As := []) (rest := []) ⟨hx, hb, hml, hown, hts⟩ (c_X8_countHeavy l D g ((kloadActS ci P T (fX8_beginS X 0 3)).2.2) _) (z_V 0 hts g_509 g_3 g_506 g_507 g_508 ⟨by decide, by decide, by decide +kernel⟩ ⟨Nat.le_of_ble_eq_true rfl, Nat.le_of_ble_eq_true rfl⟩) (z_preV (ci := 9) (q0 := 0) (hP.subm [7, 8] rfl) (hD.sub [7, 8] (by decide) rfl) hK rfl rfl) rfl rfl hl.1 rfl (lv_room (Nat.le_of_ble_eq_true rfl)) dX6_putAct_33 ⟨Nat.le_of_ble_eq_true rfl, Nat.le_of_ble_eq_true rfl⟩) hP hD hS hA (wP g ci h rw P ++ wT g T) (wA g ci h rw P T (fX8_countHeavyS ((kloadActS ci P T (fX8_beginS X 0 3)).2.2))) [7, 8] [0, 1, 2, 3, 4, 5, 6] [0, 1, 2, 3, 4, 5, 6, 7, 8] rfl rfl (by decide) (by decide) rfl (by decide) (fun H locs hP hD hS => ?_)
    refine lv_iconst (v := 2) hx hb dX6_putAct_36 (by decide) ?_
    exact W.iret (v := 2) hx hb hr (fun t9 ht hW => ⟨⟨2, wA g ci h rw P T (fX8_countHeavyS ((kloadActS ci P T (fX8_beginS X 0 3)).2.2)), rfl, ⟨by simp only [fX6_putActR, if_neg c_1], by simp only [fX6_putActS, if_neg c_1]⟩, by rw [ht]; exact hP, va_K.moved hW.alike hK, hD⟩, hS.F ht⟩) hS.2.2 dX6_putAct_37

def fX6_freeActR (ci : Nat) (P : PP) (T : TT) (X : DD)  : Int32 := (if (kloadActR ci P T (fX8_beginS X 4 3)) < P.2.2.1 then (fX4_freeActR P T ((kloadActS ci P T (fX8_beginS X 4 3)).2.2)) else 0)
def fX6_freeActS (ci : Nat) (P : PP) (T : TT) (X : DD)  : PP × TT × DD := (P, T, (if (kloadActR ci P T (fX8_beginS X 4 3)) < P.2.2.1 then (fX4_freeActS P T ((kloadActS ci P T (fX8_beginS X 4 3)).2.2)).2.2 else (kloadActS ci P T (fX8_beginS X 4 3)).2.2))
set_option maxHeartbeats 4000000 in
set_option maxRecDepth 100000 in
theorem c_X6_freeAct (l : Launch) (D : va_G) (g : GA) (ci h rw : Nat) (hci : pkSt ci) (P : PP) (T : TT) (X : DD)  : ctI l D (tyA g) yX6_freeAct (wd yX6_freeAct cX6_freeAct 1 (Option.some Jvm.ClassFile.FieldType.int)) { frames := 4, cells := 0, slots := 0, locals := 84 } [.ref h] (wA g ci h rw P T X) (fun r w => r = fX6_freeActR ci P T X ∧ w = wA g ci h rw (fX6_freeActS ci P T X).1 (fX6_freeActS ci P T X).2.1 (fX6_freeActS ci P T X).2.2) := by
  intro sz
  refine Met.ofW (cc := cX6_freeAct) (maxL := 1) (ret := (Option.some Jvm.ClassFile.FieldType.int)) (by decide) rfl ?_
  intro p e s m args below meth c s₁ B hml hv
  obtain ⟨rfl, hsz, hP, hK, hD0⟩ := hv
  have hx := B.exec
  have hb := B.bytes
  have hr := B.returns
  have hts := atoms_spec (ws := (wd yX6_freeAct cX6_freeAct 1 (Option.some Jvm.ClassFile.FieldType.int))) B.pre
  have hg := Tb.of hts
  have hown : s.vm.findClass RX6 = some m.cls := findClass_of_methodNamed B.named
  have hlocks := B.notSynchronized
  subst hsz
  have hD := hD0.self (sz := s.heap.size)
  generalize hAe : va_A (wA g ci h rw P T X) s.heap.size = A at hD ⊢
  have hA : ∀ q : Nat, s.heap.size ≤ q → A q := fun q h => by rw [← hAe]; exact Or.inr h
  have hS : va_S A s.heap s.heap [] := va_S.rf
  have hP : va_P D vwCl (wA g ci h rw P T X) s.heap := hP
  have hl := lv_entry ([.ref h]) (n := 1) (Nat.le_of_ble_eq_true rfl)
  rw [lg_entry_eq]
  generalize (lg_sl ([.ref h]) ++ List.replicate (1 - (lg_sl ([.ref h])).length) Slot.unset).toArray = ls at hl ⊢
  have hl : lv_has ls 1 [(0, .ref h)] := hl
  have hca : pkAll ci := pkSt_pkAll hci
  refine lv_aload_n hx hb dX6_freeAct_0 rfl (lv_at hl 0 rfl) ?_
  refine va_get (D := D) (ci := ci) (v := .ref g.dn) (C := vn ci) (T := TX4) (N := 7) hx hb hg (pq_in hca) hown hK hP 0 rfl (pq_cl hca) 1 (by decide) (hg _ g_133) (u_same (hg _ g_134)) rfl dX6_freeAct_1 ?_
  refine lv_iconst (v := 4) hx hb dX6_freeAct_4 (by decide) ?_
  refine lv_iconst (v := 3) hx hb dX6_freeAct_5 (by decide) ?_
  refine z_ve (va_runV (As := [.int 4, .int 3]) (rest := []) ⟨hx, hb, hml, hown, hts⟩ (c_X8_begin l D g X 4 3 _) (z_V 2 hts g_278 g_3 g_375 g_276 g_277 ⟨by decide, by decide, by decide +kernel⟩ ⟨Nat.le_of_ble_eq_true rfl, Nat.le_of_ble_eq_true rfl⟩) (z_preV (ci := 9) (q0 := 0) (hP.subm [7, 8] rfl) (hD.sub [7, 8] (by decide) rfl) hK rfl rfl) rfl rfl hl.1 rfl (lv_room (Nat.le_of_ble_eq_true rfl)) dX6_freeAct_6 ⟨Nat.le_of_ble_eq_true rfl, Nat.le_of_ble_eq_true rfl⟩) hP hD hS hA (wP g ci h rw P ++ wT g T) (wA g ci h rw P T (fX8_beginS X 4 3)) [7, 8] [0, 1, 2, 3, 4, 5, 6] [0, 1, 2, 3, 4, 5, 6, 7, 8] rfl rfl (by decide) (by decide) rfl (by decide) (fun H locs hP hD hS => ?_)
  refine lv_aload_n hx hb dX6_freeAct_9 rfl (lv_at hl 0 rfl) ?_
  refine z_ie (rv_X6_loadAct (rest := []) hci ⟨hx, hb, hml, hown, hts⟩ hP hD hK ⟨Nat.le_of_ble_eq_true rfl, Nat.le_of_ble_eq_true rfl⟩ rfl hl.1 rfl (lv_room (Nat.le_of_ble_eq_true rfl)) dX6_freeAct_10 ⟨Nat.le_of_ble_eq_true rfl, Nat.le_of_ble_eq_true rfl⟩) hP hD hS hA (([] : va_W)) (wA g ci h rw P T ((kloadActS ci P T (fX8_beginS X 4 3)).2.2)) [0, 1, 2, 3, 4, 5, 6, 7, 8] [] [0, 1, 2, 3, 4, 5, 6, 7, 8] rfl rfl (by decide) (by decide) rfl (by decide) (fun H locs hP hD hS => ?_)
  refine lv_aload_n hx hb dX6_freeAct_13 rfl (lv_at hl 0 rfl) ?_
  refine va_get (D := D) (ci := ci) (v := .int P.2.2.1) (C := vn ci) (T := TX4) (N := 7) hx hb hg (pq_in hca) hown hK hP 0 rfl (pq_cl hca) 4 (by decide) (hg _ g_146) (u_same (hg _ g_147)) rfl dX6_freeAct_14 ?_
  refine lv_icmp_lt (tgt := 24) hx hb dX6_freeAct_17 (by decide) (fun c_1 => ?_) (fun c_1 => ?_)
  · -- (kloadActR ci P T (fX8_beginS X 4 3)) < P.2.2.1
    refine lv_aload_n hx hb dX6_freeAct_24 rfl (lv_at hl 0 rfl) ?_
    refine z_ie (z_runSU (C := vn ci) (As := []) (rest := []) (hK.1 _ _ (pq_cl hca)).2 ⟨hx, hb, hml, hown, hts⟩ (c_X4_freeAct l D g ci h rw hca P T ((kloadActS ci P T (fX8_beginS X 4 3)).2.2) _) (z_SU (x := ⟨"PileHeirs$Marked", "freeAct", "()I"⟩) (owner := RX4) 0 hts g_391 g_5 g_380 g_381 g_192 g_362 (by decide) ⟨by decide, by decide, by decide +kernel⟩ ⟨Nat.le_of_ble_eq_true rfl, Nat.le_of_ble_eq_true rfl⟩) (sb_Marked_Plain hg) (z_preV (ci := ci) (q0 := 0) (hP.subm [0, 1, 2, 3, 4, 5, 6, 7, 8] rfl) (hD.sub [0, 1, 2, 3, 4, 5, 6, 7, 8] (by decide) rfl) hK (pq_cl hca) rfl) rfl rfl hl.1 rfl (lv_room (Nat.le_of_ble_eq_true rfl)) dX6_freeAct_25 ⟨Nat.le_of_ble_eq_true rfl, Nat.le_of_ble_eq_true rfl⟩) hP hD hS hA (([] : va_W)) (wA g ci h rw P T ((fX4_freeActS P T ((kloadActS ci P T (fX8_beginS X 4 3)).2.2)).2.2)) [0, 1, 2, 3, 4, 5, 6, 7, 8] [] [0, 1, 2, 3, 4, 5, 6, 7, 8] rfl rfl (by decide) (by decide) rfl (by decide) (fun H locs hP hD hS => ?_)
    exact W.iret (v := (fX4_freeActR P T ((kloadActS ci P T (fX8_beginS X 4 3)).2.2))) hx hb hr (fun t9 ht hW => ⟨⟨(fX4_freeActR P T ((kloadActS ci P T (fX8_beginS X 4 3)).2.2)), wA g ci h rw P T ((fX4_freeActS P T ((kloadActS ci P T (fX8_beginS X 4 3)).2.2)).2.2), rfl, ⟨by simp only [fX6_freeActR, if_pos c_1], by simp only [fX6_freeActS, if_pos c_1]⟩, by rw [ht]; exact hP, va_K.moved hW.alike hK, hD⟩, hS.F ht⟩) hS.2.2 dX6_freeAct_28
  · -- not (kloadActR ci P T (fX8_beginS X 4 3)) < P.2.2.1
    refine lv_iconst (v := 0) hx hb dX6_freeAct_20 (by decide) ?_
    refine lv_goto (tgt := 28) hx hb dX6_freeAct_21 (by decide) ?_
    exact W.iret (v := 0) hx hb hr (fun t9 ht hW => ⟨⟨0, wA g ci h rw P T ((kloadActS ci P T (fX8_beginS X 4 3)).2.2), rfl, ⟨by simp only [fX6_freeActR, if_neg c_1], by simp only [fX6_freeActS, if_neg c_1]⟩, by rw [ht]; exact hP, va_K.moved hW.alike hK, hD⟩, hS.F ht⟩) hS.2.2 dX6_freeAct_28

def kputActR (ci : Nat) (P : PP) (T : TT) (X : DD) (t : Int32) : Int32 := match ci with | 5 => fX4_putActR P T X t | 3 => fX4_putActR P T X t | 6 => fX5_putActR P T X t | 1 => fX5_putActR P T X t | 4 => fX3_putActR P T X t | _ => fX6_putActR ci P T X t
def kputActS (ci : Nat) (P : PP) (T : TT) (X : DD) (t : Int32) : PP × TT × DD := ((match ci with | 5 => (fX4_putActS P T X t).1 | 3 => (fX4_putActS P T X t).1 | 6 => (fX5_putActS P T X t).1 | 1 => (fX5_putActS P T X t).1 | 4 => (fX3_putActS P T X t).1 | _ => (fX6_putActS ci P T X t).1), (match ci with | 5 => (fX4_putActS P T X t).2.1 | 3 => (fX4_putActS P T X t).2.1 | 6 => (fX5_putActS P T X t).2.1 | 1 => (fX5_putActS P T X t).2.1 | 4 => (fX3_putActS P T X t).2.1 | _ => (fX6_putActS ci P T X t).2.1), (match ci with | 5 => (fX4_putActS P T X t).2.2 | 3 => (fX4_putActS P T X t).2.2 | 6 => (fX5_putActS P T X t).2.2 | 1 => (fX5_putActS P T X t).2.2 | 4 => (fX3_putActS P T X t).2.2 | _ => (fX6_putActS ci P T X t).2.2))

set_option maxHeartbeats 4000000 in
set_option maxRecDepth 100000 in
theorem rv_X0_putAct {p : Program} {l : Launch} {e : Env} {R : Room} {s : State} {m : MethodId} {args : Array Value} {below : List Frame} {meth : Method} {c : Code} {H : Heap} {locs : List Loc} {cells slots : Nat} {y0 : MethodName} {b0 cc : ByteArray} {n0 nL : Nat} {r0 : Option FieldType} {D : va_G} {g : GA} {ci h rw : Nat} {P : PP} {T : TT} {X : DD} {B : Nat → Prop} {rest : List Value} {fr : JFrame} {t : Int32}
    (hci : pkDr ci) (S : CallFix p m c cc nL s args (wd y0 b0 n0 r0) RX0) (hP : va_P D vwCl (wA g ci h rw P T X) H) (hD : va_D B (wA g ci h rw P T X)) (hK : va_K D vwCl (tyA g) s) (hR : 5 ≤ R.frames ∧ 107 ≤ R.locals) (hg : fr.method = m) (hsize : fr.locals.size = nL) (hstack : fr.stack = [.int t].reverse ++ .ref h :: rest) (hW : 2 * fr.monitorRoom + (rest.map fun v => v.category).sum ≤ 8) (hdg : decode cc fr.pc = .ok (.invokevirtual 43, 3)) (hf : cells + 0 ≤ R.cells ∧ slots + 0 ≤ R.slots) :
    va_Run p l e R s m args below meth c H locs cells slots 0 0 fr rest (va_Qi (fun r w => r = kputActR ci P T X t ∧ w = wA g ci h rw (kputActS ci P T X t).1 (kputActS ci P T X t).2.1 (kputActS ci P T X t).2.2) (ctB D (tyA g) (va_A (wA g ci h rw P T X) H.size)) (va_A (wA g ci h rw P T X) H.size) (Value.ref h :: [.int t]).toArray) (va_A (wA g ci h rw P T X) H.size) := by
  rcases hci with rfl | rfl
  · exact va_runU (C := vn 1) (As := [.int t]) S (c_X5_putAct l D g 1 h rw (by simp [pkSo]) P T X t _) (z_U (x := ⟨"PileHeirs$Drying", "putAct", "(I)I"⟩) (owner := RX5) 1 S.2.2.2.2 g_451 g_7 g_440 g_441 g_450 g_451 g_443 g_450 ⟨by decide, by decide, by decide +kernel⟩ ⟨Nat.le_trans (Nat.le_of_ble_eq_true rfl) hR.1, Nat.le_trans (Nat.le_of_ble_eq_true rfl) hR.2⟩) (z_preV (ci := 1) (q0 := 0) hP hD hK (pq_cl (by simp [pkAll])) rfl) hg rfl hsize hstack hW hdg hf
  · exact va_runU (C := vn 4) (As := [.int t]) S (c_X3_putAct l D g 4 h rw (by simp [pkOp]) P T X t _) (z_U (x := ⟨"PileHeirs$Drying", "putAct", "(I)I"⟩) (owner := RX5) 1 S.2.2.2.2 g_446 g_11 g_440 g_441 g_450 g_451 g_444 g_445 ⟨by decide, by decide, by decide +kernel⟩ ⟨Nat.le_trans (Nat.le_of_ble_eq_true rfl) hR.1, Nat.le_trans (Nat.le_of_ble_eq_true rfl) hR.2⟩) (z_preV (ci := 4) (q0 := 0) hP hD hK (pq_cl (by simp [pkAll])) rfl) hg rfl hsize hstack hW hdg hf

def fX0_takeActR (ci : Nat) (P : PP) (T : TT) (X : DD)  : Int32 := (if (fX4_takeActR P T (fX8_beginS X 1 4)) = (-1) then (-2) else (if (fX7_isWetR ((fX4_takeActS P T (fX8_beginS X 1 4)).2.1) (fX4_takeActR P T (fX8_beginS X 1 4))) = 0 then (fX4_takeActR P T (fX8_beginS X 1 4)) else (fX4_takeActR ((kputActS ci ((fX4_takeActS P T (fX8_beginS X 1 4)).1) (fX7_setWetS ((fX4_takeActS P T (fX8_beginS X 1 4)).2.1) (fX4_takeActR P T (fX8_beginS X 1 4)) 0) ((fX4_takeActS P T (fX8_beginS X 1 4)).2.2) (fX4_takeActR P T (fX8_beginS X 1 4))).1) ((kputActS ci ((fX4_takeActS P T (fX8_beginS X 1 4)).1) (fX7_setWetS ((fX4_takeActS P T (fX8_beginS X 1 4)).2.1) (fX4_takeActR P T (fX8_beginS X 1 4)) 0) ((fX4_takeActS P T (fX8_beginS X 1 4)).2.2) (fX4_takeActR P T (fX8_beginS X 1 4))).2.1) ((kputActS ci ((fX4_takeActS P T (fX8_beginS X 1 4)).1) (fX7_setWetS ((fX4_takeActS P T (fX8_beginS X 1 4)).2.1) (fX4_takeActR P T (fX8_beginS X 1 4)) 0) ((fX4_takeActS P T (fX8_beginS X 1 4)).2.2) (fX4_takeActR P T (fX8_beginS X 1 4))).2.2))))
def fX0_takeActS (ci : Nat) (P : PP) (T : TT) (X : DD)  : PP × TT × DD := ((if (fX4_takeActR P T (fX8_beginS X 1 4)) = (-1) then (fX4_takeActS P T (fX8_beginS X 1 4)).1 else (if (fX7_isWetR ((fX4_takeActS P T (fX8_beginS X 1 4)).2.1) (fX4_takeActR P T (fX8_beginS X 1 4))) = 0 then (fX4_takeActS P T (fX8_beginS X 1 4)).1 else (fX4_takeActS ((kputActS ci ((fX4_takeActS P T (fX8_beginS X 1 4)).1) (fX7_setWetS ((fX4_takeActS P T (fX8_beginS X 1 4)).2.1) (fX4_takeActR P T (fX8_beginS X 1 4)) 0) ((fX4_takeActS P T (fX8_beginS X 1 4)).2.2) (fX4_takeActR P T (fX8_beginS X 1 4))).1) ((kputActS ci ((fX4_takeActS P T (fX8_beginS X 1 4)).1) (fX7_setWetS ((fX4_takeActS P T (fX8_beginS X 1 4)).2.1) (fX4_takeActR P T (fX8_beginS X 1 4)) 0) ((fX4_takeActS P T (fX8_beginS X 1 4)).2.2) (fX4_takeActR P T (fX8_beginS X 1 4))).2.1) ((kputActS ci ((fX4_takeActS P T (fX8_beginS X 1 4)).1) (fX7_setWetS ((fX4_takeActS P T (fX8_beginS X 1 4)).2.1) (fX4_takeActR P T (fX8_beginS X 1 4)) 0) ((fX4_takeActS P T (fX8_beginS X 1 4)).2.2) (fX4_takeActR P T (fX8_beginS X 1 4))).2.2)).1)), (if (fX4_takeActR P T (fX8_beginS X 1 4)) = (-1) then (fX4_takeActS P T (fX8_beginS X 1 4)).2.1 else (if (fX7_isWetR ((fX4_takeActS P T (fX8_beginS X 1 4)).2.1) (fX4_takeActR P T (fX8_beginS X 1 4))) = 0 then (fX4_takeActS P T (fX8_beginS X 1 4)).2.1 else (fX4_takeActS ((kputActS ci ((fX4_takeActS P T (fX8_beginS X 1 4)).1) (fX7_setWetS ((fX4_takeActS P T (fX8_beginS X 1 4)).2.1) (fX4_takeActR P T (fX8_beginS X 1 4)) 0) ((fX4_takeActS P T (fX8_beginS X 1 4)).2.2) (fX4_takeActR P T (fX8_beginS X 1 4))).1) ((kputActS ci ((fX4_takeActS P T (fX8_beginS X 1 4)).1) (fX7_setWetS ((fX4_takeActS P T (fX8_beginS X 1 4)).2.1) (fX4_takeActR P T (fX8_beginS X 1 4)) 0) ((fX4_takeActS P T (fX8_beginS X 1 4)).2.2) (fX4_takeActR P T (fX8_beginS X 1 4))).2.1) ((kputActS ci ((fX4_takeActS P T (fX8_beginS X 1 4)).1) (fX7_setWetS ((fX4_takeActS P T (fX8_beginS X 1 4)).2.1) (fX4_takeActR P T (fX8_beginS X 1 4)) 0) ((fX4_takeActS P T (fX8_beginS X 1 4)).2.2) (fX4_takeActR P T (fX8_beginS X 1 4))).2.2)).2.1)), (if (fX4_takeActR P T (fX8_beginS X 1 4)) = (-1) then fX8_countNothingS ((fX4_takeActS P T (fX8_beginS X 1 4)).2.2) else (if (fX7_isWetR ((fX4_takeActS P T (fX8_beginS X 1 4)).2.1) (fX4_takeActR P T (fX8_beginS X 1 4))) = 0 then (fX4_takeActS P T (fX8_beginS X 1 4)).2.2 else (fX4_takeActS ((kputActS ci ((fX4_takeActS P T (fX8_beginS X 1 4)).1) (fX7_setWetS ((fX4_takeActS P T (fX8_beginS X 1 4)).2.1) (fX4_takeActR P T (fX8_beginS X 1 4)) 0) ((fX4_takeActS P T (fX8_beginS X 1 4)).2.2) (fX4_takeActR P T (fX8_beginS X 1 4))).1) ((kputActS ci ((fX4_takeActS P T (fX8_beginS X 1 4)).1) (fX7_setWetS ((fX4_takeActS P T (fX8_beginS X 1 4)).2.1) (fX4_takeActR P T (fX8_beginS X 1 4)) 0) ((fX4_takeActS P T (fX8_beginS X 1 4)).2.2) (fX4_takeActR P T (fX8_beginS X 1 4))).2.1) ((kputActS ci ((fX4_takeActS P T (fX8_beginS X 1 4)).1) (fX7_setWetS ((fX4_takeActS P T (fX8_beginS X 1 4)).2.1) (fX4_takeActR P T (fX8_beginS X 1 4)) 0) ((fX4_takeActS P T (fX8_beginS X 1 4)).2.2) (fX4_takeActR P T (fX8_beginS X 1 4))).2.2)).2.2)))
set_option maxHeartbeats 4000000 in
set_option maxRecDepth 100000 in
theorem c_X0_takeAct (l : Launch) (D : va_G) (g : GA) (ci h rw : Nat) (hci : pkDr ci) (P : PP) (T : TT) (X : DD)  : ctI l D (tyA g) yX0_takeAct (wd yX0_takeAct cX0_takeAct 2 (Option.some Jvm.ClassFile.FieldType.int)) { frames := 5, cells := 0, slots := 0, locals := 107 } [.ref h] (wA g ci h rw P T X) (fun r w => r = fX0_takeActR ci P T X ∧ w = wA g ci h rw (fX0_takeActS ci P T X).1 (fX0_takeActS ci P T X).2.1 (fX0_takeActS ci P T X).2.2) := by
  intro sz
  refine Met.ofW (cc := cX0_takeAct) (maxL := 2) (ret := (Option.some Jvm.ClassFile.FieldType.int)) (by decide) rfl ?_
  intro p e s m args below meth c s₁ B hml hv
  obtain ⟨rfl, hsz, hP, hK, hD0⟩ := hv
  have hx := B.exec
  have hb := B.bytes
  have hr := B.returns
  have hts := atoms_spec (ws := (wd yX0_takeAct cX0_takeAct 2 (Option.some Jvm.ClassFile.FieldType.int))) B.pre
  have hg := Tb.of hts
  have hown : s.vm.findClass RX0 = some m.cls := findClass_of_methodNamed B.named
  have hlocks := B.notSynchronized
  subst hsz
  have hD := hD0.self (sz := s.heap.size)
  generalize hAe : va_A (wA g ci h rw P T X) s.heap.size = A at hD ⊢
  have hA : ∀ q : Nat, s.heap.size ≤ q → A q := fun q h => by rw [← hAe]; exact Or.inr h
  have hS : va_S A s.heap s.heap [] := va_S.rf
  have hP : va_P D vwCl (wA g ci h rw P T X) s.heap := hP
  have hl := lv_entry ([.ref h]) (n := 2) (Nat.le_of_ble_eq_true rfl)
  rw [lg_entry_eq]
  generalize (lg_sl ([.ref h]) ++ List.replicate (2 - (lg_sl ([.ref h])).length) Slot.unset).toArray = ls at hl ⊢
  have hl : lv_has ls 2 [(0, .ref h)] := hl
  have hca : pkAll ci := pkDr_pkAll hci
  refine lv_aload_n hx hb dX0_takeAct_0 rfl (lv_at hl 0 rfl) ?_
  refine va_get (D := D) (ci := ci) (v := .ref g.dn) (C := vn ci) (T := TX4) (N := 7) hx hb hg (pq_in hca) hown hK hP 0 rfl (pq_cl hca) 1 (by decide) (hg _ g_139) (u_same (hg _ g_140)) rfl dX0_takeAct_1 ?_
  refine lv_iconst (v := 1) hx hb dX0_takeAct_4 (by decide) ?_
  refine lv_iconst (v := 4) hx hb dX0_takeAct_5 (by decide) ?_
  refine z_ve (va_runV (As := [.int 1, .int 4]) (rest := []) ⟨hx, hb, hml, hown, hts⟩ (c_X8_begin l D g X 1 4 _) (z_V 2 hts g_278 g_3 g_333 g_276 g_277 ⟨by decide, by decide, by decide +kernel⟩ ⟨Nat.le_of_ble_eq_true rfl, Nat.le_of_ble_eq_true rfl⟩) (z_preV (ci := 9) (q0 := 0) (hP.subm [7, 8] rfl) (hD.sub [7, 8] (by decide) rfl) hK rfl rfl) rfl rfl hl.1 rfl (lv_room (Nat.le_of_ble_eq_true rfl)) dX0_takeAct_6 ⟨Nat.le_of_ble_eq_true rfl, Nat.le_of_ble_eq_true rfl⟩) hP hD hS hA (wP g ci h rw P ++ wT g T) (wA g ci h rw P T (fX8_beginS X 1 4)) [7, 8] [0, 1, 2, 3, 4, 5, 6] [0, 1, 2, 3, 4, 5, 6, 7, 8] rfl rfl (by decide) (by decide) rfl (by decide) (fun H locs hP hD hS => ?_)
  refine lv_aload_n hx hb dX0_takeAct_9 rfl (lv_at hl 0 rfl) ?_
  refine z_ie (z_runSU (C := vn ci) (As := []) (rest := []) (hK.1 _ _ (pq_cl hca)).2 ⟨hx, hb, hml, hown, hts⟩ (c_X4_takeAct l D g ci h rw hca P T (fX8_beginS X 1 4) _) (z_SU (x := ⟨"PileHeirs$Sorted", "takeAct", "()I"⟩) (owner := RX4) 0 hts g_501 g_5 g_429 g_430 g_206 g_423 (by decide) ⟨by decide, by decide, by decide +kernel⟩ ⟨Nat.le_of_ble_eq_true rfl, Nat.le_of_ble_eq_true rfl⟩) (sb_Sorted_Plain hg) (z_preV (ci := ci) (q0 := 0) (hP.subm [0, 1, 2, 3, 4, 5, 6, 7, 8] rfl) (hD.sub [0, 1, 2, 3, 4, 5, 6, 7, 8] (by decide) rfl) hK (pq_cl hca) rfl) rfl rfl hl.1 rfl (lv_room (Nat.le_of_ble_eq_true rfl)) dX0_takeAct_10 ⟨Nat.le_of_ble_eq_true rfl, Nat.le_of_ble_eq_true rfl⟩) hP hD hS hA (([] : va_W)) (wA g ci h rw ((fX4_takeActS P T (fX8_beginS X 1 4)).1) ((fX4_takeActS P T (fX8_beginS X 1 4)).2.1) ((fX4_takeActS P T (fX8_beginS X 1 4)).2.2)) [0, 1, 2, 3, 4, 5, 6, 7, 8] [] [0, 1, 2, 3, 4, 5, 6, 7, 8] rfl rfl (by decide) (by decide) rfl (by decide) (fun H locs hP hD hS => ?_)
  refine lv_istore_n (lv' := [(1, .int (fX4_takeActR P T (fX8_beginS X 1 4))), (0, .ref h)]) hx hb dX0_takeAct_13 rfl hl (by decide) rfl (fun ls hl => ?_)
  refine lv_iload_n hx hb dX0_takeAct_14 rfl (lv_at hl 0 rfl) ?_
  refine lv_iconst (v := (-1)) hx hb dX0_takeAct_15 (by decide) ?_
  refine lv_icmp_ne (tgt := 29) hx hb dX0_takeAct_16 (by decide) (fun c_1 => ?_) (fun c_1 => ?_)
  · -- not (fX4_takeActR P T (fX8_beginS X 1 4)) = (-1)
    refine lv_aload_n hx hb dX0_takeAct_29 rfl (lv_at hl 1 rfl) ?_
    refine va_get (D := D) (ci := ci) (v := .ref g.tm) (C := vn ci) (T := TX4) (N := 7) hx hb hg (pq_in hca) hown hK hP 0 rfl (pq_cl hca) 0 (by decide) (hg _ g_126) (u_same (hg _ g_127)) rfl dX0_takeAct_30 ?_
    refine lv_iload_n hx hb dX0_takeAct_33 rfl (lv_at hl 0 rfl) ?_
    refine z_ie (va_runV (As := [.int (fX4_takeActR P T (fX8_beginS X 1 4))]) (rest := []) ⟨hx, hb, hml, hown, hts⟩ (c_X7_isWet l D g ((fX4_takeActS P T (fX8_beginS X 1 4)).2.1) (fX4_takeActR P T (fX8_beginS X 1 4)) _) (z_V 1 hts g_307 g_2 g_341 g_305 g_306 ⟨by decide, by decide, by decide +kernel⟩ ⟨Nat.le_of_ble_eq_true rfl, Nat.le_of_ble_eq_true rfl⟩) (z_preV (ci := 8) (q0 := 0) (hP.subm [2, 3, 4, 5, 6] rfl) (hD.sub [2, 3, 4, 5, 6] (by decide) rfl) hK rfl rfl) rfl rfl hl.1 rfl (lv_room (Nat.le_of_ble_eq_true rfl)) dX0_takeAct_34 ⟨Nat.le_of_ble_eq_true rfl, Nat.le_of_ble_eq_true rfl⟩) hP hD hS hA (wP g ci h rw ((fX4_takeActS P T (fX8_beginS X 1 4)).1) ++ wD g ((fX4_takeActS P T (fX8_beginS X 1 4)).2.2)) (wA g ci h rw ((fX4_takeActS P T (fX8_beginS X 1 4)).1) ((fX4_takeActS P T (fX8_beginS X 1 4)).2.1) ((fX4_takeActS P T (fX8_beginS X 1 4)).2.2)) [2, 3, 4, 5, 6] [0, 1, 7, 8] [0, 1, 4, 5, 6, 7, 8, 2, 3] rfl rfl (by decide) (by decide) rfl (by decide) (fun H locs hP hD hS => ?_)
    refine lv_if_ne (tgt := 42) hx hb dX0_takeAct_37 (by decide) (fun c_2 => ?_) (fun c_2 => ?_)
    · -- not (fX7_isWetR ((fX4_takeActS P T (fX8_beginS X 1 4)).2.1) (fX4_takeActR P T (fX8_beginS X 1 4))) = 0
      refine lv_aload_n hx hb dX0_takeAct_42 rfl (lv_at hl 1 rfl) ?_
      refine va_get (D := D) (ci := ci) (v := .ref g.tm) (C := vn ci) (T := TX4) (N := 7) hx hb hg (pq_in hca) hown hK hP 0 rfl (pq_cl hca) 0 (by decide) (hg _ g_126) (u_same (hg _ g_127)) rfl dX0_takeAct_43 ?_
      refine lv_iload_n hx hb dX0_takeAct_46 rfl (lv_at hl 0 rfl) ?_
      refine lv_iconst (v := 0) hx hb dX0_takeAct_47 (by decide) ?_
      refine z_ve (va_runV (As := [.int (fX4_takeActR P T (fX8_beginS X 1 4)), .int 0]) (rest := []) ⟨hx, hb, hml, hown, hts⟩ (c_X7_setWet l D g ((fX4_takeActS P T (fX8_beginS X 1 4)).2.1) (fX4_takeActR P T (fX8_beginS X 1 4)) 0 _) (z_V 2 hts g_439 g_2 g_436 g_437 g_438 ⟨by decide, by decide, by decide +kernel⟩ ⟨Nat.le_of_ble_eq_true rfl, Nat.le_of_ble_eq_true rfl⟩) (z_preV (ci := 8) (q0 := 0) (hP.subm [2, 3, 4, 5, 6] rfl) (hD.sub [2, 3, 4, 5, 6] (by decide) rfl) hK rfl rfl) rfl rfl hl.1 rfl (lv_room (Nat.le_of_ble_eq_true rfl)) dX0_takeAct_48 ⟨Nat.le_of_ble_eq_true rfl, Nat.le_of_ble_eq_true rfl⟩) hP hD hS hA (wP g ci h rw ((fX4_takeActS P T (fX8_beginS X 1 4)).1) ++ wD g ((fX4_takeActS P T (fX8_beginS X 1 4)).2.2)) (wA g ci h rw ((fX4_takeActS P T (fX8_beginS X 1 4)).1) (fX7_setWetS ((fX4_takeActS P T (fX8_beginS X 1 4)).2.1) (fX4_takeActR P T (fX8_beginS X 1 4)) 0) ((fX4_takeActS P T (fX8_beginS X 1 4)).2.2)) [2, 3, 4, 5, 6] [0, 1, 7, 8] [0, 1, 4, 5, 6, 7, 8, 2, 3] rfl rfl (by decide) (by decide) rfl (by decide) (fun H locs hP hD hS => ?_)
      refine lv_aload_n hx hb dX0_takeAct_51 rfl (lv_at hl 1 rfl) ?_
      refine lv_iload_n hx hb dX0_takeAct_52 rfl (lv_at hl 0 rfl) ?_
      refine z_ie (rv_X0_putAct (rest := []) hci ⟨hx, hb, hml, hown, hts⟩ hP hD hK ⟨Nat.le_of_ble_eq_true rfl, Nat.le_of_ble_eq_true rfl⟩ rfl hl.1 rfl (lv_room (Nat.le_of_ble_eq_true rfl)) dX0_takeAct_53 ⟨Nat.le_of_ble_eq_true rfl, Nat.le_of_ble_eq_true rfl⟩) hP hD hS hA (([] : va_W)) (wA g ci h rw ((kputActS ci ((fX4_takeActS P T (fX8_beginS X 1 4)).1) (fX7_setWetS ((fX4_takeActS P T (fX8_beginS X 1 4)).2.1) (fX4_takeActR P T (fX8_beginS X 1 4)) 0) ((fX4_takeActS P T (fX8_beginS X 1 4)).2.2) (fX4_takeActR P T (fX8_beginS X 1 4))).1) ((kputActS ci ((fX4_takeActS P T (fX8_beginS X 1 4)).1) (fX7_setWetS ((fX4_takeActS P T (fX8_beginS X 1 4)).2.1) (fX4_takeActR P T (fX8_beginS X 1 4)) 0) ((fX4_takeActS P T (fX8_beginS X 1 4)).2.2) (fX4_takeActR P T (fX8_beginS X 1 4))).2.1) ((kputActS ci ((fX4_takeActS P T (fX8_beginS X 1 4)).1) (fX7_setWetS ((fX4_takeActS P T (fX8_beginS X 1 4)).2.1) (fX4_takeActR P T (fX8_beginS X 1 4)) 0) ((fX4_takeActS P T (fX8_beginS X 1 4)).2.2) (fX4_takeActR P T (fX8_beginS X 1 4))).2.2)) [0, 1, 2, 3, 4, 5, 6, 7, 8] [] [0, 1, 2, 3, 4, 5, 6, 7, 8] rfl rfl (by decide) (by decide) rfl (by decide) (fun H locs hP hD hS => ?_)
      refine lv_pop hx hb dX0_takeAct_56 rfl ?_
      refine lv_aload_n hx hb dX0_takeAct_57 rfl (lv_at hl 1 rfl) ?_
      refine z_ie (z_runSU (C := vn ci) (As := []) (rest := []) (hK.1 _ _ (pq_cl hca)).2 ⟨hx, hb, hml, hown, hts⟩ (c_X4_takeAct l D g ci h rw hca ((kputActS ci ((fX4_takeActS P T (fX8_beginS X 1 4)).1) (fX7_setWetS ((fX4_takeActS P T (fX8_beginS X 1 4)).2.1) (fX4_takeActR P T (fX8_beginS X 1 4)) 0) ((fX4_takeActS P T (fX8_beginS X 1 4)).2.2) (fX4_takeActR P T (fX8_beginS X 1 4))).1) ((kputActS ci ((fX4_takeActS P T (fX8_beginS X 1 4)).1) (fX7_setWetS ((fX4_takeActS P T (fX8_beginS X 1 4)).2.1) (fX4_takeActR P T (fX8_beginS X 1 4)) 0) ((fX4_takeActS P T (fX8_beginS X 1 4)).2.2) (fX4_takeActR P T (fX8_beginS X 1 4))).2.1) ((kputActS ci ((fX4_takeActS P T (fX8_beginS X 1 4)).1) (fX7_setWetS ((fX4_takeActS P T (fX8_beginS X 1 4)).2.1) (fX4_takeActR P T (fX8_beginS X 1 4)) 0) ((fX4_takeActS P T (fX8_beginS X 1 4)).2.2) (fX4_takeActR P T (fX8_beginS X 1 4))).2.2) _) (z_SU (x := ⟨"PileHeirs$Sorted", "takeAct", "()I"⟩) (owner := RX4) 0 hts g_501 g_5 g_429 g_430 g_206 g_423 (by decide) ⟨by decide, by decide, by decide +kernel⟩ ⟨Nat.le_of_ble_eq_true rfl, Nat.le_of_ble_eq_true rfl⟩) (sb_Sorted_Plain hg) (z_preV (ci := ci) (q0 := 0) (hP.subm [0, 1, 2, 3, 4, 5, 6, 7, 8] rfl) (hD.sub [0, 1, 2, 3, 4, 5, 6, 7, 8] (by decide) rfl) hK (pq_cl hca) rfl) rfl rfl hl.1 rfl (lv_room (Nat.le_of_ble_eq_true rfl)) dX0_takeAct_58 ⟨Nat.le_of_ble_eq_true rfl, Nat.le_of_ble_eq_true rfl⟩) hP hD hS hA (([] : va_W)) (wA g ci h rw ((fX4_takeActS ((kputActS ci ((fX4_takeActS P T (fX8_beginS X 1 4)).1) (fX7_setWetS ((fX4_takeActS P T (fX8_beginS X 1 4)).2.1) (fX4_takeActR P T (fX8_beginS X 1 4)) 0) ((fX4_takeActS P T (fX8_beginS X 1 4)).2.2) (fX4_takeActR P T (fX8_beginS X 1 4))).1) ((kputActS ci ((fX4_takeActS P T (fX8_beginS X 1 4)).1) (fX7_setWetS ((fX4_takeActS P T (fX8_beginS X 1 4)).2.1) (fX4_takeActR P T (fX8_beginS X 1 4)) 0) ((fX4_takeActS P T (fX8_beginS X 1 4)).2.2) (fX4_takeActR P T (fX8_beginS X 1 4))).2.1) ((kputActS ci ((fX4_takeActS P T (fX8_beginS X 1 4)).1) (fX7_setWetS ((fX4_takeActS P T (fX8_beginS X 1 4)).2.1) (fX4_takeActR P T (fX8_beginS X 1 4)) 0) ((fX4_takeActS P T (fX8_beginS X 1 4)).2.2) (fX4_takeActR P T (fX8_beginS X 1 4))).2.2)).1) ((fX4_takeActS ((kputActS ci ((fX4_takeActS P T (fX8_beginS X 1 4)).1) (fX7_setWetS ((fX4_takeActS P T (fX8_beginS X 1 4)).2.1) (fX4_takeActR P T (fX8_beginS X 1 4)) 0) ((fX4_takeActS P T (fX8_beginS X 1 4)).2.2) (fX4_takeActR P T (fX8_beginS X 1 4))).1) ((kputActS ci ((fX4_takeActS P T (fX8_beginS X 1 4)).1) (fX7_setWetS ((fX4_takeActS P T (fX8_beginS X 1 4)).2.1) (fX4_takeActR P T (fX8_beginS X 1 4)) 0) ((fX4_takeActS P T (fX8_beginS X 1 4)).2.2) (fX4_takeActR P T (fX8_beginS X 1 4))).2.1) ((kputActS ci ((fX4_takeActS P T (fX8_beginS X 1 4)).1) (fX7_setWetS ((fX4_takeActS P T (fX8_beginS X 1 4)).2.1) (fX4_takeActR P T (fX8_beginS X 1 4)) 0) ((fX4_takeActS P T (fX8_beginS X 1 4)).2.2) (fX4_takeActR P T (fX8_beginS X 1 4))).2.2)).2.1) ((fX4_takeActS ((kputActS ci ((fX4_takeActS P T (fX8_beginS X 1 4)).1) (fX7_setWetS ((fX4_takeActS P T (fX8_beginS X 1 4)).2.1) (fX4_takeActR P T (fX8_beginS X 1 4)) 0) ((fX4_takeActS P T (fX8_beginS X 1 4)).2.2) (fX4_takeActR P T (fX8_beginS X 1 4))).1) ((kputActS ci ((fX4_takeActS P T (fX8_beginS X 1 4)).1) (fX7_setWetS ((fX4_takeActS P T (fX8_beginS X 1 4)).2.1) (fX4_takeActR P T (fX8_beginS X 1 4)) 0) ((fX4_takeActS P T (fX8_beginS X 1 4)).2.2) (fX4_takeActR P T (fX8_beginS X 1 4))).2.1) ((kputActS ci ((fX4_takeActS P T (fX8_beginS X 1 4)).1) (fX7_setWetS ((fX4_takeActS P T (fX8_beginS X 1 4)).2.1) (fX4_takeActR P T (fX8_beginS X 1 4)) 0) ((fX4_takeActS P T (fX8_beginS X 1 4)).2.2) (fX4_takeActR P T (fX8_beginS X 1 4))).2.2)).2.2)) [0, 1, 2, 3, 4, 5, 6, 7, 8] [] [0, 1, 2, 3, 4, 5, 6, 7, 8] rfl rfl (by decide) (by decide) rfl (by decide) (fun H locs hP hD hS => ?_)
      exact W.iret (v := (fX4_takeActR ((kputActS ci ((fX4_takeActS P T (fX8_beginS X 1 4)).1) (fX7_setWetS ((fX4_takeActS P T (fX8_beginS X 1 4)).2.1) (fX4_takeActR P T (fX8_beginS X 1 4)) 0) ((fX4_takeActS P T (fX8_beginS X 1 4)).2.2) (fX4_takeActR P T (fX8_beginS X 1 4))).1) ((kputActS ci ((fX4_takeActS P T (fX8_beginS X 1 4)).1) (fX7_setWetS ((fX4_takeActS P T (fX8_beginS X 1 4)).2.1) (fX4_takeActR P T (fX8_beginS X 1 4)) 0) ((fX4_takeActS P T (fX8_beginS X 1 4)).2.2) (fX4_takeActR P T (fX8_beginS X 1 4))).2.1) ((kputActS ci ((fX4_takeActS P T (fX8_beginS X 1 4)).1) (fX7_setWetS ((fX4_takeActS P T (fX8_beginS X 1 4)).2.1) (fX4_takeActR P T (fX8_beginS X 1 4)) 0) ((fX4_takeActS P T (fX8_beginS X 1 4)).2.2) (fX4_takeActR P T (fX8_beginS X 1 4))).2.2))) hx hb hr (fun t9 ht hW => ⟨⟨(fX4_takeActR ((kputActS ci ((fX4_takeActS P T (fX8_beginS X 1 4)).1) (fX7_setWetS ((fX4_takeActS P T (fX8_beginS X 1 4)).2.1) (fX4_takeActR P T (fX8_beginS X 1 4)) 0) ((fX4_takeActS P T (fX8_beginS X 1 4)).2.2) (fX4_takeActR P T (fX8_beginS X 1 4))).1) ((kputActS ci ((fX4_takeActS P T (fX8_beginS X 1 4)).1) (fX7_setWetS ((fX4_takeActS P T (fX8_beginS X 1 4)).2.1) (fX4_takeActR P T (fX8_beginS X 1 4)) 0) ((fX4_takeActS P T (fX8_beginS X 1 4)).2.2) (fX4_takeActR P T (fX8_beginS X 1 4))).2.1) ((kputActS ci ((fX4_takeActS P T (fX8_beginS X 1 4)).1) (fX7_setWetS ((fX4_takeActS P T (fX8_beginS X 1 4)).2.1) (fX4_takeActR P T (fX8_beginS X 1 4)) 0) ((fX4_takeActS P T (fX8_beginS X 1 4)).2.2) (fX4_takeActR P T (fX8_beginS X 1 4))).2.2)), wA g ci h rw ((fX4_takeActS ((kputActS ci ((fX4_takeActS P T (fX8_beginS X 1 4)).1) (fX7_setWetS ((fX4_takeActS P T (fX8_beginS X 1 4)).2.1) (fX4_takeActR P T (fX8_beginS X 1 4)) 0) ((fX4_takeActS P T (fX8_beginS X 1 4)).2.2) (fX4_takeActR P T (fX8_beginS X 1 4))).1) ((kputActS ci ((fX4_takeActS P T (fX8_beginS X 1 4)).1) (fX7_setWetS ((fX4_takeActS P T (fX8_beginS X 1 4)).2.1) (fX4_takeActR P T (fX8_beginS X 1 4)) 0) ((fX4_takeActS P T (fX8_beginS X 1 4)).2.2) (fX4_takeActR P T (fX8_beginS X 1 4))).2.1) ((kputActS ci ((fX4_takeActS P T (fX8_beginS X 1 4)).1) (fX7_setWetS ((fX4_takeActS P T (fX8_beginS X 1 4)).2.1) (fX4_takeActR P T (fX8_beginS X 1 4)) 0) ((fX4_takeActS P T (fX8_beginS X 1 4)).2.2) (fX4_takeActR P T (fX8_beginS X 1 4))).2.2)).1) ((fX4_takeActS ((kputActS ci ((fX4_takeActS P T (fX8_beginS X 1 4)).1) (fX7_setWetS ((fX4_takeActS P T (fX8_beginS X 1 4)).2.1) (fX4_takeActR P T (fX8_beginS X 1 4)) 0) ((fX4_takeActS P T (fX8_beginS X 1 4)).2.2) (fX4_takeActR P T (fX8_beginS X 1 4))).1) ((kputActS ci ((fX4_takeActS P T (fX8_beginS X 1 4)).1) (fX7_setWetS ((fX4_takeActS P T (fX8_beginS X 1 4)).2.1) (fX4_takeActR P T (fX8_beginS X 1 4)) 0) ((fX4_takeActS P T (fX8_beginS X 1 4)).2.2) (fX4_takeActR P T (fX8_beginS X 1 4))).2.1) ((kputActS ci ((fX4_takeActS P T (fX8_beginS X 1 4)).1) (fX7_setWetS ((fX4_takeActS P T (fX8_beginS X 1 4)).2.1) (fX4_takeActR P T (fX8_beginS X 1 4)) 0) ((fX4_takeActS P T (fX8_beginS X 1 4)).2.2) (fX4_takeActR P T (fX8_beginS X 1 4))).2.2)).2.1) ((fX4_takeActS ((kputActS ci ((fX4_takeActS P T (fX8_beginS X 1 4)).1) (fX7_setWetS ((fX4_takeActS P T (fX8_beginS X 1 4)).2.1) (fX4_takeActR P T (fX8_beginS X 1 4)) 0) ((fX4_takeActS P T (fX8_beginS X 1 4)).2.2) (fX4_takeActR P T (fX8_beginS X 1 4))).1) ((kputActS ci ((fX4_takeActS P T (fX8_beginS X 1 4)).1) (fX7_setWetS ((fX4_takeActS P T (fX8_beginS X 1 4)).2.1) (fX4_takeActR P T (fX8_beginS X 1 4)) 0) ((fX4_takeActS P T (fX8_beginS X 1 4)).2.2) (fX4_takeActR P T (fX8_beginS X 1 4))).2.1) ((kputActS ci ((fX4_takeActS P T (fX8_beginS X 1 4)).1) (fX7_setWetS ((fX4_takeActS P T (fX8_beginS X 1 4)).2.1) (fX4_takeActR P T (fX8_beginS X 1 4)) 0) ((fX4_takeActS P T (fX8_beginS X 1 4)).2.2) (fX4_takeActR P T (fX8_beginS X 1 4))).2.2)).2.2), rfl, ⟨by simp only [fX0_takeActR, if_neg c_1, if_neg c_2], by simp only [fX0_takeActS, if_neg c_1, if_neg c_2]⟩, by rw [ht]; exact hP, va_K.moved hW.alike hK, hD⟩, hS.F ht⟩) hS.2.2 dX0_takeAct_61
    · -- (fX7_isWetR ((fX4_takeActS P T (fX8_beginS X 1 4)).2.1) (fX4_takeActR P T (fX8_beginS X 1 4))) = 0
      refine lv_iload_n hx hb dX0_takeAct_40 rfl (lv_at hl 0 rfl) ?_
      exact W.iret (v := (fX4_takeActR P T (fX8_beginS X 1 4))) hx hb hr (fun t9 ht hW => ⟨⟨(fX4_takeActR P T (fX8_beginS X 1 4)), wA g ci h rw ((fX4_takeActS P T (fX8_beginS X 1 4)).1) ((fX4_takeActS P T (fX8_beginS X 1 4)).2.1) ((fX4_takeActS P T (fX8_beginS X 1 4)).2.2), rfl, ⟨by simp only [fX0_takeActR, if_neg c_1, if_pos c_2], by simp only [fX0_takeActS, if_neg c_1, if_pos c_2]⟩, by rw [ht]; exact hP, va_K.moved hW.alike hK, hD⟩, hS.F ht⟩) hS.2.2 dX0_takeAct_41
  · -- (fX4_takeActR P T (fX8_beginS X 1 4)) = (-1)
    refine lv_aload_n hx hb dX0_takeAct_19 rfl (lv_at hl 1 rfl) ?_
    refine va_get (D := D) (ci := ci) (v := .ref g.dn) (C := vn ci) (T := TX4) (N := 7) hx hb hg (pq_in hca) hown hK hP 0 rfl (pq_cl hca) 1 (by decide) (hg _ g_139) (u_same (hg _ g_140)) rfl dX0_takeAct_20 ?_
    refine z_ve (va_runV (As := []) (rest := []) ⟨hx, hb, hml, hown, hts⟩ (c_X8_countNothing l D g ((fX4_takeActS P T (fX8_beginS X 1 4)).2.2) _) (z_V 0 hts g_435 g_3 g_432 g_433 g_434 ⟨by decide, by decide, by decide +kernel⟩ ⟨Nat.le_of_ble_eq_true rfl, Nat.le_of_ble_eq_true rfl⟩) (z_preV (ci := 9) (q0 := 0) (hP.subm [7, 8] rfl) (hD.sub [7, 8] (by decide) rfl) hK rfl rfl) rfl rfl hl.1 rfl (lv_room (Nat.le_of_ble_eq_true rfl)) dX0_takeAct_23 ⟨Nat.le_of_ble_eq_true rfl, Nat.le_of_ble_eq_true rfl⟩) hP hD hS hA (wP g ci h rw ((fX4_takeActS P T (fX8_beginS X 1 4)).1) ++ wT g ((fX4_takeActS P T (fX8_beginS X 1 4)).2.1)) (wA g ci h rw ((fX4_takeActS P T (fX8_beginS X 1 4)).1) ((fX4_takeActS P T (fX8_beginS X 1 4)).2.1) (fX8_countNothingS ((fX4_takeActS P T (fX8_beginS X 1 4)).2.2))) [7, 8] [0, 1, 2, 3, 4, 5, 6] [0, 1, 2, 3, 4, 5, 6, 7, 8] rfl rfl (by decide) (by decide) rfl (by decide) (fun H locs hP hD hS => ?_)
    refine lv_bipush (v := (-2)) hx hb dX0_takeAct_26 (by decide) ?_
    exact W.iret (v := (-2)) hx hb hr (fun t9 ht hW => ⟨⟨(-2), wA g ci h rw ((fX4_takeActS P T (fX8_beginS X 1 4)).1) ((fX4_takeActS P T (fX8_beginS X 1 4)).2.1) (fX8_countNothingS ((fX4_takeActS P T (fX8_beginS X 1 4)).2.2)), rfl, ⟨by simp only [fX0_takeActR, if_pos c_1], by simp only [fX0_takeActS, if_pos c_1]⟩, by rw [ht]; exact hP, va_K.moved hW.alike hK, hD⟩, hS.F ht⟩) hS.2.2 dX0_takeAct_28

def fX0_searchActR (P : PP) (T : TT) (X : DD) (i : Int32) : Int32 := (if (fX4_searchActR P T (fX8_beginS X 3 4) i) = (-1) then (-1) else (if (fX7_isWetR T (fX4_timberAtR P T ((fX4_searchActS P T (fX8_beginS X 3 4) i).2.2) (fX4_searchActR P T (fX8_beginS X 3 4) i))) = 0 then (fX4_searchActR P T (fX8_beginS X 3 4) i) else (-1)))
def fX0_searchActS (P : PP) (T : TT) (X : DD) (i : Int32) : PP × TT × DD := (P, T, (fX4_searchActS P T (fX8_beginS X 3 4) i).2.2)
set_option maxHeartbeats 4000000 in
set_option maxRecDepth 100000 in
theorem c_X0_searchAct (l : Launch) (D : va_G) (g : GA) (ci h rw : Nat) (hci : pkDr ci) (P : PP) (T : TT) (X : DD) (i : Int32) : ctI l D (tyA g) yX0_searchAct (wd yX0_searchAct cX0_searchAct 3 (Option.some Jvm.ClassFile.FieldType.int)) { frames := 3, cells := 0, slots := 0, locals := 64 } [.ref h, .int i] (wA g ci h rw P T X) (fun r w => r = fX0_searchActR P T X i ∧ w = wA g ci h rw (fX0_searchActS P T X i).1 (fX0_searchActS P T X i).2.1 (fX0_searchActS P T X i).2.2) := by
  intro sz
  refine Met.ofW (cc := cX0_searchAct) (maxL := 3) (ret := (Option.some Jvm.ClassFile.FieldType.int)) (by decide) rfl ?_
  intro p e s m args below meth c s₁ B hml hv
  obtain ⟨rfl, hsz, hP, hK, hD0⟩ := hv
  have hx := B.exec
  have hb := B.bytes
  have hr := B.returns
  have hts := atoms_spec (ws := (wd yX0_searchAct cX0_searchAct 3 (Option.some Jvm.ClassFile.FieldType.int))) B.pre
  have hg := Tb.of hts
  have hown : s.vm.findClass RX0 = some m.cls := findClass_of_methodNamed B.named
  have hlocks := B.notSynchronized
  subst hsz
  have hD := hD0.self (sz := s.heap.size)
  generalize hAe : va_A (wA g ci h rw P T X) s.heap.size = A at hD ⊢
  have hA : ∀ q : Nat, s.heap.size ≤ q → A q := fun q h => by rw [← hAe]; exact Or.inr h
  have hS : va_S A s.heap s.heap [] := va_S.rf
  have hP : va_P D vwCl (wA g ci h rw P T X) s.heap := hP
  have hl := lv_entry ([.ref h, .int i]) (n := 3) (Nat.le_of_ble_eq_true rfl)
  rw [lg_entry_eq]
  generalize (lg_sl ([.ref h, .int i]) ++ List.replicate (3 - (lg_sl ([.ref h, .int i])).length) Slot.unset).toArray = ls at hl ⊢
  have hl : lv_has ls 3 [(0, .ref h), (1, .int i)] := hl
  have hca : pkAll ci := pkDr_pkAll hci
  refine lv_aload_n hx hb dX0_searchAct_0 rfl (lv_at hl 0 rfl) ?_
  refine va_get (D := D) (ci := ci) (v := .ref g.dn) (C := vn ci) (T := TX4) (N := 7) hx hb hg (pq_in hca) hown hK hP 0 rfl (pq_cl hca) 1 (by decide) (hg _ g_139) (u_same (hg _ g_140)) rfl dX0_searchAct_1 ?_
  refine lv_iconst (v := 3) hx hb dX0_searchAct_4 (by decide) ?_
  refine lv_iconst (v := 4) hx hb dX0_searchAct_5 (by decide) ?_
  refine z_ve (va_runV (As := [.int 3, .int 4]) (rest := []) ⟨hx, hb, hml, hown, hts⟩ (c_X8_begin l D g X 3 4 _) (z_V 2 hts g_278 g_3 g_333 g_276 g_277 ⟨by decide, by decide, by decide +kernel⟩ ⟨Nat.le_of_ble_eq_true rfl, Nat.le_of_ble_eq_true rfl⟩) (z_preV (ci := 9) (q0 := 0) (hP.subm [7, 8] rfl) (hD.sub [7, 8] (by decide) rfl) hK rfl rfl) rfl rfl hl.1 rfl (lv_room (Nat.le_of_ble_eq_true rfl)) dX0_searchAct_6 ⟨Nat.le_of_ble_eq_true rfl, Nat.le_of_ble_eq_true rfl⟩) hP hD hS hA (wP g ci h rw P ++ wT g T) (wA g ci h rw P T (fX8_beginS X 3 4)) [7, 8] [0, 1, 2, 3, 4, 5, 6] [0, 1, 2, 3, 4, 5, 6, 7, 8] rfl rfl (by decide) (by decide) rfl (by decide) (fun H locs hP hD hS => ?_)
  refine lv_aload_n hx hb dX0_searchAct_9 rfl (lv_at hl 0 rfl) ?_
  refine lv_iload_n hx hb dX0_searchAct_10 rfl (lv_at hl 1 rfl) ?_
  refine z_ie (z_runSU (C := vn ci) (As := [.int i]) (rest := []) (hK.1 _ _ (pq_cl hca)).2 ⟨hx, hb, hml, hown, hts⟩ (c_X4_searchAct l D g ci h rw hca P T (fX8_beginS X 3 4) i _) (z_SU (x := ⟨"PileHeirs$Sorted", "searchAct", "(I)I"⟩) (owner := RX4) 1 hts g_352 g_5 g_334 g_335 g_206 g_327 (by decide) ⟨by decide, by decide, by decide +kernel⟩ ⟨Nat.le_of_ble_eq_true rfl, Nat.le_of_ble_eq_true rfl⟩) (sb_Sorted_Plain hg) (z_preV (ci := ci) (q0 := 0) (hP.subm [0, 1, 2, 3, 4, 5, 6, 7, 8] rfl) (hD.sub [0, 1, 2, 3, 4, 5, 6, 7, 8] (by decide) rfl) hK (pq_cl hca) rfl) rfl rfl hl.1 rfl (lv_room (Nat.le_of_ble_eq_true rfl)) dX0_searchAct_11 ⟨Nat.le_of_ble_eq_true rfl, Nat.le_of_ble_eq_true rfl⟩) hP hD hS hA (([] : va_W)) (wA g ci h rw P T ((fX4_searchActS P T (fX8_beginS X 3 4) i).2.2)) [0, 1, 2, 3, 4, 5, 6, 7, 8] [] [0, 1, 2, 3, 4, 5, 6, 7, 8] rfl rfl (by decide) (by decide) rfl (by decide) (fun H locs hP hD hS => ?_)
  refine lv_istore_n (lv' := [(2, .int (fX4_searchActR P T (fX8_beginS X 3 4) i)), (0, .ref h), (1, .int i)]) hx hb dX0_searchAct_14 rfl hl (by decide) rfl (fun ls hl => ?_)
  refine lv_iload_n hx hb dX0_searchAct_15 rfl (lv_at hl 0 rfl) ?_
  refine lv_iconst (v := (-1)) hx hb dX0_searchAct_16 (by decide) ?_
  refine lv_icmp_eq (tgt := 35) hx hb dX0_searchAct_17 (by decide) (fun c_1 => ?_) (fun c_1 => ?_)
  · -- (fX4_searchActR P T (fX8_beginS X 3 4) i) = (-1)
    refine lv_iconst (v := (-1)) hx hb dX0_searchAct_35 (by decide) ?_
    refine lv_goto (tgt := 40) hx hb dX0_searchAct_36 (by decide) ?_
    exact W.iret (v := (-1)) hx hb hr (fun t9 ht hW => ⟨⟨(-1), wA g ci h rw P T ((fX4_searchActS P T (fX8_beginS X 3 4) i).2.2), rfl, ⟨by simp only [fX0_searchActR, if_pos c_1], by simp only [fX0_searchActS, if_pos c_1]⟩, by rw [ht]; exact hP, va_K.moved hW.alike hK, hD⟩, hS.F ht⟩) hS.2.2 dX0_searchAct_40
  · -- not (fX4_searchActR P T (fX8_beginS X 3 4) i) = (-1)
    refine lv_aload_n hx hb dX0_searchAct_20 rfl (lv_at hl 1 rfl) ?_
    refine va_get (D := D) (ci := ci) (v := .ref g.tm) (C := vn ci) (T := TX4) (N := 7) hx hb hg (pq_in hca) hown hK hP 0 rfl (pq_cl hca) 0 (by decide) (hg _ g_126) (u_same (hg _ g_127)) rfl dX0_searchAct_21 ?_
    refine lv_aload_n hx hb dX0_searchAct_24 rfl (lv_at hl 1 rfl) ?_
    refine lv_iload_n hx hb dX0_searchAct_25 rfl (lv_at hl 0 rfl) ?_
    refine z_ie (va_runU (C := vn ci) (As := [.int (fX4_searchActR P T (fX8_beginS X 3 4) i)]) (rest := [.ref g.tm]) ⟨hx, hb, hml, hown, hts⟩ (c_X4_timberAt l D g ci h rw hca P T ((fX4_searchActS P T (fX8_beginS X 3 4) i).2.2) (fX4_searchActR P T (fX8_beginS X 3 4) i) _) (z_U (x := ⟨"PileHeirs$Drying", "timberAt", "(I)I"⟩) (owner := RX4) 1 hts g_303 g_5 g_337 g_338 g_302 g_303 (sl_Drying_timberAt hci) g_302 ⟨by decide, by decide, by decide +kernel⟩ ⟨Nat.le_of_ble_eq_true rfl, Nat.le_of_ble_eq_true rfl⟩) (z_preV (ci := ci) (q0 := 0) (hP.subm [0, 1, 2, 3, 4, 5, 6, 7, 8] rfl) (hD.sub [0, 1, 2, 3, 4, 5, 6, 7, 8] (by decide) rfl) hK (pq_cl hca) rfl) rfl rfl hl.1 rfl (lv_room (Nat.le_of_ble_eq_true rfl)) dX0_searchAct_26 ⟨Nat.le_of_ble_eq_true rfl, Nat.le_of_ble_eq_true rfl⟩) hP hD hS hA (([] : va_W)) (wA g ci h rw P T ((fX4_searchActS P T (fX8_beginS X 3 4) i).2.2)) [0, 1, 2, 3, 4, 5, 6, 7, 8] [] [0, 1, 2, 3, 4, 5, 6, 7, 8] rfl rfl (by decide) (by decide) rfl (by decide) (fun H locs hP hD hS => ?_)
    refine z_ie (va_runV (As := [.int (fX4_timberAtR P T ((fX4_searchActS P T (fX8_beginS X 3 4) i).2.2) (fX4_searchActR P T (fX8_beginS X 3 4) i))]) (rest := []) ⟨hx, hb, hml, hown, hts⟩ (c_X7_isWet l D g T (fX4_timberAtR P T ((fX4_searchActS P T (fX8_beginS X 3 4) i).2.2) (fX4_searchActR P T (fX8_beginS X 3 4) i)) _) (z_V 1 hts g_307 g_2 g_341 g_305 g_306 ⟨by decide, by decide, by decide +kernel⟩ ⟨Nat.le_of_ble_eq_true rfl, Nat.le_of_ble_eq_true rfl⟩) (z_preV (ci := 8) (q0 := 0) (hP.subm [2, 3, 4, 5, 6] rfl) (hD.sub [2, 3, 4, 5, 6] (by decide) rfl) hK rfl rfl) rfl rfl hl.1 rfl (lv_room (Nat.le_of_ble_eq_true rfl)) dX0_searchAct_29 ⟨Nat.le_of_ble_eq_true rfl, Nat.le_of_ble_eq_true rfl⟩) hP hD hS hA (wP g ci h rw P ++ wD g ((fX4_searchActS P T (fX8_beginS X 3 4) i).2.2)) (wA g ci h rw P T ((fX4_searchActS P T (fX8_beginS X 3 4) i).2.2)) [2, 3, 4, 5, 6] [0, 1, 7, 8] [0, 1, 4, 5, 6, 7, 8, 2, 3] rfl rfl (by decide) (by decide) rfl (by decide) (fun H locs hP hD hS => ?_)
    refine lv_if_eq (tgt := 39) hx hb dX0_searchAct_32 (by decide) (fun c_2 => ?_) (fun c_2 => ?_)
    · -- (fX7_isWetR T (fX4_timberAtR P T ((fX4_searchActS P T (fX8_beginS X 3 4) i).2.2) (fX4_searchActR P T (fX8_beginS X 3 4) i))) = 0
      refine lv_iload_n hx hb dX0_searchAct_39 rfl (lv_at hl 0 rfl) ?_
      exact W.iret (v := (fX4_searchActR P T (fX8_beginS X 3 4) i)) hx hb hr (fun t9 ht hW => ⟨⟨(fX4_searchActR P T (fX8_beginS X 3 4) i), wA g ci h rw P T ((fX4_searchActS P T (fX8_beginS X 3 4) i).2.2), rfl, ⟨by simp only [fX0_searchActR, if_neg c_1, if_pos c_2], by simp only [fX0_searchActS, if_neg c_1, if_pos c_2]⟩, by rw [ht]; exact hP, va_K.moved hW.alike hK, hD⟩, hS.F ht⟩) hS.2.2 dX0_searchAct_40
    · -- not (fX7_isWetR T (fX4_timberAtR P T ((fX4_searchActS P T (fX8_beginS X 3 4) i).2.2) (fX4_searchActR P T (fX8_beginS X 3 4) i))) = 0
      refine lv_iconst (v := (-1)) hx hb dX0_searchAct_35 (by decide) ?_
      refine lv_goto (tgt := 40) hx hb dX0_searchAct_36 (by decide) ?_
      exact W.iret (v := (-1)) hx hb hr (fun t9 ht hW => ⟨⟨(-1), wA g ci h rw P T ((fX4_searchActS P T (fX8_beginS X 3 4) i).2.2), rfl, ⟨by simp only [fX0_searchActR, if_neg c_1, if_neg c_2], by simp only [fX0_searchActS, if_neg c_1, if_neg c_2]⟩, by rw [ht]; exact hP, va_K.moved hW.alike hK, hD⟩, hS.F ht⟩) hS.2.2 dX0_searchAct_40

def fX1_takeActR (P : PP) (T : TT) (X : DD)  : Int32 := (if (fX4_takeActR P T (fX8_beginS X 1 7)) = (-1) then (-2) else (fX4_takeActR P T (fX8_beginS X 1 7)))
def fX1_takeActS (P : PP) (T : TT) (X : DD)  : PP × TT × DD := ((fX4_takeActS P T (fX8_beginS X 1 7)).1, (if (fX4_takeActR P T (fX8_beginS X 1 7)) = (-1) then (fX4_takeActS P T (fX8_beginS X 1 7)).2.1 else fX7_lightenS ((fX4_takeActS P T (fX8_beginS X 1 7)).2.1) (fX4_takeActR P T (fX8_beginS X 1 7))), (if (fX4_takeActR P T (fX8_beginS X 1 7)) = (-1) then fX8_countNothingS ((fX4_takeActS P T (fX8_beginS X 1 7)).2.2) else (fX4_takeActS P T (fX8_beginS X 1 7)).2.2))
set_option maxHeartbeats 4000000 in
set_option maxRecDepth 100000 in
theorem c_X1_takeAct (l : Launch) (D : va_G) (g : GA) (ci h rw : Nat) (hci : pkLe ci) (P : PP) (T : TT) (X : DD)  : ctI l D (tyA g) yX1_takeAct (wd yX1_takeAct cX1_takeAct 2 (Option.some Jvm.ClassFile.FieldType.int)) { frames := 3, cells := 0, slots := 0, locals := 64 } [.ref h] (wA g ci h rw P T X) (fun r w => r = fX1_takeActR P T X ∧ w = wA g ci h rw (fX1_takeActS P T X).1 (fX1_takeActS P T X).2.1 (fX1_takeActS P T X).2.2) := by
  intro sz
  refine Met.ofW (cc := cX1_takeAct) (maxL := 2) (ret := (Option.some Jvm.ClassFile.FieldType.int)) (by decide) rfl ?_
  intro p e s m args below meth c s₁ B hml hv
  obtain ⟨rfl, hsz, hP, hK, hD0⟩ := hv
  have hx := B.exec
  have hb := B.bytes
  have hr := B.returns
  have hts := atoms_spec (ws := (wd yX1_takeAct cX1_takeAct 2 (Option.some Jvm.ClassFile.FieldType.int))) B.pre
  have hg := Tb.of hts
  have hown : s.vm.findClass RX1 = some m.cls := findClass_of_methodNamed B.named
  have hlocks := B.notSynchronized
  subst hsz
  have hD := hD0.self (sz := s.heap.size)
  generalize hAe : va_A (wA g ci h rw P T X) s.heap.size = A at hD ⊢
  have hA : ∀ q : Nat, s.heap.size ≤ q → A q := fun q h => by rw [← hAe]; exact Or.inr h
  have hS : va_S A s.heap s.heap [] := va_S.rf
  have hP : va_P D vwCl (wA g ci h rw P T X) s.heap := hP
  have hl := lv_entry ([.ref h]) (n := 2) (Nat.le_of_ble_eq_true rfl)
  rw [lg_entry_eq]
  generalize (lg_sl ([.ref h]) ++ List.replicate (2 - (lg_sl ([.ref h])).length) Slot.unset).toArray = ls at hl ⊢
  have hl : lv_has ls 2 [(0, .ref h)] := hl
  have hca : pkAll ci := pkLe_pkAll hci
  refine lv_aload_n hx hb dX1_takeAct_0 rfl (lv_at hl 0 rfl) ?_
  refine va_get (D := D) (ci := ci) (v := .ref g.dn) (C := vn ci) (T := TX4) (N := 7) hx hb hg (pq_in hca) hown hK hP 0 rfl (pq_cl hca) 1 (by decide) (hg _ g_141) (u_same (hg _ g_142)) rfl dX1_takeAct_1 ?_
  refine lv_iconst (v := 1) hx hb dX1_takeAct_4 (by decide) ?_
  refine lv_bipush (v := 7) hx hb dX1_takeAct_5 (by decide) ?_
  refine z_ve (va_runV (As := [.int 1, .int 7]) (rest := []) ⟨hx, hb, hml, hown, hts⟩ (c_X8_begin l D g X 1 7 _) (z_V 2 hts g_278 g_3 g_369 g_276 g_277 ⟨by decide, by decide, by decide +kernel⟩ ⟨Nat.le_of_ble_eq_true rfl, Nat.le_of_ble_eq_true rfl⟩) (z_preV (ci := 9) (q0 := 0) (hP.subm [7, 8] rfl) (hD.sub [7, 8] (by decide) rfl) hK rfl rfl) rfl rfl hl.1 rfl (lv_room (Nat.le_of_ble_eq_true rfl)) dX1_takeAct_7 ⟨Nat.le_of_ble_eq_true rfl, Nat.le_of_ble_eq_true rfl⟩) hP hD hS hA (wP g ci h rw P ++ wT g T) (wA g ci h rw P T (fX8_beginS X 1 7)) [7, 8] [0, 1, 2, 3, 4, 5, 6] [0, 1, 2, 3, 4, 5, 6, 7, 8] rfl rfl (by decide) (by decide) rfl (by decide) (fun H locs hP hD hS => ?_)
  refine lv_aload_n hx hb dX1_takeAct_10 rfl (lv_at hl 0 rfl) ?_
  refine z_ie (z_runSU (C := vn ci) (As := []) (rest := []) (hK.1 _ _ (pq_cl hca)).2 ⟨hx, hb, hml, hown, hts⟩ (c_X4_takeAct l D g ci h rw hca P T (fX8_beginS X 1 7) _) (z_SU (x := ⟨"PileHeirs$Twofold", "takeAct", "()I"⟩) (owner := RX4) 0 hts g_501 g_5 g_488 g_489 g_248 g_423 (by decide) ⟨by decide, by decide, by decide +kernel⟩ ⟨Nat.le_of_ble_eq_true rfl, Nat.le_of_ble_eq_true rfl⟩) (sb_Twofold_Plain hg) (z_preV (ci := ci) (q0 := 0) (hP.subm [0, 1, 2, 3, 4, 5, 6, 7, 8] rfl) (hD.sub [0, 1, 2, 3, 4, 5, 6, 7, 8] (by decide) rfl) hK (pq_cl hca) rfl) rfl rfl hl.1 rfl (lv_room (Nat.le_of_ble_eq_true rfl)) dX1_takeAct_11 ⟨Nat.le_of_ble_eq_true rfl, Nat.le_of_ble_eq_true rfl⟩) hP hD hS hA (([] : va_W)) (wA g ci h rw ((fX4_takeActS P T (fX8_beginS X 1 7)).1) ((fX4_takeActS P T (fX8_beginS X 1 7)).2.1) ((fX4_takeActS P T (fX8_beginS X 1 7)).2.2)) [0, 1, 2, 3, 4, 5, 6, 7, 8] [] [0, 1, 2, 3, 4, 5, 6, 7, 8] rfl rfl (by decide) (by decide) rfl (by decide) (fun H locs hP hD hS => ?_)
  refine lv_istore_n (lv' := [(1, .int (fX4_takeActR P T (fX8_beginS X 1 7))), (0, .ref h)]) hx hb dX1_takeAct_14 rfl hl (by decide) rfl (fun ls hl => ?_)
  refine lv_iload_n hx hb dX1_takeAct_15 rfl (lv_at hl 0 rfl) ?_
  refine lv_iconst (v := (-1)) hx hb dX1_takeAct_16 (by decide) ?_
  refine lv_icmp_ne (tgt := 30) hx hb dX1_takeAct_17 (by decide) (fun c_1 => ?_) (fun c_1 => ?_)
  · -- not (fX4_takeActR P T (fX8_beginS X 1 7)) = (-1)
    refine lv_aload_n hx hb dX1_takeAct_30 rfl (lv_at hl 1 rfl) ?_
    refine va_get (D := D) (ci := ci) (v := .ref g.tm) (C := vn ci) (T := TX4) (N := 7) hx hb hg (pq_in hca) hown hK hP 0 rfl (pq_cl hca) 0 (by decide) (hg _ g_128) (u_same (hg _ g_129)) rfl dX1_takeAct_31 ?_
    refine lv_iload_n hx hb dX1_takeAct_34 rfl (lv_at hl 0 rfl) ?_
    refine z_ve (va_runV (As := [.int (fX4_takeActR P T (fX8_beginS X 1 7))]) (rest := []) ⟨hx, hb, hml, hown, hts⟩ (c_X7_lighten l D g ((fX4_takeActS P T (fX8_beginS X 1 7)).2.1) (fX4_takeActR P T (fX8_beginS X 1 7)) _) (z_V 1 hts g_494 g_2 g_491 g_492 g_493 ⟨by decide, by decide, by decide +kernel⟩ ⟨Nat.le_of_ble_eq_true rfl, Nat.le_of_ble_eq_true rfl⟩) (z_preV (ci := 8) (q0 := 0) (hP.subm [2, 3, 4, 5, 6] rfl) (hD.sub [2, 3, 4, 5, 6] (by decide) rfl) hK rfl rfl) rfl rfl hl.1 rfl (lv_room (Nat.le_of_ble_eq_true rfl)) dX1_takeAct_35 ⟨Nat.le_of_ble_eq_true rfl, Nat.le_of_ble_eq_true rfl⟩) hP hD hS hA (wP g ci h rw ((fX4_takeActS P T (fX8_beginS X 1 7)).1) ++ wD g ((fX4_takeActS P T (fX8_beginS X 1 7)).2.2)) (wA g ci h rw ((fX4_takeActS P T (fX8_beginS X 1 7)).1) (fX7_lightenS ((fX4_takeActS P T (fX8_beginS X 1 7)).2.1) (fX4_takeActR P T (fX8_beginS X 1 7))) ((fX4_takeActS P T (fX8_beginS X 1 7)).2.2)) [2, 3, 4, 5, 6] [0, 1, 7, 8] [0, 1, 4, 5, 6, 7, 8, 2, 3] rfl rfl (by decide) (by decide) rfl (by decide) (fun H locs hP hD hS => ?_)
    refine lv_iload_n hx hb dX1_takeAct_38 rfl (lv_at hl 0 rfl) ?_
    exact W.iret (v := (fX4_takeActR P T (fX8_beginS X 1 7))) hx hb hr (fun t9 ht hW => ⟨⟨(fX4_takeActR P T (fX8_beginS X 1 7)), wA g ci h rw ((fX4_takeActS P T (fX8_beginS X 1 7)).1) (fX7_lightenS ((fX4_takeActS P T (fX8_beginS X 1 7)).2.1) (fX4_takeActR P T (fX8_beginS X 1 7))) ((fX4_takeActS P T (fX8_beginS X 1 7)).2.2), rfl, ⟨by simp only [fX1_takeActR, if_neg c_1], by simp only [fX1_takeActS, if_neg c_1]⟩, by rw [ht]; exact hP, va_K.moved hW.alike hK, hD⟩, hS.F ht⟩) hS.2.2 dX1_takeAct_39
  · -- (fX4_takeActR P T (fX8_beginS X 1 7)) = (-1)
    refine lv_aload_n hx hb dX1_takeAct_20 rfl (lv_at hl 1 rfl) ?_
    refine va_get (D := D) (ci := ci) (v := .ref g.dn) (C := vn ci) (T := TX4) (N := 7) hx hb hg (pq_in hca) hown hK hP 0 rfl (pq_cl hca) 1 (by decide) (hg _ g_141) (u_same (hg _ g_142)) rfl dX1_takeAct_21 ?_
    refine z_ve (va_runV (As := []) (rest := []) ⟨hx, hb, hml, hown, hts⟩ (c_X8_countNothing l D g ((fX4_takeActS P T (fX8_beginS X 1 7)).2.2) _) (z_V 0 hts g_435 g_3 g_490 g_433 g_434 ⟨by decide, by decide, by decide +kernel⟩ ⟨Nat.le_of_ble_eq_true rfl, Nat.le_of_ble_eq_true rfl⟩) (z_preV (ci := 9) (q0 := 0) (hP.subm [7, 8] rfl) (hD.sub [7, 8] (by decide) rfl) hK rfl rfl) rfl rfl hl.1 rfl (lv_room (Nat.le_of_ble_eq_true rfl)) dX1_takeAct_24 ⟨Nat.le_of_ble_eq_true rfl, Nat.le_of_ble_eq_true rfl⟩) hP hD hS hA (wP g ci h rw ((fX4_takeActS P T (fX8_beginS X 1 7)).1) ++ wT g ((fX4_takeActS P T (fX8_beginS X 1 7)).2.1)) (wA g ci h rw ((fX4_takeActS P T (fX8_beginS X 1 7)).1) ((fX4_takeActS P T (fX8_beginS X 1 7)).2.1) (fX8_countNothingS ((fX4_takeActS P T (fX8_beginS X 1 7)).2.2))) [7, 8] [0, 1, 2, 3, 4, 5, 6] [0, 1, 2, 3, 4, 5, 6, 7, 8] rfl rfl (by decide) (by decide) rfl (by decide) (fun H locs hP hD hS => ?_)
    refine lv_bipush (v := (-2)) hx hb dX1_takeAct_27 (by decide) ?_
    exact W.iret (v := (-2)) hx hb hr (fun t9 ht hW => ⟨⟨(-2), wA g ci h rw ((fX4_takeActS P T (fX8_beginS X 1 7)).1) ((fX4_takeActS P T (fX8_beginS X 1 7)).2.1) (fX8_countNothingS ((fX4_takeActS P T (fX8_beginS X 1 7)).2.2)), rfl, ⟨by simp only [fX1_takeActR, if_pos c_1], by simp only [fX1_takeActS, if_pos c_1]⟩, by rw [ht]; exact hP, va_K.moved hW.alike hK, hD⟩, hS.F ht⟩) hS.2.2 dX1_takeAct_29

def fX1_freeActR (ci : Nat) (P : PP) (T : TT) (X : DD)  : Int32 := (if 0 < ((fX6_freeActR ci P T (fX8_beginS X 4 7)) - 1) then ((fX6_freeActR ci P T (fX8_beginS X 4 7)) - 1) else 0)
def fX1_freeActS (ci : Nat) (P : PP) (T : TT) (X : DD)  : PP × TT × DD := (P, T, (fX6_freeActS ci P T (fX8_beginS X 4 7)).2.2)
set_option maxHeartbeats 4000000 in
set_option maxRecDepth 100000 in
theorem c_X1_freeAct (l : Launch) (D : va_G) (g : GA) (ci h rw : Nat) (hci : pkLe ci) (P : PP) (T : TT) (X : DD)  : ctI l D (tyA g) yX1_freeAct (wd yX1_freeAct cX1_freeAct 1 (Option.some Jvm.ClassFile.FieldType.int)) { frames := 5, cells := 0, slots := 0, locals := 104 } [.ref h] (wA g ci h rw P T X) (fun r w => r = fX1_freeActR ci P T X ∧ w = wA g ci h rw (fX1_freeActS ci P T X).1 (fX1_freeActS ci P T X).2.1 (fX1_freeActS ci P T X).2.2) := by
  intro sz
  refine Met.ofW (cc := cX1_freeAct) (maxL := 1) (ret := (Option.some Jvm.ClassFile.FieldType.int)) (by decide) rfl ?_
  intro p e s m args below meth c s₁ B hml hv
  obtain ⟨rfl, hsz, hP, hK, hD0⟩ := hv
  have hx := B.exec
  have hb := B.bytes
  have hr := B.returns
  have hts := atoms_spec (ws := (wd yX1_freeAct cX1_freeAct 1 (Option.some Jvm.ClassFile.FieldType.int))) B.pre
  have hg := Tb.of hts
  have hown : s.vm.findClass RX1 = some m.cls := findClass_of_methodNamed B.named
  have hlocks := B.notSynchronized
  subst hsz
  have hD := hD0.self (sz := s.heap.size)
  generalize hAe : va_A (wA g ci h rw P T X) s.heap.size = A at hD ⊢
  have hA : ∀ q : Nat, s.heap.size ≤ q → A q := fun q h => by rw [← hAe]; exact Or.inr h
  have hS : va_S A s.heap s.heap [] := va_S.rf
  have hP : va_P D vwCl (wA g ci h rw P T X) s.heap := hP
  have hl := lv_entry ([.ref h]) (n := 1) (Nat.le_of_ble_eq_true rfl)
  rw [lg_entry_eq]
  generalize (lg_sl ([.ref h]) ++ List.replicate (1 - (lg_sl ([.ref h])).length) Slot.unset).toArray = ls at hl ⊢
  have hl : lv_has ls 1 [(0, .ref h)] := hl
  have hca : pkAll ci := pkLe_pkAll hci
  refine lv_aload_n hx hb dX1_freeAct_0 rfl (lv_at hl 0 rfl) ?_
  refine va_get (D := D) (ci := ci) (v := .ref g.dn) (C := vn ci) (T := TX4) (N := 7) hx hb hg (pq_in hca) hown hK hP 0 rfl (pq_cl hca) 1 (by decide) (hg _ g_141) (u_same (hg _ g_142)) rfl dX1_freeAct_1 ?_
  refine lv_iconst (v := 4) hx hb dX1_freeAct_4 (by decide) ?_
  refine lv_bipush (v := 7) hx hb dX1_freeAct_5 (by decide) ?_
  refine z_ve (va_runV (As := [.int 4, .int 7]) (rest := []) ⟨hx, hb, hml, hown, hts⟩ (c_X8_begin l D g X 4 7 _) (z_V 2 hts g_278 g_3 g_369 g_276 g_277 ⟨by decide, by decide, by decide +kernel⟩ ⟨Nat.le_of_ble_eq_true rfl, Nat.le_of_ble_eq_true rfl⟩) (z_preV (ci := 9) (q0 := 0) (hP.subm [7, 8] rfl) (hD.sub [7, 8] (by decide) rfl) hK rfl rfl) rfl rfl hl.1 rfl (lv_room (Nat.le_of_ble_eq_true rfl)) dX1_freeAct_7 ⟨Nat.le_of_ble_eq_true rfl, Nat.le_of_ble_eq_true rfl⟩) hP hD hS hA (wP g ci h rw P ++ wT g T) (wA g ci h rw P T (fX8_beginS X 4 7)) [7, 8] [0, 1, 2, 3, 4, 5, 6] [0, 1, 2, 3, 4, 5, 6, 7, 8] rfl rfl (by decide) (by decide) rfl (by decide) (fun H locs hP hD hS => ?_)
  refine lv_iconst (v := 0) hx hb dX1_freeAct_10 (by decide) ?_
  refine lv_aload_n hx hb dX1_freeAct_11 rfl (lv_at hl 0 rfl) ?_
  refine z_ie (z_runSU (C := vn ci) (As := []) (rest := [.int 0]) (hK.1 _ _ (pq_cl hca)).2 ⟨hx, hb, hml, hown, hts⟩ (c_X6_freeAct l D g ci h rw (pkLe_pkSt hci) P T (fX8_beginS X 4 7) _) (z_SU (x := ⟨"PileHeirs$Twofold", "freeAct", "()I"⟩) (owner := RX6) 0 hts g_374 g_8 g_370 g_371 g_248 g_373 (by decide) ⟨by decide, by decide, by decide +kernel⟩ ⟨Nat.le_of_ble_eq_true rfl, Nat.le_of_ble_eq_true rfl⟩) (sb_Twofold_Strict hg) (z_preV (ci := ci) (q0 := 0) (hP.subm [0, 1, 2, 3, 4, 5, 6, 7, 8] rfl) (hD.sub [0, 1, 2, 3, 4, 5, 6, 7, 8] (by decide) rfl) hK (pq_cl hca) rfl) rfl rfl hl.1 rfl (lv_room (Nat.le_of_ble_eq_true rfl)) dX1_freeAct_12 ⟨Nat.le_of_ble_eq_true rfl, Nat.le_of_ble_eq_true rfl⟩) hP hD hS hA (([] : va_W)) (wA g ci h rw P T ((fX6_freeActS ci P T (fX8_beginS X 4 7)).2.2)) [0, 1, 2, 3, 4, 5, 6, 7, 8] [] [0, 1, 2, 3, 4, 5, 6, 7, 8] rfl rfl (by decide) (by decide) rfl (by decide) (fun H locs hP hD hS => ?_)
  refine lv_iconst (v := 1) hx hb dX1_freeAct_15 (by decide) ?_
  refine lv_isub hx hb dX1_freeAct_16 ?_
  refine va_mmax hx hb (hml.trans hl.1.symm) hown (hg _ g_383) (hg _ g_maxs) (hg _ g_13) (hg _ g_max) (Nat.le_of_ble_eq_true rfl) (Nat.le_of_ble_eq_true rfl) (Nat.le_of_ble_eq_true rfl) (Nat.le_of_ble_eq_true rfl) dX1_freeAct_17 ?_
  exact W.iret (v := (if 0 < ((fX6_freeActR ci P T (fX8_beginS X 4 7)) - 1) then ((fX6_freeActR ci P T (fX8_beginS X 4 7)) - 1) else 0)) hx hb hr (fun t9 ht hW => ⟨⟨(if 0 < ((fX6_freeActR ci P T (fX8_beginS X 4 7)) - 1) then ((fX6_freeActR ci P T (fX8_beginS X 4 7)) - 1) else 0), wA g ci h rw P T ((fX6_freeActS ci P T (fX8_beginS X 4 7)).2.2), rfl, ⟨rfl, rfl⟩, by rw [ht]; exact hP, va_K.moved hW.alike hK, hD⟩, hS.F ht⟩) hS.2.2 dX1_freeAct_20

def ktakeActR (ci : Nat) (P : PP) (T : TT) (X : DD)  : Int32 := match ci with | 1 => fX0_takeActR ci P T X  | 4 => fX0_takeActR ci P T X  | 2 => fX1_takeActR P T X  | _ => fX4_takeActR P T X 
def ktakeActS (ci : Nat) (P : PP) (T : TT) (X : DD)  : PP × TT × DD := ((match ci with | 1 => (fX0_takeActS ci P T X).1 | 4 => (fX0_takeActS ci P T X).1 | 2 => (fX1_takeActS P T X).1 | _ => (fX4_takeActS P T X).1), (match ci with | 1 => (fX0_takeActS ci P T X).2.1 | 4 => (fX0_takeActS ci P T X).2.1 | 2 => (fX1_takeActS P T X).2.1 | _ => (fX4_takeActS P T X).2.1), (match ci with | 1 => (fX0_takeActS ci P T X).2.2 | 4 => (fX0_takeActS ci P T X).2.2 | 2 => (fX1_takeActS P T X).2.2 | _ => (fX4_takeActS P T X).2.2))

def ksearchActR (ci : Nat) (P : PP) (T : TT) (X : DD) (i : Int32) : Int32 := match ci with | 1 => fX0_searchActR P T X i | 4 => fX0_searchActR P T X i | 10 => fX9_searchActR P T X i | 2 => fX9_searchActR P T X i | _ => fX4_searchActR P T X i
def ksearchActS (ci : Nat) (P : PP) (T : TT) (X : DD) (i : Int32) : PP × TT × DD := (P, T, (match ci with | 1 => (fX0_searchActS P T X i).2.2 | 4 => (fX0_searchActS P T X i).2.2 | 10 => (fX9_searchActS P T X i).2.2 | 2 => (fX9_searchActS P T X i).2.2 | _ => (fX4_searchActS P T X i).2.2))

def kfreeActR (ci : Nat) (P : PP) (T : TT) (X : DD)  : Int32 := match ci with | 7 => fX6_freeActR ci P T X  | 10 => fX6_freeActR ci P T X  | 2 => fX1_freeActR ci P T X  | _ => fX4_freeActR P T X 
def kfreeActS (ci : Nat) (P : PP) (T : TT) (X : DD)  : PP × TT × DD := (P, T, (match ci with | 7 => (fX6_freeActS ci P T X).2.2 | 10 => (fX6_freeActS ci P T X).2.2 | 2 => (fX1_freeActS ci P T X).2.2 | _ => (fX4_freeActS P T X).2.2))

set_option maxHeartbeats 4000000 in
set_option maxRecDepth 100000 in
theorem rv_X2_freeAct {p : Program} {l : Launch} {e : Env} {R : Room} {s : State} {m : MethodId} {args : Array Value} {below : List Frame} {meth : Method} {c : Code} {H : Heap} {locs : List Loc} {cells slots : Nat} {y0 : MethodName} {b0 cc : ByteArray} {n0 nL : Nat} {r0 : Option FieldType} {D : va_G} {g : GA} {ci h rw : Nat} {P : PP} {T : TT} {X : DD} {B : Nat → Prop} {rest : List Value} {fr : JFrame} 
    (hci : pkMa ci) (S : CallFix p m c cc nL s args (wd y0 b0 n0 r0) RX2) (hP : va_P D vwCl (wA g ci h rw P T X) H) (hD : va_D B (wA g ci h rw P T X)) (hK : va_K D vwCl (tyA g) s) (hR : 6 ≤ R.frames ∧ 124 ≤ R.locals) (hg : fr.method = m) (hsize : fr.locals.size = nL) (hstack : fr.stack = [].reverse ++ .ref h :: rest) (hW : 2 * fr.monitorRoom + (rest.map fun v => v.category).sum ≤ 8) (hdg : decode cc fr.pc = .ok (.invokevirtual 7, 3)) (hf : cells + 0 ≤ R.cells ∧ slots + 0 ≤ R.slots) :
    va_Run p l e R s m args below meth c H locs cells slots 0 0 fr rest (va_Qi (fun r w => r = kfreeActR ci P T X  ∧ w = wA g ci h rw (kfreeActS ci P T X ).1 (kfreeActS ci P T X ).2.1 (kfreeActS ci P T X ).2.2) (ctB D (tyA g) (va_A (wA g ci h rw P T X) H.size)) (va_A (wA g ci h rw P T X) H.size) (Value.ref h :: []).toArray) (va_A (wA g ci h rw P T X) H.size) := by
  rcases hci with rfl | rfl | rfl | rfl | rfl | rfl | rfl
  · exact va_runU (C := vn 1) (As := []) S (c_X4_freeAct l D g 1 h rw (by simp [pkAll]) P T X  _) (z_U (x := ⟨"PileHeirs$Marked", "freeAct", "()I"⟩) (owner := RX4) 0 S.2.2.2.2 g_391 g_5 g_403 g_381 g_362 g_391 g_404 g_362 ⟨by decide, by decide, by decide +kernel⟩ ⟨Nat.le_trans (Nat.le_of_ble_eq_true rfl) hR.1, Nat.le_trans (Nat.le_of_ble_eq_true rfl) hR.2⟩) (z_preV (ci := 1) (q0 := 0) hP hD hK (pq_cl (by simp [pkAll])) rfl) hg rfl hsize hstack hW hdg hf
  · exact va_runU (C := vn 2) (As := []) S (c_X1_freeAct l D g 2 h rw (by simp [pkLe]) P T X  _) (z_U (x := ⟨"PileHeirs$Marked", "freeAct", "()I"⟩) (owner := RX4) 0 S.2.2.2.2 g_368 g_12 g_403 g_381 g_362 g_391 g_405 g_367 ⟨by decide, by decide, by decide +kernel⟩ ⟨Nat.le_trans (Nat.le_of_ble_eq_true rfl) hR.1, Nat.le_trans (Nat.le_of_ble_eq_true rfl) hR.2⟩) (z_preV (ci := 2) (q0 := 0) hP hD hK (pq_cl (by simp [pkAll])) rfl) hg rfl hsize hstack hW hdg hf
  · exact va_runU (C := vn 3) (As := []) S (c_X4_freeAct l D g 3 h rw (by simp [pkAll]) P T X  _) (z_U (x := ⟨"PileHeirs$Marked", "freeAct", "()I"⟩) (owner := RX4) 0 S.2.2.2.2 g_391 g_5 g_403 g_381 g_362 g_391 g_406 g_362 ⟨by decide, by decide, by decide +kernel⟩ ⟨Nat.le_trans (Nat.le_of_ble_eq_true rfl) hR.1, Nat.le_trans (Nat.le_of_ble_eq_true rfl) hR.2⟩) (z_preV (ci := 3) (q0 := 0) hP hD hK (pq_cl (by simp [pkAll])) rfl) hg rfl hsize hstack hW hdg hf
  · exact va_runU (C := vn 4) (As := []) S (c_X4_freeAct l D g 4 h rw (by simp [pkAll]) P T X  _) (z_U (x := ⟨"PileHeirs$Marked", "freeAct", "()I"⟩) (owner := RX4) 0 S.2.2.2.2 g_391 g_5 g_403 g_381 g_362 g_391 g_407 g_362 ⟨by decide, by decide, by decide +kernel⟩ ⟨Nat.le_trans (Nat.le_of_ble_eq_true rfl) hR.1, Nat.le_trans (Nat.le_of_ble_eq_true rfl) hR.2⟩) (z_preV (ci := 4) (q0 := 0) hP hD hK (pq_cl (by simp [pkAll])) rfl) hg rfl hsize hstack hW hdg hf
  · exact va_runU (C := vn 6) (As := []) S (c_X4_freeAct l D g 6 h rw (by simp [pkAll]) P T X  _) (z_U (x := ⟨"PileHeirs$Marked", "freeAct", "()I"⟩) (owner := RX4) 0 S.2.2.2.2 g_391 g_5 g_403 g_381 g_362 g_391 g_408 g_362 ⟨by decide, by decide, by decide +kernel⟩ ⟨Nat.le_trans (Nat.le_of_ble_eq_true rfl) hR.1, Nat.le_trans (Nat.le_of_ble_eq_true rfl) hR.2⟩) (z_preV (ci := 6) (q0 := 0) hP hD hK (pq_cl (by simp [pkAll])) rfl) hg rfl hsize hstack hW hdg hf
  · exact va_runU (C := vn 7) (As := []) S (c_X6_freeAct l D g 7 h rw (by simp [pkSt]) P T X  _) (z_U (x := ⟨"PileHeirs$Marked", "freeAct", "()I"⟩) (owner := RX4) 0 S.2.2.2.2 g_374 g_8 g_403 g_381 g_362 g_391 g_409 g_373 ⟨by decide, by decide, by decide +kernel⟩ ⟨Nat.le_trans (Nat.le_of_ble_eq_true rfl) hR.1, Nat.le_trans (Nat.le_of_ble_eq_true rfl) hR.2⟩) (z_preV (ci := 7) (q0 := 0) hP hD hK (pq_cl (by simp [pkAll])) rfl) hg rfl hsize hstack hW hdg hf
  · exact va_runU (C := vn 10) (As := []) S (c_X6_freeAct l D g 10 h rw (by simp [pkSt]) P T X  _) (z_U (x := ⟨"PileHeirs$Marked", "freeAct", "()I"⟩) (owner := RX4) 0 S.2.2.2.2 g_374 g_8 g_403 g_381 g_362 g_391 g_410 g_373 ⟨by decide, by decide, by decide +kernel⟩ ⟨Nat.le_trans (Nat.le_of_ble_eq_true rfl) hR.1, Nat.le_trans (Nat.le_of_ble_eq_true rfl) hR.2⟩) (z_preV (ci := 10) (q0 := 0) hP hD hK (pq_cl (by simp [pkAll])) rfl) hg rfl hsize hstack hW hdg hf

def fX2_isFullR (ci : Nat) (P : PP) (T : TT) (X : DD)  : Int32 := (if (kfreeActR ci P T X) = 0 then 1 else 0)
def fX2_isFullS (ci : Nat) (P : PP) (T : TT) (X : DD)  : PP × TT × DD := (P, T, (kfreeActS ci P T X).2.2)
set_option maxHeartbeats 4000000 in
set_option maxRecDepth 100000 in
theorem c_X2_isFull (l : Launch) (D : va_G) (g : GA) (ci h rw : Nat) (hci : pkMa ci) (P : PP) (T : TT) (X : DD)  : ctI l D (tyA g) yX2_isFull (wd yX2_isFull cX2_isFull 1 (Option.some Jvm.ClassFile.FieldType.boolean)) { frames := 6, cells := 0, slots := 0, locals := 124 } [.ref h] (wA g ci h rw P T X) (fun r w => r = fX2_isFullR ci P T X ∧ w = wA g ci h rw (fX2_isFullS ci P T X).1 (fX2_isFullS ci P T X).2.1 (fX2_isFullS ci P T X).2.2) := by
  intro sz
  refine Met.ofW (cc := cX2_isFull) (maxL := 1) (ret := (Option.some Jvm.ClassFile.FieldType.boolean)) (by decide) rfl ?_
  intro p e s m args below meth c s₁ B hml hv
  obtain ⟨rfl, hsz, hP, hK, hD0⟩ := hv
  have hx := B.exec
  have hb := B.bytes
  have hr := B.returns
  have hts := atoms_spec (ws := (wd yX2_isFull cX2_isFull 1 (Option.some Jvm.ClassFile.FieldType.boolean))) B.pre
  have hg := Tb.of hts
  have hown : s.vm.findClass RX2 = some m.cls := findClass_of_methodNamed B.named
  have hlocks := B.notSynchronized
  subst hsz
  have hD := hD0.self (sz := s.heap.size)
  generalize hAe : va_A (wA g ci h rw P T X) s.heap.size = A at hD ⊢
  have hA : ∀ q : Nat, s.heap.size ≤ q → A q := fun q h => by rw [← hAe]; exact Or.inr h
  have hS : va_S A s.heap s.heap [] := va_S.rf
  have hP : va_P D vwCl (wA g ci h rw P T X) s.heap := hP
  have hl := lv_entry ([.ref h]) (n := 1) (Nat.le_of_ble_eq_true rfl)
  rw [lg_entry_eq]
  generalize (lg_sl ([.ref h]) ++ List.replicate (1 - (lg_sl ([.ref h])).length) Slot.unset).toArray = ls at hl ⊢
  have hl : lv_has ls 1 [(0, .ref h)] := hl
  have hca : pkAll ci := pkMa_pkAll hci
  refine lv_aload_n hx hb dX2_isFull_0 rfl (lv_at hl 0 rfl) ?_
  refine z_ie (rv_X2_freeAct (rest := []) hci ⟨hx, hb, hml, hown, hts⟩ hP hD hK ⟨Nat.le_of_ble_eq_true rfl, Nat.le_of_ble_eq_true rfl⟩ rfl hl.1 rfl (lv_room (Nat.le_of_ble_eq_true rfl)) dX2_isFull_1 ⟨Nat.le_of_ble_eq_true rfl, Nat.le_of_ble_eq_true rfl⟩) hP hD hS hA (([] : va_W)) (wA g ci h rw P T ((kfreeActS ci P T X).2.2)) [0, 1, 2, 3, 4, 5, 6, 7, 8] [] [0, 1, 2, 3, 4, 5, 6, 7, 8] rfl rfl (by decide) (by decide) rfl (by decide) (fun H locs hP hD hS => ?_)
  refine lv_if_ne (tgt := 11) hx hb dX2_isFull_4 (by decide) (fun c_1 => ?_) (fun c_1 => ?_)
  · -- not (kfreeActR ci P T X) = 0
    refine lv_iconst (v := 0) hx hb dX2_isFull_11 (by decide) ?_
    exact W.zret (v := 0) (ty := .boolean) hx hb hr rfl (fun t9 ht hW => ⟨⟨0, wA g ci h rw P T ((kfreeActS ci P T X).2.2), rfl, ⟨by simp only [fX2_isFullR, if_neg c_1], by simp only [fX2_isFullS, if_neg c_1]⟩, by rw [ht]; exact hP, va_K.moved hW.alike hK, hD⟩, hS.F ht⟩) hS.2.2 dX2_isFull_12
  · -- (kfreeActR ci P T X) = 0
    refine lv_iconst (v := 1) hx hb dX2_isFull_7 (by decide) ?_
    refine lv_goto (tgt := 12) hx hb dX2_isFull_8 (by decide) ?_
    exact W.zret (v := 1) (ty := .boolean) hx hb hr rfl (fun t9 ht hW => ⟨⟨1, wA g ci h rw P T ((kfreeActS ci P T X).2.2), rfl, ⟨by simp only [fX2_isFullR, if_pos c_1], by simp only [fX2_isFullS, if_pos c_1]⟩, by rw [ht]; exact hP, va_K.moved hW.alike hK, hD⟩, hS.F ht⟩) hS.2.2 dX2_isFull_12

def kisFullR (ci : Nat) (P : PP) (T : TT) (X : DD)  : Int32 := match ci with | 5 => fX4_isFullR P T X  | _ => fX2_isFullR ci P T X 
def kisFullS (ci : Nat) (P : PP) (T : TT) (X : DD)  : PP × TT × DD := (P, T, (match ci with | 5 => X | _ => (fX2_isFullS ci P T X).2.2))
