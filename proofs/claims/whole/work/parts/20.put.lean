/-! throwing: what a throw needs beside the good words -/
def xdc : Cond → Bool
  | .declares _ => true
  | .castable _ _ => true
  | _ => false
def xw : List Cond := lw_tbl.filter xdc
theorem xw_warm {s U : State} (hW : s.WarmedH U.vm) {w : Cond} (hw : xdc w = true) (h : va_Nw w s) : va_Nw w U := by
  cases w <;> first | exact va_Nw.warmD hW h | exact va_Nw.warmC hW h | exact absurd hw (by decide) | (simp [xdc] at hw)
theorem xw_on {w : Cond} (hw : xdc w = true) : w.onTables = true := by
  cases w <;> first | rfl | (simp [xdc] at hw)
def EX (A : Nat → Prop) (U : State) (H : Heap) : Prop := (∀ w ∈ xw, va_Nw w U) ∧ vx_Zq Bundle.tN "UNASSIGNED_STACK" Bundle.steD A U H ∧ vx_Zq Bundle.tN "SUPPRESSED_SENTINEL" Bundle.listD A U H ∧ (∃ sa, vk_R RX10 61 "HEAVY" sa U) ∧ ∃ sa, vk_R RX10 72 "NOTHING" sa U
theorem EX.to {A B : Nat → Prop} {s U : State} {H0 H : Heap} (h : EX A s H0) (hW : s.WarmedH U.vm) (hS : ∀ q : Nat, q < H0.size → ¬ A q → H[q]? = H0[q]?) (hAB : ∀ q, B q → A q) : EX B U H := by
  obtain ⟨h1, h2, h3, ⟨sa, h4⟩, ⟨sb, h5⟩⟩ := h
  exact ⟨fun w hw => xw_warm hW (List.mem_filter.mp hw).2 (h1 w hw), (vx_Zq.moved hW.alike (h2.kept hS)).narrow hAB, (vx_Zq.moved hW.alike (h3.kept hS)).narrow hAB, ⟨sa, h4.warm hW⟩, ⟨sb, h5.warm hW⟩⟩
theorem EX.same {A : Nat → Prop} {s U : State} {H : Heap} (h : EX A s H) (e : s.vm = U.vm) : EX A U H := h.to (by rw [← e]; exact State.WarmedH.refl s) (fun _ _ _ => rfl) (fun _ h => h)
def ctE (D : va_G) (tys : List (ClassId × FieldType)) (w : va_W) (sz : Nat) (A : Nat → Prop) : State → Prop := fun U => ctP D tys w sz U ∧ EX A U U.heap
theorem z_blindE {D : va_G} {tys : List (ClassId × FieldType)} {wc : va_W} {av : List Value} {sz : Nat} {A : Nat → Prop} : FrameBlind (va_Pc av (ctE D tys wc sz A)) := fun a U g mk q => by
  obtain ⟨q0, ⟨q1, qP, qK, qD⟩, qE⟩ := q
  exact ⟨q0, ⟨q1, qP, va_K.moved (u := U) (U := U.calling g mk a) (Vm.Alike.refl U.vm) qK, qD⟩, qE.same rfl⟩
theorem uo_hat : ∀ w ∈ vx_atS RX10 63 "java/lang/UnsupportedOperationException" ["java/lang/RuntimeException", "java/lang/Exception"], w ∈ (lw_tblx.filter goodWord) ∨ w ∈ xw := by decide +kernel
theorem uo_good : ∀ w ∈ Cond.classLink RX10 59 "java/lang/UnsupportedOperationException" :: Cond.initialized "java/lang/UnsupportedOperationException" :: vx_atS RX10 63 "java/lang/UnsupportedOperationException" ["java/lang/RuntimeException", "java/lang/Exception"], vx_ot w = true := by decide +kernel
/-- what a method left by a throw says of the world -/
abbrev ctX (D : va_G) (tys : List (ClassId × FieldType)) (A : Nat → Prop) (E0 : String) (px : va_W → Prop) : String → State → State → Prop := vx_X px (fun E w t => E = E0 ∧ ctB D tys A w t) A

def fX10_putR (n : Nat) (C : CZ) (P : Nat → PP) (T : TT) (X : DD) (pl : Int32) (tb : Int32) : Int32 := (match fz n pl with | none => (-101) | some i_2 => (if (fX7_hasR T tb) = 0 then (-101) else (if (fX7_pileOfR T tb) = (-1) then (if (kputActR (C i_2).1 (P i_2) T X tb) = 2 then 0 else (kputActR (C i_2).1 (P i_2) T X tb)) else (-103))))
def fX10_putS (n : Nat) (C : CZ) (P : Nat → PP) (T : TT) (X : DD) (pl : Int32) (tb : Int32) : (Nat → PP) × TT × DD := (match fz n pl with | none => (P, T, X) | some i_2 => (if (fX7_hasR T tb) = 0 then (P, T, X) else (if (fX7_pileOfR T tb) = (-1) then (if (kputActR (C i_2).1 (P i_2) T X tb) = 2 then (va_up P i_2 ((kputActS (C i_2).1 (P i_2) T X tb).1), (kputActS (C i_2).1 (P i_2) T X tb).2.1, (kputActS (C i_2).1 (P i_2) T X tb).2.2) else (va_up P i_2 ((kputActS (C i_2).1 (P i_2) T X tb).1), (kputActS (C i_2).1 (P i_2) T X tb).2.1, (kputActS (C i_2).1 (P i_2) T X tb).2.2)) else (P, T, X))))
def fX10_putH (n : Nat) (C : CZ) (P : Nat → PP) (T : TT) (X : DD) (pl : Int32) (tb : Int32) : Bool := (match fz n pl with | none => false | some i_2 => (if (fX7_hasR T tb) = 0 then false else (if (fX7_pileOfR T tb) = (-1) then (if (kputActR (C i_2).1 (P i_2) T X tb) = 2 then true else false) else false)))
set_option maxHeartbeats 4000000 in
set_option maxRecDepth 100000 in
theorem c_X10_put (l : Launch) (hlt : l.stackTraces = false)  (D : va_G) (g : GA) (x : GX) (n : Nat) (hn : n ≤ 12) (C : CZ) (hC : ∀ i, i < n → pkAll (C i).1) (P : Nat → PP) (T : TT) (X : DD) (pl : Int32) (tb : Int32) (sz : Nat) : vx_Met l yX10_put (wd yX10_put cX10_put 5 (Option.some Jvm.ClassFile.FieldType.int)) { frames := 6, cells := 1, slots := 6, locals := 107 } (va_Pc [.ref x.xo, .int pl, .int tb] (ctE D (tyX g x) (wX g x n C P T X) sz (va_A (wX g x n C P T X) sz))) (va_Qi (fun r w => r = fX10_putR n C P T X pl tb ∧ w = wX g x n C (fX10_putS n C P T X pl tb).1 (fX10_putS n C P T X pl tb).2.1 (fX10_putS n C P T X pl tb).2.2 ∧ fX10_putH n C P T X pl tb = false) (ctB D (tyX g x) (va_A (wX g x n C P T X) sz)) (va_A (wX g x n C P T X) sz)) (ctX D (tyX g x) (va_A (wX g x n C P T X) sz) "java/lang/UnsupportedOperationException" (fun w => w = wX g x n C (fX10_putS n C P T X pl tb).1 (fX10_putS n C P T X pl tb).2.1 (fX10_putS n C P T X pl tb).2.2 ∧ fX10_putH n C P T X pl tb = true)) 1 6 (va_A (wX g x n C P T X) sz) := by
  refine vx_ofW (cc := cX10_put) (maxL := 5) (ret := (Option.some Jvm.ClassFile.FieldType.int)) (by decide) rfl ?_
  intro p e s m args below meth c s₁ B hml htb hv
  obtain ⟨rfl, ⟨hsz, hP, hK, hD0⟩, hE⟩ := hv
  have hx := B.exec
  have hb := B.bytes
  have hr := B.returns
  have hts := atoms_spec (ws := (wd yX10_put cX10_put 5 (Option.some Jvm.ClassFile.FieldType.int))) B.pre
  have hg := Tb.of hts
  have hown : s.vm.findClass RX10 = some m.cls := findClass_of_methodNamed B.named
  have hlocks := B.notSynchronized
  subst hsz
  have hD := hD0.self (sz := s.heap.size)
  generalize hAe : va_A (wX g x n C P T X) s.heap.size = A at hD hE ⊢
  have hA : ∀ q : Nat, s.heap.size ≤ q → A q := fun q h => by rw [← hAe]; exact Or.inr h
  have hS : va_S A s.heap s.heap [] := va_S.rf
  have hP : va_P D vwCl (wX g x n C P T X) s.heap := hP
  have hl := lv_entry ([.ref x.xo, .int pl, .int tb]) (n := 5) (Nat.le_of_ble_eq_true rfl)
  rw [lg_entry_eq]
  generalize (lg_sl ([.ref x.xo, .int pl, .int tb]) ++ List.replicate (5 - (lg_sl ([.ref x.xo, .int pl, .int tb])).length) Slot.unset).toArray = ls at hl ⊢
  have hl : lv_has ls 5 [(0, .ref x.xo), (1, .int pl), (2, .int tb)] := hl
  refine lv_aload_n hx hb dX10_put_0 rfl (lv_at hl 0 rfl) ?_
  refine lv_iload_n hx hb dX10_put_1 rfl (lv_at hl 1 rfl) ?_
  refine z_qeQ (ws := wX0 g x n C T X) (pl := wL g n C P) (va_runV (As := [.int pl]) (rest := []) ⟨hx, hb, hml, hown, hts⟩ (c_X10_pileOf l D g x n hn C pl _) (z_V 1 hts g_266 g_1 g_263 g_265 gp_1 ⟨by decide, by decide, by decide +kernel⟩ ⟨Nat.le_of_ble_eq_true rfl, Nat.le_of_ble_eq_true rfl⟩) (z_preV (ci := 11) (q0 := 0) (hP.subm [0, 1] rfl) (hD.sub [0, 1] (by decide) rfl) hK rfl rfl) rfl rfl hl.1 rfl (lv_room (Nat.le_of_ble_eq_true rfl)) dX10_put_2 ⟨Nat.le_of_ble_eq_true rfl, Nat.le_of_ble_eq_true rfl⟩) hP hD hS hA (wT g T ++ wD g X) (wX0 g x n C T X) [0, 1] [2, 3, 4, 5, 6, 7, 8] [7, 8, 0, 1, 2, 3, 4, 5, 6] rfl rfl (by decide) (by decide) rfl (by decide) (fun H locs hP hD hS => ?_)
  cases hz_1 : fz n pl with
  | none =>
    refine W.eq (g2 := F0 m 5 ls [.null]) rfl ?_
    refine lv_astore_nN (lv' := [(3, .null), (0, .ref x.xo), (1, .int pl), (2, .int tb)]) hx hb dX10_put_5 rfl hl (by decide) rfl (fun ls hl => ?_)
    refine lv_aload_nN hx hb dX10_put_6 rfl (lv_at hl 0 rfl) ?_
    refine lv_ifnullN (tgt := 21) hx hb dX10_put_7 (by decide) ?_
    refine lv_bipush (v := (-101)) hx hb dX10_put_21 (by decide) ?_
    refine W.widen (k := 1) (n := 6) (by decide) (by decide) ?_
    exact vx_ret (W.iret (v := (-101)) hx hb hr (fun t9 ht hW => ⟨⟨(-101), wX g x n C P T X, rfl, ⟨by simp only [fX10_putR, hz_1], by simp only [fX10_putS, hz_1], by simp only [fX10_putH, hz_1]⟩, by rw [ht]; exact hP, va_K.moved hW.alike hK, hD⟩, hS.F ht⟩) hS.2.2 dX10_put_23)
  | some i_2 =>
    refine W.eq (g2 := F0 m 5 ls [.ref (C i_2).2.1]) rfl ?_
    have hi_2 := fz_lt hz_1
    refine lv_astore_n (lv' := [(3, .ref (C i_2).2.1), (0, .ref x.xo), (1, .int pl), (2, .int tb)]) hx hb dX10_put_5 rfl hl (by decide) rfl (fun ls hl => ?_)
    refine lv_aload_n hx hb dX10_put_6 rfl (lv_at hl 0 rfl) ?_
    refine lv_ifnull hx hb dX10_put_7 ?_
    refine lv_aload_n hx hb dX10_put_10 rfl (lv_at hl 1 rfl) ?_
    refine va_get (D := D) (ci := 11) (v := .ref g.tm) (C := RX10) (T := TX10) (N := 4) hx hb hg in_X10 hown hK hP 0 rfl rfl 0 (by decide) (hg _ g_78) (fun _ h9 => h9) rfl dX10_put_11 ?_
    refine lv_iload_n hx hb dX10_put_14 rfl (lv_at hl 3 rfl) ?_
    refine z_ieQ (ws := wX0 g x n C T X) (pl := wL g n C P) (va_runV (As := [.int tb]) (rest := []) ⟨hx, hb, hml, hown, hts⟩ (c_X7_has l D g T tb _) (z_V 1 hts g_311 g_2 g_520 g_309 g_310 ⟨by decide, by decide, by decide +kernel⟩ ⟨Nat.le_of_ble_eq_true rfl, Nat.le_of_ble_eq_true rfl⟩) (z_preV (ci := 8) (q0 := 0) (hP.subm [2, 3, 4, 5, 6] rfl) (hD.sub [2, 3, 4, 5, 6] (by decide) rfl) (hK.sub (tys' := tyA g) [0, 1] rfl) rfl rfl) rfl rfl hl.1 rfl (lv_room (Nat.le_of_ble_eq_true rfl)) dX10_put_15 ⟨Nat.le_of_ble_eq_true rfl, Nat.le_of_ble_eq_true rfl⟩) hP hD hS hA (wY g x n C ++ wD g X) (wX0 g x n C T X) [2, 3, 4, 5, 6] [0, 1, 7, 8] [0, 1, 4, 5, 6, 7, 8, 2, 3] rfl rfl (by decide) (by decide) rfl (by decide) (fun H locs hP hD hS => ?_)
    refine lv_if_ne (tgt := 24) hx hb dX10_put_18 (by decide) (fun c_3 => ?_) (fun c_3 => ?_)
    · -- not (fX7_hasR T tb) = 0
      refine lv_aload_n hx hb dX10_put_24 rfl (lv_at hl 1 rfl) ?_
      refine va_get (D := D) (ci := 11) (v := .ref g.tm) (C := RX10) (T := TX10) (N := 4) hx hb hg in_X10 hown hK hP 0 rfl rfl 0 (by decide) (hg _ g_78) (fun _ h9 => h9) rfl dX10_put_25 ?_
      refine lv_iload_n hx hb dX10_put_28 rfl (lv_at hl 3 rfl) ?_
      refine z_ieQ (ws := wX0 g x n C T X) (pl := wL g n C P) (va_runV (As := [.int tb]) (rest := []) ⟨hx, hb, hml, hown, hts⟩ (c_X7_pileOf l D g T tb _) (z_V 1 hts g_527 g_2 g_524 g_525 g_526 ⟨by decide, by decide, by decide +kernel⟩ ⟨Nat.le_of_ble_eq_true rfl, Nat.le_of_ble_eq_true rfl⟩) (z_preV (ci := 8) (q0 := 0) (hP.subm [2, 3, 4, 5, 6] rfl) (hD.sub [2, 3, 4, 5, 6] (by decide) rfl) (hK.sub (tys' := tyA g) [0, 1] rfl) rfl rfl) rfl rfl hl.1 rfl (lv_room (Nat.le_of_ble_eq_true rfl)) dX10_put_29 ⟨Nat.le_of_ble_eq_true rfl, Nat.le_of_ble_eq_true rfl⟩) hP hD hS hA (wY g x n C ++ wD g X) (wX0 g x n C T X) [2, 3, 4, 5, 6] [0, 1, 7, 8] [0, 1, 4, 5, 6, 7, 8, 2, 3] rfl rfl (by decide) (by decide) rfl (by decide) (fun H locs hP hD hS => ?_)
      refine lv_iconst (v := (-1)) hx hb dX10_put_32 (by decide) ?_
      refine lv_icmp_eq (tgt := 39) hx hb dX10_put_33 (by decide) (fun c_4 => ?_) (fun c_4 => ?_)
      · -- (fX7_pileOfR T tb) = (-1)
        refine lv_aload_n hx hb dX10_put_39 rfl (lv_at hl 0 rfl) ?_
        refine lv_iload_n hx hb dX10_put_40 rfl (lv_at hl 3 rfl) ?_
        have hP := vP_perm (wF_perm g x C P T X hi_2) hP
        have hD := vD_perm (wF_perm g x C P T X hi_2) hD
        refine z_ieQ (ws := wF0 g x n C (C i_2).1 (C i_2).2.1 (C i_2).2.2 (P i_2) T X) (pl := wO g n C P i_2) (rv_X10_putAct (rest := []) (hC i_2 hi_2) ⟨hx, hb, hml, hown, hts⟩ (hP.subm [2, 3, 4, 5, 6, 7, 8, 9, 10] rfl) (hD.sub [2, 3, 4, 5, 6, 7, 8, 9, 10] (by decide) rfl) (hK.sub (tys' := tyA g) [0, 1] rfl) ⟨Nat.le_of_ble_eq_true rfl, Nat.le_of_ble_eq_true rfl⟩ rfl hl.1 rfl (lv_room (Nat.le_of_ble_eq_true rfl)) dX10_put_41 ⟨Nat.le_of_ble_eq_true rfl, Nat.le_of_ble_eq_true rfl⟩) hP hD hS hA (wY g x n C) (wF0 g x n C (C i_2).1 (C i_2).2.1 (C i_2).2.2 ((kputActS (C i_2).1 (P i_2) T X tb).1) ((kputActS (C i_2).1 (P i_2) T X tb).2.1) ((kputActS (C i_2).1 (P i_2) T X tb).2.2)) [2, 3, 4, 5, 6, 7, 8, 9, 10] [0, 1] [0, 1, 2, 3, 4, 5, 6, 7, 8, 9, 10] rfl rfl (by decide) (by decide) rfl (by decide) (fun H locs hP hD hS => ?_)
        have hP := vP_perm (wU_perm g x C P ((kputActS (C i_2).1 (P i_2) T X tb).1) ((kputActS (C i_2).1 (P i_2) T X tb).2.1) ((kputActS (C i_2).1 (P i_2) T X tb).2.2) hi_2) hP
        have hD := vD_perm (wU_perm g x C P ((kputActS (C i_2).1 (P i_2) T X tb).1) ((kputActS (C i_2).1 (P i_2) T X tb).2.1) ((kputActS (C i_2).1 (P i_2) T X tb).2.2) hi_2) hD
        refine lv_istore (lv' := [(4, .int (kputActR (C i_2).1 (P i_2) T X tb)), (3, .ref (C i_2).2.1), (0, .ref x.xo), (1, .int pl), (2, .int tb)]) hx hb dX10_put_44 hl (by decide) rfl (fun ls hl => ?_)
        refine lv_iload hx hb dX10_put_46 (lv_at hl 0 rfl) ?_
        refine lv_iconst (v := 2) hx hb dX10_put_48 (by decide) ?_
        refine lv_icmp_ne (tgt := 62) hx hb dX10_put_49 (by decide) (fun c_5 => ?_) (fun c_5 => ?_)
        · -- not (kputActR (C i_2).1 (P i_2) T X tb) = 2
          refine lv_iload hx hb dX10_put_62 (lv_at hl 0 rfl) ?_
          refine W.widen (k := 1) (n := 6) (by decide) (by decide) ?_
          exact vx_ret (W.iret (v := (kputActR (C i_2).1 (P i_2) T X tb)) hx hb hr (fun t9 ht hW => ⟨⟨(kputActR (C i_2).1 (P i_2) T X tb), wX g x n C (va_up P i_2 ((kputActS (C i_2).1 (P i_2) T X tb).1)) ((kputActS (C i_2).1 (P i_2) T X tb).2.1) ((kputActS (C i_2).1 (P i_2) T X tb).2.2), rfl, ⟨by simp only [fX10_putR, if_neg c_3, if_pos c_4, if_neg c_5, hz_1], by simp only [fX10_putS, if_neg c_3, if_pos c_4, if_neg c_5, hz_1], by simp only [fX10_putH, if_neg c_3, if_pos c_4, if_neg c_5, hz_1]⟩, by rw [ht]; exact hP, va_K.moved hW.alike hK, hD⟩, hS.F ht⟩) hS.2.2 dX10_put_64)
        · -- (kputActR (C i_2).1 (P i_2) T X tb) = 2
          obtain ⟨hE1, hE2, hE3, ⟨sa, hE4⟩, -⟩ := hE
          exact vx_throwS (own := RX10) (cls := "java/lang/UnsupportedOperationException") (text := "HEAVY") (names := ["java/lang/RuntimeException", "java/lang/Exception"]) hx hb hlt hown (by decide +kernel) (by decide +kernel) (hg _ g_564) (hg _ g_17) hE4 (fun w hw => (uo_hat w hw).elim (fun h => hg w h) (fun h => (hE1 w h).use (xw_on (List.mem_filter.mp h).2))) uo_good hE2 hE3 hS (hl.1.trans hml.symm) dX10_put_52 dX10_put_55 dX10_put_56 dX10_put_58 dX10_put_61 (fun x9 h9 => (htb x9 h9).elim) (Nat.le_of_ble_eq_true rfl) (Nat.le_of_ble_eq_true rfl) (Nat.le_of_ble_eq_true rfl) (Nat.le_of_ble_eq_true rfl) hlocks (fun t9 hal hsz hkp => ⟨wX g x n C (va_up P i_2 ((kputActS (C i_2).1 (P i_2) T X tb).1)) ((kputActS (C i_2).1 (P i_2) T X tb).2.1) ((kputActS (C i_2).1 (P i_2) T X tb).2.2), ⟨by simp only [fX10_putS, if_neg c_3, if_pos c_4, if_pos c_5, hz_1], by simp only [fX10_putH, if_neg c_3, if_pos c_4, if_pos c_5, hz_1]⟩, ⟨rfl, hP.kept (fun k q hk => hkp q.1 (hP k q hk).lt), va_K.moved hal hK, hD⟩, ⟨Nat.le_trans hS.1 hsz, fun q h1 h2 => (hkp q (Nat.lt_of_lt_of_le h1 hS.1)).trans (hS.2.1 q h1 h2)⟩⟩) hS.2.2 (by decide) (by decide)
      · -- not (fX7_pileOfR T tb) = (-1)
        refine lv_bipush (v := (-103)) hx hb dX10_put_36 (by decide) ?_
        refine W.widen (k := 1) (n := 6) (by decide) (by decide) ?_
        exact vx_ret (W.iret (v := (-103)) hx hb hr (fun t9 ht hW => ⟨⟨(-103), wX g x n C P T X, rfl, ⟨by simp only [fX10_putR, if_neg c_3, if_neg c_4, hz_1], by simp only [fX10_putS, if_neg c_3, if_neg c_4, hz_1], by simp only [fX10_putH, if_neg c_3, if_neg c_4, hz_1]⟩, by rw [ht]; exact hP, va_K.moved hW.alike hK, hD⟩, hS.F ht⟩) hS.2.2 dX10_put_38)
    · -- (fX7_hasR T tb) = 0
      refine lv_bipush (v := (-101)) hx hb dX10_put_21 (by decide) ?_
      refine W.widen (k := 1) (n := 6) (by decide) (by decide) ?_
      exact vx_ret (W.iret (v := (-101)) hx hb hr (fun t9 ht hW => ⟨⟨(-101), wX g x n C P T X, rfl, ⟨by simp only [fX10_putR, if_pos c_3, hz_1], by simp only [fX10_putS, if_pos c_3, hz_1], by simp only [fX10_putH, if_pos c_3, hz_1]⟩, by rw [ht]; exact hP, va_K.moved hW.alike hK, hD⟩, hS.F ht⟩) hS.2.2 dX10_put_23)
