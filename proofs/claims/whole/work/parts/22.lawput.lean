/-! the law's own put and take: they catch what the class throws -/
abbrev tyL (g : GA) (x : GX) (cJ : ClassId) : List (ClassId × FieldType) := [(g.cI, .int), (g.cZ, .boolean), (x.cQ, .object "PileHeirs$Plain"), (cJ, .long)]
abbrev oC (oa : Nat) (cJ : ClassId) (fo : Nat → Int64) : Nat × va_E := (oa, .inl (cJ, 1, .inr (.inl fo)))
abbrev wdw (y : MethodName) (b : ByteArray) (n : Nat) (r : Option FieldType) (hh : List (Nat × Nat × Nat × Nat)) : List Cond := Cond.codeWith y b n r hh :: GW
theorem Tb.ofw {y : MethodName} {b : ByteArray} {n : Nat} {r : Option FieldType} {hh : List (Nat × Nat × Nat × Nat)} {args : Array Value} {s : State} (h : ∀ w ∈ wdw y b n r hh, w.before args s = true) : Tb args s := fun w hw => h w (List.mem_cons_of_mem _ hw)
theorem z_Bw {p : Program} {R : Room} {s : State} {args : Array Value} {own C : String} {index : Nat} {y y0 : MethodName} {bytes b0 : ByteArray} {maxL n0 : Nat} {ret r0 : Option FieldType} {rm : Room} {hh : List (Nat × Nat × Nat × Nat)} (n : Nat) (hts : ∀ w ∈ wdw y0 b0 n0 r0 hh, w.before args s = true) (hc : Cond.code y bytes maxL ret ∈ GW) (hini : Cond.initialized y.cls ∈ GW) (hl : Cond.methodLink own index y ∈ GW) (hi : Cond.instanceMethod y ∈ GW) (hs : Cond.selects C y y ∈ GW)
    (hd : y.cls ≠ "java/lang/invoke/MethodHandle" ∧ y.cls ≠ "java/lang/invoke/VarHandle" ∧ (parseMethodDescriptor y.desc).map (fun d => d.parameters.length) = some n) (hR : rm.frames + 1 ≤ R.frames ∧ 8 + (maxL + 11) + rm.locals ≤ R.locals) :
    CallW R s args own C index y bytes maxL ret (wd y bytes maxL ret) rm rm.cells rm.slots n := by
  have hG : GoodIn (wdw y0 b0 n0 r0 hh) (wd y bytes maxL ret) := by
    intro w hw
    have h1 : w ∈ GW := by
      rcases List.mem_cons.mp hw with e | e
      · rw [e]; exact hc
      · exact e
    exact ⟨List.mem_cons_of_mem _ h1, good_of_word (gw_good w h1)⟩
  exact ⟨callB_of n hts hG rfl rfl rfl (hts _ (List.mem_cons_of_mem _ hini)) (hts _ (List.mem_cons_of_mem _ hl)) hd hR, hts _ (List.mem_cons_of_mem _ hi), hts _ (List.mem_cons_of_mem _ hs)⟩
theorem z_preE {s : State} {H : Heap} {D : va_G} {tys : List (ClassId × FieldType)} {wc : va_W} {As : List Value} {A B : Nat → Prop} {locs : List Loc} (hP : va_P D vwCl wc H) (hD : va_D B wc) (hK : va_K D vwCl tys s) (hE : EX A s s.heap) (hS : va_S A s.heap H locs) (hF : ∀ q, va_A wc H.size q → A q) : PreS s H (va_Pc As (ctE D tys wc H.size (va_A wc H.size))) As :=
  ⟨z_blindE, fun U hU hW => ⟨rfl, ⟨by rw [hU], by rw [hU]; exact hP, va_K.moved hW.alike hK, hD.weaken (fun _ _ _ _ => trivial)⟩, by rw [hU]; exact hE.to hW hS.2.1 hF⟩⟩
theorem z_preVE {s : State} {H : Heap} {D : va_G} {tys : List (ClassId × FieldType)} {wc : va_W} {As : List Value} {A B : Nat → Prop} {locs : List Loc} {b q0 ci : Nat} {q : vw_C} {fs : List Value} (hP : va_P D vwCl wc H) (hD : va_D B wc) (hK : va_K D vwCl tys s) (hE : EX A s s.heap) (hS : va_S A s.heap H locs) (hF : ∀ q, va_A wc H.size q → A q) (hc : vwCl[ci]? = some q) (he : wc[q0]? = some (b, .inr (ci, fs))) : PreV s H q.1 b (va_Pc (.ref b :: As) (ctE D tys wc H.size (va_A wc H.size))) As :=
  ⟨z_blindE, va_recv hK hP hc he, (z_preE (As := .ref b :: As) hP hD hK hE hS hF).2⟩

theorem xw_mem {w : Cond} (h : w ∈ lw_tbl) (hw : xdc w = true) : w ∈ xw := List.mem_filter.mpr ⟨h, hw⟩
set_option maxHeartbeats 4000000 in
set_option maxRecDepth 100000 in
theorem c_L_put (l : Launch) (hlt : l.stackTraces = false) (D : va_G) (g : GA) (x : GX) (cJ : ClassId) (oa : Nat) (fo : Nat → Int64) (n : Nat) (hn : n ≤ 12) (C : CZ) (hC : ∀ i, i < n → pkAll (C i).1) (P : Nat → PP) (T : TT) (X : DD) (pl : Int32) (tb : Int32) (sz : Nat) : Met l yL_put (wdw yL_put cL_put 5 (Option.some Jvm.ClassFile.FieldType.int) [(0, 10, 13, 13)]) { frames := 7, cells := 1, slots := 6, locals := 131 } (va_Pc [.ref x.xo, .int pl, .int tb, .ref oa] (ctE D (tyL g x cJ) ([oC oa cJ fo] ++ wX g x n C P T X) sz (va_A ([oC oa cJ fo] ++ wX g x n C P T X) sz))) (va_Qi (fun r w => r = (if fX10_putH n C P T X pl tb = true then (1 : Int32) else 0) ∧ w = [oC oa cJ (if fX10_putH n C P T X pl tb = true then fo else vp_updL fo 0 (fX10_putR n C P T X pl tb).toInt64)] ++ wX g x n C (fX10_putS n C P T X pl tb).1 (fX10_putS n C P T X pl tb).2.1 (fX10_putS n C P T X pl tb).2.2) (ctB D (tyL g x cJ) (va_A ([oC oa cJ fo] ++ wX g x n C P T X) sz)) (va_A ([oC oa cJ fo] ++ wX g x n C P T X) sz)) 1 6 (va_A ([oC oa cJ fo] ++ wX g x n C P T X) sz) := by
  refine va_MetW (cc := cL_put) (maxL := 5) (ret := (Option.some Jvm.ClassFile.FieldType.int)) (by decide) rfl ?_
  intro p e s m args below meth c s₁ B hml hv
  obtain ⟨rfl, ⟨hsz, hP, hK, hD0⟩, hE⟩ := hv
  have hx := B.exec
  have hb := B.bytes
  have hr := B.returns
  have hts := atoms_spec (ws := (wdw yL_put cL_put 5 (Option.some Jvm.ClassFile.FieldType.int) [(0, 10, 13, 13)])) B.pre
  have hg := Tb.ofw hts
  have hown : s.vm.findClass RL = some m.cls := findClass_of_methodNamed B.named
  have hlocks := B.notSynchronized
  subst hsz
  have hD := hD0.self (sz := s.heap.size)
  generalize hAe : va_A ([oC oa cJ fo] ++ wX g x n C P T X) s.heap.size = A at hD hE ⊢
  have hA : ∀ q : Nat, s.heap.size ≤ q → A q := fun q h => by rw [← hAe]; exact Or.inr h
  have hS : va_S A s.heap s.heap [] := va_S.rf
  have hP : va_P D vwCl (([oC oa cJ fo] ++ wX0 g x n C T X) ++ wL g n C P) s.heap := hP
  have hD : va_D A (([oC oa cJ fo] ++ wX0 g x n C T X) ++ wL g n C P) := hD
  have hl := lv_entry ([.ref x.xo, .int pl, .int tb, .ref oa]) (n := 5) (Nat.le_of_ble_eq_true rfl)
  rw [lg_entry_eq]
  generalize (lg_sl ([.ref x.xo, .int pl, .int tb, .ref oa]) ++ List.replicate (5 - (lg_sl ([.ref x.xo, .int pl, .int tb, .ref oa])).length) Slot.unset).toArray = ls at hl ⊢
  have hl : lv_has ls 5 [(0, .ref x.xo), (1, .int pl), (2, .int tb), (3, .ref oa)] := hl
  refine lv_aload_n hx hb dL_put_0 rfl (lv_at hl 3 rfl) ?_
  refine lv_iconst (v := 0) hx hb dL_put_1 (by decide) ?_
  refine lv_aload_n hx hb dL_put_2 rfl (lv_at hl 0 rfl) ?_
  refine lv_iload_n hx hb dL_put_3 rfl (lv_at hl 1 rfl) ?_
  refine lv_iload_n hx hb dL_put_4 rfl (lv_at hl 2 rfl) ?_
  have hPc : va_P D vwCl (wX g x n C P T X) s.heap := hP.part (cx := wX0 g x n C T X) [1, 2, 3, 4, 5, 6, 7, 8, 9] rfl
  have hDc : va_D A (wX g x n C P T X) := hD.part (cx := wX0 g x n C T X) [1, 2, 3, 4, 5, 6, 7, 8, 9] (by decide) rfl
  have hKc : va_K D vwCl (tyX g x) s := hK.sub (tys' := tyX g x) [0, 1, 2] rfl
  have hFc : ∀ q, va_A (wX g x n C P T X) s.heap.size q → A q := va_freeP (X := [oC oa cJ fo] ++ wX0 g x n C T X) (cx := wX0 g x n C T X) (pl := wL g n C P) hD hS hA [1, 2, 3, 4, 5, 6, 7, 8, 9] rfl
  refine vx_calli (vx_runV (As := [.int pl, .int tb]) (rest := [.int 0, .ref oa]) ⟨hx, hb, hml, hown, hts⟩ (c_X10_put l hlt D g x n hn C hC P T X pl tb _) (z_Bw (p := p) 2 hts g_563 g_1 g_560 g_561 g_562 ⟨by decide, by decide, by decide +kernel⟩ ⟨Nat.le_of_ble_eq_true rfl, Nat.le_of_ble_eq_true rfl⟩) (z_preVE (ci := 11) (q0 := 0) hPc hDc hKc hE hS hFc rfl rfl) rfl rfl hl.1 rfl (lv_room (Nat.le_of_ble_eq_true rfl)) dL_put_5 ⟨Nat.le_of_ble_eq_true rfl, Nat.le_of_ble_eq_true rfl⟩) hS (fun q _ h => hFc q h) hFc (fun q _ h => hFc q h) (fun E ce q9 u t H1 locs1 ht hvm hw hB hz1 hk1 hS1 hce hcv hcl => ?_) (fun r u t H1 locs1 ht hvm hw hB hz1 hk1 hS1 => ?_)
  · obtain ⟨rfl, hH⟩ := hw
    obtain ⟨rfl, hP1, hK1, hD1⟩ := hB
    rw [ht] at hP1
    obtain ⟨hP2, hD2⟩ := va_joinP (X := [oC oa cJ fo] ++ wX0 g x n C T X) (cx := wX0 g x n C T X) (wr := [oC oa cJ fo]) (rx := wX0 g x n C (fX10_putS n C P T X pl tb).2.1 (fX10_putS n C P T X pl tb).2.2) (pl := wL g n C P) (pl1 := wL g n C (fX10_putS n C P T X pl tb).1) hP hD [1, 2, 3, 4, 5, 6, 7, 8, 9] [0] rfl rfl (by decide) (by decide) hk1 hFc hP1 hD1
    refine vx_catch (own := RL) (name := "java/lang/UnsupportedOperationException") hown [] ⟨0, 10, 13, 13⟩ [] (vx_table (x := yL_put) B (hts _ List.mem_cons_self)) (fun z h => absurd h List.not_mem_nil) (by decide) (by decide) (hg _ g_559) ((hE.1 _ (xw_mem (by decide +kernel) (by decide))).use rfl) hce hcv hcl ?_
    refine lv_astore (lv' := [(4, .ref q9), (0, .ref x.xo), (1, .int pl), (2, .int tb), (3, .ref oa)]) hx hb dL_put_13 hl (by decide) rfl (fun ls hl => ?_)
    refine lv_iconst (v := 1) hx hb dL_put_15 (by decide) ?_
    have hH1 : (if fX10_putH n C P T X pl tb = true then (1 : Int32) else 0) = 1 := if_pos hH
    have hH2 : (if fX10_putH n C P T X pl tb = true then fo else vp_updL fo 0 (fX10_putR n C P T X pl tb).toInt64) = fo := if_pos hH
    refine W.widen (k := 1) (n := 6) (by decide) (by decide) ?_
    exact W.iret (v := 1) hx hb hr (fun t9 ht9 hW => ⟨⟨1, _, rfl, ⟨hH1.symm, rfl⟩, by rw [ht9, hH2]; exact hP2, va_K.moved hW.alike hK, by rw [hH2]; exact hD2⟩, hS1.F ht9⟩) hS1.2.2 dL_put_16
  · obtain ⟨rfl, rfl, hH⟩ := hw
    obtain ⟨hP1, hK1, hD1⟩ := hB
    rw [ht] at hP1
    obtain ⟨hP2, hD2⟩ := va_joinP (X := [oC oa cJ fo] ++ wX0 g x n C T X) (cx := wX0 g x n C T X) (wr := [oC oa cJ fo]) (rx := wX0 g x n C (fX10_putS n C P T X pl tb).2.1 (fX10_putS n C P T X pl tb).2.2) (pl := wL g n C P) (pl1 := wL g n C (fX10_putS n C P T X pl tb).1) hP hD [1, 2, 3, 4, 5, 6, 7, 8, 9] [0] rfl rfl (by decide) (by decide) hk1 hFc hP1 hD1
    have hnH : ¬ fX10_putH n C P T X pl tb = true := by rw [hH]; decide
    have hH1 : (if fX10_putH n C P T X pl tb = true then (1 : Int32) else 0) = 0 := if_neg hnH
    have hH2 : (if fX10_putH n C P T X pl tb = true then fo else vp_updL fo 0 (fX10_putR n C P T X pl tb).toInt64) = vp_updL fo 0 (fX10_putR n C P T X pl tb).toInt64 := if_neg hnH
    refine lv_i2l hx hb dL_put_8 rfl ?_
    refine va_last hx hb hK hP2 hD2 hS1 0 3 rfl rfl (by unfold vp_in; decide) dL_put_9 (fun H locs hP hD hS => ?_)
    have hP : va_P D vwCl ([oC oa cJ (vp_updL fo 0 (fX10_putR n C P T X pl tb).toInt64)] ++ wX g x n C (fX10_putS n C P T X pl tb).1 (fX10_putS n C P T X pl tb).2.1 (fX10_putS n C P T X pl tb).2.2) H := hP
    have hD : va_D A ([oC oa cJ (vp_updL fo 0 (fX10_putR n C P T X pl tb).toInt64)] ++ wX g x n C (fX10_putS n C P T X pl tb).1 (fX10_putS n C P T X pl tb).2.1 (fX10_putS n C P T X pl tb).2.2) := hD
    refine lv_goto (tgt := 17) hx hb dL_put_10 (by decide) ?_
    refine lv_iconst (v := 0) hx hb dL_put_17 (by decide) ?_
    refine W.widen (k := 1) (n := 6) (by decide) (by decide) ?_
    exact W.iret (v := 0) hx hb hr (fun t9 ht9 hW => ⟨⟨0, _, rfl, ⟨hH1.symm, rfl⟩, by rw [ht9, hH2]; exact hP, va_K.moved hW.alike hK, by rw [hH2]; exact hD⟩, hS.F ht9⟩) hS.2.2 dL_put_18

set_option maxHeartbeats 4000000 in
set_option maxRecDepth 100000 in
theorem c_L_take (l : Launch) (hlt : l.stackTraces = false) (hNpe : NpeRow l) (D : va_G) (g : GA) (x : GX) (cJ : ClassId) (oa : Nat) (fo : Nat → Int64) (n : Nat) (hn : n ≤ 12) (C : CZ) (hC : ∀ i, i < n → pkAll (C i).1) (P : Nat → PP) (T : TT) (X : DD) (pl : Int32) (sz : Nat) : Met l yL_take (wdw yL_take cL_take 4 (Option.some Jvm.ClassFile.FieldType.int) [(0, 9, 12, 19)]) { frames := 11, cells := 1, slots := 8, locals := 223 } (va_Pc [.ref x.xo, .int pl, .ref oa] (ctE D (tyL g x cJ) ([oC oa cJ fo] ++ wX g x n C P T X) sz (va_A ([oC oa cJ fo] ++ wX g x n C P T X) sz))) (va_Qi (fun r w => r = (if fX10_takeH n C P T X pl = true then (1 : Int32) else 0) ∧ w = [oC oa cJ (if fX10_takeH n C P T X pl = true then fo else vp_updL fo 0 (fX10_takeR n C P T X pl).toInt64)] ++ wX g x n C (fX10_takeS n C P T X pl).1 (fX10_takeS n C P T X pl).2.1 (fX10_takeS n C P T X pl).2.2) (ctB D (tyL g x cJ) (va_A ([oC oa cJ fo] ++ wX g x n C P T X) sz)) (va_A ([oC oa cJ fo] ++ wX g x n C P T X) sz)) 1 8 (va_A ([oC oa cJ fo] ++ wX g x n C P T X) sz) := by
  refine va_MetW (cc := cL_take) (maxL := 4) (ret := (Option.some Jvm.ClassFile.FieldType.int)) (by decide) rfl ?_
  intro p e s m args below meth c s₁ B hml hv
  obtain ⟨rfl, ⟨hsz, hP, hK, hD0⟩, hE⟩ := hv
  have hx := B.exec
  have hb := B.bytes
  have hr := B.returns
  have hts := atoms_spec (ws := (wdw yL_take cL_take 4 (Option.some Jvm.ClassFile.FieldType.int) [(0, 9, 12, 19)])) B.pre
  have hg := Tb.ofw hts
  have hown : s.vm.findClass RL = some m.cls := findClass_of_methodNamed B.named
  have hlocks := B.notSynchronized
  subst hsz
  have hD := hD0.self (sz := s.heap.size)
  generalize hAe : va_A ([oC oa cJ fo] ++ wX g x n C P T X) s.heap.size = A at hD hE ⊢
  have hA : ∀ q : Nat, s.heap.size ≤ q → A q := fun q h => by rw [← hAe]; exact Or.inr h
  have hS : va_S A s.heap s.heap [] := va_S.rf
  have hP : va_P D vwCl (([oC oa cJ fo] ++ wX0 g x n C T X) ++ wL g n C P) s.heap := hP
  have hD : va_D A (([oC oa cJ fo] ++ wX0 g x n C T X) ++ wL g n C P) := hD
  have hl := lv_entry ([.ref x.xo, .int pl, .ref oa]) (n := 4) (Nat.le_of_ble_eq_true rfl)
  rw [lg_entry_eq]
  generalize (lg_sl ([.ref x.xo, .int pl, .ref oa]) ++ List.replicate (4 - (lg_sl ([.ref x.xo, .int pl, .ref oa])).length) Slot.unset).toArray = ls at hl ⊢
  have hl : lv_has ls 4 [(0, .ref x.xo), (1, .int pl), (2, .ref oa)] := hl
  refine lv_aload_n hx hb dL_take_0 rfl (lv_at hl 2 rfl) ?_
  refine lv_iconst (v := 0) hx hb dL_take_1 (by decide) ?_
  refine lv_aload_n hx hb dL_take_2 rfl (lv_at hl 0 rfl) ?_
  refine lv_iload_n hx hb dL_take_3 rfl (lv_at hl 1 rfl) ?_
  have hPc : va_P D vwCl (wX g x n C P T X) s.heap := hP.part (cx := wX0 g x n C T X) [1, 2, 3, 4, 5, 6, 7, 8, 9] rfl
  have hDc : va_D A (wX g x n C P T X) := hD.part (cx := wX0 g x n C T X) [1, 2, 3, 4, 5, 6, 7, 8, 9] (by decide) rfl
  have hKc : va_K D vwCl (tyX g x) s := hK.sub (tys' := tyX g x) [0, 1, 2] rfl
  have hFc : ∀ q, va_A (wX g x n C P T X) s.heap.size q → A q := va_freeP (X := [oC oa cJ fo] ++ wX0 g x n C T X) (cx := wX0 g x n C T X) (pl := wL g n C P) hD hS hA [1, 2, 3, 4, 5, 6, 7, 8, 9] rfl
  refine vx_calli (vx_runV (As := [.int pl]) (rest := [.int 0, .ref oa]) ⟨hx, hb, hml, hown, hts⟩ (c_X10_take l hlt hNpe D g x n hn C hC P T X pl _) (z_Bw (p := p) 1 hts g_673 g_1 g_670 g_671 g_672 ⟨by decide, by decide, by decide +kernel⟩ ⟨Nat.le_of_ble_eq_true rfl, Nat.le_of_ble_eq_true rfl⟩) (z_preVE (ci := 11) (q0 := 0) hPc hDc hKc hE hS hFc rfl rfl) rfl rfl hl.1 rfl (lv_room (Nat.le_of_ble_eq_true rfl)) dL_take_4 ⟨Nat.le_of_ble_eq_true rfl, Nat.le_of_ble_eq_true rfl⟩) hS (fun q _ h => hFc q h) hFc (fun q _ h => hFc q h) (fun E ce q9 u t H1 locs1 ht hvm hw hB hz1 hk1 hS1 hce hcv hcl => ?_) (fun r u t H1 locs1 ht hvm hw hB hz1 hk1 hS1 => ?_)
  · obtain ⟨rfl, hH⟩ := hw
    obtain ⟨rfl, hP1, hK1, hD1⟩ := hB
    rw [ht] at hP1
    obtain ⟨hP2, hD2⟩ := va_joinP (X := [oC oa cJ fo] ++ wX0 g x n C T X) (cx := wX0 g x n C T X) (wr := [oC oa cJ fo]) (rx := wX0 g x n C (fX10_takeS n C P T X pl).2.1 (fX10_takeS n C P T X pl).2.2) (pl := wL g n C P) (pl1 := wL g n C (fX10_takeS n C P T X pl).1) hP hD [1, 2, 3, 4, 5, 6, 7, 8, 9] [0] rfl rfl (by decide) (by decide) hk1 hFc hP1 hD1
    refine vx_catch (own := RL) (name := "java/lang/NullPointerException") hown [] ⟨0, 9, 12, 19⟩ [] (vx_table (x := yL_take) B (hts _ List.mem_cons_self)) (fun z h => absurd h List.not_mem_nil) (by decide) (by decide) (hg _ g_644) ((hE.1 _ (xw_mem (by decide +kernel) (by decide))).use rfl) hce hcv hcl ?_
    refine lv_astore_n (lv' := [(3, .ref q9), (0, .ref x.xo), (1, .int pl), (2, .ref oa)]) hx hb dL_take_12 rfl hl (by decide) rfl (fun ls hl => ?_)
    refine lv_iconst (v := 1) hx hb dL_take_13 (by decide) ?_
    have hH1 : (if fX10_takeH n C P T X pl = true then (1 : Int32) else 0) = 1 := if_pos hH
    have hH2 : (if fX10_takeH n C P T X pl = true then fo else vp_updL fo 0 (fX10_takeR n C P T X pl).toInt64) = fo := if_pos hH
    refine W.widen (k := 1) (n := 8) (by decide) (by decide) ?_
    exact W.iret (v := 1) hx hb hr (fun t9 ht9 hW => ⟨⟨1, _, rfl, ⟨hH1.symm, rfl⟩, by rw [ht9, hH2]; exact hP2, va_K.moved hW.alike hK, by rw [hH2]; exact hD2⟩, hS1.F ht9⟩) hS1.2.2 dL_take_14
  · obtain ⟨rfl, rfl, hH⟩ := hw
    obtain ⟨hP1, hK1, hD1⟩ := hB
    rw [ht] at hP1
    obtain ⟨hP2, hD2⟩ := va_joinP (X := [oC oa cJ fo] ++ wX0 g x n C T X) (cx := wX0 g x n C T X) (wr := [oC oa cJ fo]) (rx := wX0 g x n C (fX10_takeS n C P T X pl).2.1 (fX10_takeS n C P T X pl).2.2) (pl := wL g n C P) (pl1 := wL g n C (fX10_takeS n C P T X pl).1) hP hD [1, 2, 3, 4, 5, 6, 7, 8, 9] [0] rfl rfl (by decide) (by decide) hk1 hFc hP1 hD1
    have hnH : ¬ fX10_takeH n C P T X pl = true := by rw [hH]; decide
    have hH1 : (if fX10_takeH n C P T X pl = true then (1 : Int32) else 0) = 0 := if_neg hnH
    have hH2 : (if fX10_takeH n C P T X pl = true then fo else vp_updL fo 0 (fX10_takeR n C P T X pl).toInt64) = vp_updL fo 0 (fX10_takeR n C P T X pl).toInt64 := if_neg hnH
    refine lv_i2l hx hb dL_take_7 rfl ?_
    refine va_last hx hb hK hP2 hD2 hS1 0 3 rfl rfl (by unfold vp_in; decide) dL_take_8 (fun H locs hP hD hS => ?_)
    have hP : va_P D vwCl ([oC oa cJ (vp_updL fo 0 (fX10_takeR n C P T X pl).toInt64)] ++ wX g x n C (fX10_takeS n C P T X pl).1 (fX10_takeS n C P T X pl).2.1 (fX10_takeS n C P T X pl).2.2) H := hP
    have hD : va_D A ([oC oa cJ (vp_updL fo 0 (fX10_takeR n C P T X pl).toInt64)] ++ wX g x n C (fX10_takeS n C P T X pl).1 (fX10_takeS n C P T X pl).2.1 (fX10_takeS n C P T X pl).2.2) := hD
    refine lv_goto (tgt := 15) hx hb dL_take_9 (by decide) ?_
    refine lv_iconst (v := 0) hx hb dL_take_15 (by decide) ?_
    refine W.widen (k := 1) (n := 8) (by decide) (by decide) ?_
    exact W.iret (v := 0) hx hb hr (fun t9 ht9 hW => ⟨⟨0, _, rfl, ⟨hH1.symm, rfl⟩, by rw [ht9, hH2]; exact hP, va_K.moved hW.alike hK, by rw [hH2]; exact hD⟩, hS.F ht9⟩) hS.2.2 dL_take_16
