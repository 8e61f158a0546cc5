/-! pile, newPile, PileHeirs() -/
def ciK (k : Int32) : Nat := if k = 1 then 3 else if k = 2 then 6 else if k = 3 then 7 else if k = 4 then 1 else if k = 5 then 10 else if k = 6 then 4 else if k = 7 then 2 else 5
theorem ciK_ok (k : Int32) : pkAll (ciK k) := by
  unfold ciK
  repeat' split
  all_goals simp [pkAll]
theorem four_lt {n a b c d : Nat} (h1 : a < n) (h2 : b < n) (h3 : c < n) (h4 : d < n) (e1 : a ≠ b) (e2 : a ≠ c) (e3 : a ≠ d) (e4 : b ≠ c) (e5 : b ≠ d) (e6 : c ≠ d) : ∃ k, n = k + 4 := ⟨n - 4, by omega⟩
section ZE
variable {p : Program} {l : Launch} {e : Env} {R : Room} {s : State} {m : MethodId} {args : Array Value} {below : List Frame} {meth : Method} {c : Code} {H : Heap} {locs : List Loc} {cells slots : Nat} {Q : State → Prop}
variable {D : va_G} {tys : List (ClassId × FieldType)} {A : Nat → Prop} {H0 : Heap} {ws wc wr pl : va_W}
variable {pc : Nat} {ls : Array Slot} {rest st0 : List Value} {a : Array Value} {mc ms : Nat}
theorem z_qQ {post : Option Nat → va_W → Prop} (hr : va_Run p l e R s m args below meth c H locs cells slots mc ms (F0 m pc ls st0) rest (va_Qq post (ctB D tys (va_A wc H.size)) (va_A wc H.size) a) (va_A wc H.size))
    (hP : va_P D vwCl (ws ++ pl) H) (hD : va_D A (ws ++ pl)) (hS : va_S A H0 H locs) (hA : ∀ q, H0.size ≤ q → A q) (isC isR : List Nat) (hC : isC.map (fun i => ws[i]?) = wc.map some) (hR : isR.map (fun i => ws[i]?) = wr.map some) (hn : va_nd isR = true) (hdis : ∀ i ∈ isR, i ∉ isC)
    (kk : ∀ (r : Option Nat) (w1 : va_W) (H : Heap) (locs : List Loc), post r w1 → va_P D vwCl ((wr ++ w1) ++ pl) H → va_D A ((wr ++ w1) ++ pl) → va_S A H0 H locs → W p l e R s m args below meth c H locs (cells + mc) (slots + ms) Q (F0 m (pc + 3) ls (va_rf r :: rest))) :
    W p l e R s m args below meth c H locs cells slots Q (F0 m pc ls st0) := by
  have hF := z_free hD hS hA isC hC
  refine va_callq hr hS (fun q _ h => hF q h) hF (fun r u t H1 locs1 ht hvm hw hB hz1 hk1 hS1 => ?_)
  obtain ⟨hP1, hK1, hD1⟩ := hB
  rw [ht] at hP1
  obtain ⟨hP2, hD2⟩ := va_joinQ (wr := wr) (w1 := u) hP hD isC isR hC hR hn hdis hk1 hF hP1 hD1
  exact kk r u H1 locs1 hw hP2 hD2 hS1
/-- a chain of superclasses of four -/
theorem sb4 {a b d f h : String} (hab : a ≠ b) (had : a ≠ d) (haf : a ≠ f) (hbd : b ≠ d) (hbf : b ≠ f) (hdf : d ≠ f) (h1 : (Cond.superclass a b).before args s = true) (h2 : (Cond.superclass b d).before args s = true) (h3 : (Cond.superclass d f).before args s = true) (h4 : (Cond.superclass f h).before args s = true) : z_Sub s a h := by
  intro ca ch ha hh
  obtain ⟨p1, k1, k1', hp1, hk1, hk1', hs1, -⟩ := Cond.superclass_spec ha h1
  obtain ⟨p2, k2, -, hp2, hk2, -, hs2, -⟩ := Cond.superclass_spec hp1 h2
  obtain ⟨p3, k3, -, hp3, hk3, -, hs3, -⟩ := Cond.superclass_spec hp2 h3
  obtain ⟨p4, k4, -, hp4, hk4, -, hs4, -⟩ := Cond.superclass_spec hp3 h4
  cases hh.symm.trans hp4
  have l1 := (Array.getElem?_eq_some_iff.mp hk1).1
  have l2 := (Array.getElem?_eq_some_iff.mp hk2).1
  have l3 := (Array.getElem?_eq_some_iff.mp hk3).1
  have l4 := (Array.getElem?_eq_some_iff.mp hk4).1
  obtain ⟨n, hz⟩ := four_lt l1 l2 l3 l4 (z_ne hab ha hp1) (z_ne had ha hp2) (z_ne haf ha hp3) (z_ne hbd hp1 hp2) (z_ne hbf hp1 hp3) (z_ne hdf hp2 hp3)
  simp [Vm.isSubclass, hz, Vm.isSubclassAux, hk1, hs1, hk2, hs2, hk3, hs3, hk4, hs4]
/-- a subclass may be cast to Plain -/
theorem z_cast {C o : String} (hsub : z_Sub s C RX4) (h1 : (Cond.superclass C o).before args s = true) (hC : ∃ c, s.vm.findClass C = some c) (hP : (Cond.superclass RX4 "java/lang/Object").before args s = true) (hPc : ∃ c, s.vm.findClass RX4 = some c) : va_Nw (.castable C RX4) s := by
  obtain ⟨ca, ha⟩ := hC
  obtain ⟨cb, hb⟩ := hPc
  obtain ⟨p1, k1, -, hp1, hk1, -, hs1, ho1, -, hi1⟩ := Cond.superclass_spec ha h1
  obtain ⟨p2, k2, -, hp2, hk2, -, hs2, ho2, -, hi2⟩ := Cond.superclass_spec hb hP
  have hs := hsub ca cb ha hb
  have h : s.vm.assignable ca cb = true := by
    unfold Vm.assignable Vm.assignableAux
    by_cases hct : ca = cb
    · subst hct; simp
    · have hne : (ca == cb) = false := by simpa using hct
      simpa [hne, hk1, hk2, ho1, ho2, hi2] using hs
  show (Cond.castable C RX4).before #[] s = true
  simp [Cond.before, Cond.holds, Cond.value, ha, hb, h]
end ZE

theorem ClassAt.ex {s : State} {C : String} {c : ClassId} (h : ClassAt s C c) : ∃ c, s.vm.findClass C = some c := ⟨c, h.1⟩
theorem z_castP {args : Array Value} {s : State} {D : va_G} {tys : List (ClassId × FieldType)} (hg : Tb args s) (hK : va_K D vwCl tys s) {ci : Nat} (hci : pkAll ci) (h5 : ci ≠ 5) : va_Nw (.castable (vn ci) RX4) s := by
  rcases hci with rfl | rfl | rfl | rfl | rfl | rfl | rfl | rfl
  · exact z_cast (sb3 (by decide) (by decide) (by decide) (hg _ g_206) (hg _ g_178) (hg _ g_164)) (hg _ g_206) (hK.1 _ _ (pq_cl (ci := 1) (by simp [pkAll]))).2.ex (hg _ g_258) (hK.1 _ _ (pq_cl (ci := 5) (by simp [pkAll]))).2.ex
  · exact z_cast (sb4 (by decide) (by decide) (by decide) (by decide) (by decide) (by decide) (hg _ g_248) (hg _ g_220) (hg _ g_192) (hg _ g_164)) (hg _ g_248) (hK.1 _ _ (pq_cl (ci := 2) (by simp [pkAll]))).2.ex (hg _ g_258) (hK.1 _ _ (pq_cl (ci := 5) (by simp [pkAll]))).2.ex
  · exact z_cast (sb1  (hg _ g_164)) (hg _ g_164) (hK.1 _ _ (pq_cl (ci := 3) (by simp [pkAll]))).2.ex (hg _ g_258) (hK.1 _ _ (pq_cl (ci := 5) (by simp [pkAll]))).2.ex
  · exact z_cast (sb4 (by decide) (by decide) (by decide) (by decide) (by decide) (by decide) (hg _ g_234) (hg _ g_206) (hg _ g_178) (hg _ g_164)) (hg _ g_234) (hK.1 _ _ (pq_cl (ci := 4) (by simp [pkAll]))).2.ex (hg _ g_258) (hK.1 _ _ (pq_cl (ci := 5) (by simp [pkAll]))).2.ex
  · exact absurd rfl h5
  · exact z_cast (sb2 (by decide) (hg _ g_178) (hg _ g_164)) (hg _ g_178) (hK.1 _ _ (pq_cl (ci := 6) (by simp [pkAll]))).2.ex (hg _ g_258) (hK.1 _ _ (pq_cl (ci := 5) (by simp [pkAll]))).2.ex
  · exact z_cast (sb2 (by decide) (hg _ g_192) (hg _ g_164)) (hg _ g_192) (hK.1 _ _ (pq_cl (ci := 7) (by simp [pkAll]))).2.ex (hg _ g_258) (hK.1 _ _ (pq_cl (ci := 5) (by simp [pkAll]))).2.ex
  · exact z_cast (sb3 (by decide) (by decide) (by decide) (hg _ g_220) (hg _ g_192) (hg _ g_164)) (hg _ g_220) (hK.1 _ _ (pq_cl (ci := 10) (by simp [pkAll]))).2.ex (hg _ g_258) (hK.1 _ _ (pq_cl (ci := 5) (by simp [pkAll]))).2.ex

section ZF
variable {p : Program} {l : Launch} {e : Env} {R : Room} {s : State} {m : MethodId} {args : Array Value} {below : List Frame} {meth : Method} {c : Code} {H : Heap} {locs : List Loc} {cells slots : Nat} {Q : State → Prop}
variable {D : va_G} {tys : List (ClassId × FieldType)} {A : Nat → Prop} {H0 : Heap} {ws : va_W} {cc : ByteArray} {pc : Nat} {ls : Array Slot} {rest : List Value} {a : Nat}
theorem z_astP (hexec : p.tables.exec = Jvm.exec) (hb : c.code = cc) (hg : Tb args s) (hK : va_K D vwCl tys s) (hP : va_P D vwCl ws H) (hD : va_D A ws) (hS : va_S A H0 H locs) (q0 t0 qk : Nat) {ci : Nat} (hci : pkAll ci) {cA : ClassId} {n v : Nat} {vs : List Value} {f : Nat → Option Nat} (ha : ws[q0]? = some (a, .inl (cA, n, .inr (.inr (.inr (.inr f)))))) (ht : tys[t0]? = some (cA, .object "PileHeirs$Plain")) (hv : ws[qk]? = some (v, .inr (ci, vs))) {i : Int32} (hin : vp_in i n) (hdg : decode cc pc = .ok (.aastore, 1))
    (kk : ∀ (H1 : Heap) (locs1 : List Loc), va_P D vwCl (ws.set q0 (a, .inl (cA, n, .inr (.inr (.inr (.inr (va_up f i.toNatClampNeg (some v)))))))) H1 → va_D A (ws.set q0 (a, .inl (cA, n, .inr (.inr (.inr (.inr (va_up f i.toNatClampNeg (some v)))))))) → va_S A H0 H1 locs1 → W p l e R s m args below meth c H1 locs1 cells slots Q (F0 m (pc + 1) ls rest)) : W p l e R s m args below meth c H locs cells slots Q (F0 m pc ls (.ref v :: .int i :: .ref a :: rest)) := by
  by_cases h5 : ci = 5
  · subst h5
    exact va_astq (r := (RX4, TX4, 7)) hexec hb hK hP hD hS q0 t0 qk 5 ha ht hv rfl hin hdg kk
  · exact va_astqO (E := "PileHeirs$Plain") (r := (vn ci, TX4, 7)) hexec hb hK hP hD hS q0 t0 qk ci ha ht (z_castP hg hK hci h5) hv (pq_cl hci) hin hdg kk
end ZF

set_option maxHeartbeats 4000000 in
set_option maxRecDepth 100000 in
theorem c_X10_newPile (l : Launch) (D : va_G) (g : GA) (x : GX) (n : Nat) (k nm cp lm : Int32) : ctQ l D (tyX g x) yX10_newPile (wd yX10_newPile cX10_newPile 5 (Option.some (Jvm.ClassFile.FieldType.object "PileHeirs$Plain"))) { frames := 6, cells := 2, slots := 19, locals := 137 } [.ref x.xo, .int k, .int nm, .int cp, .int lm] [(x.xo, .inr (11, [.ref g.tm, .ref g.dn, .ref x.pa, .int (nI n)]))] (fun r w => ∃ q q1 : Nat, r = some q ∧ w = [(x.xo, .inr (11, [.ref g.tm, .ref g.dn, .ref x.pa, .int (nI n)]))] ++ wP g (ciK k) q q1 (nm, cp, lm, (fun _ => 0), 0)) := by
  intro sz
  refine Met.ofW (cc := cX10_newPile) (maxL := 5) (ret := (Option.some (Jvm.ClassFile.FieldType.object "PileHeirs$Plain"))) (by decide) rfl ?_
  intro p e s m args below meth c s₁ B hml hv
  obtain ⟨rfl, hsz, hP, hK, hD0⟩ := hv
  have hx := B.exec
  have hb := B.bytes
  have hr := B.returns
  have hts := atoms_spec (ws := (wd yX10_newPile cX10_newPile 5 (Option.some (Jvm.ClassFile.FieldType.object "PileHeirs$Plain")))) B.pre
  have hg := Tb.of hts
  have hown : s.vm.findClass RX10 = some m.cls := findClass_of_methodNamed B.named
  have hlocks := B.notSynchronized
  subst hsz
  have hD := hD0.self (sz := s.heap.size)
  generalize hAe : va_A ([(x.xo, .inr (11, [.ref g.tm, .ref g.dn, .ref x.pa, .int (nI n)]))]) s.heap.size = A at hD ⊢
  have hA : ∀ q : Nat, s.heap.size ≤ q → A q := fun q h => by rw [← hAe]; exact Or.inr h
  have hS : va_S A s.heap s.heap [] := va_S.rf
  have hP : va_P D vwCl ([(x.xo, .inr (11, [.ref g.tm, .ref g.dn, .ref x.pa, .int (nI n)]))]) s.heap := hP
  have hl := lv_entry ([.ref x.xo, .int k, .int nm, .int cp, .int lm]) (n := 5) (Nat.le_of_ble_eq_true rfl)
  rw [lg_entry_eq]
  generalize (lg_sl ([.ref x.xo, .int k, .int nm, .int cp, .int lm]) ++ List.replicate (5 - (lg_sl ([.ref x.xo, .int k, .int nm, .int cp, .int lm])).length) Slot.unset).toArray = ls at hl ⊢
  have hl : lv_has ls 5 [(0, .ref x.xo), (1, .int k), (2, .int nm), (3, .int cp), (4, .int lm)] := hl
  refine lv_iload_n hx hb dX10_newPile_0 rfl (lv_at hl 1 rfl) ?_
  by_cases c_1 : k = 1
  · refine lv_tableIn (tgt := 44) (off := 43) hx hb dX10_newPile_1 (by rw [c_1]; decide) (by rw [c_1]; decide) (by rw [c_1]; rfl) (by decide) ?_
    have hci : ciK k = 3 := by unfold ciK; rw [if_pos c_1]
    refine va_new (ci := 3) (fs := [.null, .null, .int 0, .int 0, .int 0, .null, .int 0]) (C := RX2) (T := TX4) (N := 7) hx hb hg in_X2 tyX4 tyX4_ok hown (hg _ g_110) (hg _ g_111) (hg _ g_6) hK hP hD hS hA rfl (fun j hj => by rcases (show j = 0 ∨ j = 1 ∨ j = 2 ∨ j = 3 ∨ j = 4 ∨ j = 5 ∨ j = 6 by omega) with rfl | rfl | rfl | rfl | rfl | rfl | rfl <;> rfl) (Nat.le_of_ble_eq_true rfl) (Nat.le_of_ble_eq_true rfl) dX10_newPile_44 (fun q H hP hD hS => ?_)
    have hP : va_P D vwCl [(x.xo, .inr (11, [.ref g.tm, .ref g.dn, .ref x.pa, .int (nI n)])), (q, .inr (3, [.null, .null, .int 0, .int 0, .int 0, .null, .int 0]))] H := hP
    have hD : va_D A [(x.xo, .inr (11, [.ref g.tm, .ref g.dn, .ref x.pa, .int (nI n)])), (q, .inr (3, [.null, .null, .int 0, .int 0, .int 0, .null, .int 0]))] := hD
    refine W.widen (k := 1) (n := 7) (by decide) (by decide) ?_
    refine lv_dup hx hb dX10_newPile_47 rfl ?_
    refine lv_aload_n hx hb dX10_newPile_48 rfl (lv_at hl 0 rfl) ?_
    refine va_get (D := D) (ci := 11) (v := .ref g.tm) (C := RX10) (T := TX10) (N := 4) hx hb hg in_X10 hown hK hP 0 rfl rfl 0 (by decide) (hg _ g_78) (fun _ h9 => h9) rfl dX10_newPile_49 ?_
    refine lv_aload_n hx hb dX10_newPile_52 rfl (lv_at hl 0 rfl) ?_
    refine va_get (D := D) (ci := 11) (v := .ref g.dn) (C := RX10) (T := TX10) (N := 4) hx hb hg in_X10 hown hK hP 0 rfl rfl 1 (by decide) (hg _ g_79) (fun _ h9 => h9) rfl dX10_newPile_53 ?_
    refine lv_iload_n hx hb dX10_newPile_56 rfl (lv_at hl 2 rfl) ?_
    refine lv_iload_n hx hb dX10_newPile_57 rfl (lv_at hl 3 rfl) ?_
    refine lv_iload hx hb dX10_newPile_58 (lv_at hl 4 rfl) ?_
    refine z_v (va_runI (As := [.ref g.tm, .ref g.dn, .int nm, .int cp, .int lm]) (rest := [.ref q]) ⟨hx, hb, hml, hown, hts⟩ (c_X2_init l D g.cI g.cZ 3 (by simp [pkMa]) q g.tm g.dn nm cp lm _) ⟨z_B 5 hts g_114 g_6 g_112 ⟨by decide, by decide, by decide +kernel⟩ ⟨Nat.le_of_ble_eq_true rfl, Nat.le_of_ble_eq_true rfl⟩, rfl, hg _ g_113⟩ (z_preS (hP.subm [1] rfl) (hD.sub [1] (by decide) rfl) (hK.sub (tys' := tyA g) [0, 1] rfl)) rfl rfl hl.1 rfl (lv_room (Nat.le_of_ble_eq_true rfl)) dX10_newPile_60 ⟨Nat.le_of_ble_eq_true rfl, Nat.le_of_ble_eq_true rfl⟩) hP hD hS hA [1] [0] rfl rfl (by decide) (by decide) (wr := [(x.xo, .inr (11, [.ref g.tm, .ref g.dn, .ref x.pa, .int (nI n)]))]) (fun w1 H locs hw hP hD hS => ?_)
    obtain ⟨q1, rfl⟩ := hw
    refine W.widen (k := 2) (n := 19) (by decide) (by decide) ?_
    exact W.aret (v := va_rf (some q)) hx hb hr (Or.inl ⟨_, rfl⟩) (va_rf_or _) (fun t9 ht hW => ⟨⟨some q, _, rfl, ⟨q, q1, rfl, by rw [hci]⟩, by rw [ht]; exact hP, va_K.moved hW.alike hK, hD⟩, hS.F ht⟩) hS.2.2 dX10_newPile_63
  · skip
    by_cases c_2 : k = 2
    · refine lv_tableIn (tgt := 64) (off := 63) hx hb dX10_newPile_1 (by rw [c_2]; decide) (by rw [c_2]; decide) (by rw [c_2]; rfl) (by decide) ?_
      have hci : ciK k = 6 := by unfold ciK; rw [if_neg c_1]; rw [if_pos c_2]
      refine va_new (ci := 6) (fs := [.null, .null, .int 0, .int 0, .int 0, .null, .int 0]) (C := RX5) (T := TX4) (N := 7) hx hb hg in_X5 tyX4 tyX4_ok hown (hg _ g_165) (hg _ g_166) (hg _ g_7) hK hP hD hS hA rfl (fun j hj => by rcases (show j = 0 ∨ j = 1 ∨ j = 2 ∨ j = 3 ∨ j = 4 ∨ j = 5 ∨ j = 6 by omega) with rfl | rfl | rfl | rfl | rfl | rfl | rfl <;> rfl) (Nat.le_of_ble_eq_true rfl) (Nat.le_of_ble_eq_true rfl) dX10_newPile_64 (fun q H hP hD hS => ?_)
      have hP : va_P D vwCl [(x.xo, .inr (11, [.ref g.tm, .ref g.dn, .ref x.pa, .int (nI n)])), (q, .inr (6, [.null, .null, .int 0, .int 0, .int 0, .null, .int 0]))] H := hP
      have hD : va_D A [(x.xo, .inr (11, [.ref g.tm, .ref g.dn, .ref x.pa, .int (nI n)])), (q, .inr (6, [.null, .null, .int 0, .int 0, .int 0, .null, .int 0]))] := hD
      refine W.widen (k := 1) (n := 7) (by decide) (by decide) ?_
      refine lv_dup hx hb dX10_newPile_67 rfl ?_
      refine lv_aload_n hx hb dX10_newPile_68 rfl (lv_at hl 0 rfl) ?_
      refine va_get (D := D) (ci := 11) (v := .ref g.tm) (C := RX10) (T := TX10) (N := 4) hx hb hg in_X10 hown hK hP 0 rfl rfl 0 (by decide) (hg _ g_78) (fun _ h9 => h9) rfl dX10_newPile_69 ?_
      refine lv_aload_n hx hb dX10_newPile_72 rfl (lv_at hl 0 rfl) ?_
      refine va_get (D := D) (ci := 11) (v := .ref g.dn) (C := RX10) (T := TX10) (N := 4) hx hb hg in_X10 hown hK hP 0 rfl rfl 1 (by decide) (hg _ g_79) (fun _ h9 => h9) rfl dX10_newPile_73 ?_
      refine lv_iload_n hx hb dX10_newPile_76 rfl (lv_at hl 2 rfl) ?_
      refine lv_iload_n hx hb dX10_newPile_77 rfl (lv_at hl 3 rfl) ?_
      refine lv_iload hx hb dX10_newPile_78 (lv_at hl 4 rfl) ?_
      refine z_v (va_runI (As := [.ref g.tm, .ref g.dn, .int nm, .int cp, .int lm]) (rest := [.ref q]) ⟨hx, hb, hml, hown, hts⟩ (c_X5_init l D g.cI g.cZ 6 (by simp [pkSo]) q g.tm g.dn nm cp lm _) ⟨z_B 5 hts g_169 g_7 g_167 ⟨by decide, by decide, by decide +kernel⟩ ⟨Nat.le_of_ble_eq_true rfl, Nat.le_of_ble_eq_true rfl⟩, rfl, hg _ g_168⟩ (z_preS (hP.subm [1] rfl) (hD.sub [1] (by decide) rfl) (hK.sub (tys' := tyA g) [0, 1] rfl)) rfl rfl hl.1 rfl (lv_room (Nat.le_of_ble_eq_true rfl)) dX10_newPile_80 ⟨Nat.le_of_ble_eq_true rfl, Nat.le_of_ble_eq_true rfl⟩) hP hD hS hA [1] [0] rfl rfl (by decide) (by decide) (wr := [(x.xo, .inr (11, [.ref g.tm, .ref g.dn, .ref x.pa, .int (nI n)]))]) (fun w1 H locs hw hP hD hS => ?_)
      obtain ⟨q1, rfl⟩ := hw
      refine W.widen (k := 2) (n := 19) (by decide) (by decide) ?_
      exact W.aret (v := va_rf (some q)) hx hb hr (Or.inl ⟨_, rfl⟩) (va_rf_or _) (fun t9 ht hW => ⟨⟨some q, _, rfl, ⟨q, q1, rfl, by rw [hci]⟩, by rw [ht]; exact hP, va_K.moved hW.alike hK, hD⟩, hS.F ht⟩) hS.2.2 dX10_newPile_83
    · skip
      by_cases c_3 : k = 3
      · refine lv_tableIn (tgt := 84) (off := 83) hx hb dX10_newPile_1 (by rw [c_3]; decide) (by rw [c_3]; decide) (by rw [c_3]; rfl) (by decide) ?_
        have hci : ciK k = 7 := by unfold ciK; rw [if_neg c_1]; rw [if_neg c_2]; rw [if_pos c_3]
        refine va_new (ci := 7) (fs := [.null, .null, .int 0, .int 0, .int 0, .null, .int 0]) (C := RX6) (T := TX4) (N := 7) hx hb hg in_X6 tyX4 tyX4_ok hown (hg _ g_179) (hg _ g_180) (hg _ g_8) hK hP hD hS hA rfl (fun j hj => by rcases (show j = 0 ∨ j = 1 ∨ j = 2 ∨ j = 3 ∨ j = 4 ∨ j = 5 ∨ j = 6 by omega) with rfl | rfl | rfl | rfl | rfl | rfl | rfl <;> rfl) (Nat.le_of_ble_eq_true rfl) (Nat.le_of_ble_eq_true rfl) dX10_newPile_84 (fun q H hP hD hS => ?_)
        have hP : va_P D vwCl [(x.xo, .inr (11, [.ref g.tm, .ref g.dn, .ref x.pa, .int (nI n)])), (q, .inr (7, [.null, .null, .int 0, .int 0, .int 0, .null, .int 0]))] H := hP
        have hD : va_D A [(x.xo, .inr (11, [.ref g.tm, .ref g.dn, .ref x.pa, .int (nI n)])), (q, .inr (7, [.null, .null, .int 0, .int 0, .int 0, .null, .int 0]))] := hD
        refine W.widen (k := 1) (n := 7) (by decide) (by decide) ?_
        refine lv_dup hx hb dX10_newPile_87 rfl ?_
        refine lv_aload_n hx hb dX10_newPile_88 rfl (lv_at hl 0 rfl) ?_
        refine va_get (D := D) (ci := 11) (v := .ref g.tm) (C := RX10) (T := TX10) (N := 4) hx hb hg in_X10 hown hK hP 0 rfl rfl 0 (by decide) (hg _ g_78) (fun _ h9 => h9) rfl dX10_newPile_89 ?_
        refine lv_aload_n hx hb dX10_newPile_92 rfl (lv_at hl 0 rfl) ?_
        refine va_get (D := D) (ci := 11) (v := .ref g.dn) (C := RX10) (T := TX10) (N := 4) hx hb hg in_X10 hown hK hP 0 rfl rfl 1 (by decide) (hg _ g_79) (fun _ h9 => h9) rfl dX10_newPile_93 ?_
        refine lv_iload_n hx hb dX10_newPile_96 rfl (lv_at hl 2 rfl) ?_
        refine lv_iload_n hx hb dX10_newPile_97 rfl (lv_at hl 3 rfl) ?_
        refine lv_iload hx hb dX10_newPile_98 (lv_at hl 4 rfl) ?_
        refine z_v (va_runI (As := [.ref g.tm, .ref g.dn, .int nm, .int cp, .int lm]) (rest := [.ref q]) ⟨hx, hb, hml, hown, hts⟩ (c_X6_init l D g.cI g.cZ 7 (by simp [pkSt]) q g.tm g.dn nm cp lm _) ⟨z_B 5 hts g_183 g_8 g_181 ⟨by decide, by decide, by decide +kernel⟩ ⟨Nat.le_of_ble_eq_true rfl, Nat.le_of_ble_eq_true rfl⟩, rfl, hg _ g_182⟩ (z_preS (hP.subm [1] rfl) (hD.sub [1] (by decide) rfl) (hK.sub (tys' := tyA g) [0, 1] rfl)) rfl rfl hl.1 rfl (lv_room (Nat.le_of_ble_eq_true rfl)) dX10_newPile_100 ⟨Nat.le_of_ble_eq_true rfl, Nat.le_of_ble_eq_true rfl⟩) hP hD hS hA [1] [0] rfl rfl (by decide) (by decide) (wr := [(x.xo, .inr (11, [.ref g.tm, .ref g.dn, .ref x.pa, .int (nI n)]))]) (fun w1 H locs hw hP hD hS => ?_)
        obtain ⟨q1, rfl⟩ := hw
        refine W.widen (k := 2) (n := 19) (by decide) (by decide) ?_
        exact W.aret (v := va_rf (some q)) hx hb hr (Or.inl ⟨_, rfl⟩) (va_rf_or _) (fun t9 ht hW => ⟨⟨some q, _, rfl, ⟨q, q1, rfl, by rw [hci]⟩, by rw [ht]; exact hP, va_K.moved hW.alike hK, hD⟩, hS.F ht⟩) hS.2.2 dX10_newPile_103
      · skip
        by_cases c_4 : k = 4
        · refine lv_tableIn (tgt := 104) (off := 103) hx hb dX10_newPile_1 (by rw [c_4]; decide) (by rw [c_4]; decide) (by rw [c_4]; rfl) (by decide) ?_
          have hci : ciK k = 1 := by unfold ciK; rw [if_neg c_1]; rw [if_neg c_2]; rw [if_neg c_3]; rw [if_pos c_4]
          refine va_new (ci := 1) (fs := [.null, .null, .int 0, .int 0, .int 0, .null, .int 0]) (C := RX0) (T := TX4) (N := 7) hx hb hg in_X0 tyX4 tyX4_ok hown (hg _ g_193) (hg _ g_194) (hg _ g_9) hK hP hD hS hA rfl (fun j hj => by rcases (show j = 0 ∨ j = 1 ∨ j = 2 ∨ j = 3 ∨ j = 4 ∨ j = 5 ∨ j = 6 by omega) with rfl | rfl | rfl | rfl | rfl | rfl | rfl <;> rfl) (Nat.le_of_ble_eq_true rfl) (Nat.le_of_ble_eq_true rfl) dX10_newPile_104 (fun q H hP hD hS => ?_)
          have hP : va_P D vwCl [(x.xo, .inr (11, [.ref g.tm, .ref g.dn, .ref x.pa, .int (nI n)])), (q, .inr (1, [.null, .null, .int 0, .int 0, .int 0, .null, .int 0]))] H := hP
          have hD : va_D A [(x.xo, .inr (11, [.ref g.tm, .ref g.dn, .ref x.pa, .int (nI n)])), (q, .inr (1, [.null, .null, .int 0, .int 0, .int 0, .null, .int 0]))] := hD
          refine W.widen (k := 1) (n := 7) (by decide) (by decide) ?_
          refine lv_dup hx hb dX10_newPile_107 rfl ?_
          refine lv_aload_n hx hb dX10_newPile_108 rfl (lv_at hl 0 rfl) ?_
          refine va_get (D := D) (ci := 11) (v := .ref g.tm) (C := RX10) (T := TX10) (N := 4) hx hb hg in_X10 hown hK hP 0 rfl rfl 0 (by decide) (hg _ g_78) (fun _ h9 => h9) rfl dX10_newPile_109 ?_
          refine lv_aload_n hx hb dX10_newPile_112 rfl (lv_at hl 0 rfl) ?_
          refine va_get (D := D) (ci := 11) (v := .ref g.dn) (C := RX10) (T := TX10) (N := 4) hx hb hg in_X10 hown hK hP 0 rfl rfl 1 (by decide) (hg _ g_79) (fun _ h9 => h9) rfl dX10_newPile_113 ?_
          refine lv_iload_n hx hb dX10_newPile_116 rfl (lv_at hl 2 rfl) ?_
          refine lv_iload_n hx hb dX10_newPile_117 rfl (lv_at hl 3 rfl) ?_
          refine lv_iload hx hb dX10_newPile_118 (lv_at hl 4 rfl) ?_
          refine z_v (va_runI (As := [.ref g.tm, .ref g.dn, .int nm, .int cp, .int lm]) (rest := [.ref q]) ⟨hx, hb, hml, hown, hts⟩ (c_X0_init l D g.cI g.cZ 1 (by simp [pkDr]) q g.tm g.dn nm cp lm _) ⟨z_B 5 hts g_197 g_9 g_195 ⟨by decide, by decide, by decide +kernel⟩ ⟨Nat.le_of_ble_eq_true rfl, Nat.le_of_ble_eq_true rfl⟩, rfl, hg _ g_196⟩ (z_preS (hP.subm [1] rfl) (hD.sub [1] (by decide) rfl) (hK.sub (tys' := tyA g) [0, 1] rfl)) rfl rfl hl.1 rfl (lv_room (Nat.le_of_ble_eq_true rfl)) dX10_newPile_120 ⟨Nat.le_of_ble_eq_true rfl, Nat.le_of_ble_eq_true rfl⟩) hP hD hS hA [1] [0] rfl rfl (by decide) (by decide) (wr := [(x.xo, .inr (11, [.ref g.tm, .ref g.dn, .ref x.pa, .int (nI n)]))]) (fun w1 H locs hw hP hD hS => ?_)
          obtain ⟨q1, rfl⟩ := hw
          refine W.widen (k := 2) (n := 19) (by decide) (by decide) ?_
          exact W.aret (v := va_rf (some q)) hx hb hr (Or.inl ⟨_, rfl⟩) (va_rf_or _) (fun t9 ht hW => ⟨⟨some q, _, rfl, ⟨q, q1, rfl, by rw [hci]⟩, by rw [ht]; exact hP, va_K.moved hW.alike hK, hD⟩, hS.F ht⟩) hS.2.2 dX10_newPile_123
        · skip
          by_cases c_5 : k = 5
          · refine lv_tableIn (tgt := 124) (off := 123) hx hb dX10_newPile_1 (by rw [c_5]; decide) (by rw [c_5]; decide) (by rw [c_5]; rfl) (by decide) ?_
            have hci : ciK k = 10 := by unfold ciK; rw [if_neg c_1]; rw [if_neg c_2]; rw [if_neg c_3]; rw [if_neg c_4]; rw [if_pos c_5]
            refine va_new (ci := 10) (fs := [.null, .null, .int 0, .int 0, .int 0, .null, .int 0]) (C := RX9) (T := TX4) (N := 7) hx hb hg in_X9 tyX4 tyX4_ok hown (hg _ g_207) (hg _ g_208) (hg _ g_10) hK hP hD hS hA rfl (fun j hj => by rcases (show j = 0 ∨ j = 1 ∨ j = 2 ∨ j = 3 ∨ j = 4 ∨ j = 5 ∨ j = 6 by omega) with rfl | rfl | rfl | rfl | rfl | rfl | rfl <;> rfl) (Nat.le_of_ble_eq_true rfl) (Nat.le_of_ble_eq_true rfl) dX10_newPile_124 (fun q H hP hD hS => ?_)
            have hP : va_P D vwCl [(x.xo, .inr (11, [.ref g.tm, .ref g.dn, .ref x.pa, .int (nI n)])), (q, .inr (10, [.null, .null, .int 0, .int 0, .int 0, .null, .int 0]))] H := hP
            have hD : va_D A [(x.xo, .inr (11, [.ref g.tm, .ref g.dn, .ref x.pa, .int (nI n)])), (q, .inr (10, [.null, .null, .int 0, .int 0, .int 0, .null, .int 0]))] := hD
            refine W.widen (k := 1) (n := 7) (by decide) (by decide) ?_
            refine lv_dup hx hb dX10_newPile_127 rfl ?_
            refine lv_aload_n hx hb dX10_newPile_128 rfl (lv_at hl 0 rfl) ?_
            refine va_get (D := D) (ci := 11) (v := .ref g.tm) (C := RX10) (T := TX10) (N := 4) hx hb hg in_X10 hown hK hP 0 rfl rfl 0 (by decide) (hg _ g_78) (fun _ h9 => h9) rfl dX10_newPile_129 ?_
            refine lv_aload_n hx hb dX10_newPile_132 rfl (lv_at hl 0 rfl) ?_
            refine va_get (D := D) (ci := 11) (v := .ref g.dn) (C := RX10) (T := TX10) (N := 4) hx hb hg in_X10 hown hK hP 0 rfl rfl 1 (by decide) (hg _ g_79) (fun _ h9 => h9) rfl dX10_newPile_133 ?_
            refine lv_iload_n hx hb dX10_newPile_136 rfl (lv_at hl 2 rfl) ?_
            refine lv_iload_n hx hb dX10_newPile_137 rfl (lv_at hl 3 rfl) ?_
            refine lv_iload hx hb dX10_newPile_138 (lv_at hl 4 rfl) ?_
            refine z_v (va_runI (As := [.ref g.tm, .ref g.dn, .int nm, .int cp, .int lm]) (rest := [.ref q]) ⟨hx, hb, hml, hown, hts⟩ (c_X9_init l D g.cI g.cZ 10 (by simp [pkTw]) q g.tm g.dn nm cp lm _) ⟨z_B 5 hts g_211 g_10 g_209 ⟨by decide, by decide, by decide +kernel⟩ ⟨Nat.le_of_ble_eq_true rfl, Nat.le_of_ble_eq_true rfl⟩, rfl, hg _ g_210⟩ (z_preS (hP.subm [1] rfl) (hD.sub [1] (by decide) rfl) (hK.sub (tys' := tyA g) [0, 1] rfl)) rfl rfl hl.1 rfl (lv_room (Nat.le_of_ble_eq_true rfl)) dX10_newPile_140 ⟨Nat.le_of_ble_eq_true rfl, Nat.le_of_ble_eq_true rfl⟩) hP hD hS hA [1] [0] rfl rfl (by decide) (by decide) (wr := [(x.xo, .inr (11, [.ref g.tm, .ref g.dn, .ref x.pa, .int (nI n)]))]) (fun w1 H locs hw hP hD hS => ?_)
            obtain ⟨q1, rfl⟩ := hw
            refine W.widen (k := 2) (n := 19) (by decide) (by decide) ?_
            exact W.aret (v := va_rf (some q)) hx hb hr (Or.inl ⟨_, rfl⟩) (va_rf_or _) (fun t9 ht hW => ⟨⟨some q, _, rfl, ⟨q, q1, rfl, by rw [hci]⟩, by rw [ht]; exact hP, va_K.moved hW.alike hK, hD⟩, hS.F ht⟩) hS.2.2 dX10_newPile_143
          · skip
            by_cases c_6 : k = 6
            · refine lv_tableIn (tgt := 144) (off := 143) hx hb dX10_newPile_1 (by rw [c_6]; decide) (by rw [c_6]; decide) (by rw [c_6]; rfl) (by decide) ?_
              have hci : ciK k = 4 := by unfold ciK; rw [if_neg c_1]; rw [if_neg c_2]; rw [if_neg c_3]; rw [if_neg c_4]; rw [if_neg c_5]; rw [if_pos c_6]
              refine va_new (ci := 4) (fs := [.null, .null, .int 0, .int 0, .int 0, .null, .int 0]) (C := RX3) (T := TX4) (N := 7) hx hb hg in_X3 tyX4 tyX4_ok hown (hg _ g_221) (hg _ g_222) (hg _ g_11) hK hP hD hS hA rfl (fun j hj => by rcases (show j = 0 ∨ j = 1 ∨ j = 2 ∨ j = 3 ∨ j = 4 ∨ j = 5 ∨ j = 6 by omega) with rfl | rfl | rfl | rfl | rfl | rfl | rfl <;> rfl) (Nat.le_of_ble_eq_true rfl) (Nat.le_of_ble_eq_true rfl) dX10_newPile_144 (fun q H hP hD hS => ?_)
              have hP : va_P D vwCl [(x.xo, .inr (11, [.ref g.tm, .ref g.dn, .ref x.pa, .int (nI n)])), (q, .inr (4, [.null, .null, .int 0, .int 0, .int 0, .null, .int 0]))] H := hP
              have hD : va_D A [(x.xo, .inr (11, [.ref g.tm, .ref g.dn, .ref x.pa, .int (nI n)])), (q, .inr (4, [.null, .null, .int 0, .int 0, .int 0, .null, .int 0]))] := hD
              refine W.widen (k := 1) (n := 7) (by decide) (by decide) ?_
              refine lv_dup hx hb dX10_newPile_147 rfl ?_
              refine lv_aload_n hx hb dX10_newPile_148 rfl (lv_at hl 0 rfl) ?_
              refine va_get (D := D) (ci := 11) (v := .ref g.tm) (C := RX10) (T := TX10) (N := 4) hx hb hg in_X10 hown hK hP 0 rfl rfl 0 (by decide) (hg _ g_78) (fun _ h9 => h9) rfl dX10_newPile_149 ?_
              refine lv_aload_n hx hb dX10_newPile_152 rfl (lv_at hl 0 rfl) ?_
              refine va_get (D := D) (ci := 11) (v := .ref g.dn) (C := RX10) (T := TX10) (N := 4) hx hb hg in_X10 hown hK hP 0 rfl rfl 1 (by decide) (hg _ g_79) (fun _ h9 => h9) rfl dX10_newPile_153 ?_
              refine lv_iload_n hx hb dX10_newPile_156 rfl (lv_at hl 2 rfl) ?_
              refine lv_iload_n hx hb dX10_newPile_157 rfl (lv_at hl 3 rfl) ?_
              refine lv_iload hx hb dX10_newPile_158 (lv_at hl 4 rfl) ?_
              refine z_v (va_runI (As := [.ref g.tm, .ref g.dn, .int nm, .int cp, .int lm]) (rest := [.ref q]) ⟨hx, hb, hml, hown, hts⟩ (c_X3_init l D g.cI g.cZ 4 (by simp [pkOp]) q g.tm g.dn nm cp lm _) ⟨z_B 5 hts g_225 g_11 g_223 ⟨by decide, by decide, by decide +kernel⟩ ⟨Nat.le_of_ble_eq_true rfl, Nat.le_of_ble_eq_true rfl⟩, rfl, hg _ g_224⟩ (z_preS (hP.subm [1] rfl) (hD.sub [1] (by decide) rfl) (hK.sub (tys' := tyA g) [0, 1] rfl)) rfl rfl hl.1 rfl (lv_room (Nat.le_of_ble_eq_true rfl)) dX10_newPile_160 ⟨Nat.le_of_ble_eq_true rfl, Nat.le_of_ble_eq_true rfl⟩) hP hD hS hA [1] [0] rfl rfl (by decide) (by decide) (wr := [(x.xo, .inr (11, [.ref g.tm, .ref g.dn, .ref x.pa, .int (nI n)]))]) (fun w1 H locs hw hP hD hS => ?_)
              obtain ⟨q1, rfl⟩ := hw
              refine W.widen (k := 2) (n := 19) (by decide) (by decide) ?_
              exact W.aret (v := va_rf (some q)) hx hb hr (Or.inl ⟨_, rfl⟩) (va_rf_or _) (fun t9 ht hW => ⟨⟨some q, _, rfl, ⟨q, q1, rfl, by rw [hci]⟩, by rw [ht]; exact hP, va_K.moved hW.alike hK, hD⟩, hS.F ht⟩) hS.2.2 dX10_newPile_163
            · skip
              by_cases c_7 : k = 7
              · refine lv_tableIn (tgt := 164) (off := 163) hx hb dX10_newPile_1 (by rw [c_7]; decide) (by rw [c_7]; decide) (by rw [c_7]; rfl) (by decide) ?_
                have hci : ciK k = 2 := by unfold ciK; rw [if_neg c_1]; rw [if_neg c_2]; rw [if_neg c_3]; rw [if_neg c_4]; rw [if_neg c_5]; rw [if_neg c_6]; rw [if_pos c_7]
                refine va_new (ci := 2) (fs := [.null, .null, .int 0, .int 0, .int 0, .null, .int 0]) (C := RX1) (T := TX4) (N := 7) hx hb hg in_X1 tyX4 tyX4_ok hown (hg _ g_235) (hg _ g_236) (hg _ g_12) hK hP hD hS hA rfl (fun j hj => by rcases (show j = 0 ∨ j = 1 ∨ j = 2 ∨ j = 3 ∨ j = 4 ∨ j = 5 ∨ j = 6 by omega) with rfl | rfl | rfl | rfl | rfl | rfl | rfl <;> rfl) (Nat.le_of_ble_eq_true rfl) (Nat.le_of_ble_eq_true rfl) dX10_newPile_164 (fun q H hP hD hS => ?_)
                have hP : va_P D vwCl [(x.xo, .inr (11, [.ref g.tm, .ref g.dn, .ref x.pa, .int (nI n)])), (q, .inr (2, [.null, .null, .int 0, .int 0, .int 0, .null, .int 0]))] H := hP
                have hD : va_D A [(x.xo, .inr (11, [.ref g.tm, .ref g.dn, .ref x.pa, .int (nI n)])), (q, .inr (2, [.null, .null, .int 0, .int 0, .int 0, .null, .int 0]))] := hD
                refine W.widen (k := 1) (n := 7) (by decide) (by decide) ?_
                refine lv_dup hx hb dX10_newPile_167 rfl ?_
                refine lv_aload_n hx hb dX10_newPile_168 rfl (lv_at hl 0 rfl) ?_
                refine va_get (D := D) (ci := 11) (v := .ref g.tm) (C := RX10) (T := TX10) (N := 4) hx hb hg in_X10 hown hK hP 0 rfl rfl 0 (by decide) (hg _ g_78) (fun _ h9 => h9) rfl dX10_newPile_169 ?_
                refine lv_aload_n hx hb dX10_newPile_172 rfl (lv_at hl 0 rfl) ?_
                refine va_get (D := D) (ci := 11) (v := .ref g.dn) (C := RX10) (T := TX10) (N := 4) hx hb hg in_X10 hown hK hP 0 rfl rfl 1 (by decide) (hg _ g_79) (fun _ h9 => h9) rfl dX10_newPile_173 ?_
                refine lv_iload_n hx hb dX10_newPile_176 rfl (lv_at hl 2 rfl) ?_
                refine lv_iload_n hx hb dX10_newPile_177 rfl (lv_at hl 3 rfl) ?_
                refine lv_iload hx hb dX10_newPile_178 (lv_at hl 4 rfl) ?_
                refine z_v (va_runI (As := [.ref g.tm, .ref g.dn, .int nm, .int cp, .int lm]) (rest := [.ref q]) ⟨hx, hb, hml, hown, hts⟩ (c_X1_init l D g.cI g.cZ 2 (by simp [pkLe]) q g.tm g.dn nm cp lm _) ⟨z_B 5 hts g_239 g_12 g_237 ⟨by decide, by decide, by decide +kernel⟩ ⟨Nat.le_of_ble_eq_true rfl, Nat.le_of_ble_eq_true rfl⟩, rfl, hg _ g_238⟩ (z_preS (hP.subm [1] rfl) (hD.sub [1] (by decide) rfl) (hK.sub (tys' := tyA g) [0, 1] rfl)) rfl rfl hl.1 rfl (lv_room (Nat.le_of_ble_eq_true rfl)) dX10_newPile_180 ⟨Nat.le_of_ble_eq_true rfl, Nat.le_of_ble_eq_true rfl⟩) hP hD hS hA [1] [0] rfl rfl (by decide) (by decide) (wr := [(x.xo, .inr (11, [.ref g.tm, .ref g.dn, .ref x.pa, .int (nI n)]))]) (fun w1 H locs hw hP hD hS => ?_)
                obtain ⟨q1, rfl⟩ := hw
                refine W.widen (k := 2) (n := 19) (by decide) (by decide) ?_
                exact W.aret (v := va_rf (some q)) hx hb hr (Or.inl ⟨_, rfl⟩) (va_rf_or _) (fun t9 ht hW => ⟨⟨some q, _, rfl, ⟨q, q1, rfl, by rw [hci]⟩, by rw [ht]; exact hP, va_K.moved hW.alike hK, hD⟩, hS.F ht⟩) hS.2.2 dX10_newPile_183
              · skip
                have hci : ciK k = 5 := by unfold ciK; rw [if_neg c_1]; rw [if_neg c_2]; rw [if_neg c_3]; rw [if_neg c_4]; rw [if_neg c_5]; rw [if_neg c_6]; rw [if_neg c_7]
                refine lv_tableOut (tgt := 184) hx hb dX10_newPile_1 (by have a1 := sw_ne c_1 (by decide : (1 : Int32).toInt = 1); have a2 := sw_ne c_2 (by decide : (2 : Int32).toInt = 2); have a3 := sw_ne c_3 (by decide : (3 : Int32).toInt = 3); have a4 := sw_ne c_4 (by decide : (4 : Int32).toInt = 4); have a5 := sw_ne c_5 (by decide : (5 : Int32).toInt = 5); have a6 := sw_ne c_6 (by decide : (6 : Int32).toInt = 6); have a7 := sw_ne c_7 (by decide : (7 : Int32).toInt = 7); omega) (by decide) ?_
                refine va_new (ci := 5) (fs := [.null, .null, .int 0, .int 0, .int 0, .null, .int 0]) (C := RX4) (T := TX4) (N := 7) hx hb hg in_X4 tyX4 tyX4_ok hown (hg _ g_76) (hg _ g_249) (hg _ g_5) hK hP hD hS hA rfl (fun j hj => by rcases (show j = 0 ∨ j = 1 ∨ j = 2 ∨ j = 3 ∨ j = 4 ∨ j = 5 ∨ j = 6 by omega) with rfl | rfl | rfl | rfl | rfl | rfl | rfl <;> rfl) (Nat.le_of_ble_eq_true rfl) (Nat.le_of_ble_eq_true rfl) dX10_newPile_184 (fun q H hP hD hS => ?_)
                have hP : va_P D vwCl [(x.xo, .inr (11, [.ref g.tm, .ref g.dn, .ref x.pa, .int (nI n)])), (q, .inr (5, [.null, .null, .int 0, .int 0, .int 0, .null, .int 0]))] H := hP
                have hD : va_D A [(x.xo, .inr (11, [.ref g.tm, .ref g.dn, .ref x.pa, .int (nI n)])), (q, .inr (5, [.null, .null, .int 0, .int 0, .int 0, .null, .int 0]))] := hD
                refine W.widen (k := 1) (n := 7) (by decide) (by decide) ?_
                refine lv_dup hx hb dX10_newPile_187 rfl ?_
                refine lv_aload_n hx hb dX10_newPile_188 rfl (lv_at hl 0 rfl) ?_
                refine va_get (D := D) (ci := 11) (v := .ref g.tm) (C := RX10) (T := TX10) (N := 4) hx hb hg in_X10 hown hK hP 0 rfl rfl 0 (by decide) (hg _ g_78) (fun _ h9 => h9) rfl dX10_newPile_189 ?_
                refine lv_aload_n hx hb dX10_newPile_192 rfl (lv_at hl 0 rfl) ?_
                refine va_get (D := D) (ci := 11) (v := .ref g.dn) (C := RX10) (T := TX10) (N := 4) hx hb hg in_X10 hown hK hP 0 rfl rfl 1 (by decide) (hg _ g_79) (fun _ h9 => h9) rfl dX10_newPile_193 ?_
                refine lv_iload_n hx hb dX10_newPile_196 rfl (lv_at hl 2 rfl) ?_
                refine lv_iload_n hx hb dX10_newPile_197 rfl (lv_at hl 3 rfl) ?_
                refine lv_iload hx hb dX10_newPile_198 (lv_at hl 4 rfl) ?_
                refine z_v (va_runI (As := [.ref g.tm, .ref g.dn, .int nm, .int cp, .int lm]) (rest := [.ref q]) ⟨hx, hb, hml, hown, hts⟩ (c_X4_init l D g.cI g.cZ 5 (by simp [pkAll]) q g.tm g.dn nm cp lm _) ⟨z_B 5 hts g_117 g_5 g_250 ⟨by decide, by decide, by decide +kernel⟩ ⟨Nat.le_of_ble_eq_true rfl, Nat.le_of_ble_eq_true rfl⟩, rfl, hg _ g_116⟩ (z_preS (hP.subm [1] rfl) (hD.sub [1] (by decide) rfl) (hK.sub (tys' := tyA g) [0, 1] rfl)) rfl rfl hl.1 rfl (lv_room (Nat.le_of_ble_eq_true rfl)) dX10_newPile_200 ⟨Nat.le_of_ble_eq_true rfl, Nat.le_of_ble_eq_true rfl⟩) hP hD hS hA [1] [0] rfl rfl (by decide) (by decide) (wr := [(x.xo, .inr (11, [.ref g.tm, .ref g.dn, .ref x.pa, .int (nI n)]))]) (fun w1 H locs hw hP hD hS => ?_)
                obtain ⟨q1, rfl⟩ := hw
                refine W.widen (k := 2) (n := 19) (by decide) (by decide) ?_
                exact W.aret (v := va_rf (some q)) hx hb hr (Or.inl ⟨_, rfl⟩) (va_rf_or _) (fun t9 ht hW => ⟨⟨some q, _, rfl, ⟨q, q1, rfl, by rw [hci]⟩, by rw [ht]; exact hP, va_K.moved hW.alike hK, hD⟩, hS.F ht⟩) hS.2.2 dX10_newPile_203

theorem pfn_up (n : Nat) (C : CZ) (c : Nat × Nat × Nat) : va_up (pfn n C) n (some c.2.1) = pfn (n + 1) (va_up C n c) := by
  funext j
  by_cases h : j = n
  · subst h; simp [pfn, va_up]
  · by_cases h2 : j < n
    · have h3 : j < n + 1 := by omega
      simp [pfn, va_up, h, h2, h3]
    · have h3 : ¬ j < n + 1 := by omega
      simp [pfn, va_up, h, h2, h3]
theorem wL_succ (g : GA) (n : Nat) (C : CZ) (P : Nat → PP) (c : Nat × Nat × Nat) (Q : PP) : wL g (n + 1) (va_up C n c) (va_up P n Q) = wL g n C P ++ wP g c.1 c.2.1 c.2.2 Q := by
  unfold wL
  rw [List.range_succ, List.flatMap_append]
  have h : ∀ j ∈ List.range n, wpz g (va_up C n c) (va_up P n Q) j = wpz g C P j := by
    intro j hj
    have hne : j ≠ n := Nat.ne_of_lt (List.mem_range.mp hj)
    unfold wpz
    rw [va_up_ne _ _ hne, va_up_ne _ _ hne]
  rw [List.flatMap_def, List.map_congr_left h, ← List.flatMap_def]
  congr 1
  rw [List.flatMap_cons, List.flatMap_nil, List.append_nil]
  unfold wpz
  rw [va_up_self, va_up_self]
abbrev wN0 (g : GA) (x : GX) (v : Int32) (f : Nat → Option Nat) (T : TT) (X : DD) (ci h rw : Nat) (P : PP) : va_W := [(x.xo, .inr (11, [.ref g.tm, .ref g.dn, .ref x.pa, .int v])), (x.pa, .inl (x.cQ, 12, .inr (.inr (.inr (.inr f))))),
  (g.tm, .inr (8, [.ref g.al, .ref g.aw, .ref g.az, .ref g.ap, .int T.1])), (g.al, .inl (g.cI, 60, .inl T.2.1)), (g.aw, .inl (g.cI, 60, .inl T.2.2.1)), (g.az, .inl (g.cZ, 60, .inl T.2.2.2.1)), (g.ap, .inl (g.cI, 60, .inl T.2.2.2.2)),
  (g.dn, .inr (9, [.ref g.rg, .int X.2.1, .int X.2.2.1, .int X.2.2.2.1, .int X.2.2.2.2.1, .int X.2.2.2.2.2])), (g.rg, .inl (g.cI, 200, .inl X.1)),
  (h, .inr (ci, [.ref g.tm, .ref g.dn, .int P.1, .int P.2.1, .int P.2.2.1, .ref rw, .int P.2.2.2.2])), (rw, .inl (g.cI, 12, .inl P.2.2.2.1))]
theorem wN_perm (g : GA) (x : GX) (n : Nat) (C : CZ) (P : Nat → PP) (T : TT) (X : DD) (c : Nat × Nat × Nat) (Q : PP) : List.Perm (wN0 g x (nI n + 1) (va_up (pfn n C) n (some c.2.1)) T X c.1 c.2.1 c.2.2 Q ++ wL g n C P) (wX g x (n + 1) (va_up C n c) (va_up P n Q) T X) := by
  rw [pfn_up, nI_1]
  show List.Perm (wN0 g x (nI (n + 1)) (pfn (n + 1) (va_up C n c)) T X c.1 c.2.1 c.2.2 Q ++ wL g n C P) (wX0 g x (n + 1) (va_up C n c) T X ++ wL g (n + 1) (va_up C n c) (va_up P n Q))
  rw [wL_succ]
  show List.Perm ((wX0 g x (n + 1) (va_up C n c) T X ++ wP g c.1 c.2.1 c.2.2 Q) ++ wL g n C P) _
  rw [List.append_assoc]
  exact List.Perm.append_left _ List.perm_append_comm
def okP (n : Nat) (a b z : Int32) : Prop := fX10_isOutsideR a 0 7 = 0 ∧ fX10_isOutsideR b 1 12 = 0 ∧ fX10_isOutsideR z 0 20000 = 0 ∧ n < 12

def fX10_pileR (n : Nat) (a b z : Int32) : Int32 := (if (fX10_isOutsideR a 0 7) = 0 then (if (fX10_isOutsideR b 1 12) = 0 then (if (fX10_isOutsideR z 0 20000) = 0 then (if (nI n) < 0 then (-104) else (if (nI n) < 12 then (nI n) else (-104))) else (-102)) else (-102)) else (-102))
set_option maxHeartbeats 4000000 in
set_option maxRecDepth 100000 in
theorem c_X10_pile (l : Launch) (D : va_G) (g : GA) (x : GX) (n : Nat) (hn : n ≤ 12) (C : CZ) (P : Nat → PP) (T : TT) (X : DD) (a b z : Int32) : ctI l D (tyX g x) yX10_pile (wd yX10_pile cX10_pile 5 (Option.some Jvm.ClassFile.FieldType.int)) { frames := 7, cells := 2, slots := 19, locals := 161 } [.ref x.xo, .int a, .int b, .int z] (wX g x n C P T X) (fun r w => r = fX10_pileR n a b z ∧ (¬ okP n a b z → w = wX g x n C P T X) ∧ (okP n a b z → ∃ q q1 : Nat, w = wX g x (n + 1) (va_up C n (ciK a, q, q1)) (va_up P n (nI n, b, z, (fun _ => 0), 0)) T X)) := by
  intro sz
  refine Met.ofW (cc := cX10_pile) (maxL := 5) (ret := (Option.some Jvm.ClassFile.FieldType.int)) (by decide) rfl ?_
  intro p e s m args below meth c s₁ B hml hv
  obtain ⟨rfl, hsz, hP, hK, hD0⟩ := hv
  have hx := B.exec
  have hb := B.bytes
  have hr := B.returns
  have hts := atoms_spec (ws := (wd yX10_pile cX10_pile 5 (Option.some Jvm.ClassFile.FieldType.int))) B.pre
  have hg := Tb.of hts
  have hown : s.vm.findClass RX10 = some m.cls := findClass_of_methodNamed B.named
  have hlocks := B.notSynchronized
  subst hsz
  have hD := hD0.self (sz := s.heap.size)
  generalize hAe : va_A (wX g x n C P T X) s.heap.size = A at hD ⊢
  have hA : ∀ q : Nat, s.heap.size ≤ q → A q := fun q h => by rw [← hAe]; exact Or.inr h
  have hS : va_S A s.heap s.heap [] := va_S.rf
  have hP : va_P D vwCl (wX g x n C P T X) s.heap := hP
  have hl := lv_entry ([.ref x.xo, .int a, .int b, .int z]) (n := 5) (Nat.le_of_ble_eq_true rfl)
  rw [lg_entry_eq]
  generalize (lg_sl ([.ref x.xo, .int a, .int b, .int z]) ++ List.replicate (5 - (lg_sl ([.ref x.xo, .int a, .int b, .int z])).length) Slot.unset).toArray = ls at hl ⊢
  have hl : lv_has ls 5 [(0, .ref x.xo), (1, .int a), (2, .int b), (3, .int z)] := hl
  refine lv_iload_n hx hb dX10_pile_0 rfl (lv_at hl 1 rfl) ?_
  refine lv_iconst (v := 0) hx hb dX10_pile_1 (by decide) ?_
  refine lv_bipush (v := 7) hx hb dX10_pile_2 (by decide) ?_
  refine z_ieQ (ws := wX0 g x n C T X) (pl := wL g n C P) (va_runS (As := [.int a, .int 0, .int 7]) (rest := []) ⟨hx, hb, hml, hown, hts⟩ (c_X10_isOutside l D (tyA g) a 0 7 _) (z_St 3 hts g_97 g_1 g_95 g_96 ⟨by decide, by decide, by decide +kernel⟩ ⟨Nat.le_of_ble_eq_true rfl, Nat.le_of_ble_eq_true rfl⟩) (z_preS (hP.subm [] rfl) (hD.sub [] (by decide) rfl) (hK.sub (tys' := tyA g) [0, 1] rfl)) rfl rfl hl.1 rfl (lv_room (Nat.le_of_ble_eq_true rfl)) dX10_pile_4 ⟨Nat.le_of_ble_eq_true rfl, Nat.le_of_ble_eq_true rfl⟩) hP hD hS hA (wX0 g x n C T X) (wX0 g x n C T X) [] [0, 1, 2, 3, 4, 5, 6, 7, 8] [0, 1, 2, 3, 4, 5, 6, 7, 8] rfl rfl (by decide) (by decide) rfl (by decide) (fun H locs hP hD hS => ?_)
  refine lv_if_ne (tgt := 31) hx hb dX10_pile_7 (by decide) (fun c_1 => ?_) (fun c_1 => ?_)
  · -- not (fX10_isOutsideR a 0 7) = 0
    refine lv_bipush (v := (-102)) hx hb dX10_pile_31 (by decide) ?_
    refine W.widen (k := 2) (n := 19) (by decide) (by decide) ?_
    exact W.iret (v := (-102)) hx hb hr (fun t9 ht hW => ⟨⟨(-102), wX g x n C P T X, rfl, ⟨by simp only [fX10_pileR, if_neg c_1], fun _ => rfl, fun h => absurd h (fun h => c_1 h.1)⟩, by rw [ht]; exact hP, va_K.moved hW.alike hK, hD⟩, hS.F ht⟩) hS.2.2 dX10_pile_33
  · -- (fX10_isOutsideR a 0 7) = 0
    refine lv_iload_n hx hb dX10_pile_10 rfl (lv_at hl 2 rfl) ?_
    refine lv_iconst (v := 1) hx hb dX10_pile_11 (by decide) ?_
    refine lv_bipush (v := 12) hx hb dX10_pile_12 (by decide) ?_
    refine z_ieQ (ws := wX0 g x n C T X) (pl := wL g n C P) (va_runS (As := [.int b, .int 1, .int 12]) (rest := []) ⟨hx, hb, hml, hown, hts⟩ (c_X10_isOutside l D (tyA g) b 1 12 _) (z_St 3 hts g_97 g_1 g_95 g_96 ⟨by decide, by decide, by decide +kernel⟩ ⟨Nat.le_of_ble_eq_true rfl, Nat.le_of_ble_eq_true rfl⟩) (z_preS (hP.subm [] rfl) (hD.sub [] (by decide) rfl) (hK.sub (tys' := tyA g) [0, 1] rfl)) rfl rfl hl.1 rfl (lv_room (Nat.le_of_ble_eq_true rfl)) dX10_pile_14 ⟨Nat.le_of_ble_eq_true rfl, Nat.le_of_ble_eq_true rfl⟩) hP hD hS hA (wX0 g x n C T X) (wX0 g x n C T X) [] [0, 1, 2, 3, 4, 5, 6, 7, 8] [0, 1, 2, 3, 4, 5, 6, 7, 8] rfl rfl (by decide) (by decide) rfl (by decide) (fun H locs hP hD hS => ?_)
    refine lv_if_ne (tgt := 31) hx hb dX10_pile_17 (by decide) (fun c_2 => ?_) (fun c_2 => ?_)
    · -- not (fX10_isOutsideR b 1 12) = 0
      refine lv_bipush (v := (-102)) hx hb dX10_pile_31 (by decide) ?_
      refine W.widen (k := 2) (n := 19) (by decide) (by decide) ?_
      exact W.iret (v := (-102)) hx hb hr (fun t9 ht hW => ⟨⟨(-102), wX g x n C P T X, rfl, ⟨by simp only [fX10_pileR, if_pos c_1, if_neg c_2], fun _ => rfl, fun h => absurd h (fun h => c_2 h.2.1)⟩, by rw [ht]; exact hP, va_K.moved hW.alike hK, hD⟩, hS.F ht⟩) hS.2.2 dX10_pile_33
    · -- (fX10_isOutsideR b 1 12) = 0
      refine lv_iload_n hx hb dX10_pile_20 rfl (lv_at hl 3 rfl) ?_
      refine lv_iconst (v := 0) hx hb dX10_pile_21 (by decide) ?_
      refine lv_sipush (v := 20000) hx hb dX10_pile_22 (by decide) ?_
      refine z_ieQ (ws := wX0 g x n C T X) (pl := wL g n C P) (va_runS (As := [.int z, .int 0, .int 20000]) (rest := []) ⟨hx, hb, hml, hown, hts⟩ (c_X10_isOutside l D (tyA g) z 0 20000 _) (z_St 3 hts g_97 g_1 g_95 g_96 ⟨by decide, by decide, by decide +kernel⟩ ⟨Nat.le_of_ble_eq_true rfl, Nat.le_of_ble_eq_true rfl⟩) (z_preS (hP.subm [] rfl) (hD.sub [] (by decide) rfl) (hK.sub (tys' := tyA g) [0, 1] rfl)) rfl rfl hl.1 rfl (lv_room (Nat.le_of_ble_eq_true rfl)) dX10_pile_25 ⟨Nat.le_of_ble_eq_true rfl, Nat.le_of_ble_eq_true rfl⟩) hP hD hS hA (wX0 g x n C T X) (wX0 g x n C T X) [] [0, 1, 2, 3, 4, 5, 6, 7, 8] [0, 1, 2, 3, 4, 5, 6, 7, 8] rfl rfl (by decide) (by decide) rfl (by decide) (fun H locs hP hD hS => ?_)
      refine lv_if_eq (tgt := 34) hx hb dX10_pile_28 (by decide) (fun c_3 => ?_) (fun c_3 => ?_)
      · -- (fX10_isOutsideR z 0 20000) = 0
        refine lv_aload_n hx hb dX10_pile_34 rfl (lv_at hl 0 rfl) ?_
        refine va_get (D := D) (ci := 11) (v := .int (nI n)) (C := RX10) (T := TX10) (N := 4) hx hb hg in_X10 hown hK hP 0 rfl rfl 3 (by decide) (hg _ g_81) (fun _ h9 => h9) rfl dX10_pile_35 ?_
        refine lv_if_lt (tgt := 53) hx hb dX10_pile_38 (by decide) (fun c_4 => ?_) (fun c_4 => ?_)
        · -- (nI n) < 0
          refine lv_bipush (v := (-104)) hx hb dX10_pile_53 (by decide) ?_
          refine W.widen (k := 2) (n := 19) (by decide) (by decide) ?_
          exact W.iret (v := (-104)) hx hb hr (fun t9 ht hW => ⟨⟨(-104), wX g x n C P T X, rfl, ⟨by simp only [fX10_pileR, if_pos c_1, if_pos c_2, if_pos c_3, if_pos c_4], fun _ => rfl, fun h => absurd h (fun h => nI_pos (by have := h.2.2.2; omega) c_4)⟩, by rw [ht]; exact hP, va_K.moved hW.alike hK, hD⟩, hS.F ht⟩) hS.2.2 dX10_pile_55
        · -- not (nI n) < 0
          refine lv_aload_n hx hb dX10_pile_41 rfl (lv_at hl 0 rfl) ?_
          refine va_get (D := D) (ci := 11) (v := .int (nI n)) (C := RX10) (T := TX10) (N := 4) hx hb hg in_X10 hown hK hP 0 rfl rfl 3 (by decide) (hg _ g_81) (fun _ h9 => h9) rfl dX10_pile_42 ?_
          refine lv_aload_n hx hb dX10_pile_45 rfl (lv_at hl 0 rfl) ?_
          refine va_get (D := D) (ci := 11) (v := .ref x.pa) (C := RX10) (T := TX10) (N := 4) hx hb hg in_X10 hown hK hP 0 rfl rfl 2 (by decide) (hg _ g_80) (fun _ h9 => h9) rfl dX10_pile_46 ?_
          refine va_alen hx hb hK hP 1 2 rfl rfl (v := 12) rfl dX10_pile_49 ?_
          refine lv_icmp_lt (tgt := 56) hx hb dX10_pile_50 (by decide) (fun c_5 => ?_) (fun c_5 => ?_)
          · -- (nI n) < 12
            refine lv_aload_n hx hb dX10_pile_56 rfl (lv_at hl 0 rfl) ?_
            refine va_get (D := D) (ci := 11) (v := .int (nI n)) (C := RX10) (T := TX10) (N := 4) hx hb hg in_X10 hown hK hP 0 rfl rfl 3 (by decide) (hg _ g_81) (fun _ h9 => h9) rfl dX10_pile_57 ?_
            refine lv_istore (lv' := [(4, .int (nI n)), (0, .ref x.xo), (1, .int a), (2, .int b), (3, .int z)]) hx hb dX10_pile_60 hl (by decide) rfl (fun ls hl => ?_)
            refine lv_aload_n hx hb dX10_pile_62 rfl (lv_at hl 1 rfl) ?_
            refine va_get (D := D) (ci := 11) (v := .ref x.pa) (C := RX10) (T := TX10) (N := 4) hx hb hg in_X10 hown hK hP 0 rfl rfl 2 (by decide) (hg _ g_80) (fun _ h9 => h9) rfl dX10_pile_63 ?_
            refine lv_iload hx hb dX10_pile_66 (lv_at hl 0 rfl) ?_
            refine lv_aload_n hx hb dX10_pile_68 rfl (lv_at hl 1 rfl) ?_
            refine lv_iload_n hx hb dX10_pile_69 rfl (lv_at hl 2 rfl) ?_
            refine lv_iload hx hb dX10_pile_70 (lv_at hl 0 rfl) ?_
            refine lv_iload_n hx hb dX10_pile_72 rfl (lv_at hl 3 rfl) ?_
            refine lv_iload_n hx hb dX10_pile_73 rfl (lv_at hl 4 rfl) ?_
            have hlt : n < 12 := by
              rcases Nat.lt_or_ge n 12 with h | h
              · exact h
              · exact absurd c_5 (nI_nlt (a := n) (b := 12) h (by omega))
            refine z_qQ (ws := wX0 g x n C T X) (pl := wL g n C P) (va_runV (As := [.int a, .int (nI n), .int b, .int z]) (rest := [.int (nI n), .ref x.pa]) ⟨hx, hb, hml, hown, hts⟩ (c_X10_newPile l D g x n a (nI n) b z _) (z_V 4 hts g_109 g_1 g_106 g_108 gp_0 ⟨by decide, by decide, by decide +kernel⟩ ⟨Nat.le_of_ble_eq_true rfl, Nat.le_of_ble_eq_true rfl⟩) (z_preV (ci := 11) (q0 := 0) (hP.subm [0] rfl) (hD.sub [0] (by decide) rfl) hK rfl rfl) rfl rfl hl.1 rfl (lv_room (Nat.le_of_ble_eq_true rfl)) dX10_pile_74 ⟨Nat.le_of_ble_eq_true rfl, Nat.le_of_ble_eq_true rfl⟩) hP hD hS hA [0] [1, 2, 3, 4, 5, 6, 7, 8] rfl rfl (by decide) (by decide) (wr := [(x.pa, .inl (x.cQ, 12, .inr (.inr (.inr (.inr (pfn n C))))))] ++ (wT g T ++ wD g X)) (fun r w1 H locs hw hP hD hS => ?_)
            obtain ⟨q, q1, rfl, rfl⟩ := hw
            refine W.widen (k := 2) (n := 19) (by decide) (by decide) ?_
            have hP : va_P D vwCl (wN0 g x (nI n) (pfn n C) T X (ciK a) q q1 (nI n, b, z, (fun _ => 0), 0) ++ wL g n C P) H := hP.part [8, 0, 1, 2, 3, 4, 5, 6, 7, 9, 10] rfl
            have hD : va_D A (wN0 g x (nI n) (pfn n C) T X (ciK a) q q1 (nI n, b, z, (fun _ => 0), 0) ++ wL g n C P) := hD.part [8, 0, 1, 2, 3, 4, 5, 6, 7, 9, 10] (by decide) rfl
            have hix : vp_in (nI n) 12 := vp_in_nI hlt (by decide)
            have hcl : (nI n).toNatClampNeg = n := nI_clamp (by omega)
            refine z_astP hx hb hg hK hP hD hS 1 2 9 (ciK_ok a) rfl rfl rfl hix dX10_pile_77 (fun H locs hP hD hS => ?_)
            rw [hcl] at hP hD
            have hP : va_P D vwCl (wN0 g x (nI n) (va_up (pfn n C) n (some q)) T X (ciK a) q q1 (nI n, b, z, (fun _ => 0), 0) ++ wL g n C P) H := hP
            have hD : va_D A (wN0 g x (nI n) (va_up (pfn n C) n (some q)) T X (ciK a) q q1 (nI n, b, z, (fun _ => 0), 0) ++ wL g n C P) := hD
            refine lv_aload_n hx hb dX10_pile_78 rfl (lv_at hl 1 rfl) ?_
            refine lv_dup hx hb dX10_pile_79 rfl ?_
            refine va_get (D := D) (ci := 11) (v := .int (nI n)) (C := RX10) (T := TX10) (N := 4) hx hb hg in_X10 hown hK hP 0 rfl rfl 3 (by decide) (hg _ g_81) (fun _ h9 => h9) rfl dX10_pile_80 ?_
            refine lv_iconst (v := 1) hx hb dX10_pile_83 (by decide) ?_
            refine lv_iadd hx hb dX10_pile_84 ?_
            refine va_put (D := D) (ci := 11) (v := .int (nI n + 1)) (ty := .int) (C := RX10) (T := TX10) (N := 4) hx hb hg in_X10 tyX10 tyX10_ok nmX10 hown hK hP hD hS 0 rfl rfl 3 (by decide) (hg _ g_81) (fun _ h9 => h9) rfl (by decide +kernel) rfl rfl (Nat.le_of_ble_eq_true rfl) dX10_pile_85 (fun H locs hP hD hS => ?_)
            have hP : va_P D vwCl (wN0 g x (nI n + 1) (va_up (pfn n C) n (some q)) T X (ciK a) q q1 (nI n, b, z, (fun _ => 0), 0) ++ wL g n C P) H := hP
            have hD : va_D A (wN0 g x (nI n + 1) (va_up (pfn n C) n (some q)) T X (ciK a) q q1 (nI n, b, z, (fun _ => 0), 0) ++ wL g n C P) := hD
            have hP := vP_perm (wN_perm g x n C P T X (ciK a, q, q1) (nI n, b, z, (fun _ => 0), 0)) hP
            have hD := vD_perm (wN_perm g x n C P T X (ciK a, q, q1) (nI n, b, z, (fun _ => 0), 0)) hD
            refine lv_iload hx hb dX10_pile_88 (lv_at hl 0 rfl) ?_
            exact W.iret (v := nI n) hx hb hr (fun t9 ht hW => ⟨⟨nI n, _, rfl, ⟨by simp only [fX10_pileR, if_pos c_1, if_pos c_2, if_pos c_3, if_neg c_4, if_pos c_5], fun h => absurd ⟨c_1, c_2, c_3, hlt⟩ h, fun _ => ⟨q, q1, rfl⟩⟩, by rw [ht]; exact hP, va_K.moved hW.alike hK, hD⟩, hS.F ht⟩) hS.2.2 dX10_pile_90
          · -- not (nI n) < 12
            refine lv_bipush (v := (-104)) hx hb dX10_pile_53 (by decide) ?_
            refine W.widen (k := 2) (n := 19) (by decide) (by decide) ?_
            exact W.iret (v := (-104)) hx hb hr (fun t9 ht hW => ⟨⟨(-104), wX g x n C P T X, rfl, ⟨by simp only [fX10_pileR, if_pos c_1, if_pos c_2, if_pos c_3, if_neg c_4, if_neg c_5], fun _ => rfl, fun h => absurd h (fun h => c_5 (nI_lt h.2.2.2 (by decide)))⟩, by rw [ht]; exact hP, va_K.moved hW.alike hK, hD⟩, hS.F ht⟩) hS.2.2 dX10_pile_55
      · -- not (fX10_isOutsideR z 0 20000) = 0
        refine lv_bipush (v := (-102)) hx hb dX10_pile_31 (by decide) ?_
        refine W.widen (k := 2) (n := 19) (by decide) (by decide) ?_
        exact W.iret (v := (-102)) hx hb hr (fun t9 ht hW => ⟨⟨(-102), wX g x n C P T X, rfl, ⟨by simp only [fX10_pileR, if_pos c_1, if_pos c_2, if_neg c_3], fun _ => rfl, fun h => absurd h (fun h => c_3 h.2.2.1)⟩, by rw [ht]; exact hP, va_K.moved hW.alike hK, hD⟩, hS.F ht⟩) hS.2.2 dX10_pile_33
