theorem ws_arr {s : State} {args : Array Value} {ty : FieldType} (h : (Cond.arrayClass ty).before args s = true) : ∃ cA : ClassId, ArrOfT s cA ty ∧ s.vm.findClass ("[" ++ ty.toString) = some cA := by
  obtain ⟨cA, kA, comp, h1, h2, h3⟩ := Cond.arrayClass_spec h
  exact ⟨cA, fun N z => ⟨(fun k h => by cases h), kA, h2, comp, h3⟩, h1⟩
theorem in_J : ∀ w ∈ u_ws RJx5d777 TJx5d777 8, w ∈ GW := List.forall_mem_cons.mpr ⟨g_660, List.forall_mem_cons.mpr ⟨g_661, List.forall_mem_cons.mpr ⟨g_662, List.forall_mem_cons.mpr ⟨g_663, List.forall_mem_cons.mpr ⟨g_664, List.forall_mem_cons.mpr ⟨g_665, List.forall_mem_cons.mpr ⟨g_656, List.forall_mem_cons.mpr ⟨g_658, fun _ h => absurd h List.not_mem_nil⟩⟩⟩⟩⟩⟩⟩⟩
theorem lay_U : (Cond.laysStatic Bundle.tN "UNASSIGNED_STACK" Bundle.steD) ∈ lw_tbl := by decide +kernel
theorem lay_N : (Cond.laysStatic Bundle.tN "SUPPRESSED_SENTINEL" Bundle.listD) ∈ lw_tbl := by decide +kernel
theorem str_61 : (Cond.stringRef RX10 61 "HEAVY") ∈ lw_tbl := by decide +kernel
theorem str_72 : (Cond.stringRef RX10 72 "NOTHING") ∈ lw_tbl := by decide +kernel
theorem ov_Q : (Cond.arrayOver (.object "PileHeirs$Plain")) ∈ lw_tbl := by decide +kernel

theorem ws_EX {s : State} {b : Nat} (hts : ∀ w ∈ lw_tbl, w.before #[Value.ref b] s = true) (hg : Tb #[Value.ref b] s) (hgv : (Jvm.Cond.and given_1 narrow_1).before #[Value.ref b] s = true) : EX (fun q : Nat => s.heap.size ≤ q) s s.heap := by
  have hs := flat_of_before _ hgv
  have hA : ∀ a : Nat, a < s.heap.size → ¬ (fun q : Nat => s.heap.size ≤ q) a := fun a h => Nat.not_le.mpr h
  have i1 : (Cond.isRef (.static Bundle.tN "UNASSIGNED_STACK" Bundle.steD)).before #[Value.ref b] s = true := hs _ (by decide +kernel)
  have i2 : (Cond.isRef (.static Bundle.tN "SUPPRESSED_SENTINEL" Bundle.listD)).before #[Value.ref b] s = true := hs _ (by decide +kernel)
  have i3 : (Cond.exactly (.string RX10 61) "java/lang/String").before #[Value.ref b] s = true := hs _ (by decide +kernel)
  have i4 : (Cond.exactly (.string RX10 72) "java/lang/String").before #[Value.ref b] s = true := hs _ (by decide +kernel)
  obtain ⟨a1, -, -, -, e1, -⟩ := Cond.exactly_spec i3
  obtain ⟨a2, -, -, -, e2, -⟩ := Cond.exactly_spec i4
  exact ⟨fun w hw => va_Nw.of (xw_on (List.mem_filter.mp hw).2) (hts w (List.mem_filter.mp hw).1), vx_Zqof (hts _ lay_U) (hg _ g_14) i1 hA, vx_Zqof (hts _ lay_N) (hg _ g_14) i2 hA, ⟨a1, vk_R.of (hts _ str_61) e1⟩, ⟨a2, vk_R.of (hts _ str_72) e2⟩⟩

theorem ws_K {s : State} {b : Nat} (hg : Tb #[Value.ref b] s) : ∃ D : va_G, ∀ (k : Nat) (q : vw_C), vwCl[k]? = some q → u_Kn s q.1 q.2.1 q.2.2 (D.1 k) (D.2 k) := by
  obtain ⟨c0, i0, hk0⟩ := u_known (C := RJx5d777) (T := TJx5d777) (N := 8) (n := 8) hg in_J (hg _ g_603)
  obtain ⟨c1, i1, hk1⟩ := u_known (C := RX0) (T := TX0) (N := 7) (n := 7) hg in_X0 (hg _ g_194)
  obtain ⟨c2, i2, hk2⟩ := u_known (C := RX1) (T := TX1) (N := 7) (n := 7) hg in_X1 (hg _ g_236)
  obtain ⟨c3, i3, hk3⟩ := u_known (C := RX2) (T := TX2) (N := 7) (n := 7) hg in_X2 (hg _ g_111)
  obtain ⟨c4, i4, hk4⟩ := u_known (C := RX3) (T := TX3) (N := 7) (n := 7) hg in_X3 (hg _ g_222)
  obtain ⟨c5, i5, hk5⟩ := u_known (C := RX4) (T := TX4) (N := 7) (n := 7) hg in_X4 (hg _ g_249)
  obtain ⟨c6, i6, hk6⟩ := u_known (C := RX5) (T := TX5) (N := 7) (n := 7) hg in_X5 (hg _ g_166)
  obtain ⟨c7, i7, hk7⟩ := u_known (C := RX6) (T := TX6) (N := 7) (n := 7) hg in_X6 (hg _ g_180)
  obtain ⟨c8, i8, hk8⟩ := u_known (C := RX7) (T := TX7) (N := 5) (n := 5) hg in_X7 (hg _ g_28)
  obtain ⟨c9, i9, hk9⟩ := u_known (C := RX8) (T := TX8) (N := 6) (n := 6) hg in_X8 (hg _ g_52)
  obtain ⟨c10, i10, hk10⟩ := u_known (C := RX9) (T := TX9) (N := 7) (n := 7) hg in_X9 (hg _ g_208)
  obtain ⟨c11, i11, hk11⟩ := u_known (C := RX10) (T := TX10) (N := 4) (n := 4) hg in_X10 (hg _ g_20)
  obtain ⟨c12, i12, hk12⟩ := u_known (C := RX11) (T := TX11) (N := 17) (n := 17) hg in_X11 (hg _ g_681)
  refine ⟨(fun k => if k = 0 then c0 else (if k = 1 then c1 else (if k = 2 then c2 else (if k = 3 then c3 else (if k = 4 then c4 else (if k = 5 then c5 else (if k = 6 then c6 else (if k = 7 then c7 else (if k = 8 then c8 else (if k = 9 then c9 else (if k = 10 then c10 else (if k = 11 then c11 else (c12)))))))))))), fun k => if k = 0 then i0 else (if k = 1 then i1 else (if k = 2 then i2 else (if k = 3 then i3 else (if k = 4 then i4 else (if k = 5 then i5 else (if k = 6 then i6 else (if k = 7 then i7 else (if k = 8 then i8 else (if k = 9 then i9 else (if k = 10 then i10 else (if k = 11 then i11 else (i12))))))))))))), ?_⟩
  intro k q hq
  match k, hq with
  | 0, hq => cases hq; exact hk0
  | 1, hq => cases hq; exact hk1
  | 2, hq => cases hq; exact hk2
  | 3, hq => cases hq; exact hk3
  | 4, hq => cases hq; exact hk4
  | 5, hq => cases hq; exact hk5
  | 6, hq => cases hq; exact hk6
  | 7, hq => cases hq; exact hk7
  | 8, hq => cases hq; exact hk8
  | 9, hq => cases hq; exact hk9
  | 10, hq => cases hq; exact hk10
  | 11, hq => cases hq; exact hk11
  | 12, hq => cases hq; exact hk12
  | k + 13, hq => simp [vwCl] at hq

def ws_C : CZ := fun _ => (5, 0, 0)
def ws_P : Nat → PP := fun _ => (0, 0, 0, (fun _ => 0), 0)
set_option maxHeartbeats 4000000 in
set_option maxRecDepth 100000 in
/-- THE LAW, from its entry -/
theorem whole_start {p : Program} {e : Env} {s : State} {m : MethodId} {below : List Frame} {meth : Method} {c : Code} (l : Launch) (hlt : l.stackTraces = false) {b L : Nat} {xs : Nat → Int32} (hL : L ≤ 2048) (C0 : lw_At p s m meth c b L xs) : W p l e room_1 s m #[Value.ref b] below meth c s.heap [] 0 0 (lw_Z below #[Value.ref b] s) (entryFrame m ([Value.ref b] : List Value).toArray 7) := by
  obtain ⟨hx, hb, hr, hml, hown, hts, hX, hbl, hlocks, hgv⟩ := id C0
  have hA : ∀ q : Nat, s.heap.size ≤ q → (fun q : Nat => s.heap.size ≤ q) q := fun _ h => h
  have hg : Tb #[Value.ref b] s := fun w hw => lwx_ok hts w (gw_in w hw)
  have hE := ws_EX hts hg hgv
  obtain ⟨D, hKc⟩ := ws_K hg
  obtain ⟨cI, aI, fI⟩ := ws_arr (hg _ g_49)
  obtain ⟨cZ, aZ, fZ⟩ := ws_arr (hg _ g_50)
  obtain ⟨cJ, aJ, fJ⟩ := ws_arr (hg _ g_845)
  have hAO : va_AO "PileHeirs$Plain" s := va_AO.of (hts _ ov_Q)
  obtain ⟨comp, cQ, kQ, f1, -, f3, f4, f5⟩ := Cond.arrayOver_spec (hts _ ov_Q)
  have hK : va_K D vwCl [(cI, .int), (cZ, .boolean), (cQ, .object "PileHeirs$Plain"), (cJ, .long)] s := by
    refine ⟨hKc, fun k q hq => ?_⟩
    match k, hq with
    | 0, hq => cases hq; exact ⟨aI, fI⟩
    | 1, hq => cases hq; exact ⟨aZ, fZ⟩
    | 2, hq => cases hq; exact ⟨fun N z => ⟨(fun k h => by cases h), kQ, f3, comp, f4⟩, kQ, comp, f3, f4, f1, f5⟩
    | 3, hq => cases hq; exact ⟨aJ, fJ⟩
    | k + 4, hq => simp at hq
  have hS : va_S (fun q : Nat => s.heap.size ≤ q) s.heap s.heap [] := va_S.rf
  have hP : va_P D vwCl [] s.heap := fun k q h => by simp at h
  have hD : va_D (fun q : Nat => s.heap.size ≤ q) [] := ⟨fun i j p q h => by simp at h, fun k q h => by simp at h⟩
  have hl := lv_entry ([.ref b]) (n := 7) (Nat.le_of_ble_eq_true rfl)
  rw [lg_entry_eq]
  generalize (lg_sl ([.ref b]) ++ List.replicate (7 - (lg_sl ([.ref b])).length) Slot.unset).toArray = ls at hl ⊢
  have hl : lv_has ls 7 [(0, .ref b)] := hl
  refine va_new (ci := 11) (fs := [.null, .null, .null, .int 0]) (C := RX10) (T := TX10) (N := 4) hx hb hg in_X10 tyX10 tyX10_ok hown (hg _ g_19) (hg _ g_20) (hg _ g_1) hK hP hD hS hA rfl (fun j hj => by rcases (show j = 0 ∨ j = 1 ∨ j = 2 ∨ j = 3 by omega) with rfl | rfl | rfl | rfl <;> rfl) (Nat.le_of_ble_eq_true rfl) (Nat.le_of_ble_eq_true rfl) dL_law_0 (fun q0 H hP hD hS => ?_)
  have hP : va_P D vwCl [(q0, .inr (11, [.null, .null, .null, .int 0]))] H := hP
  have hD : va_D (fun q : Nat => s.heap.size ≤ q) [(q0, .inr (11, [.null, .null, .null, .int 0]))] := hD
  refine W.widen (k := 1) (n := 4) (by decide) (by decide) ?_
  refine lv_dup hx hb dL_law_3 rfl ?_
  refine z_v (va_runI (As := []) (rest := [.ref q0]) ⟨hx, hb, hml, hown, hg⟩ (c_X10_init l D cI cZ cQ q0 ws_C ws_P _) (zg_I 0 hg g_23 g_1 g_21 g_22 rfl ⟨by decide, by decide, by decide +kernel⟩ ⟨Nat.le_of_ble_eq_true rfl, Nat.le_of_ble_eq_true rfl⟩)
    ⟨fun a U g mk q => by obtain ⟨r0, ⟨r1, qP, qK, qD⟩, qA⟩ := q; exact ⟨r0, ⟨r1, qP, va_K.moved (u := U) (U := U.calling g mk a) (Vm.Alike.refl U.vm) qK, qD⟩, va_AO.moved (u := U) (U := U.calling g mk a) (Vm.Alike.refl U.vm) qA⟩, fun U hU hW => ⟨rfl, ⟨by rw [hU], by rw [hU]; exact hP, va_K.moved hW.alike (hK.sub [0, 1, 2] rfl), hD.weaken (fun _ _ _ _ => trivial)⟩, va_AO.moved hW.alike hAO⟩⟩ rfl rfl hl.1 rfl (lv_room (Nat.le_of_ble_eq_true rfl)) dL_law_4 ⟨Nat.le_of_ble_eq_true rfl, Nat.le_of_ble_eq_true rfl⟩) hP hD hS hA [0] [] rfl rfl (by decide) (by decide) (wr := []) (fun w1 H locs hw hP hD hS => ?_)
  obtain ⟨g, x, rfl, rfl, rfl, rfl, rfl⟩ := hw
  refine W.widen (k := 9) (n := 467) (by decide) (by decide) ?_
  have hP : va_P D vwCl (wX0 g x 0 ws_C tt0 xx0) H := hP
  have hD : va_D (fun q : Nat => s.heap.size ≤ q) (wX0 g x 0 ws_C tt0 xx0) := hD
  refine lv_astore_n (lv' := [(1, .ref x.xo), (0, .ref b)]) hx hb dL_law_7 rfl hl (by decide) rfl (fun ls hl => ?_)
  refine va_new (ci := 12) (fs := [.int 0, .int 0, .null, .null, .null, .null, .int 0, .null, .null, .null, .null, .null, .null, .int 0, .int 0, .int 0, .int 0]) (C := RX11) (T := TX11) (N := 17) hx hb hg in_X11 tyX11 tyX11_ok hown (hg _ g_680) (hg _ g_681) (hg _ g_4) hK hP hD hS hA rfl (fun j hj => by rcases (show j = 0 ∨ j = 1 ∨ j = 2 ∨ j = 3 ∨ j = 4 ∨ j = 5 ∨ j = 6 ∨ j = 7 ∨ j = 8 ∨ j = 9 ∨ j = 10 ∨ j = 11 ∨ j = 12 ∨ j = 13 ∨ j = 14 ∨ j = 15 ∨ j = 16 by omega) with rfl | rfl | rfl | rfl | rfl | rfl | rfl | rfl | rfl | rfl | rfl | rfl | rfl | rfl | rfl | rfl | rfl <;> rfl) (Nat.le_of_ble_eq_true rfl) (Nat.le_of_ble_eq_true rfl) dL_law_8 (fun q1 H hP hD hS => ?_)
  have hP : va_P D vwCl (wX0 g x 0 ws_C tt0 xx0 ++ [(q1, .inr (12, [.int 0, .int 0, .null, .null, .null, .null, .int 0, .null, .null, .null, .null, .null, .null, .int 0, .int 0, .int 0, .int 0]))]) H := hP
  have hD : va_D (fun q : Nat => s.heap.size ≤ q) (wX0 g x 0 ws_C tt0 xx0 ++ [(q1, .inr (12, [.int 0, .int 0, .null, .null, .null, .null, .int 0, .null, .null, .null, .null, .null, .null, .int 0, .int 0, .int 0, .int 0]))]) := hD
  refine W.widen (k := 10) (n := 484) (by decide) (by decide) ?_
  refine lv_dup hx hb dL_law_11 rfl ?_
  refine z_v (va_runI (As := []) (rest := [.ref q1]) ⟨hx, hb, hml, hown, hg⟩ (c_X11_init l D g.cI g.cZ q1 _) (zg_I 0 hg g_684 g_4 g_682 g_683 rfl ⟨by decide, by decide, by decide +kernel⟩ ⟨Nat.le_of_ble_eq_true rfl, Nat.le_of_ble_eq_true rfl⟩)
    (z_preS (hP.subm [9] rfl) (hD.sub [9] (by decide) rfl) (hK.sub (tys' := [(g.cI, .int), (g.cZ, .boolean)]) [0, 1] rfl)) rfl rfl hl.1 rfl (lv_room (Nat.le_of_ble_eq_true rfl)) dL_law_12 ⟨Nat.le_of_ble_eq_true rfl, Nat.le_of_ble_eq_true rfl⟩) hP hD hS hA [9] [0, 1, 2, 3, 4, 5, 6, 7, 8] rfl rfl (by decide) (by decide) (wr := wX0 g x 0 ws_C tt0 xx0) (fun w1 H locs hw hP hD hS => ?_)
  obtain ⟨a1, a2, a3, a4, a5, a6, a7, a8, a9, a10, rfl⟩ := hw
  refine W.widen (k := 20) (n := 1116) (by decide) (by decide) ?_
  obtain ⟨gm, egm⟩ : ∃ gm : MA, gm = (g.cI, g.cZ, q1, a1, a2, a3, a4, a5, a6, a7, a8, a9, a10) := ⟨_, rfl⟩
  have hP : va_P D vwCl (wX0 g x 0 ws_C tt0 xx0 ++ wM gm mm0) H := by rw [egm]; exact hP
  have hD : va_D (fun q : Nat => s.heap.size ≤ q) (wX0 g x 0 ws_C tt0 xx0 ++ wM gm mm0) := by rw [egm]; exact hD
  have hKM : va_K D vwCl (tyM gm) s := by rw [egm]; exact hK.sub [0, 1] rfl
  have emo : q1 = gm.mo := by rw [egm]
  rw [emo]
  refine lv_astore_n (lv' := [(2, .ref gm.mo), (1, .ref x.xo), (0, .ref b)]) hx hb dL_law_15 rfl hl (by decide) rfl (fun ls hl => ?_)
  refine lv_iconst (v := 1) hx hb dL_law_16 (by decide) ?_
  refine z_newa (atype := .long) (ty := .long) (n := 1) (a0 := (1, .inr (.inl (fun _ => 0)))) (N' := 1) hx hb (hg _ g_845) rfl (t0 := 3) rfl (fun _ h => h) hK hP hD hS hA (fun _ => rfl) (by decide) (by decide) (by decide) (Nat.le_of_ble_eq_true rfl) (Nat.le_of_ble_eq_true rfl) dL_law_17 (fun oa H hP hD hS => ?_)
  refine W.widen (k := 21 + 2 * 0) (n := 1300 + 19 * 0) (by decide) (by decide) ?_
  have hP : va_P D vwCl (wZ oa cJ (fun _ => 0) gm mm0 g x 0 ws_C ws_P tt0 xx0) H := hP.subm [20, 9, 10, 11, 12, 13, 14, 15, 16, 17, 18, 19, 0, 1, 2, 3, 4, 5, 6, 7, 8] rfl
  have hD : va_D (fun q : Nat => s.heap.size ≤ q) (wZ oa cJ (fun _ => 0) gm mm0 g x 0 ws_C ws_P tt0 xx0) := hD.sub [20, 9, 10, 11, 12, 13, 14, 15, 16, 17, 18, 19, 0, 1, 2, 3, 4, 5, 6, 7, 8] (by decide) rfl
  refine lv_astore_n (lv' := [(3, .ref oa), (2, .ref gm.mo), (1, .ref x.xo), (0, .ref b)]) hx hb dL_law_19 rfl hl (by decide) rfl (fun ls hl => ?_)
  refine lv_iconst (v := 0) hx hb dL_law_20 (by decide) ?_
  refine lv_istore (lv' := [(4, .int 0), (3, .ref oa), (2, .ref gm.mo), (1, .ref x.xo), (0, .ref b)]) hx hb dL_law_21 hl (by decide) rfl (fun ls hl => ?_)
  exact law_loop_open Inv s_ok s_skip s_load s_search s_free s_full s_move s_at s_of s_trace s_count s_timber s_pile s_put s_take hL C0 hlt (npe_row l) hE hg hK hKM (L + 1) 0 (by omega) (by omega) 0 ws_C ws_P tt0 xx0 mm0 (fun _ => 0) 0 nI_0.symm (inv0 _ _) H _ hP hD hS ls (lv_sub hl [4, 3, 2, 1, 0] rfl)
