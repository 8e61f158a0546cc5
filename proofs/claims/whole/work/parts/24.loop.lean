theorem out_cmp {h : Bool} {fo : Nat → Int64} {R r : Int32} (h0 : (if h = true then (1 : Int32) else 0) = 0) (e : h = false → R = r) : lg_cmp ((if h = true then fo else vp_updL fo 0 R.toInt64) (0 : Int32).toNatClampNeg) r.toInt64 = 0 := by
  cases h with
  | true => exact absurd h0 (by decide)
  | false =>
    rw [e rfl]
    show lg_cmp ((vp_updL fo 0 r.toInt64) 0) r.toInt64 = 0
    unfold vp_updL
    rw [if_pos rfl]
    exact zcmp_self _
theorem nI_le_of {a b : Nat} (ha : a < 2 ^ 30) (h4 : 4 ≤ b) (hb : b < 2 ^ 30) (h : ¬ (nI b - 4 : Int32) < nI a) : a + 4 ≤ b := by
  have e : (nI b - 4 : Int32) = nI (b - 4) := by rw [show (4 : Int32) = nI 4 from rfl]; exact pk_sub h4
  rw [e] at h
  rcases Nat.lt_or_ge (b - 4) a with q | q
  · exact absurd (nI_lt q (by omega)) h
  · omega
theorem law_small {L k : Nat} (h : L < 4) (hk : 4 * k ≤ L := by omega) : (nI L - 4 : Int32) < nI (4 * k) := by
  have e0 : 4 * k = 0 := by omega
  rw [e0]
  rcases (show L = 0 ∨ L = 1 ∨ L = 2 ∨ L = 3 by omega) with rfl | rfl | rfl | rfl <;> decide
set_option maxHeartbeats 8000000 in
set_option maxRecDepth 100000 in
/-- the law's loop: k calls are done, class and reference agree; the simulation's steps are hypotheses here (layer 2 gives them) -/
theorem law_loop_open (Inv : Nat → Nat → CZ → (Nat → PP) → TT → DD → MM → Prop)
    (h_ok : ∀ (k n : Nat) (C : CZ) (P : Nat → PP) (T : TT) (X : DD) (M : MM), Inv k n C P T X M → n ≤ 12 ∧ ∀ i, i < n → pkAll (C i).1)
    (h_skip : ∀ (k n : Nat) (C : CZ) (P : Nat → PP) (T : TT) (X : DD) (M : MM), k < 512 → Inv k n C P T X M → Inv (k + 1) n C P T X M)
    (h_load : ∀ (k n : Nat) (C : CZ) (P : Nat → PP) (T : TT) (X : DD) (M : MM) (a : Int32), k < 512 → Inv k n C P T X M → fX11_loadK M a ∧ fX10_loadR n C P T X a = fX11_loadR M a ∧ Inv (k + 1) n C (fX10_loadS n C P T X a).1 (fX10_loadS n C P T X a).2.1 (fX10_loadS n C P T X a).2.2 (fX11_loadS M a))
    (h_search : ∀ (k n : Nat) (C : CZ) (P : Nat → PP) (T : TT) (X : DD) (M : MM) (a b : Int32), k < 512 → Inv k n C P T X M → fX11_searchK M a b ∧ fX10_searchR n C P T X a b = fX11_searchR M a b ∧ Inv (k + 1) n C (fX10_searchS n C P T X a b).1 (fX10_searchS n C P T X a b).2.1 (fX10_searchS n C P T X a b).2.2 (fX11_searchS M a b))
    (h_free : ∀ (k n : Nat) (C : CZ) (P : Nat → PP) (T : TT) (X : DD) (M : MM) (a : Int32), k < 512 → Inv k n C P T X M → fX11_freeK M a ∧ fX10_freeR n C P T X a = fX11_freeR M a ∧ Inv (k + 1) n C (fX10_freeS n C P T X a).1 (fX10_freeS n C P T X a).2.1 (fX10_freeS n C P T X a).2.2 (fX11_freeS M a))
    (h_full : ∀ (k n : Nat) (C : CZ) (P : Nat → PP) (T : TT) (X : DD) (M : MM) (a : Int32), k < 512 → Inv k n C P T X M → fX11_fullK M a ∧ fX10_fullR n C P T X a = fX11_fullR M a ∧ Inv (k + 1) n C (fX10_fullS n C P T X a).1 (fX10_fullS n C P T X a).2.1 (fX10_fullS n C P T X a).2.2 (fX11_fullS M a))
    (h_move : ∀ (k n : Nat) (C : CZ) (P : Nat → PP) (T : TT) (X : DD) (M : MM) (a b : Int32), k < 512 → Inv k n C P T X M → fX11_moveK M a b ∧ fX10_moveR n C P T X a b = fX11_moveR M a b ∧ Inv (k + 1) n C (fX10_moveS n C P T X a b).1 (fX10_moveS n C P T X a b).2.1 (fX10_moveS n C P T X a b).2.2 (fX11_moveS M a b))
    (h_at : ∀ (k n : Nat) (C : CZ) (P : Nat → PP) (T : TT) (X : DD) (M : MM) (a b : Int32), k < 512 → Inv k n C P T X M → fX11_atK M a b ∧ fX10_atR n C P T X a b = fX11_atR M a b ∧ Inv (k + 1) n C (fX10_atS n C P T X a b).1 (fX10_atS n C P T X a b).2.1 (fX10_atS n C P T X a b).2.2 (fX11_atS M a b))
    (h_of : ∀ (k n : Nat) (C : CZ) (P : Nat → PP) (T : TT) (X : DD) (M : MM) (a b : Int32), k < 512 → Inv k n C P T X M → fX11_ofK M a b ∧ fX10_ofR n C P T X a b = fX11_ofR M a b ∧ Inv (k + 1) n C P T X (fX11_ofS M a b))
    (h_trace : ∀ (k n : Nat) (C : CZ) (P : Nat → PP) (T : TT) (X : DD) (M : MM) (a : Int32), k < 512 → Inv k n C P T X M → fX11_traceK M a ∧ fX10_traceR n C P T X a = fX11_traceR M a ∧ Inv (k + 1) n C P T X (fX11_traceS M a))
    (h_count : ∀ (k n : Nat) (C : CZ) (P : Nat → PP) (T : TT) (X : DD) (M : MM) (a : Int32), k < 512 → Inv k n C P T X M → fX11_countK M a ∧ fX10_countR n C P T X a = fX11_countR M a ∧ Inv (k + 1) n C P T X (fX11_countS M a))
    (h_timber : ∀ (k n : Nat) (C : CZ) (P : Nat → PP) (T : TT) (X : DD) (M : MM) (a b z : Int32), k < 512 → Inv k n C P T X M → (z = 0 ∨ z = 1) → fX11_timberK M a b z ∧ fX10_timberR n C P T X a b z = fX11_timberR M a b z ∧ Inv (k + 1) n C (fX10_timberS n C P T X a b z).1 (fX10_timberS n C P T X a b z).2.1 (fX10_timberS n C P T X a b z).2.2 (fX11_timberS M a b z))
    (h_pile : ∀ (k n : Nat) (C : CZ) (P : Nat → PP) (T : TT) (X : DD) (M : MM) (a b z : Int32), k < 512 → Inv k n C P T X M → fX11_pileK M a b z ∧ fX10_pileR n a b z = fX11_pileR M a b z ∧ ∀ (n1 : Nat) (C1 : CZ) (P1 : Nat → PP), ((¬ okP n a b z ∧ n1 = n ∧ C1 = C ∧ P1 = P) ∨ (okP n a b z ∧ ∃ q q1 : Nat, n1 = n + 1 ∧ C1 = va_up C n (ciK a, q, q1) ∧ P1 = va_up P n (nI n, b, z, (fun _ => 0), 0))) → Inv (k + 1) n1 C1 P1 T X (fX11_pileS M a b z))
    (h_put : ∀ (k n : Nat) (C : CZ) (P : Nat → PP) (T : TT) (X : DD) (M : MM) (a b : Int32), k < 512 → Inv k n C P T X M → fX11_putK M a b ∧ fX11_thrownR (fX11_putS M a b) = (if fX10_putH n C P T X a b = true then (1 : Int32) else 0) ∧ (fX10_putH n C P T X a b = false → fX10_putR n C P T X a b = fX11_putR M a b) ∧ Inv (k + 1) n C (fX10_putS n C P T X a b).1 (fX10_putS n C P T X a b).2.1 (fX10_putS n C P T X a b).2.2 (fX11_putS M a b))
    (h_take : ∀ (k n : Nat) (C : CZ) (P : Nat → PP) (T : TT) (X : DD) (M : MM) (a : Int32), k < 512 → Inv k n C P T X M → fX11_takeK M a ∧ fX11_thrownR (fX11_takeS M a) = (if fX10_takeH n C P T X a = true then (1 : Int32) else 0) ∧ (fX10_takeH n C P T X a = false → fX10_takeR n C P T X a = fX11_takeR M a) ∧ Inv (k + 1) n C (fX10_takeS n C P T X a).1 (fX10_takeS n C P T X a).2.1 (fX10_takeS n C P T X a).2.2 (fX11_takeS M a))
    {p : Program} {l : Launch} {e : Env} {s : State} {m : MethodId} {below : List Frame} {meth : Method} {c : Code} {D : va_G} {g : GA} {x : GX} {gm : MA} {cJ : ClassId} {oa b L : Nat} {xs : Nat → Int32} (hL : L ≤ 2048) (C0 : lw_At p s m meth c b L xs) (hlt : l.stackTraces = false) (hNpe : NpeRow l) (hE : EX (fun q : Nat => s.heap.size ≤ q) s s.heap) (hg : Tb #[Value.ref b] s) (hK : va_K D vwCl (tyL g x cJ) s) (hKM : va_K D vwCl (tyM gm) s) :
    ∀ (r k : Nat), 4 * k ≤ L → L < 4 * k + 4 * r → ∀ (n : Nat) (C : CZ) (P : Nat → PP) (T : TT) (X : DD) (M : MM) (fo : Nat → Int64) (x4 : Int32), x4 = nI (4 * k) → Inv k n C P T X M → ∀ (H : Heap) (locs : List Loc), va_P D vwCl (wZ oa cJ fo gm M g x n C P T X) H → va_D (fun q : Nat => s.heap.size ≤ q) (wZ oa cJ fo gm M g x n C P T X) → va_S (fun q : Nat => s.heap.size ≤ q) s.heap H locs → ∀ (ls : Array Slot), lv_has ls 7 [(0, .ref b), (1, .ref x.xo), (2, .ref gm.mo), (3, .ref oa), (4, .int x4)] → W p l e room_1 s m #[Value.ref b] below meth c H locs (21 + 2 * k) (1300 + 19 * k) (lw_Z below #[Value.ref b] s) (F0 m 23 ls []) := by
  obtain ⟨hx, hb, hr, hml, hown, hts, hX, hbl, hlocks, hgv⟩ := C0
  have hA : ∀ q : Nat, s.heap.size ≤ q → (fun q : Nat => s.heap.size ≤ q) q := fun _ h => h
  have hbA : ¬ (fun q : Nat => s.heap.size ≤ q) b := Nat.not_le.mpr hbl
  intro r
  induction r with
  | zero =>
    intro k h1 h2
    exact absurd h2 (by omega)
  | succ r ih =>
    intro k h4 hr4 n C P T X M fo x4 ex4 hI H locs hP hD hS ls hl
    obtain ⟨hn, hC⟩ := h_ok k n C P T X M hI
    refine lv_iload hx hb dL_law_23 (lv_at hl 4 rfl) ?_
    refine lv_aload_n hx hb dL_law_25 rfl (lv_at hl 0 rfl) ?_
    refine va_slen hx hb hX hbl hbA hS dL_law_26 ?_
    refine lv_iconst (v := 4) hx hb dL_law_27 (by decide) ?_
    refine lv_isub hx hb dL_law_28 ?_
    refine lv_icmp_gt (tgt := 621) hx hb dL_law_29 (by decide) (fun c_0 => ?_) (fun c_0 => ?_)
    · refine lv_iconst (v := 1) hx hb dL_law_621 (by decide) ?_
      refine va_forget (fun q hq => hS.2.2 q hq) ?_
      refine W.widen (k := 603072) (n := 7121002) (by omega) (by omega) ?_
      exact lw_ret hx hb hr hlocks dL_law_622
    · have hle : 4 * k + 4 ≤ L := by
        rcases Nat.lt_or_ge L 4 with q | q
        · exact absurd (by rw [ex4]; exact law_small q) c_0
        · exact nI_le_of (by omega) q (by omega) (by rw [← ex4]; exact c_0)
      have hk : k < 512 := by omega
      have hb0 : vp_in x4 L := by rw [ex4]; exact vp_in_nI (by omega) (by omega)
      have hb1 : vp_in (x4 + 1) L := by rw [ex4, show (1 : Int32) = nI 1 from rfl, nI_add]; exact vp_in_nI (by omega) (by omega)
      have hb2 : vp_in (x4 + 2) L := by rw [ex4, show (2 : Int32) = nI 2 from rfl, nI_add]; exact vp_in_nI (by omega) (by omega)
      have hb3 : vp_in (x4 + 3) L := by rw [ex4, show (3 : Int32) = nI 3 from rfl, nI_add]; exact vp_in_nI (by omega) (by omega)
      refine lv_aload_n hx hb dL_law_32 rfl (lv_at hl 0 rfl) ?_
      refine lv_iload hx hb dL_law_33 (lv_at hl 4 rfl) ?_
      refine va_sld hx hb hX hbl hbA hS hb0 dL_law_35 ?_
      refine lv_bipush (v := 15) hx hb dL_law_36 (by decide) ?_
      refine lv_iand hx hb dL_law_38 ?_
      by_cases c_1 : ((xs x4.toNatClampNeg) &&& 15) = 0
      · refine lv_tableIn (tgt := 104) (off := 65) hx hb dL_law_39 (by rw [c_1]; decide) (by rw [c_1]; decide) (by rw [c_1]; rfl) (by decide) ?_
        refine lv_aload_n hx hb dL_law_104 rfl (lv_at hl 1 rfl) ?_
        refine lv_aload_n hx hb dL_law_105 rfl (lv_at hl 0 rfl) ?_
        refine lv_iload hx hb dL_law_106 (lv_at hl 4 rfl) ?_
        refine lv_iconst (v := 1) hx hb dL_law_108 (by decide) ?_
        refine lv_iadd hx hb dL_law_109 ?_
        refine va_sld hx hb hX hbl hbA hS hb1 dL_law_110 ?_
        refine lv_aload_n hx hb dL_law_111 rfl (lv_at hl 0 rfl) ?_
        refine lv_iload hx hb dL_law_112 (lv_at hl 4 rfl) ?_
        refine lv_iconst (v := 2) hx hb dL_law_114 (by decide) ?_
        refine lv_iadd hx hb dL_law_115 ?_
        refine va_sld hx hb hX hbl hbA hS hb2 dL_law_116 ?_
        refine lv_aload_n hx hb dL_law_117 rfl (lv_at hl 0 rfl) ?_
        refine lv_iload hx hb dL_law_118 (lv_at hl 4 rfl) ?_
        refine lv_iconst (v := 3) hx hb dL_law_120 (by decide) ?_
        refine lv_iadd hx hb dL_law_121 ?_
        refine va_sld hx hb hX hbl hbA hS hb3 dL_law_122 ?_
        refine lv_if_eq (tgt := 130) hx hb dL_law_123 (by decide) (fun c_2 => ?_) (fun c_2 => ?_)
        · -- (xs (x4 + 3).toNatClampNeg) = 0
          refine lv_iconst (v := 0) hx hb dL_law_130 (by decide) ?_
          refine zl_X (P1 := (fX10_timberS n C P T X (xs (x4 + 1).toNatClampNeg) (xs (x4 + 2).toNatClampNeg) 0).1) (T1 := (fX10_timberS n C P T X (xs (x4 + 1).toNatClampNeg) (xs (x4 + 2).toNatClampNeg) 0).2.1) (X1 := (fX10_timberS n C P T X (xs (x4 + 1).toNatClampNeg) (xs (x4 + 2).toNatClampNeg) 0).2.2) (va_runV (As := [.int (xs (x4 + 1).toNatClampNeg), .int (xs (x4 + 2).toNatClampNeg), .int 0]) (rest := []) ⟨hx, hb, hml, hown, hg⟩ (c_X10_timber l D g x n hn C hC P T X (xs (x4 + 1).toNatClampNeg) (xs (x4 + 2).toNatClampNeg) 0 _) (zg_V 3 hg g_94 g_1 g_91 g_92 g_93 ⟨by decide, by decide, by decide +kernel⟩ ⟨Nat.le_of_ble_eq_true rfl, Nat.le_of_ble_eq_true rfl⟩) (z_preV (ci := 11) (q0 := 0) (hP.part (cx := wX0 g x n C T X) [12, 13, 14, 15, 16, 17, 18, 19, 20] rfl) (hD.part (cx := wX0 g x n C T X) [12, 13, 14, 15, 16, 17, 18, 19, 20] (by decide) rfl) (hK.sub (tys' := tyX g x) [0, 1, 2] rfl) rfl rfl) rfl rfl hl.1 rfl (lv_room (Nat.le_of_ble_eq_true rfl)) dL_law_131 ⟨by show 21 + 2 * k + 0 ≤ 603072; omega, by show 1300 + 19 * k + 0 ≤ 7121002; omega⟩) hP hD hS hA (fun H locs hP hD hS => ?_)
          refine W.widen (k := 21 + 2 * k + 2) (n := 1300 + 19 * k + 19) (by show 21 + 2 * k + 0 ≤ _; omega) (by show 1300 + 19 * k + 0 ≤ _; omega) ?_
          refine lv_aload_n hx hb dL_law_134 rfl (lv_at hl 2 rfl) ?_
          refine lv_aload_n hx hb dL_law_135 rfl (lv_at hl 0 rfl) ?_
          refine lv_iload hx hb dL_law_136 (lv_at hl 4 rfl) ?_
          refine lv_iconst (v := 1) hx hb dL_law_138 (by decide) ?_
          refine lv_iadd hx hb dL_law_139 ?_
          refine va_sld hx hb hX hbl hbA hS hb1 dL_law_140 ?_
          refine lv_aload_n hx hb dL_law_141 rfl (lv_at hl 0 rfl) ?_
          refine lv_iload hx hb dL_law_142 (lv_at hl 4 rfl) ?_
          refine lv_iconst (v := 2) hx hb dL_law_144 (by decide) ?_
          refine lv_iadd hx hb dL_law_145 ?_
          refine va_sld hx hb hX hbl hbA hS hb2 dL_law_146 ?_
          refine lv_aload_n hx hb dL_law_147 rfl (lv_at hl 0 rfl) ?_
          refine lv_iload hx hb dL_law_148 (lv_at hl 4 rfl) ?_
          refine lv_iconst (v := 3) hx hb dL_law_150 (by decide) ?_
          refine lv_iadd hx hb dL_law_151 ?_
          refine va_sld hx hb hX hbl hbA hS hb3 dL_law_152 ?_
          refine lv_if_eq (tgt := 160) hx hb dL_law_153 (by decide) (fun c_3 => ?_) (fun c_3 => ?_)
          · -- (xs (x4 + 3).toNatClampNeg) = 0
            refine lv_iconst (v := 0) hx hb dL_law_160 (by decide) ?_
            have hq := h_timber k n C P T X M (xs (x4 + 1).toNatClampNeg) (xs (x4 + 2).toNatClampNeg) 0 hk hI (by exact Or.inl rfl)
            refine zl_M (M1 := (fX11_timberS M (xs (x4 + 1).toNatClampNeg) (xs (x4 + 2).toNatClampNeg) 0)) (va_runV (As := [.int (xs (x4 + 1).toNatClampNeg), .int (xs (x4 + 2).toNatClampNeg), .int 0]) (rest := [.int (fX10_timberR n C P T X (xs (x4 + 1).toNatClampNeg) (xs (x4 + 2).toNatClampNeg) 0)]) ⟨hx, hb, hml, hown, hg⟩ (c_X11_timber l D gm M (xs (x4 + 1).toNatClampNeg) (xs (x4 + 2).toNatClampNeg) 0 hq.1 _) (zg_V 3 hg g_745 g_4 g_742 g_743 g_744 ⟨by decide, by decide, by decide +kernel⟩ ⟨Nat.le_of_ble_eq_true rfl, Nat.le_of_ble_eq_true rfl⟩) (z_preV (ci := 12) (q0 := 0) (hP.subm [1, 2, 3, 4, 5, 6, 7, 8, 9, 10, 11] rfl) (hD.sub [1, 2, 3, 4, 5, 6, 7, 8, 9, 10, 11] (by decide) rfl) hKM rfl rfl) rfl rfl hl.1 rfl (lv_room (Nat.le_of_ble_eq_true rfl)) dL_law_161 ⟨by show 21 + 2 * k + 2 + 0 ≤ 603072; omega, by show 1300 + 19 * k + 19 + 0 ≤ 7121002; omega⟩) hP hD hS hA (fun H locs hP hD hS => ?_)
            refine lv_icmp_eq (tgt := 615) hx hb dL_law_164 (by decide) (fun c_4 => ?_) (fun c_4 => ?_)
            · -- (fX10_timberR n C P T X (xs (x4 + 1).toNatClampNeg) (xs (x4 + 2).toNatClampNeg) 0) = (fX11_timberR M (xs (x4 + 1).toNatClampNeg) (xs (x4 + 2).toNatClampNeg) 0)
              refine lv_iinc (v := x4 + 4) (lv' := [(4, .int (x4 + 4)), (0, .ref b), (1, .ref x.xo), (2, .ref gm.mo), (3, .ref oa)]) hx hb dL_law_615 hl (k := 4) rfl rfl (by decide) rfl (fun ls hl => ?_)
              refine lv_goto (tgt := 23) hx hb dL_law_618 (by decide) ?_
              exact ih (k + 1) (by omega) (by omega) _ _ _ _ _ _ _ (x4 + 4) (by rw [ex4]; exact nI_add (4 * k) 4) (hq.2.2) _ _ hP hD hS ls (lv_sub hl [1, 2, 3, 4, 0] rfl)
            · -- not (fX10_timberR n C P T X (xs (x4 + 1).toNatClampNeg) (xs (x4 + 2).toNatClampNeg) 0) = (fX11_timberR M (xs (x4 + 1).toNatClampNeg) (xs (x4 + 2).toNatClampNeg) 0)
              refine lv_iconst (v := 0) hx hb dL_law_167 (by decide) ?_
              exact absurd (hq.2.1) c_4
          · -- not (xs (x4 + 3).toNatClampNeg) = 0
            exact absurd c_2 c_3
        · -- not (xs (x4 + 3).toNatClampNeg) = 0
          refine lv_iconst (v := 1) hx hb dL_law_126 (by decide) ?_
          refine lv_goto (tgt := 131) hx hb dL_law_127 (by decide) ?_
          refine zl_X (P1 := (fX10_timberS n C P T X (xs (x4 + 1).toNatClampNeg) (xs (x4 + 2).toNatClampNeg) 1).1) (T1 := (fX10_timberS n C P T X (xs (x4 + 1).toNatClampNeg) (xs (x4 + 2).toNatClampNeg) 1).2.1) (X1 := (fX10_timberS n C P T X (xs (x4 + 1).toNatClampNeg) (xs (x4 + 2).toNatClampNeg) 1).2.2) (va_runV (As := [.int (xs (x4 + 1).toNatClampNeg), .int (xs (x4 + 2).toNatClampNeg), .int 1]) (rest := []) ⟨hx, hb, hml, hown, hg⟩ (c_X10_timber l D g x n hn C hC P T X (xs (x4 + 1).toNatClampNeg) (xs (x4 + 2).toNatClampNeg) 1 _) (zg_V 3 hg g_94 g_1 g_91 g_92 g_93 ⟨by decide, by decide, by decide +kernel⟩ ⟨Nat.le_of_ble_eq_true rfl, Nat.le_of_ble_eq_true rfl⟩) (z_preV (ci := 11) (q0 := 0) (hP.part (cx := wX0 g x n C T X) [12, 13, 14, 15, 16, 17, 18, 19, 20] rfl) (hD.part (cx := wX0 g x n C T X) [12, 13, 14, 15, 16, 17, 18, 19, 20] (by decide) rfl) (hK.sub (tys' := tyX g x) [0, 1, 2] rfl) rfl rfl) rfl rfl hl.1 rfl (lv_room (Nat.le_of_ble_eq_true rfl)) dL_law_131 ⟨by show 21 + 2 * k + 0 ≤ 603072; omega, by show 1300 + 19 * k + 0 ≤ 7121002; omega⟩) hP hD hS hA (fun H locs hP hD hS => ?_)
          refine W.widen (k := 21 + 2 * k + 2) (n := 1300 + 19 * k + 19) (by show 21 + 2 * k + 0 ≤ _; omega) (by show 1300 + 19 * k + 0 ≤ _; omega) ?_
          refine lv_aload_n hx hb dL_law_134 rfl (lv_at hl 2 rfl) ?_
          refine lv_aload_n hx hb dL_law_135 rfl (lv_at hl 0 rfl) ?_
          refine lv_iload hx hb dL_law_136 (lv_at hl 4 rfl) ?_
          refine lv_iconst (v := 1) hx hb dL_law_138 (by decide) ?_
          refine lv_iadd hx hb dL_law_139 ?_
          refine va_sld hx hb hX hbl hbA hS hb1 dL_law_140 ?_
          refine lv_aload_n hx hb dL_law_141 rfl (lv_at hl 0 rfl) ?_
          refine lv_iload hx hb dL_law_142 (lv_at hl 4 rfl) ?_
          refine lv_iconst (v := 2) hx hb dL_law_144 (by decide) ?_
          refine lv_iadd hx hb dL_law_145 ?_
          refine va_sld hx hb hX hbl hbA hS hb2 dL_law_146 ?_
          refine lv_aload_n hx hb dL_law_147 rfl (lv_at hl 0 rfl) ?_
          refine lv_iload hx hb dL_law_148 (lv_at hl 4 rfl) ?_
          refine lv_iconst (v := 3) hx hb dL_law_150 (by decide) ?_
          refine lv_iadd hx hb dL_law_151 ?_
          refine va_sld hx hb hX hbl hbA hS hb3 dL_law_152 ?_
          refine lv_if_eq (tgt := 160) hx hb dL_law_153 (by decide) (fun c_5 => ?_) (fun c_5 => ?_)
          · -- (xs (x4 + 3).toNatClampNeg) = 0
            exact absurd c_5 c_2
          · -- not (xs (x4 + 3).toNatClampNeg) = 0
            refine lv_iconst (v := 1) hx hb dL_law_156 (by decide) ?_
            refine lv_goto (tgt := 161) hx hb dL_law_157 (by decide) ?_
            have hq := h_timber k n C P T X M (xs (x4 + 1).toNatClampNeg) (xs (x4 + 2).toNatClampNeg) 1 hk hI (by exact Or.inr rfl)
            refine zl_M (M1 := (fX11_timberS M (xs (x4 + 1).toNatClampNeg) (xs (x4 + 2).toNatClampNeg) 1)) (va_runV (As := [.int (xs (x4 + 1).toNatClampNeg), .int (xs (x4 + 2).toNatClampNeg), .int 1]) (rest := [.int (fX10_timberR n C P T X (xs (x4 + 1).toNatClampNeg) (xs (x4 + 2).toNatClampNeg) 1)]) ⟨hx, hb, hml, hown, hg⟩ (c_X11_timber l D gm M (xs (x4 + 1).toNatClampNeg) (xs (x4 + 2).toNatClampNeg) 1 hq.1 _) (zg_V 3 hg g_745 g_4 g_742 g_743 g_744 ⟨by decide, by decide, by decide +kernel⟩ ⟨Nat.le_of_ble_eq_true rfl, Nat.le_of_ble_eq_true rfl⟩) (z_preV (ci := 12) (q0 := 0) (hP.subm [1, 2, 3, 4, 5, 6, 7, 8, 9, 10, 11] rfl) (hD.sub [1, 2, 3, 4, 5, 6, 7, 8, 9, 10, 11] (by decide) rfl) hKM rfl rfl) rfl rfl hl.1 rfl (lv_room (Nat.le_of_ble_eq_true rfl)) dL_law_161 ⟨by show 21 + 2 * k + 2 + 0 ≤ 603072; omega, by show 1300 + 19 * k + 19 + 0 ≤ 7121002; omega⟩) hP hD hS hA (fun H locs hP hD hS => ?_)
            refine lv_icmp_eq (tgt := 615) hx hb dL_law_164 (by decide) (fun c_6 => ?_) (fun c_6 => ?_)
            · -- (fX10_timberR n C P T X (xs (x4 + 1).toNatClampNeg) (xs (x4 + 2).toNatClampNeg) 1) = (fX11_timberR M (xs (x4 + 1).toNatClampNeg) (xs (x4 + 2).toNatClampNeg) 1)
              refine lv_iinc (v := x4 + 4) (lv' := [(4, .int (x4 + 4)), (0, .ref b), (1, .ref x.xo), (2, .ref gm.mo), (3, .ref oa)]) hx hb dL_law_615 hl (k := 4) rfl rfl (by decide) rfl (fun ls hl => ?_)
              refine lv_goto (tgt := 23) hx hb dL_law_618 (by decide) ?_
              exact ih (k + 1) (by omega) (by omega) _ _ _ _ _ _ _ (x4 + 4) (by rw [ex4]; exact nI_add (4 * k) 4) (hq.2.2) _ _ hP hD hS ls (lv_sub hl [1, 2, 3, 4, 0] rfl)
            · -- not (fX10_timberR n C P T X (xs (x4 + 1).toNatClampNeg) (xs (x4 + 2).toNatClampNeg) 1) = (fX11_timberR M (xs (x4 + 1).toNatClampNeg) (xs (x4 + 2).toNatClampNeg) 1)
              refine lv_iconst (v := 0) hx hb dL_law_167 (by decide) ?_
              exact absurd (hq.2.1) c_6
      · skip
        by_cases c_7 : ((xs x4.toNatClampNeg) &&& 15) = 1
        · refine lv_tableIn (tgt := 169) (off := 130) hx hb dL_law_39 (by rw [c_7]; decide) (by rw [c_7]; decide) (by rw [c_7]; rfl) (by decide) ?_
          refine lv_aload_n hx hb dL_law_169 rfl (lv_at hl 1 rfl) ?_
          refine lv_aload_n hx hb dL_law_170 rfl (lv_at hl 0 rfl) ?_
          refine lv_iload hx hb dL_law_171 (lv_at hl 4 rfl) ?_
          refine lv_iconst (v := 1) hx hb dL_law_173 (by decide) ?_
          refine lv_iadd hx hb dL_law_174 ?_
          refine va_sld hx hb hX hbl hbA hS hb1 dL_law_175 ?_
          refine lv_aload_n hx hb dL_law_176 rfl (lv_at hl 0 rfl) ?_
          refine lv_iload hx hb dL_law_177 (lv_at hl 4 rfl) ?_
          refine lv_iconst (v := 2) hx hb dL_law_179 (by decide) ?_
          refine lv_iadd hx hb dL_law_180 ?_
          refine va_sld hx hb hX hbl hbA hS hb2 dL_law_181 ?_
          refine lv_aload_n hx hb dL_law_182 rfl (lv_at hl 0 rfl) ?_
          refine lv_iload hx hb dL_law_183 (lv_at hl 4 rfl) ?_
          refine lv_iconst (v := 3) hx hb dL_law_185 (by decide) ?_
          refine lv_iadd hx hb dL_law_186 ?_
          refine va_sld hx hb hX hbl hbA hS hb3 dL_law_187 ?_
          refine zl_pile (va_runV (As := [.int (xs (x4 + 1).toNatClampNeg), .int (xs (x4 + 2).toNatClampNeg), .int (xs (x4 + 3).toNatClampNeg)]) (rest := []) ⟨hx, hb, hml, hown, hg⟩ (c_X10_pile l D g x n hn C P T X (xs (x4 + 1).toNatClampNeg) (xs (x4 + 2).toNatClampNeg) (xs (x4 + 3).toNatClampNeg) _) (zg_V 3 hg g_105 g_1 g_102 g_103 g_104 ⟨by decide, by decide, by decide +kernel⟩ ⟨Nat.le_of_ble_eq_true rfl, Nat.le_of_ble_eq_true rfl⟩) (z_preV (ci := 11) (q0 := 0) (hP.part (cx := wX0 g x n C T X) [12, 13, 14, 15, 16, 17, 18, 19, 20] rfl) (hD.part (cx := wX0 g x n C T X) [12, 13, 14, 15, 16, 17, 18, 19, 20] (by decide) rfl) (hK.sub (tys' := tyX g x) [0, 1, 2] rfl) rfl rfl) rfl rfl hl.1 rfl (lv_room (Nat.le_of_ble_eq_true rfl)) dL_law_188 ⟨by show 21 + 2 * k + 2 ≤ 603072; omega, by show 1300 + 19 * k + 19 ≤ 7121002; omega⟩) hP hD hS hA (fun n1 C1 P1 H locs hn1 hP hD hS => ?_)
          refine W.widen (k := 21 + 2 * k + 2) (n := 1300 + 19 * k + 19) (Nat.le_refl _) (Nat.le_refl _) ?_
          refine lv_aload_n hx hb dL_law_191 rfl (lv_at hl 2 rfl) ?_
          refine lv_aload_n hx hb dL_law_192 rfl (lv_at hl 0 rfl) ?_
          refine lv_iload hx hb dL_law_193 (lv_at hl 4 rfl) ?_
          refine lv_iconst (v := 1) hx hb dL_law_195 (by decide) ?_
          refine lv_iadd hx hb dL_law_196 ?_
          refine va_sld hx hb hX hbl hbA hS hb1 dL_law_197 ?_
          refine lv_aload_n hx hb dL_law_198 rfl (lv_at hl 0 rfl) ?_
          refine lv_iload hx hb dL_law_199 (lv_at hl 4 rfl) ?_
          refine lv_iconst (v := 2) hx hb dL_law_201 (by decide) ?_
          refine lv_iadd hx hb dL_law_202 ?_
          refine va_sld hx hb hX hbl hbA hS hb2 dL_law_203 ?_
          refine lv_aload_n hx hb dL_law_204 rfl (lv_at hl 0 rfl) ?_
          refine lv_iload hx hb dL_law_205 (lv_at hl 4 rfl) ?_
          refine lv_iconst (v := 3) hx hb dL_law_207 (by decide) ?_
          refine lv_iadd hx hb dL_law_208 ?_
          refine va_sld hx hb hX hbl hbA hS hb3 dL_law_209 ?_
          have hq := h_pile k n C P T X M (xs (x4 + 1).toNatClampNeg) (xs (x4 + 2).toNatClampNeg) (xs (x4 + 3).toNatClampNeg) hk hI
          refine zl_M (M1 := (fX11_pileS M (xs (x4 + 1).toNatClampNeg) (xs (x4 + 2).toNatClampNeg) (xs (x4 + 3).toNatClampNeg))) (va_runV (As := [.int (xs (x4 + 1).toNatClampNeg), .int (xs (x4 + 2).toNatClampNeg), .int (xs (x4 + 3).toNatClampNeg)]) (rest := [.int (fX10_pileR n (xs (x4 + 1).toNatClampNeg) (xs (x4 + 2).toNatClampNeg) (xs (x4 + 3).toNatClampNeg))]) ⟨hx, hb, hml, hown, hg⟩ (c_X11_pile l D gm M (xs (x4 + 1).toNatClampNeg) (xs (x4 + 2).toNatClampNeg) (xs (x4 + 3).toNatClampNeg) hq.1 _) (zg_V 3 hg g_752 g_4 g_749 g_750 g_751 ⟨by decide, by decide, by decide +kernel⟩ ⟨Nat.le_of_ble_eq_true rfl, Nat.le_of_ble_eq_true rfl⟩) (z_preV (ci := 12) (q0 := 0) (hP.subm [1, 2, 3, 4, 5, 6, 7, 8, 9, 10, 11] rfl) (hD.sub [1, 2, 3, 4, 5, 6, 7, 8, 9, 10, 11] (by decide) rfl) hKM rfl rfl) rfl rfl hl.1 rfl (lv_room (Nat.le_of_ble_eq_true rfl)) dL_law_210 ⟨by show 21 + 2 * k + 2 + 0 ≤ 603072; omega, by show 1300 + 19 * k + 19 + 0 ≤ 7121002; omega⟩) hP hD hS hA (fun H locs hP hD hS => ?_)
          refine lv_icmp_eq (tgt := 615) hx hb dL_law_213 (by decide) (fun c_8 => ?_) (fun c_8 => ?_)
          · -- (fX10_pileR n (xs (x4 + 1).toNatClampNeg) (xs (x4 + 2).toNatClampNeg) (xs (x4 + 3).toNatClampNeg)) = (fX11_pileR M (xs (x4 + 1).toNatClampNeg) (xs (x4 + 2).toNatClampNeg) (xs (x4 + 3).toNatClampNeg))
            refine lv_iinc (v := x4 + 4) (lv' := [(4, .int (x4 + 4)), (0, .ref b), (1, .ref x.xo), (2, .ref gm.mo), (3, .ref oa)]) hx hb dL_law_615 hl (k := 4) rfl rfl (by decide) rfl (fun ls hl => ?_)
            refine lv_goto (tgt := 23) hx hb dL_law_618 (by decide) ?_
            exact ih (k + 1) (by omega) (by omega) _ _ _ _ _ _ _ (x4 + 4) (by rw [ex4]; exact nI_add (4 * k) 4) (hq.2.2 _ _ _ hn1) _ _ hP hD hS ls (lv_sub hl [1, 2, 3, 4, 0] rfl)
          · -- not (fX10_pileR n (xs (x4 + 1).toNatClampNeg) (xs (x4 + 2).toNatClampNeg) (xs (x4 + 3).toNatClampNeg)) = (fX11_pileR M (xs (x4 + 1).toNatClampNeg) (xs (x4 + 2).toNatClampNeg) (xs (x4 + 3).toNatClampNeg))
            refine lv_iconst (v := 0) hx hb dL_law_216 (by decide) ?_
            exact absurd (hq.2.1) c_8
        · skip
          by_cases c_9 : ((xs x4.toNatClampNeg) &&& 15) = 2
          · refine lv_tableIn (tgt := 218) (off := 179) hx hb dL_law_39 (by rw [c_9]; decide) (by rw [c_9]; decide) (by rw [c_9]; rfl) (by decide) ?_
            refine lv_aload_n hx hb dL_law_218 rfl (lv_at hl 1 rfl) ?_
            refine lv_aload_n hx hb dL_law_219 rfl (lv_at hl 0 rfl) ?_
            refine lv_iload hx hb dL_law_220 (lv_at hl 4 rfl) ?_
            refine lv_iconst (v := 1) hx hb dL_law_222 (by decide) ?_
            refine lv_iadd hx hb dL_law_223 ?_
            refine va_sld hx hb hX hbl hbA hS hb1 dL_law_224 ?_
            refine lv_aload_n hx hb dL_law_225 rfl (lv_at hl 0 rfl) ?_
            refine lv_iload hx hb dL_law_226 (lv_at hl 4 rfl) ?_
            refine lv_iconst (v := 2) hx hb dL_law_228 (by decide) ?_
            refine lv_iadd hx hb dL_law_229 ?_
            refine va_sld hx hb hX hbl hbA hS hb2 dL_law_230 ?_
            refine lv_aload_n hx hb dL_law_231 rfl (lv_at hl 3 rfl) ?_
            refine zl_P (fo1 := if fX10_putH n C P T X (xs (x4 + 1).toNatClampNeg) (xs (x4 + 2).toNatClampNeg) = true then fo else vp_updL fo 0 (fX10_putR n C P T X (xs (x4 + 1).toNatClampNeg) (xs (x4 + 2).toNatClampNeg)).toInt64) (P1 := (fX10_putS n C P T X (xs (x4 + 1).toNatClampNeg) (xs (x4 + 2).toNatClampNeg)).1) (T1 := (fX10_putS n C P T X (xs (x4 + 1).toNatClampNeg) (xs (x4 + 2).toNatClampNeg)).2.1) (X1 := (fX10_putS n C P T X (xs (x4 + 1).toNatClampNeg) (xs (x4 + 2).toNatClampNeg)).2.2) (vx_runSW (As := [.ref x.xo, .int (xs (x4 + 1).toNatClampNeg), .int (xs (x4 + 2).toNatClampNeg), .ref oa]) (rest := []) ⟨hx, hb, hml, hown, hg⟩ (c_L_put l hlt D g x cJ oa fo n hn C hC P T X (xs (x4 + 1).toNatClampNeg) (xs (x4 + 2).toNatClampNeg) _) (zg_W 4 hg gcw_put g_0 g_556 g_557 ⟨by decide, by decide, by decide +kernel⟩ ⟨Nat.le_of_ble_eq_true rfl, Nat.le_of_ble_eq_true rfl⟩) (z_preE (hP.part (cx := [oC oa cJ fo] ++ wX0 g x n C T X) [0, 12, 13, 14, 15, 16, 17, 18, 19, 20] rfl) (hD.part (cx := [oC oa cJ fo] ++ wX0 g x n C T X) [0, 12, 13, 14, 15, 16, 17, 18, 19, 20] (by decide) rfl) hK hE hS (zl_FP hD hS hA)) rfl rfl hl.1 rfl (lv_room (Nat.le_of_ble_eq_true rfl)) dL_law_232 ⟨by show 21 + 2 * k + 1 ≤ 603072; omega, by show 1300 + 19 * k + 6 ≤ 7121002; omega⟩) hP hD hS hA (fun H locs hP hD hS => ?_)
            refine W.widen (k := 21 + 2 * k + 2) (n := 1300 + 19 * k + 19) (by show 21 + 2 * k + 1 ≤ _; omega) (by show 1300 + 19 * k + 6 ≤ _; omega) ?_
            refine lv_istore (lv' := [(5, .int (if fX10_putH n C P T X (xs (x4 + 1).toNatClampNeg) (xs (x4 + 2).toNatClampNeg) = true then (1 : Int32) else 0)), (0, .ref b), (1, .ref x.xo), (2, .ref gm.mo), (3, .ref oa), (4, .int x4)]) hx hb dL_law_235 hl (by decide) rfl (fun ls hl => ?_)
            refine lv_aload_n hx hb dL_law_237 rfl (lv_at hl 3 rfl) ?_
            refine lv_aload_n hx hb dL_law_238 rfl (lv_at hl 1 rfl) ?_
            refine lv_iload hx hb dL_law_239 (lv_at hl 5 rfl) ?_
            refine lv_iconst (v := 1) hx hb dL_law_241 (by decide) ?_
            refine lv_iadd hx hb dL_law_242 ?_
            refine va_sld hx hb hX hbl hbA hS hb1 dL_law_243 ?_
            refine lv_aload_n hx hb dL_law_244 rfl (lv_at hl 1 rfl) ?_
            refine lv_iload hx hb dL_law_245 (lv_at hl 5 rfl) ?_
            refine lv_iconst (v := 2) hx hb dL_law_247 (by decide) ?_
            refine lv_iadd hx hb dL_law_248 ?_
            refine va_sld hx hb hX hbl hbA hS hb2 dL_law_249 ?_
            have hq := h_put k n C P T X M (xs (x4 + 1).toNatClampNeg) (xs (x4 + 2).toNatClampNeg) hk hI
            refine zl_M (M1 := (fX11_putS M (xs (x4 + 1).toNatClampNeg) (xs (x4 + 2).toNatClampNeg))) (va_runV (As := [.int (xs (x4 + 1).toNatClampNeg), .int (xs (x4 + 2).toNatClampNeg)]) (rest := []) ⟨hx, hb, hml, hown, hg⟩ (c_X11_put l D gm M (xs (x4 + 1).toNatClampNeg) (xs (x4 + 2).toNatClampNeg) hq.1 _) (zg_V 2 hg g_756 g_4 g_753 g_754 g_755 ⟨by decide, by decide, by decide +kernel⟩ ⟨Nat.le_of_ble_eq_true rfl, Nat.le_of_ble_eq_true rfl⟩) (z_preV (ci := 12) (q0 := 0) (hP.subm [1, 2, 3, 4, 5, 6, 7, 8, 9, 10, 11] rfl) (hD.sub [1, 2, 3, 4, 5, 6, 7, 8, 9, 10, 11] (by decide) rfl) hKM rfl rfl) rfl rfl hl.1 rfl (lv_room (Nat.le_of_ble_eq_true rfl)) dL_law_250 ⟨by show 21 + 2 * k + 2 + 0 ≤ 603072; omega, by show 1300 + 19 * k + 19 + 0 ≤ 7121002; omega⟩) hP hD hS hA (fun H locs hP hD hS => ?_)
            refine lv_istore (lv' := [(6, .int (fX11_putR M (xs (x4 + 1).toNatClampNeg) (xs (x4 + 2).toNatClampNeg))), (5, .int (if fX10_putH n C P T X (xs (x4 + 1).toNatClampNeg) (xs (x4 + 2).toNatClampNeg) = true then (1 : Int32) else 0)), (0, .ref b), (1, .ref x.xo), (2, .ref gm.mo), (3, .ref oa), (4, .int x4)]) hx hb dL_law_253 hl (by decide) rfl (fun ls hl => ?_)
            refine lv_aload_n hx hb dL_law_255 rfl (lv_at hl 4 rfl) ?_
            refine zl_M (M1 := (fX11_putS M (xs (x4 + 1).toNatClampNeg) (xs (x4 + 2).toNatClampNeg))) (va_runV (As := []) (rest := []) ⟨hx, hb, hml, hown, hg⟩ (c_X11_thrown l D gm (fX11_putS M (xs (x4 + 1).toNatClampNeg) (xs (x4 + 2).toNatClampNeg)) trivial _) (zg_V 0 hg g_741 g_4 g_738 g_739 g_740 ⟨by decide, by decide, by decide +kernel⟩ ⟨Nat.le_of_ble_eq_true rfl, Nat.le_of_ble_eq_true rfl⟩) (z_preV (ci := 12) (q0 := 0) (hP.subm [1, 2, 3, 4, 5, 6, 7, 8, 9, 10, 11] rfl) (hD.sub [1, 2, 3, 4, 5, 6, 7, 8, 9, 10, 11] (by decide) rfl) hKM rfl rfl) rfl rfl hl.1 rfl (lv_room (Nat.le_of_ble_eq_true rfl)) dL_law_256 ⟨by show 21 + 2 * k + 2 + 0 ≤ 603072; omega, by show 1300 + 19 * k + 19 + 0 ≤ 7121002; omega⟩) hP hD hS hA (fun H locs hP hD hS => ?_)
            refine lv_iload hx hb dL_law_259 (lv_at hl 1 rfl) ?_
            refine lv_icmp_eq (tgt := 266) hx hb dL_law_261 (by decide) (fun c_10 => ?_) (fun c_10 => ?_)
            · -- (fX11_thrownR (fX11_putS M (xs (x4 + 1).toNatClampNeg) (xs (x4 + 2).toNatClampNeg))) = (if fX10_putH n C P T X (xs (x4 + 1).toNatClampNeg) (xs (x4 + 2).toNatClampNeg) = true then (1 : Int32) else 0)
              refine lv_iload hx hb dL_law_266 (lv_at hl 1 rfl) ?_
              refine lv_if_ne (tgt := 283) hx hb dL_law_268 (by decide) (fun c_11 => ?_) (fun c_11 => ?_)
              · -- not (if fX10_putH n C P T X (xs (x4 + 1).toNatClampNeg) (xs (x4 + 2).toNatClampNeg) = true then (1 : Int32) else 0) = 0
                refine lv_goto (tgt := 615) hx hb dL_law_283 (by decide) ?_
                refine lv_iinc (v := x4 + 4) (lv' := [(4, .int (x4 + 4)), (6, .int (fX11_putR M (xs (x4 + 1).toNatClampNeg) (xs (x4 + 2).toNatClampNeg))), (5, .int (if fX10_putH n C P T X (xs (x4 + 1).toNatClampNeg) (xs (x4 + 2).toNatClampNeg) = true then (1 : Int32) else 0)), (0, .ref b), (1, .ref x.xo), (2, .ref gm.mo), (3, .ref oa)]) hx hb dL_law_615 hl (k := 6) rfl rfl (by decide) rfl (fun ls hl => ?_)
                refine lv_goto (tgt := 23) hx hb dL_law_618 (by decide) ?_
                exact ih (k + 1) (by omega) (by omega) _ _ _ _ _ _ _ (x4 + 4) (by rw [ex4]; exact nI_add (4 * k) 4) (hq.2.2.2) _ _ hP hD hS ls (lv_sub hl [3, 4, 5, 6, 0] rfl)
              · -- (if fX10_putH n C P T X (xs (x4 + 1).toNatClampNeg) (xs (x4 + 2).toNatClampNeg) = true then (1 : Int32) else 0) = 0
                refine lv_aload_n hx hb dL_law_271 rfl (lv_at hl 5 rfl) ?_
                refine lv_iconst (v := 0) hx hb dL_law_272 (by decide) ?_
                refine va_lald hx hb hK hP 0 3 rfl rfl (by unfold vp_in; decide) dL_law_273 ?_
                refine lv_iload hx hb dL_law_274 (lv_at hl 0 rfl) ?_
                refine lv_i2l hx hb dL_law_276 rfl ?_
                refine W.lcmp hx hb dL_law_277 ?_
                refine lv_if_eq (tgt := 283) hx hb dL_law_278 (by decide) (fun c_12 => ?_) (fun c_12 => ?_)
                · -- LCMP = 0
                  refine lv_goto (tgt := 615) hx hb dL_law_283 (by decide) ?_
                  refine lv_iinc (v := x4 + 4) (lv' := [(4, .int (x4 + 4)), (6, .int (fX11_putR M (xs (x4 + 1).toNatClampNeg) (xs (x4 + 2).toNatClampNeg))), (5, .int (if fX10_putH n C P T X (xs (x4 + 1).toNatClampNeg) (xs (x4 + 2).toNatClampNeg) = true then (1 : Int32) else 0)), (0, .ref b), (1, .ref x.xo), (2, .ref gm.mo), (3, .ref oa)]) hx hb dL_law_615 hl (k := 6) rfl rfl (by decide) rfl (fun ls hl => ?_)
                  refine lv_goto (tgt := 23) hx hb dL_law_618 (by decide) ?_
                  exact ih (k + 1) (by omega) (by omega) _ _ _ _ _ _ _ (x4 + 4) (by rw [ex4]; exact nI_add (4 * k) 4) (hq.2.2.2) _ _ hP hD hS ls (lv_sub hl [3, 4, 5, 6, 0] rfl)
                · -- not LCMP = 0
                  refine lv_iconst (v := 0) hx hb dL_law_281 (by decide) ?_
                  exact absurd (out_cmp c_11 hq.2.2.1) c_12
            · -- not (fX11_thrownR (fX11_putS M (xs (x4 + 1).toNatClampNeg) (xs (x4 + 2).toNatClampNeg))) = (if fX10_putH n C P T X (xs (x4 + 1).toNatClampNeg) (xs (x4 + 2).toNatClampNeg) = true then (1 : Int32) else 0)
              refine lv_iconst (v := 0) hx hb dL_law_264 (by decide) ?_
              exact absurd (hq.2.1) c_10
          · skip
            by_cases c_13 : ((xs x4.toNatClampNeg) &&& 15) = 3
            · refine lv_tableIn (tgt := 286) (off := 247) hx hb dL_law_39 (by rw [c_13]; decide) (by rw [c_13]; decide) (by rw [c_13]; rfl) (by decide) ?_
              refine lv_aload_n hx hb dL_law_286 rfl (lv_at hl 1 rfl) ?_
              refine lv_aload_n hx hb dL_law_287 rfl (lv_at hl 0 rfl) ?_
              refine lv_iload hx hb dL_law_288 (lv_at hl 4 rfl) ?_
              refine lv_iconst (v := 1) hx hb dL_law_290 (by decide) ?_
              refine lv_iadd hx hb dL_law_291 ?_
              refine va_sld hx hb hX hbl hbA hS hb1 dL_law_292 ?_
              refine lv_aload_n hx hb dL_law_293 rfl (lv_at hl 3 rfl) ?_
              refine zl_P (fo1 := if fX10_takeH n C P T X (xs (x4 + 1).toNatClampNeg) = true then fo else vp_updL fo 0 (fX10_takeR n C P T X (xs (x4 + 1).toNatClampNeg)).toInt64) (P1 := (fX10_takeS n C P T X (xs (x4 + 1).toNatClampNeg)).1) (T1 := (fX10_takeS n C P T X (xs (x4 + 1).toNatClampNeg)).2.1) (X1 := (fX10_takeS n C P T X (xs (x4 + 1).toNatClampNeg)).2.2) (vx_runSW (As := [.ref x.xo, .int (xs (x4 + 1).toNatClampNeg), .ref oa]) (rest := []) ⟨hx, hb, hml, hown, hg⟩ (c_L_take l hlt hNpe D g x cJ oa fo n hn C hC P T X (xs (x4 + 1).toNatClampNeg) _) (zg_W 3 hg gcw_take g_0 g_641 g_642 ⟨by decide, by decide, by decide +kernel⟩ ⟨Nat.le_of_ble_eq_true rfl, Nat.le_of_ble_eq_true rfl⟩) (z_preE (hP.part (cx := [oC oa cJ fo] ++ wX0 g x n C T X) [0, 12, 13, 14, 15, 16, 17, 18, 19, 20] rfl) (hD.part (cx := [oC oa cJ fo] ++ wX0 g x n C T X) [0, 12, 13, 14, 15, 16, 17, 18, 19, 20] (by decide) rfl) hK hE hS (zl_FP hD hS hA)) rfl rfl hl.1 rfl (lv_room (Nat.le_of_ble_eq_true rfl)) dL_law_294 ⟨by show 21 + 2 * k + 1 ≤ 603072; omega, by show 1300 + 19 * k + 8 ≤ 7121002; omega⟩) hP hD hS hA (fun H locs hP hD hS => ?_)
              refine W.widen (k := 21 + 2 * k + 2) (n := 1300 + 19 * k + 19) (by show 21 + 2 * k + 1 ≤ _; omega) (by show 1300 + 19 * k + 8 ≤ _; omega) ?_
              refine lv_istore (lv' := [(5, .int (if fX10_takeH n C P T X (xs (x4 + 1).toNatClampNeg) = true then (1 : Int32) else 0)), (0, .ref b), (1, .ref x.xo), (2, .ref gm.mo), (3, .ref oa), (4, .int x4)]) hx hb dL_law_297 hl (by decide) rfl (fun ls hl => ?_)
              refine lv_aload_n hx hb dL_law_299 rfl (lv_at hl 3 rfl) ?_
              refine lv_aload_n hx hb dL_law_300 rfl (lv_at hl 1 rfl) ?_
              refine lv_iload hx hb dL_law_301 (lv_at hl 5 rfl) ?_
              refine lv_iconst (v := 1) hx hb dL_law_303 (by decide) ?_
              refine lv_iadd hx hb dL_law_304 ?_
              refine va_sld hx hb hX hbl hbA hS hb1 dL_law_305 ?_
              have hq := h_take k n C P T X M (xs (x4 + 1).toNatClampNeg) hk hI
              refine zl_M (M1 := (fX11_takeS M (xs (x4 + 1).toNatClampNeg))) (va_runV (As := [.int (xs (x4 + 1).toNatClampNeg)]) (rest := []) ⟨hx, hb, hml, hown, hg⟩ (c_X11_take l D gm M (xs (x4 + 1).toNatClampNeg) hq.1 _) (zg_V 1 hg g_788 g_4 g_785 g_786 g_787 ⟨by decide, by decide, by decide +kernel⟩ ⟨Nat.le_of_ble_eq_true rfl, Nat.le_of_ble_eq_true rfl⟩) (z_preV (ci := 12) (q0 := 0) (hP.subm [1, 2, 3, 4, 5, 6, 7, 8, 9, 10, 11] rfl) (hD.sub [1, 2, 3, 4, 5, 6, 7, 8, 9, 10, 11] (by decide) rfl) hKM rfl rfl) rfl rfl hl.1 rfl (lv_room (Nat.le_of_ble_eq_true rfl)) dL_law_306 ⟨by show 21 + 2 * k + 2 + 0 ≤ 603072; omega, by show 1300 + 19 * k + 19 + 0 ≤ 7121002; omega⟩) hP hD hS hA (fun H locs hP hD hS => ?_)
              refine lv_istore (lv' := [(6, .int (fX11_takeR M (xs (x4 + 1).toNatClampNeg))), (5, .int (if fX10_takeH n C P T X (xs (x4 + 1).toNatClampNeg) = true then (1 : Int32) else 0)), (0, .ref b), (1, .ref x.xo), (2, .ref gm.mo), (3, .ref oa), (4, .int x4)]) hx hb dL_law_309 hl (by decide) rfl (fun ls hl => ?_)
              refine lv_aload_n hx hb dL_law_311 rfl (lv_at hl 4 rfl) ?_
              refine zl_M (M1 := (fX11_takeS M (xs (x4 + 1).toNatClampNeg))) (va_runV (As := []) (rest := []) ⟨hx, hb, hml, hown, hg⟩ (c_X11_thrown l D gm (fX11_takeS M (xs (x4 + 1).toNatClampNeg)) trivial _) (zg_V 0 hg g_741 g_4 g_738 g_739 g_740 ⟨by decide, by decide, by decide +kernel⟩ ⟨Nat.le_of_ble_eq_true rfl, Nat.le_of_ble_eq_true rfl⟩) (z_preV (ci := 12) (q0 := 0) (hP.subm [1, 2, 3, 4, 5, 6, 7, 8, 9, 10, 11] rfl) (hD.sub [1, 2, 3, 4, 5, 6, 7, 8, 9, 10, 11] (by decide) rfl) hKM rfl rfl) rfl rfl hl.1 rfl (lv_room (Nat.le_of_ble_eq_true rfl)) dL_law_312 ⟨by show 21 + 2 * k + 2 + 0 ≤ 603072; omega, by show 1300 + 19 * k + 19 + 0 ≤ 7121002; omega⟩) hP hD hS hA (fun H locs hP hD hS => ?_)
              refine lv_iload hx hb dL_law_315 (lv_at hl 1 rfl) ?_
              refine lv_icmp_eq (tgt := 322) hx hb dL_law_317 (by decide) (fun c_14 => ?_) (fun c_14 => ?_)
              · -- (fX11_thrownR (fX11_takeS M (xs (x4 + 1).toNatClampNeg))) = (if fX10_takeH n C P T X (xs (x4 + 1).toNatClampNeg) = true then (1 : Int32) else 0)
                refine lv_iload hx hb dL_law_322 (lv_at hl 1 rfl) ?_
                refine lv_if_ne (tgt := 339) hx hb dL_law_324 (by decide) (fun c_15 => ?_) (fun c_15 => ?_)
                · -- not (if fX10_takeH n C P T X (xs (x4 + 1).toNatClampNeg) = true then (1 : Int32) else 0) = 0
                  refine lv_goto (tgt := 615) hx hb dL_law_339 (by decide) ?_
                  refine lv_iinc (v := x4 + 4) (lv' := [(4, .int (x4 + 4)), (6, .int (fX11_takeR M (xs (x4 + 1).toNatClampNeg))), (5, .int (if fX10_takeH n C P T X (xs (x4 + 1).toNatClampNeg) = true then (1 : Int32) else 0)), (0, .ref b), (1, .ref x.xo), (2, .ref gm.mo), (3, .ref oa)]) hx hb dL_law_615 hl (k := 6) rfl rfl (by decide) rfl (fun ls hl => ?_)
                  refine lv_goto (tgt := 23) hx hb dL_law_618 (by decide) ?_
                  exact ih (k + 1) (by omega) (by omega) _ _ _ _ _ _ _ (x4 + 4) (by rw [ex4]; exact nI_add (4 * k) 4) (hq.2.2.2) _ _ hP hD hS ls (lv_sub hl [3, 4, 5, 6, 0] rfl)
                · -- (if fX10_takeH n C P T X (xs (x4 + 1).toNatClampNeg) = true then (1 : Int32) else 0) = 0
                  refine lv_aload_n hx hb dL_law_327 rfl (lv_at hl 5 rfl) ?_
                  refine lv_iconst (v := 0) hx hb dL_law_328 (by decide) ?_
                  refine va_lald hx hb hK hP 0 3 rfl rfl (by unfold vp_in; decide) dL_law_329 ?_
                  refine lv_iload hx hb dL_law_330 (lv_at hl 0 rfl) ?_
                  refine lv_i2l hx hb dL_law_332 rfl ?_
                  refine W.lcmp hx hb dL_law_333 ?_
                  refine lv_if_eq (tgt := 339) hx hb dL_law_334 (by decide) (fun c_16 => ?_) (fun c_16 => ?_)
                  · -- LCMP = 0
                    refine lv_goto (tgt := 615) hx hb dL_law_339 (by decide) ?_
                    refine lv_iinc (v := x4 + 4) (lv' := [(4, .int (x4 + 4)), (6, .int (fX11_takeR M (xs (x4 + 1).toNatClampNeg))), (5, .int (if fX10_takeH n C P T X (xs (x4 + 1).toNatClampNeg) = true then (1 : Int32) else 0)), (0, .ref b), (1, .ref x.xo), (2, .ref gm.mo), (3, .ref oa)]) hx hb dL_law_615 hl (k := 6) rfl rfl (by decide) rfl (fun ls hl => ?_)
                    refine lv_goto (tgt := 23) hx hb dL_law_618 (by decide) ?_
                    exact ih (k + 1) (by omega) (by omega) _ _ _ _ _ _ _ (x4 + 4) (by rw [ex4]; exact nI_add (4 * k) 4) (hq.2.2.2) _ _ hP hD hS ls (lv_sub hl [3, 4, 5, 6, 0] rfl)
                  · -- not LCMP = 0
                    refine lv_iconst (v := 0) hx hb dL_law_337 (by decide) ?_
                    exact absurd (out_cmp c_15 hq.2.2.1) c_16
              · -- not (fX11_thrownR (fX11_takeS M (xs (x4 + 1).toNatClampNeg))) = (if fX10_takeH n C P T X (xs (x4 + 1).toNatClampNeg) = true then (1 : Int32) else 0)
                refine lv_iconst (v := 0) hx hb dL_law_320 (by decide) ?_
                exact absurd (hq.2.1) c_14
            · skip
              by_cases c_17 : ((xs x4.toNatClampNeg) &&& 15) = 4
              · refine lv_tableIn (tgt := 342) (off := 303) hx hb dL_law_39 (by rw [c_17]; decide) (by rw [c_17]; decide) (by rw [c_17]; rfl) (by decide) ?_
                refine lv_aload_n hx hb dL_law_342 rfl (lv_at hl 1 rfl) ?_
                refine lv_aload_n hx hb dL_law_343 rfl (lv_at hl 0 rfl) ?_
                refine lv_iload hx hb dL_law_344 (lv_at hl 4 rfl) ?_
                refine lv_iconst (v := 1) hx hb dL_law_346 (by decide) ?_
                refine lv_iadd hx hb dL_law_347 ?_
                refine va_sld hx hb hX hbl hbA hS hb1 dL_law_348 ?_
                refine zl_X (P1 := (fX10_loadS n C P T X (xs (x4 + 1).toNatClampNeg)).1) (T1 := (fX10_loadS n C P T X (xs (x4 + 1).toNatClampNeg)).2.1) (X1 := (fX10_loadS n C P T X (xs (x4 + 1).toNatClampNeg)).2.2) (va_runV (As := [.int (xs (x4 + 1).toNatClampNeg)]) (rest := []) ⟨hx, hb, hml, hown, hg⟩ (c_X10_load l D g x n hn C hC P T X (xs (x4 + 1).toNatClampNeg) _) (zg_V 1 hg g_262 g_1 g_259 g_260 g_261 ⟨by decide, by decide, by decide +kernel⟩ ⟨Nat.le_of_ble_eq_true rfl, Nat.le_of_ble_eq_true rfl⟩) (z_preV (ci := 11) (q0 := 0) (hP.part (cx := wX0 g x n C T X) [12, 13, 14, 15, 16, 17, 18, 19, 20] rfl) (hD.part (cx := wX0 g x n C T X) [12, 13, 14, 15, 16, 17, 18, 19, 20] (by decide) rfl) (hK.sub (tys' := tyX g x) [0, 1, 2] rfl) rfl rfl) rfl rfl hl.1 rfl (lv_room (Nat.le_of_ble_eq_true rfl)) dL_law_349 ⟨by show 21 + 2 * k + 0 ≤ 603072; omega, by show 1300 + 19 * k + 0 ≤ 7121002; omega⟩) hP hD hS hA (fun H locs hP hD hS => ?_)
                refine W.widen (k := 21 + 2 * k + 2) (n := 1300 + 19 * k + 19) (by show 21 + 2 * k + 0 ≤ _; omega) (by show 1300 + 19 * k + 0 ≤ _; omega) ?_
                refine lv_aload_n hx hb dL_law_352 rfl (lv_at hl 2 rfl) ?_
                refine lv_aload_n hx hb dL_law_353 rfl (lv_at hl 0 rfl) ?_
                refine lv_iload hx hb dL_law_354 (lv_at hl 4 rfl) ?_
                refine lv_iconst (v := 1) hx hb dL_law_356 (by decide) ?_
                refine lv_iadd hx hb dL_law_357 ?_
                refine va_sld hx hb hX hbl hbA hS hb1 dL_law_358 ?_
                have hq := h_load k n C P T X M (xs (x4 + 1).toNatClampNeg) hk hI
                refine zl_M (M1 := (fX11_loadS M (xs (x4 + 1).toNatClampNeg))) (va_runV (As := [.int (xs (x4 + 1).toNatClampNeg)]) (rest := [.int (fX10_loadR n C P T X (xs (x4 + 1).toNatClampNeg))]) ⟨hx, hb, hml, hown, hg⟩ (c_X11_load l D gm M (xs (x4 + 1).toNatClampNeg) hq.1 _) (zg_V 1 hg g_800 g_4 g_797 g_798 g_799 ⟨by decide, by decide, by decide +kernel⟩ ⟨Nat.le_of_ble_eq_true rfl, Nat.le_of_ble_eq_true rfl⟩) (z_preV (ci := 12) (q0 := 0) (hP.subm [1, 2, 3, 4, 5, 6, 7, 8, 9, 10, 11] rfl) (hD.sub [1, 2, 3, 4, 5, 6, 7, 8, 9, 10, 11] (by decide) rfl) hKM rfl rfl) rfl rfl hl.1 rfl (lv_room (Nat.le_of_ble_eq_true rfl)) dL_law_359 ⟨by show 21 + 2 * k + 2 + 0 ≤ 603072; omega, by show 1300 + 19 * k + 19 + 0 ≤ 7121002; omega⟩) hP hD hS hA (fun H locs hP hD hS => ?_)
                refine lv_icmp_eq (tgt := 615) hx hb dL_law_362 (by decide) (fun c_18 => ?_) (fun c_18 => ?_)
                · -- (fX10_loadR n C P T X (xs (x4 + 1).toNatClampNeg)) = (fX11_loadR M (xs (x4 + 1).toNatClampNeg))
                  refine lv_iinc (v := x4 + 4) (lv' := [(4, .int (x4 + 4)), (0, .ref b), (1, .ref x.xo), (2, .ref gm.mo), (3, .ref oa)]) hx hb dL_law_615 hl (k := 4) rfl rfl (by decide) rfl (fun ls hl => ?_)
                  refine lv_goto (tgt := 23) hx hb dL_law_618 (by decide) ?_
                  exact ih (k + 1) (by omega) (by omega) _ _ _ _ _ _ _ (x4 + 4) (by rw [ex4]; exact nI_add (4 * k) 4) (hq.2.2) _ _ hP hD hS ls (lv_sub hl [1, 2, 3, 4, 0] rfl)
                · -- not (fX10_loadR n C P T X (xs (x4 + 1).toNatClampNeg)) = (fX11_loadR M (xs (x4 + 1).toNatClampNeg))
                  refine lv_iconst (v := 0) hx hb dL_law_365 (by decide) ?_
                  exact absurd (hq.2.1) c_18
              · skip
                by_cases c_19 : ((xs x4.toNatClampNeg) &&& 15) = 5
                · refine lv_tableIn (tgt := 367) (off := 328) hx hb dL_law_39 (by rw [c_19]; decide) (by rw [c_19]; decide) (by rw [c_19]; rfl) (by decide) ?_
                  refine lv_aload_n hx hb dL_law_367 rfl (lv_at hl 1 rfl) ?_
                  refine lv_aload_n hx hb dL_law_368 rfl (lv_at hl 0 rfl) ?_
                  refine lv_iload hx hb dL_law_369 (lv_at hl 4 rfl) ?_
                  refine lv_iconst (v := 1) hx hb dL_law_371 (by decide) ?_
                  refine lv_iadd hx hb dL_law_372 ?_
                  refine va_sld hx hb hX hbl hbA hS hb1 dL_law_373 ?_
                  refine lv_aload_n hx hb dL_law_374 rfl (lv_at hl 0 rfl) ?_
                  refine lv_iload hx hb dL_law_375 (lv_at hl 4 rfl) ?_
                  refine lv_iconst (v := 2) hx hb dL_law_377 (by decide) ?_
                  refine lv_iadd hx hb dL_law_378 ?_
                  refine va_sld hx hb hX hbl hbA hS hb2 dL_law_379 ?_
                  refine zl_X (P1 := (fX10_searchS n C P T X (xs (x4 + 1).toNatClampNeg) (xs (x4 + 2).toNatClampNeg)).1) (T1 := (fX10_searchS n C P T X (xs (x4 + 1).toNatClampNeg) (xs (x4 + 2).toNatClampNeg)).2.1) (X1 := (fX10_searchS n C P T X (xs (x4 + 1).toNatClampNeg) (xs (x4 + 2).toNatClampNeg)).2.2) (va_runV (As := [.int (xs (x4 + 1).toNatClampNeg), .int (xs (x4 + 2).toNatClampNeg)]) (rest := []) ⟨hx, hb, hml, hown, hg⟩ (c_X10_search l D g x n hn C hC P T X (xs (x4 + 1).toNatClampNeg) (xs (x4 + 2).toNatClampNeg) _) (zg_V 2 hg g_325 g_1 g_322 g_323 g_324 ⟨by decide, by decide, by decide +kernel⟩ ⟨Nat.le_of_ble_eq_true rfl, Nat.le_of_ble_eq_true rfl⟩) (z_preV (ci := 11) (q0 := 0) (hP.part (cx := wX0 g x n C T X) [12, 13, 14, 15, 16, 17, 18, 19, 20] rfl) (hD.part (cx := wX0 g x n C T X) [12, 13, 14, 15, 16, 17, 18, 19, 20] (by decide) rfl) (hK.sub (tys' := tyX g x) [0, 1, 2] rfl) rfl rfl) rfl rfl hl.1 rfl (lv_room (Nat.le_of_ble_eq_true rfl)) dL_law_380 ⟨by show 21 + 2 * k + 0 ≤ 603072; omega, by show 1300 + 19 * k + 0 ≤ 7121002; omega⟩) hP hD hS hA (fun H locs hP hD hS => ?_)
                  refine W.widen (k := 21 + 2 * k + 2) (n := 1300 + 19 * k + 19) (by show 21 + 2 * k + 0 ≤ _; omega) (by show 1300 + 19 * k + 0 ≤ _; omega) ?_
                  refine lv_aload_n hx hb dL_law_383 rfl (lv_at hl 2 rfl) ?_
                  refine lv_aload_n hx hb dL_law_384 rfl (lv_at hl 0 rfl) ?_
                  refine lv_iload hx hb dL_law_385 (lv_at hl 4 rfl) ?_
                  refine lv_iconst (v := 1) hx hb dL_law_387 (by decide) ?_
                  refine lv_iadd hx hb dL_law_388 ?_
                  refine va_sld hx hb hX hbl hbA hS hb1 dL_law_389 ?_
                  refine lv_aload_n hx hb dL_law_390 rfl (lv_at hl 0 rfl) ?_
                  refine lv_iload hx hb dL_law_391 (lv_at hl 4 rfl) ?_
                  refine lv_iconst (v := 2) hx hb dL_law_393 (by decide) ?_
                  refine lv_iadd hx hb dL_law_394 ?_
                  refine va_sld hx hb hX hbl hbA hS hb2 dL_law_395 ?_
                  have hq := h_search k n C P T X M (xs (x4 + 1).toNatClampNeg) (xs (x4 + 2).toNatClampNeg) hk hI
                  refine zl_M (M1 := (fX11_searchS M (xs (x4 + 1).toNatClampNeg) (xs (x4 + 2).toNatClampNeg))) (va_runV (As := [.int (xs (x4 + 1).toNatClampNeg), .int (xs (x4 + 2).toNatClampNeg)]) (rest := [.int (fX10_searchR n C P T X (xs (x4 + 1).toNatClampNeg) (xs (x4 + 2).toNatClampNeg))]) ⟨hx, hb, hml, hown, hg⟩ (c_X11_search l D gm M (xs (x4 + 1).toNatClampNeg) (xs (x4 + 2).toNatClampNeg) hq.1 _) (zg_V 2 hg g_804 g_4 g_801 g_802 g_803 ⟨by decide, by decide, by decide +kernel⟩ ⟨Nat.le_of_ble_eq_true rfl, Nat.le_of_ble_eq_true rfl⟩) (z_preV (ci := 12) (q0 := 0) (hP.subm [1, 2, 3, 4, 5, 6, 7, 8, 9, 10, 11] rfl) (hD.sub [1, 2, 3, 4, 5, 6, 7, 8, 9, 10, 11] (by decide) rfl) hKM rfl rfl) rfl rfl hl.1 rfl (lv_room (Nat.le_of_ble_eq_true rfl)) dL_law_396 ⟨by show 21 + 2 * k + 2 + 0 ≤ 603072; omega, by show 1300 + 19 * k + 19 + 0 ≤ 7121002; omega⟩) hP hD hS hA (fun H locs hP hD hS => ?_)
                  refine lv_icmp_eq (tgt := 615) hx hb dL_law_399 (by decide) (fun c_20 => ?_) (fun c_20 => ?_)
                  · -- (fX10_searchR n C P T X (xs (x4 + 1).toNatClampNeg) (xs (x4 + 2).toNatClampNeg)) = (fX11_searchR M (xs (x4 + 1).toNatClampNeg) (xs (x4 + 2).toNatClampNeg))
                    refine lv_iinc (v := x4 + 4) (lv' := [(4, .int (x4 + 4)), (0, .ref b), (1, .ref x.xo), (2, .ref gm.mo), (3, .ref oa)]) hx hb dL_law_615 hl (k := 4) rfl rfl (by decide) rfl (fun ls hl => ?_)
                    refine lv_goto (tgt := 23) hx hb dL_law_618 (by decide) ?_
                    exact ih (k + 1) (by omega) (by omega) _ _ _ _ _ _ _ (x4 + 4) (by rw [ex4]; exact nI_add (4 * k) 4) (hq.2.2) _ _ hP hD hS ls (lv_sub hl [1, 2, 3, 4, 0] rfl)
                  · -- not (fX10_searchR n C P T X (xs (x4 + 1).toNatClampNeg) (xs (x4 + 2).toNatClampNeg)) = (fX11_searchR M (xs (x4 + 1).toNatClampNeg) (xs (x4 + 2).toNatClampNeg))
                    refine lv_iconst (v := 0) hx hb dL_law_402 (by decide) ?_
                    exact absurd (hq.2.1) c_20
                · skip
                  by_cases c_21 : ((xs x4.toNatClampNeg) &&& 15) = 6
                  · refine lv_tableIn (tgt := 404) (off := 365) hx hb dL_law_39 (by rw [c_21]; decide) (by rw [c_21]; decide) (by rw [c_21]; rfl) (by decide) ?_
                    refine lv_aload_n hx hb dL_law_404 rfl (lv_at hl 1 rfl) ?_
                    refine lv_aload_n hx hb dL_law_405 rfl (lv_at hl 0 rfl) ?_
                    refine lv_iload hx hb dL_law_406 (lv_at hl 4 rfl) ?_
                    refine lv_iconst (v := 1) hx hb dL_law_408 (by decide) ?_
                    refine lv_iadd hx hb dL_law_409 ?_
                    refine va_sld hx hb hX hbl hbA hS hb1 dL_law_410 ?_
                    refine zl_X (P1 := (fX10_freeS n C P T X (xs (x4 + 1).toNatClampNeg)).1) (T1 := (fX10_freeS n C P T X (xs (x4 + 1).toNatClampNeg)).2.1) (X1 := (fX10_freeS n C P T X (xs (x4 + 1).toNatClampNeg)).2.2) (va_runV (As := [.int (xs (x4 + 1).toNatClampNeg)]) (rest := []) ⟨hx, hb, hml, hown, hg⟩ (c_X10_free l D g x n hn C hC P T X (xs (x4 + 1).toNatClampNeg) _) (zg_V 1 hg g_360 g_1 g_357 g_358 g_359 ⟨by decide, by decide, by decide +kernel⟩ ⟨Nat.le_of_ble_eq_true rfl, Nat.le_of_ble_eq_true rfl⟩) (z_preV (ci := 11) (q0 := 0) (hP.part (cx := wX0 g x n C T X) [12, 13, 14, 15, 16, 17, 18, 19, 20] rfl) (hD.part (cx := wX0 g x n C T X) [12, 13, 14, 15, 16, 17, 18, 19, 20] (by decide) rfl) (hK.sub (tys' := tyX g x) [0, 1, 2] rfl) rfl rfl) rfl rfl hl.1 rfl (lv_room (Nat.le_of_ble_eq_true rfl)) dL_law_411 ⟨by show 21 + 2 * k + 0 ≤ 603072; omega, by show 1300 + 19 * k + 0 ≤ 7121002; omega⟩) hP hD hS hA (fun H locs hP hD hS => ?_)
                    refine W.widen (k := 21 + 2 * k + 2) (n := 1300 + 19 * k + 19) (by show 21 + 2 * k + 0 ≤ _; omega) (by show 1300 + 19 * k + 0 ≤ _; omega) ?_
                    refine lv_aload_n hx hb dL_law_414 rfl (lv_at hl 2 rfl) ?_
                    refine lv_aload_n hx hb dL_law_415 rfl (lv_at hl 0 rfl) ?_
                    refine lv_iload hx hb dL_law_416 (lv_at hl 4 rfl) ?_
                    refine lv_iconst (v := 1) hx hb dL_law_418 (by decide) ?_
                    refine lv_iadd hx hb dL_law_419 ?_
                    refine va_sld hx hb hX hbl hbA hS hb1 dL_law_420 ?_
                    have hq := h_free k n C P T X M (xs (x4 + 1).toNatClampNeg) hk hI
                    refine zl_M (M1 := (fX11_freeS M (xs (x4 + 1).toNatClampNeg))) (va_runV (As := [.int (xs (x4 + 1).toNatClampNeg)]) (rest := [.int (fX10_freeR n C P T X (xs (x4 + 1).toNatClampNeg))]) ⟨hx, hb, hml, hown, hg⟩ (c_X11_free l D gm M (xs (x4 + 1).toNatClampNeg) hq.1 _) (zg_V 1 hg g_812 g_4 g_809 g_810 g_811 ⟨by decide, by decide, by decide +kernel⟩ ⟨Nat.le_of_ble_eq_true rfl, Nat.le_of_ble_eq_true rfl⟩) (z_preV (ci := 12) (q0 := 0) (hP.subm [1, 2, 3, 4, 5, 6, 7, 8, 9, 10, 11] rfl) (hD.sub [1, 2, 3, 4, 5, 6, 7, 8, 9, 10, 11] (by decide) rfl) hKM rfl rfl) rfl rfl hl.1 rfl (lv_room (Nat.le_of_ble_eq_true rfl)) dL_law_421 ⟨by show 21 + 2 * k + 2 + 0 ≤ 603072; omega, by show 1300 + 19 * k + 19 + 0 ≤ 7121002; omega⟩) hP hD hS hA (fun H locs hP hD hS => ?_)
                    refine lv_icmp_eq (tgt := 615) hx hb dL_law_424 (by decide) (fun c_22 => ?_) (fun c_22 => ?_)
                    · -- (fX10_freeR n C P T X (xs (x4 + 1).toNatClampNeg)) = (fX11_freeR M (xs (x4 + 1).toNatClampNeg))
                      refine lv_iinc (v := x4 + 4) (lv' := [(4, .int (x4 + 4)), (0, .ref b), (1, .ref x.xo), (2, .ref gm.mo), (3, .ref oa)]) hx hb dL_law_615 hl (k := 4) rfl rfl (by decide) rfl (fun ls hl => ?_)
                      refine lv_goto (tgt := 23) hx hb dL_law_618 (by decide) ?_
                      exact ih (k + 1) (by omega) (by omega) _ _ _ _ _ _ _ (x4 + 4) (by rw [ex4]; exact nI_add (4 * k) 4) (hq.2.2) _ _ hP hD hS ls (lv_sub hl [1, 2, 3, 4, 0] rfl)
                    · -- not (fX10_freeR n C P T X (xs (x4 + 1).toNatClampNeg)) = (fX11_freeR M (xs (x4 + 1).toNatClampNeg))
                      refine lv_iconst (v := 0) hx hb dL_law_427 (by decide) ?_
                      exact absurd (hq.2.1) c_22
                  · skip
                    by_cases c_23 : ((xs x4.toNatClampNeg) &&& 15) = 7
                    · refine lv_tableIn (tgt := 429) (off := 390) hx hb dL_law_39 (by rw [c_23]; decide) (by rw [c_23]; decide) (by rw [c_23]; rfl) (by decide) ?_
                      refine lv_aload_n hx hb dL_law_429 rfl (lv_at hl 1 rfl) ?_
                      refine lv_aload_n hx hb dL_law_430 rfl (lv_at hl 0 rfl) ?_
                      refine lv_iload hx hb dL_law_431 (lv_at hl 4 rfl) ?_
                      refine lv_iconst (v := 1) hx hb dL_law_433 (by decide) ?_
                      refine lv_iadd hx hb dL_law_434 ?_
                      refine va_sld hx hb hX hbl hbA hS hb1 dL_law_435 ?_
                      refine zl_X (P1 := (fX10_fullS n C P T X (xs (x4 + 1).toNatClampNeg)).1) (T1 := (fX10_fullS n C P T X (xs (x4 + 1).toNatClampNeg)).2.1) (X1 := (fX10_fullS n C P T X (xs (x4 + 1).toNatClampNeg)).2.2) (va_runV (As := [.int (xs (x4 + 1).toNatClampNeg)]) (rest := []) ⟨hx, hb, hml, hown, hg⟩ (c_X10_full l D g x n hn C hC P T X (xs (x4 + 1).toNatClampNeg) _) (zg_V 1 hg g_395 g_1 g_392 g_393 g_394 ⟨by decide, by decide, by decide +kernel⟩ ⟨Nat.le_of_ble_eq_true rfl, Nat.le_of_ble_eq_true rfl⟩) (z_preV (ci := 11) (q0 := 0) (hP.part (cx := wX0 g x n C T X) [12, 13, 14, 15, 16, 17, 18, 19, 20] rfl) (hD.part (cx := wX0 g x n C T X) [12, 13, 14, 15, 16, 17, 18, 19, 20] (by decide) rfl) (hK.sub (tys' := tyX g x) [0, 1, 2] rfl) rfl rfl) rfl rfl hl.1 rfl (lv_room (Nat.le_of_ble_eq_true rfl)) dL_law_436 ⟨by show 21 + 2 * k + 0 ≤ 603072; omega, by show 1300 + 19 * k + 0 ≤ 7121002; omega⟩) hP hD hS hA (fun H locs hP hD hS => ?_)
                      refine W.widen (k := 21 + 2 * k + 2) (n := 1300 + 19 * k + 19) (by show 21 + 2 * k + 0 ≤ _; omega) (by show 1300 + 19 * k + 0 ≤ _; omega) ?_
                      refine lv_aload_n hx hb dL_law_439 rfl (lv_at hl 2 rfl) ?_
                      refine lv_aload_n hx hb dL_law_440 rfl (lv_at hl 0 rfl) ?_
                      refine lv_iload hx hb dL_law_441 (lv_at hl 4 rfl) ?_
                      refine lv_iconst (v := 1) hx hb dL_law_443 (by decide) ?_
                      refine lv_iadd hx hb dL_law_444 ?_
                      refine va_sld hx hb hX hbl hbA hS hb1 dL_law_445 ?_
                      have hq := h_full k n C P T X M (xs (x4 + 1).toNatClampNeg) hk hI
                      refine zl_M (M1 := (fX11_fullS M (xs (x4 + 1).toNatClampNeg))) (va_runV (As := [.int (xs (x4 + 1).toNatClampNeg)]) (rest := [.int (fX10_fullR n C P T X (xs (x4 + 1).toNatClampNeg))]) ⟨hx, hb, hml, hown, hg⟩ (c_X11_full l D gm M (xs (x4 + 1).toNatClampNeg) hq.1 _) (zg_V 1 hg g_824 g_4 g_821 g_822 g_823 ⟨by decide, by decide, by decide +kernel⟩ ⟨Nat.le_of_ble_eq_true rfl, Nat.le_of_ble_eq_true rfl⟩) (z_preV (ci := 12) (q0 := 0) (hP.subm [1, 2, 3, 4, 5, 6, 7, 8, 9, 10, 11] rfl) (hD.sub [1, 2, 3, 4, 5, 6, 7, 8, 9, 10, 11] (by decide) rfl) hKM rfl rfl) rfl rfl hl.1 rfl (lv_room (Nat.le_of_ble_eq_true rfl)) dL_law_446 ⟨by show 21 + 2 * k + 2 + 0 ≤ 603072; omega, by show 1300 + 19 * k + 19 + 0 ≤ 7121002; omega⟩) hP hD hS hA (fun H locs hP hD hS => ?_)
                      refine lv_icmp_eq (tgt := 615) hx hb dL_law_449 (by decide) (fun c_24 => ?_) (fun c_24 => ?_)
                      · -- (fX10_fullR n C P T X (xs (x4 + 1).toNatClampNeg)) = (fX11_fullR M (xs (x4 + 1).toNatClampNeg))
                        refine lv_iinc (v := x4 + 4) (lv' := [(4, .int (x4 + 4)), (0, .ref b), (1, .ref x.xo), (2, .ref gm.mo), (3, .ref oa)]) hx hb dL_law_615 hl (k := 4) rfl rfl (by decide) rfl (fun ls hl => ?_)
                        refine lv_goto (tgt := 23) hx hb dL_law_618 (by decide) ?_
                        exact ih (k + 1) (by omega) (by omega) _ _ _ _ _ _ _ (x4 + 4) (by rw [ex4]; exact nI_add (4 * k) 4) (hq.2.2) _ _ hP hD hS ls (lv_sub hl [1, 2, 3, 4, 0] rfl)
                      · -- not (fX10_fullR n C P T X (xs (x4 + 1).toNatClampNeg)) = (fX11_fullR M (xs (x4 + 1).toNatClampNeg))
                        refine lv_iconst (v := 0) hx hb dL_law_452 (by decide) ?_
                        exact absurd (hq.2.1) c_24
                    · skip
                      by_cases c_25 : ((xs x4.toNatClampNeg) &&& 15) = 8
                      · refine lv_tableIn (tgt := 454) (off := 415) hx hb dL_law_39 (by rw [c_25]; decide) (by rw [c_25]; decide) (by rw [c_25]; rfl) (by decide) ?_
                        refine lv_aload_n hx hb dL_law_454 rfl (lv_at hl 1 rfl) ?_
                        refine lv_aload_n hx hb dL_law_455 rfl (lv_at hl 0 rfl) ?_
                        refine lv_iload hx hb dL_law_456 (lv_at hl 4 rfl) ?_
                        refine lv_iconst (v := 1) hx hb dL_law_458 (by decide) ?_
                        refine lv_iadd hx hb dL_law_459 ?_
                        refine va_sld hx hb hX hbl hbA hS hb1 dL_law_460 ?_
                        refine lv_aload_n hx hb dL_law_461 rfl (lv_at hl 0 rfl) ?_
                        refine lv_iload hx hb dL_law_462 (lv_at hl 4 rfl) ?_
                        refine lv_iconst (v := 2) hx hb dL_law_464 (by decide) ?_
                        refine lv_iadd hx hb dL_law_465 ?_
                        refine va_sld hx hb hX hbl hbA hS hb2 dL_law_466 ?_
                        refine zl_X (P1 := (fX10_moveS n C P T X (xs (x4 + 1).toNatClampNeg) (xs (x4 + 2).toNatClampNeg)).1) (T1 := (fX10_moveS n C P T X (xs (x4 + 1).toNatClampNeg) (xs (x4 + 2).toNatClampNeg)).2.1) (X1 := (fX10_moveS n C P T X (xs (x4 + 1).toNatClampNeg) (xs (x4 + 2).toNatClampNeg)).2.2) (va_runV (As := [.int (xs (x4 + 1).toNatClampNeg), .int (xs (x4 + 2).toNatClampNeg)]) (rest := []) ⟨hx, hb, hml, hown, hg⟩ (c_X10_move l D g x n hn C hC P T X (xs (x4 + 1).toNatClampNeg) (xs (x4 + 2).toNatClampNeg) _) (zg_V 2 hg g_421 g_1 g_418 g_419 g_420 ⟨by decide, by decide, by decide +kernel⟩ ⟨Nat.le_of_ble_eq_true rfl, Nat.le_of_ble_eq_true rfl⟩) (z_preV (ci := 11) (q0 := 0) (hP.part (cx := wX0 g x n C T X) [12, 13, 14, 15, 16, 17, 18, 19, 20] rfl) (hD.part (cx := wX0 g x n C T X) [12, 13, 14, 15, 16, 17, 18, 19, 20] (by decide) rfl) (hK.sub (tys' := tyX g x) [0, 1, 2] rfl) rfl rfl) rfl rfl hl.1 rfl (lv_room (Nat.le_of_ble_eq_true rfl)) dL_law_467 ⟨by show 21 + 2 * k + 0 ≤ 603072; omega, by show 1300 + 19 * k + 0 ≤ 7121002; omega⟩) hP hD hS hA (fun H locs hP hD hS => ?_)
                        refine W.widen (k := 21 + 2 * k + 2) (n := 1300 + 19 * k + 19) (by show 21 + 2 * k + 0 ≤ _; omega) (by show 1300 + 19 * k + 0 ≤ _; omega) ?_
                        refine lv_aload_n hx hb dL_law_470 rfl (lv_at hl 2 rfl) ?_
                        refine lv_aload_n hx hb dL_law_471 rfl (lv_at hl 0 rfl) ?_
                        refine lv_iload hx hb dL_law_472 (lv_at hl 4 rfl) ?_
                        refine lv_iconst (v := 1) hx hb dL_law_474 (by decide) ?_
                        refine lv_iadd hx hb dL_law_475 ?_
                        refine va_sld hx hb hX hbl hbA hS hb1 dL_law_476 ?_
                        refine lv_aload_n hx hb dL_law_477 rfl (lv_at hl 0 rfl) ?_
                        refine lv_iload hx hb dL_law_478 (lv_at hl 4 rfl) ?_
                        refine lv_iconst (v := 2) hx hb dL_law_480 (by decide) ?_
                        refine lv_iadd hx hb dL_law_481 ?_
                        refine va_sld hx hb hX hbl hbA hS hb2 dL_law_482 ?_
                        have hq := h_move k n C P T X M (xs (x4 + 1).toNatClampNeg) (xs (x4 + 2).toNatClampNeg) hk hI
                        refine zl_M (M1 := (fX11_moveS M (xs (x4 + 1).toNatClampNeg) (xs (x4 + 2).toNatClampNeg))) (va_runV (As := [.int (xs (x4 + 1).toNatClampNeg), .int (xs (x4 + 2).toNatClampNeg)]) (rest := [.int (fX10_moveR n C P T X (xs (x4 + 1).toNatClampNeg) (xs (x4 + 2).toNatClampNeg))]) ⟨hx, hb, hml, hown, hg⟩ (c_X11_move l D gm M (xs (x4 + 1).toNatClampNeg) (xs (x4 + 2).toNatClampNeg) hq.1 _) (zg_V 2 hg g_828 g_4 g_825 g_826 g_827 ⟨by decide, by decide, by decide +kernel⟩ ⟨Nat.le_of_ble_eq_true rfl, Nat.le_of_ble_eq_true rfl⟩) (z_preV (ci := 12) (q0 := 0) (hP.subm [1, 2, 3, 4, 5, 6, 7, 8, 9, 10, 11] rfl) (hD.sub [1, 2, 3, 4, 5, 6, 7, 8, 9, 10, 11] (by decide) rfl) hKM rfl rfl) rfl rfl hl.1 rfl (lv_room (Nat.le_of_ble_eq_true rfl)) dL_law_483 ⟨by show 21 + 2 * k + 2 + 0 ≤ 603072; omega, by show 1300 + 19 * k + 19 + 0 ≤ 7121002; omega⟩) hP hD hS hA (fun H locs hP hD hS => ?_)
                        refine lv_icmp_eq (tgt := 615) hx hb dL_law_486 (by decide) (fun c_26 => ?_) (fun c_26 => ?_)
                        · -- (fX10_moveR n C P T X (xs (x4 + 1).toNatClampNeg) (xs (x4 + 2).toNatClampNeg)) = (fX11_moveR M (xs (x4 + 1).toNatClampNeg) (xs (x4 + 2).toNatClampNeg))
                          refine lv_iinc (v := x4 + 4) (lv' := [(4, .int (x4 + 4)), (0, .ref b), (1, .ref x.xo), (2, .ref gm.mo), (3, .ref oa)]) hx hb dL_law_615 hl (k := 4) rfl rfl (by decide) rfl (fun ls hl => ?_)
                          refine lv_goto (tgt := 23) hx hb dL_law_618 (by decide) ?_
                          exact ih (k + 1) (by omega) (by omega) _ _ _ _ _ _ _ (x4 + 4) (by rw [ex4]; exact nI_add (4 * k) 4) (hq.2.2) _ _ hP hD hS ls (lv_sub hl [1, 2, 3, 4, 0] rfl)
                        · -- not (fX10_moveR n C P T X (xs (x4 + 1).toNatClampNeg) (xs (x4 + 2).toNatClampNeg)) = (fX11_moveR M (xs (x4 + 1).toNatClampNeg) (xs (x4 + 2).toNatClampNeg))
                          refine lv_iconst (v := 0) hx hb dL_law_489 (by decide) ?_
                          exact absurd (hq.2.1) c_26
                      · skip
                        by_cases c_27 : ((xs x4.toNatClampNeg) &&& 15) = 9
                        · refine lv_tableIn (tgt := 491) (off := 452) hx hb dL_law_39 (by rw [c_27]; decide) (by rw [c_27]; decide) (by rw [c_27]; rfl) (by decide) ?_
                          refine lv_aload_n hx hb dL_law_491 rfl (lv_at hl 1 rfl) ?_
                          refine lv_aload_n hx hb dL_law_492 rfl (lv_at hl 0 rfl) ?_
                          refine lv_iload hx hb dL_law_493 (lv_at hl 4 rfl) ?_
                          refine lv_iconst (v := 1) hx hb dL_law_495 (by decide) ?_
                          refine lv_iadd hx hb dL_law_496 ?_
                          refine va_sld hx hb hX hbl hbA hS hb1 dL_law_497 ?_
                          refine lv_aload_n hx hb dL_law_498 rfl (lv_at hl 0 rfl) ?_
                          refine lv_iload hx hb dL_law_499 (lv_at hl 4 rfl) ?_
                          refine lv_iconst (v := 2) hx hb dL_law_501 (by decide) ?_
                          refine lv_iadd hx hb dL_law_502 ?_
                          refine va_sld hx hb hX hbl hbA hS hb2 dL_law_503 ?_
                          refine zl_X (P1 := (fX10_atS n C P T X (xs (x4 + 1).toNatClampNeg) (xs (x4 + 2).toNatClampNeg)).1) (T1 := (fX10_atS n C P T X (xs (x4 + 1).toNatClampNeg) (xs (x4 + 2).toNatClampNeg)).2.1) (X1 := (fX10_atS n C P T X (xs (x4 + 1).toNatClampNeg) (xs (x4 + 2).toNatClampNeg)).2.2) (va_runV (As := [.int (xs (x4 + 1).toNatClampNeg), .int (xs (x4 + 2).toNatClampNeg)]) (rest := []) ⟨hx, hb, hml, hown, hg⟩ (c_X10_at l D g x n hn C hC P T X (xs (x4 + 1).toNatClampNeg) (xs (x4 + 2).toNatClampNeg) _) (zg_V 2 hg g_514 g_1 g_511 g_512 g_513 ⟨by decide, by decide, by decide +kernel⟩ ⟨Nat.le_of_ble_eq_true rfl, Nat.le_of_ble_eq_true rfl⟩) (z_preV (ci := 11) (q0 := 0) (hP.part (cx := wX0 g x n C T X) [12, 13, 14, 15, 16, 17, 18, 19, 20] rfl) (hD.part (cx := wX0 g x n C T X) [12, 13, 14, 15, 16, 17, 18, 19, 20] (by decide) rfl) (hK.sub (tys' := tyX g x) [0, 1, 2] rfl) rfl rfl) rfl rfl hl.1 rfl (lv_room (Nat.le_of_ble_eq_true rfl)) dL_law_504 ⟨by show 21 + 2 * k + 0 ≤ 603072; omega, by show 1300 + 19 * k + 0 ≤ 7121002; omega⟩) hP hD hS hA (fun H locs hP hD hS => ?_)
                          refine W.widen (k := 21 + 2 * k + 2) (n := 1300 + 19 * k + 19) (by show 21 + 2 * k + 0 ≤ _; omega) (by show 1300 + 19 * k + 0 ≤ _; omega) ?_
                          refine lv_aload_n hx hb dL_law_507 rfl (lv_at hl 2 rfl) ?_
                          refine lv_aload_n hx hb dL_law_508 rfl (lv_at hl 0 rfl) ?_
                          refine lv_iload hx hb dL_law_509 (lv_at hl 4 rfl) ?_
                          refine lv_iconst (v := 1) hx hb dL_law_511 (by decide) ?_
                          refine lv_iadd hx hb dL_law_512 ?_
                          refine va_sld hx hb hX hbl hbA hS hb1 dL_law_513 ?_
                          refine lv_aload_n hx hb dL_law_514 rfl (lv_at hl 0 rfl) ?_
                          refine lv_iload hx hb dL_law_515 (lv_at hl 4 rfl) ?_
                          refine lv_iconst (v := 2) hx hb dL_law_517 (by decide) ?_
                          refine lv_iadd hx hb dL_law_518 ?_
                          refine va_sld hx hb hX hbl hbA hS hb2 dL_law_519 ?_
                          have hq := h_at k n C P T X M (xs (x4 + 1).toNatClampNeg) (xs (x4 + 2).toNatClampNeg) hk hI
                          refine zl_M (M1 := (fX11_atS M (xs (x4 + 1).toNatClampNeg) (xs (x4 + 2).toNatClampNeg))) (va_runV (As := [.int (xs (x4 + 1).toNatClampNeg), .int (xs (x4 + 2).toNatClampNeg)]) (rest := [.int (fX10_atR n C P T X (xs (x4 + 1).toNatClampNeg) (xs (x4 + 2).toNatClampNeg))]) ⟨hx, hb, hml, hown, hg⟩ (c_X11_at l D gm M (xs (x4 + 1).toNatClampNeg) (xs (x4 + 2).toNatClampNeg) hq.1 _) (zg_V 2 hg g_832 g_4 g_829 g_830 g_831 ⟨by decide, by decide, by decide +kernel⟩ ⟨Nat.le_of_ble_eq_true rfl, Nat.le_of_ble_eq_true rfl⟩) (z_preV (ci := 12) (q0 := 0) (hP.subm [1, 2, 3, 4, 5, 6, 7, 8, 9, 10, 11] rfl) (hD.sub [1, 2, 3, 4, 5, 6, 7, 8, 9, 10, 11] (by decide) rfl) hKM rfl rfl) rfl rfl hl.1 rfl (lv_room (Nat.le_of_ble_eq_true rfl)) dL_law_520 ⟨by show 21 + 2 * k + 2 + 0 ≤ 603072; omega, by show 1300 + 19 * k + 19 + 0 ≤ 7121002; omega⟩) hP hD hS hA (fun H locs hP hD hS => ?_)
                          refine lv_icmp_eq (tgt := 615) hx hb dL_law_523 (by decide) (fun c_28 => ?_) (fun c_28 => ?_)
                          · -- (fX10_atR n C P T X (xs (x4 + 1).toNatClampNeg) (xs (x4 + 2).toNatClampNeg)) = (fX11_atR M (xs (x4 + 1).toNatClampNeg) (xs (x4 + 2).toNatClampNeg))
                            refine lv_iinc (v := x4 + 4) (lv' := [(4, .int (x4 + 4)), (0, .ref b), (1, .ref x.xo), (2, .ref gm.mo), (3, .ref oa)]) hx hb dL_law_615 hl (k := 4) rfl rfl (by decide) rfl (fun ls hl => ?_)
                            refine lv_goto (tgt := 23) hx hb dL_law_618 (by decide) ?_
                            exact ih (k + 1) (by omega) (by omega) _ _ _ _ _ _ _ (x4 + 4) (by rw [ex4]; exact nI_add (4 * k) 4) (hq.2.2) _ _ hP hD hS ls (lv_sub hl [1, 2, 3, 4, 0] rfl)
                          · -- not (fX10_atR n C P T X (xs (x4 + 1).toNatClampNeg) (xs (x4 + 2).toNatClampNeg)) = (fX11_atR M (xs (x4 + 1).toNatClampNeg) (xs (x4 + 2).toNatClampNeg))
                            refine lv_iconst (v := 0) hx hb dL_law_526 (by decide) ?_
                            exact absurd (hq.2.1) c_28
                        · skip
                          by_cases c_29 : ((xs x4.toNatClampNeg) &&& 15) = 10
                          · refine lv_tableIn (tgt := 528) (off := 489) hx hb dL_law_39 (by rw [c_29]; decide) (by rw [c_29]; decide) (by rw [c_29]; rfl) (by decide) ?_
                            refine lv_aload_n hx hb dL_law_528 rfl (lv_at hl 1 rfl) ?_
                            refine lv_aload_n hx hb dL_law_529 rfl (lv_at hl 0 rfl) ?_
                            refine lv_iload hx hb dL_law_530 (lv_at hl 4 rfl) ?_
                            refine lv_iconst (v := 1) hx hb dL_law_532 (by decide) ?_
                            refine lv_iadd hx hb dL_law_533 ?_
                            refine va_sld hx hb hX hbl hbA hS hb1 dL_law_534 ?_
                            refine lv_aload_n hx hb dL_law_535 rfl (lv_at hl 0 rfl) ?_
                            refine lv_iload hx hb dL_law_536 (lv_at hl 4 rfl) ?_
                            refine lv_iconst (v := 2) hx hb dL_law_538 (by decide) ?_
                            refine lv_iadd hx hb dL_law_539 ?_
                            refine va_sld hx hb hX hbl hbA hS hb2 dL_law_540 ?_
                            refine zl_X (P1 := P) (T1 := T) (X1 := X) (va_runV (As := [.int (xs (x4 + 1).toNatClampNeg), .int (xs (x4 + 2).toNatClampNeg)]) (rest := []) ⟨hx, hb, hml, hown, hg⟩ (c_X10_of l D g x n hn C hC P T X (xs (x4 + 1).toNatClampNeg) (xs (x4 + 2).toNatClampNeg) _) (zg_V 2 hg g_519 g_1 g_516 g_517 g_518 ⟨by decide, by decide, by decide +kernel⟩ ⟨Nat.le_of_ble_eq_true rfl, Nat.le_of_ble_eq_true rfl⟩) (z_preV (ci := 11) (q0 := 0) (hP.part (cx := wX0 g x n C T X) [12, 13, 14, 15, 16, 17, 18, 19, 20] rfl) (hD.part (cx := wX0 g x n C T X) [12, 13, 14, 15, 16, 17, 18, 19, 20] (by decide) rfl) (hK.sub (tys' := tyX g x) [0, 1, 2] rfl) rfl rfl) rfl rfl hl.1 rfl (lv_room (Nat.le_of_ble_eq_true rfl)) dL_law_541 ⟨by show 21 + 2 * k + 0 ≤ 603072; omega, by show 1300 + 19 * k + 0 ≤ 7121002; omega⟩) hP hD hS hA (fun H locs hP hD hS => ?_)
                            refine W.widen (k := 21 + 2 * k + 2) (n := 1300 + 19 * k + 19) (by show 21 + 2 * k + 0 ≤ _; omega) (by show 1300 + 19 * k + 0 ≤ _; omega) ?_
                            refine lv_aload_n hx hb dL_law_544 rfl (lv_at hl 2 rfl) ?_
                            refine lv_aload_n hx hb dL_law_545 rfl (lv_at hl 0 rfl) ?_
                            refine lv_iload hx hb dL_law_546 (lv_at hl 4 rfl) ?_
                            refine lv_iconst (v := 1) hx hb dL_law_548 (by decide) ?_
                            refine lv_iadd hx hb dL_law_549 ?_
                            refine va_sld hx hb hX hbl hbA hS hb1 dL_law_550 ?_
                            refine lv_aload_n hx hb dL_law_551 rfl (lv_at hl 0 rfl) ?_
                            refine lv_iload hx hb dL_law_552 (lv_at hl 4 rfl) ?_
                            refine lv_iconst (v := 2) hx hb dL_law_554 (by decide) ?_
                            refine lv_iadd hx hb dL_law_555 ?_
                            refine va_sld hx hb hX hbl hbA hS hb2 dL_law_556 ?_
                            have hq := h_of k n C P T X M (xs (x4 + 1).toNatClampNeg) (xs (x4 + 2).toNatClampNeg) hk hI
                            refine zl_M (M1 := (fX11_ofS M (xs (x4 + 1).toNatClampNeg) (xs (x4 + 2).toNatClampNeg))) (va_runV (As := [.int (xs (x4 + 1).toNatClampNeg), .int (xs (x4 + 2).toNatClampNeg)]) (rest := [.int (fX10_ofR n C P T X (xs (x4 + 1).toNatClampNeg) (xs (x4 + 2).toNatClampNeg))]) ⟨hx, hb, hml, hown, hg⟩ (c_X11_of l D gm M (xs (x4 + 1).toNatClampNeg) (xs (x4 + 2).toNatClampNeg) hq.1 _) (zg_V 2 hg g_836 g_4 g_833 g_834 g_835 ⟨by decide, by decide, by decide +kernel⟩ ⟨Nat.le_of_ble_eq_true rfl, Nat.le_of_ble_eq_true rfl⟩) (z_preV (ci := 12) (q0 := 0) (hP.subm [1, 2, 3, 4, 5, 6, 7, 8, 9, 10, 11] rfl) (hD.sub [1, 2, 3, 4, 5, 6, 7, 8, 9, 10, 11] (by decide) rfl) hKM rfl rfl) rfl rfl hl.1 rfl (lv_room (Nat.le_of_ble_eq_true rfl)) dL_law_557 ⟨by show 21 + 2 * k + 2 + 0 ≤ 603072; omega, by show 1300 + 19 * k + 19 + 0 ≤ 7121002; omega⟩) hP hD hS hA (fun H locs hP hD hS => ?_)
                            refine lv_icmp_eq (tgt := 615) hx hb dL_law_560 (by decide) (fun c_30 => ?_) (fun c_30 => ?_)
                            · -- (fX10_ofR n C P T X (xs (x4 + 1).toNatClampNeg) (xs (x4 + 2).toNatClampNeg)) = (fX11_ofR M (xs (x4 + 1).toNatClampNeg) (xs (x4 + 2).toNatClampNeg))
                              refine lv_iinc (v := x4 + 4) (lv' := [(4, .int (x4 + 4)), (0, .ref b), (1, .ref x.xo), (2, .ref gm.mo), (3, .ref oa)]) hx hb dL_law_615 hl (k := 4) rfl rfl (by decide) rfl (fun ls hl => ?_)
                              refine lv_goto (tgt := 23) hx hb dL_law_618 (by decide) ?_
                              exact ih (k + 1) (by omega) (by omega) _ _ _ _ _ _ _ (x4 + 4) (by rw [ex4]; exact nI_add (4 * k) 4) (hq.2.2) _ _ hP hD hS ls (lv_sub hl [1, 2, 3, 4, 0] rfl)
                            · -- not (fX10_ofR n C P T X (xs (x4 + 1).toNatClampNeg) (xs (x4 + 2).toNatClampNeg)) = (fX11_ofR M (xs (x4 + 1).toNatClampNeg) (xs (x4 + 2).toNatClampNeg))
                              refine lv_iconst (v := 0) hx hb dL_law_563 (by decide) ?_
                              exact absurd (hq.2.1) c_30
                          · skip
                            by_cases c_31 : ((xs x4.toNatClampNeg) &&& 15) = 11
                            · refine lv_tableIn (tgt := 565) (off := 526) hx hb dL_law_39 (by rw [c_31]; decide) (by rw [c_31]; decide) (by rw [c_31]; rfl) (by decide) ?_
                              refine lv_aload_n hx hb dL_law_565 rfl (lv_at hl 1 rfl) ?_
                              refine lv_aload_n hx hb dL_law_566 rfl (lv_at hl 0 rfl) ?_
                              refine lv_iload hx hb dL_law_567 (lv_at hl 4 rfl) ?_
                              refine lv_iconst (v := 1) hx hb dL_law_569 (by decide) ?_
                              refine lv_iadd hx hb dL_law_570 ?_
                              refine va_sld hx hb hX hbl hbA hS hb1 dL_law_571 ?_
                              refine zl_X (P1 := P) (T1 := T) (X1 := X) (va_runV (As := [.int (xs (x4 + 1).toNatClampNeg)]) (rest := []) ⟨hx, hb, hml, hown, hg⟩ (c_X10_trace l D g x n hn C hC P T X (xs (x4 + 1).toNatClampNeg) _) (zg_V 1 hg g_531 g_1 g_528 g_529 g_530 ⟨by decide, by decide, by decide +kernel⟩ ⟨Nat.le_of_ble_eq_true rfl, Nat.le_of_ble_eq_true rfl⟩) (z_preV (ci := 11) (q0 := 0) (hP.part (cx := wX0 g x n C T X) [12, 13, 14, 15, 16, 17, 18, 19, 20] rfl) (hD.part (cx := wX0 g x n C T X) [12, 13, 14, 15, 16, 17, 18, 19, 20] (by decide) rfl) (hK.sub (tys' := tyX g x) [0, 1, 2] rfl) rfl rfl) rfl rfl hl.1 rfl (lv_room (Nat.le_of_ble_eq_true rfl)) dL_law_572 ⟨by show 21 + 2 * k + 0 ≤ 603072; omega, by show 1300 + 19 * k + 0 ≤ 7121002; omega⟩) hP hD hS hA (fun H locs hP hD hS => ?_)
                              refine W.widen (k := 21 + 2 * k + 2) (n := 1300 + 19 * k + 19) (by show 21 + 2 * k + 0 ≤ _; omega) (by show 1300 + 19 * k + 0 ≤ _; omega) ?_
                              refine lv_aload_n hx hb dL_law_575 rfl (lv_at hl 2 rfl) ?_
                              refine lv_aload_n hx hb dL_law_576 rfl (lv_at hl 0 rfl) ?_
                              refine lv_iload hx hb dL_law_577 (lv_at hl 4 rfl) ?_
                              refine lv_iconst (v := 1) hx hb dL_law_579 (by decide) ?_
                              refine lv_iadd hx hb dL_law_580 ?_
                              refine va_sld hx hb hX hbl hbA hS hb1 dL_law_581 ?_
                              have hq := h_trace k n C P T X M (xs (x4 + 1).toNatClampNeg) hk hI
                              refine zl_M (M1 := (fX11_traceS M (xs (x4 + 1).toNatClampNeg))) (va_runV (As := [.int (xs (x4 + 1).toNatClampNeg)]) (rest := [.int (fX10_traceR n C P T X (xs (x4 + 1).toNatClampNeg))]) ⟨hx, hb, hml, hown, hg⟩ (c_X11_trace l D gm M (xs (x4 + 1).toNatClampNeg) hq.1 _) (zg_V 1 hg g_840 g_4 g_837 g_838 g_839 ⟨by decide, by decide, by decide +kernel⟩ ⟨Nat.le_of_ble_eq_true rfl, Nat.le_of_ble_eq_true rfl⟩) (z_preV (ci := 12) (q0 := 0) (hP.subm [1, 2, 3, 4, 5, 6, 7, 8, 9, 10, 11] rfl) (hD.sub [1, 2, 3, 4, 5, 6, 7, 8, 9, 10, 11] (by decide) rfl) hKM rfl rfl) rfl rfl hl.1 rfl (lv_room (Nat.le_of_ble_eq_true rfl)) dL_law_582 ⟨by show 21 + 2 * k + 2 + 0 ≤ 603072; omega, by show 1300 + 19 * k + 19 + 0 ≤ 7121002; omega⟩) hP hD hS hA (fun H locs hP hD hS => ?_)
                              refine lv_icmp_eq (tgt := 615) hx hb dL_law_585 (by decide) (fun c_32 => ?_) (fun c_32 => ?_)
                              · -- (fX10_traceR n C P T X (xs (x4 + 1).toNatClampNeg)) = (fX11_traceR M (xs (x4 + 1).toNatClampNeg))
                                refine lv_iinc (v := x4 + 4) (lv' := [(4, .int (x4 + 4)), (0, .ref b), (1, .ref x.xo), (2, .ref gm.mo), (3, .ref oa)]) hx hb dL_law_615 hl (k := 4) rfl rfl (by decide) rfl (fun ls hl => ?_)
                                refine lv_goto (tgt := 23) hx hb dL_law_618 (by decide) ?_
                                exact ih (k + 1) (by omega) (by omega) _ _ _ _ _ _ _ (x4 + 4) (by rw [ex4]; exact nI_add (4 * k) 4) (hq.2.2) _ _ hP hD hS ls (lv_sub hl [1, 2, 3, 4, 0] rfl)
                              · -- not (fX10_traceR n C P T X (xs (x4 + 1).toNatClampNeg)) = (fX11_traceR M (xs (x4 + 1).toNatClampNeg))
                                refine lv_iconst (v := 0) hx hb dL_law_588 (by decide) ?_
                                exact absurd (hq.2.1) c_32
                            · skip
                              by_cases c_33 : ((xs x4.toNatClampNeg) &&& 15) = 12
                              · refine lv_tableIn (tgt := 590) (off := 551) hx hb dL_law_39 (by rw [c_33]; decide) (by rw [c_33]; decide) (by rw [c_33]; rfl) (by decide) ?_
                                refine lv_aload_n hx hb dL_law_590 rfl (lv_at hl 1 rfl) ?_
                                refine lv_aload_n hx hb dL_law_591 rfl (lv_at hl 0 rfl) ?_
                                refine lv_iload hx hb dL_law_592 (lv_at hl 4 rfl) ?_
                                refine lv_iconst (v := 1) hx hb dL_law_594 (by decide) ?_
                                refine lv_iadd hx hb dL_law_595 ?_
                                refine va_sld hx hb hX hbl hbA hS hb1 dL_law_596 ?_
                                refine zl_X (P1 := P) (T1 := T) (X1 := X) (va_runV (As := [.int (xs (x4 + 1).toNatClampNeg)]) (rest := []) ⟨hx, hb, hml, hown, hg⟩ (c_X10_count l D g x n hn C hC P T X (xs (x4 + 1).toNatClampNeg) _) (zg_V 1 hg g_539 g_1 g_536 g_537 g_538 ⟨by decide, by decide, by decide +kernel⟩ ⟨Nat.le_of_ble_eq_true rfl, Nat.le_of_ble_eq_true rfl⟩) (z_preV (ci := 11) (q0 := 0) (hP.part (cx := wX0 g x n C T X) [12, 13, 14, 15, 16, 17, 18, 19, 20] rfl) (hD.part (cx := wX0 g x n C T X) [12, 13, 14, 15, 16, 17, 18, 19, 20] (by decide) rfl) (hK.sub (tys' := tyX g x) [0, 1, 2] rfl) rfl rfl) rfl rfl hl.1 rfl (lv_room (Nat.le_of_ble_eq_true rfl)) dL_law_597 ⟨by show 21 + 2 * k + 0 ≤ 603072; omega, by show 1300 + 19 * k + 0 ≤ 7121002; omega⟩) hP hD hS hA (fun H locs hP hD hS => ?_)
                                refine W.widen (k := 21 + 2 * k + 2) (n := 1300 + 19 * k + 19) (by show 21 + 2 * k + 0 ≤ _; omega) (by show 1300 + 19 * k + 0 ≤ _; omega) ?_
                                refine lv_aload_n hx hb dL_law_600 rfl (lv_at hl 2 rfl) ?_
                                refine lv_aload_n hx hb dL_law_601 rfl (lv_at hl 0 rfl) ?_
                                refine lv_iload hx hb dL_law_602 (lv_at hl 4 rfl) ?_
                                refine lv_iconst (v := 1) hx hb dL_law_604 (by decide) ?_
                                refine lv_iadd hx hb dL_law_605 ?_
                                refine va_sld hx hb hX hbl hbA hS hb1 dL_law_606 ?_
                                have hq := h_count k n C P T X M (xs (x4 + 1).toNatClampNeg) hk hI
                                refine zl_M (M1 := (fX11_countS M (xs (x4 + 1).toNatClampNeg))) (va_runV (As := [.int (xs (x4 + 1).toNatClampNeg)]) (rest := [.int (fX10_countR n C P T X (xs (x4 + 1).toNatClampNeg))]) ⟨hx, hb, hml, hown, hg⟩ (c_X11_count l D gm M (xs (x4 + 1).toNatClampNeg) hq.1 _) (zg_V 1 hg g_844 g_4 g_841 g_842 g_843 ⟨by decide, by decide, by decide +kernel⟩ ⟨Nat.le_of_ble_eq_true rfl, Nat.le_of_ble_eq_true rfl⟩) (z_preV (ci := 12) (q0 := 0) (hP.subm [1, 2, 3, 4, 5, 6, 7, 8, 9, 10, 11] rfl) (hD.sub [1, 2, 3, 4, 5, 6, 7, 8, 9, 10, 11] (by decide) rfl) hKM rfl rfl) rfl rfl hl.1 rfl (lv_room (Nat.le_of_ble_eq_true rfl)) dL_law_607 ⟨by show 21 + 2 * k + 2 + 0 ≤ 603072; omega, by show 1300 + 19 * k + 19 + 0 ≤ 7121002; omega⟩) hP hD hS hA (fun H locs hP hD hS => ?_)
                                refine lv_icmp_eq (tgt := 615) hx hb dL_law_610 (by decide) (fun c_34 => ?_) (fun c_34 => ?_)
                                · -- (fX10_countR n C P T X (xs (x4 + 1).toNatClampNeg)) = (fX11_countR M (xs (x4 + 1).toNatClampNeg))
                                  refine lv_iinc (v := x4 + 4) (lv' := [(4, .int (x4 + 4)), (0, .ref b), (1, .ref x.xo), (2, .ref gm.mo), (3, .ref oa)]) hx hb dL_law_615 hl (k := 4) rfl rfl (by decide) rfl (fun ls hl => ?_)
                                  refine lv_goto (tgt := 23) hx hb dL_law_618 (by decide) ?_
                                  exact ih (k + 1) (by omega) (by omega) _ _ _ _ _ _ _ (x4 + 4) (by rw [ex4]; exact nI_add (4 * k) 4) (hq.2.2) _ _ hP hD hS ls (lv_sub hl [1, 2, 3, 4, 0] rfl)
                                · -- not (fX10_countR n C P T X (xs (x4 + 1).toNatClampNeg)) = (fX11_countR M (xs (x4 + 1).toNatClampNeg))
                                  refine lv_iconst (v := 0) hx hb dL_law_613 (by decide) ?_
                                  exact absurd (hq.2.1) c_34
                              · skip
                                refine lv_tableOut (tgt := 615) hx hb dL_law_39 (by have a0 := sw_ne c_1 (by decide : (0 : Int32).toInt = 0); have a1 := sw_ne c_7 (by decide : (1 : Int32).toInt = 1); have a2 := sw_ne c_9 (by decide : (2 : Int32).toInt = 2); have a3 := sw_ne c_13 (by decide : (3 : Int32).toInt = 3); have a4 := sw_ne c_17 (by decide : (4 : Int32).toInt = 4); have a5 := sw_ne c_19 (by decide : (5 : Int32).toInt = 5); have a6 := sw_ne c_21 (by decide : (6 : Int32).toInt = 6); have a7 := sw_ne c_23 (by decide : (7 : Int32).toInt = 7); have a8 := sw_ne c_25 (by decide : (8 : Int32).toInt = 8); have a9 := sw_ne c_27 (by decide : (9 : Int32).toInt = 9); have a10 := sw_ne c_29 (by decide : (10 : Int32).toInt = 10); have a11 := sw_ne c_31 (by decide : (11 : Int32).toInt = 11); have a12 := sw_ne c_33 (by decide : (12 : Int32).toInt = 12); omega) (by decide) ?_
                                refine W.widen (k := 21 + 2 * k + 2) (n := 1300 + 19 * k + 19) (by omega) (by omega) ?_
                                refine lv_iinc (v := x4 + 4) (lv' := [(4, .int (x4 + 4)), (0, .ref b), (1, .ref x.xo), (2, .ref gm.mo), (3, .ref oa)]) hx hb dL_law_615 hl (k := 4) rfl rfl (by decide) rfl (fun ls hl => ?_)
                                refine lv_goto (tgt := 23) hx hb dL_law_618 (by decide) ?_
                                exact ih (k + 1) (by omega) (by omega) _ _ _ _ _ _ _ (x4 + 4) (by rw [ex4]; exact nI_add (4 * k) 4) (h_skip k n C P T X M hk hI) _ _ hP hD hS ls (lv_sub hl [1, 2, 3, 4, 0] rfl)
