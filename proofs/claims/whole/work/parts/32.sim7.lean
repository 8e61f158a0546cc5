
section IVL
variable {nt k k' n i : Nat} {cd en : Int32} {kd cp lm mn rw : FN} {C : CZ} {P : Nat → PP} {T : TT} {X : DD} {M : MM}
theorem iv_low (h : IV nt cd en kd cp lm mn rw k n C P T X M) (hX : GD (20 * k') X) : IV nt cd en kd cp lm mn rw k' n C P T X M := ⟨h.1, h.2.1, h.2.2.1, h.2.2.2.1, hX, h.2.2.2.2.2⟩
end IVL
section MSE
variable {i nt b ci : Nat} {cd pn en : Int32} {kd cp lm mn0 rw0 : FN} {P : PP} {T : TT} {X : DD} {M : MM}
theorem m_se9 (hi : i < 12) (hM : MR i cd pn kd cp lm mn0 rw0 P T X en M) (hP : GL i nt (cp i) (lm i) P) (hT : GT nt T) (hX : GD b X) (hb : b + 3 < 2 ^ 30) (L : Int32) :
    (fX11_ruleK M 3 5 ∧ fX11_lowestK (fX11_ruleS M 3 5) (nI i) L ∧ (((fX11_lowestR (fX11_ruleS M 3 5) (nI i) L) = (-1) → (fX11_lowestK (fX11_lowestS (fX11_ruleS M 3 5) (nI i) L) (nI i) (L / 2) ∧ True)) ∧ (¬ (fX11_lowestR (fX11_ruleS M 3 5) (nI i) L) = (-1) → True))) ∧
    (if (fX11_lowestR (fX11_ruleS M 3 5) (nI i) L) = (-1) then (fX11_lowestR (fX11_lowestS (fX11_ruleS M 3 5) (nI i) L) (nI i) (L / 2)) else (fX11_lowestR (fX11_ruleS M 3 5) (nI i) L)) = fX9_searchActR P T X L ∧
    MR i cd pn kd cp lm mn0 rw0 P T (fX9_searchActS P T X L).2.2 en (if (fX11_lowestR (fX11_ruleS M 3 5) (nI i) L) = (-1) then fX11_lowestS (fX11_lowestS (fX11_ruleS M 3 5) (nI i) L) (nI i) (L / 2) else fX11_lowestS (fX11_ruleS M 3 5) (nI i) L) ∧ GD (b + 3) (fX9_searchActS P T X L).2.2 := by
  obtain ⟨k0, hM0, hX0⟩ := m_rule hM hX (by omega) 3 5
  obtain ⟨k1, r1, hM1, hX1, -⟩ := m_low hi hM0 hP hT hX0 (by omega) L
  obtain ⟨k2, r2, hM2, hX2, -⟩ := m_low hi hM1 hP hT hX1 (by omega) (L / 2)
  unfold fX9_searchActR fX9_searchActS
  by_cases q : fX4_searchActR P T (fX8_beginS X 3 5) L = -1
  · have q' := q
    rw [← r1] at q'
    refine ⟨⟨k0, k1, fun _ => ⟨k2, trivial⟩, fun _ => trivial⟩, ?_, ?_, ?_⟩
    · rw [if_pos q', if_pos q]; exact r2
    · rw [if_pos q', if_pos q]; exact hM2
    · rw [if_pos q]; exact hX2.mono (by omega)
  · have q' := q
    rw [← r1] at q'
    refine ⟨⟨k0, k1, fun h => absurd h q', fun _ => trivial⟩, ?_, ?_, ?_⟩
    · rw [if_neg q', if_neg q]; exact r1
    · rw [if_neg q', if_neg q]; exact hM1
    · rw [if_neg q]; exact hX1.mono (by omega)
theorem m_se0 (hi : i < 12) (hM : MR i cd pn kd cp lm mn0 rw0 P T X en M) (hP : GL i nt (cp i) (lm i) P) (hT : GT nt T) (hX : GD b X) (hb : b + 3 < 2 ^ 30) (L : Int32) :
    (fX11_ruleK M 3 4 ∧ fX11_lowestK (fX11_ruleS M 3 4) (nI i) L ∧ (((fX11_lowestR (fX11_ruleS M 3 4) (nI i) L) = (-1) → True) ∧ (¬ (fX11_lowestR (fX11_ruleS M 3 4) (nI i) L) = (-1) → (vp_in ((12 * nI i) + (fX11_lowestR (fX11_ruleS M 3 4) (nI i) L)) 144 ∧ vp_in (((fX11_lowestS (fX11_ruleS M 3 4) (nI i) L).2.2.2.2.2.2.2.2.2.2.2.1) ((12 * nI i) + (fX11_lowestR (fX11_ruleS M 3 4) (nI i) L)).toNatClampNeg) 60 ∧ (((((fX11_lowestS (fX11_ruleS M 3 4) (nI i) L).2.2.2.2.1) (((fX11_lowestS (fX11_ruleS M 3 4) (nI i) L).2.2.2.2.2.2.2.2.2.2.2.1) ((12 * nI i) + (fX11_lowestR (fX11_ruleS M 3 4) (nI i) L)).toNatClampNeg).toNatClampNeg) = 0 → True) ∧ (¬ (((fX11_lowestS (fX11_ruleS M 3 4) (nI i) L).2.2.2.2.1) (((fX11_lowestS (fX11_ruleS M 3 4) (nI i) L).2.2.2.2.2.2.2.2.2.2.2.1) ((12 * nI i) + (fX11_lowestR (fX11_ruleS M 3 4) (nI i) L)).toNatClampNeg).toNatClampNeg) = 0 → True)))))) ∧
    (if (fX11_lowestR (fX11_ruleS M 3 4) (nI i) L) = (-1) then (-1) else (if (((fX11_lowestS (fX11_ruleS M 3 4) (nI i) L).2.2.2.2.1) (((fX11_lowestS (fX11_ruleS M 3 4) (nI i) L).2.2.2.2.2.2.2.2.2.2.2.1) ((12 * nI i) + (fX11_lowestR (fX11_ruleS M 3 4) (nI i) L)).toNatClampNeg).toNatClampNeg) = 0 then (fX11_lowestR (fX11_ruleS M 3 4) (nI i) L) else (-1))) = fX0_searchActR P T X L ∧
    MR i cd pn kd cp lm mn0 rw0 P T (fX0_searchActS P T X L).2.2 en (if (fX11_lowestR (fX11_ruleS M 3 4) (nI i) L) = (-1) then fX11_lowestS (fX11_ruleS M 3 4) (nI i) L else (if (((fX11_lowestS (fX11_ruleS M 3 4) (nI i) L).2.2.2.2.1) (((fX11_lowestS (fX11_ruleS M 3 4) (nI i) L).2.2.2.2.2.2.2.2.2.2.2.1) ((12 * nI i) + (fX11_lowestR (fX11_ruleS M 3 4) (nI i) L)).toNatClampNeg).toNatClampNeg) = 0 then fX11_lowestS (fX11_ruleS M 3 4) (nI i) L else fX11_lowestS (fX11_ruleS M 3 4) (nI i) L)) ∧ GD (b + 3) (fX0_searchActS P T X L).2.2 := by
  obtain ⟨k0, hM0, hX0⟩ := m_rule hM hX (by omega) 3 4
  obtain ⟨k1, r1, hM1, hX1, hd⟩ := m_low hi hM0 hP hT hX0 (by omega) L
  have hn := hT.le
  unfold fX0_searchActR
  rcases hd with d | ⟨q, t, hq, ht, d, dr, dt⟩
  · have d' : fX11_lowestR (fX11_ruleS M 3 4) (nI i) L = -1 := r1.trans d
    refine ⟨⟨k0, k1, fun _ => trivial, fun h => absurd d' h⟩, ?_, ?_, hX1.mono (by omega)⟩
    · rw [if_pos d', if_pos d]
    · rw [if_pos d']; exact hM1
  · have d1 : ¬ fX4_searchActR P T (fX8_beginS X 3 4) L = -1 := by rw [d]; exact nI_m1 (by omega)
    have d' : ¬ fX11_lowestR (fX11_ruleS M 3 4) (nI i) L = -1 := by rw [r1]; exact d1
    have rq : fX11_lowestR (fX11_ruleS M 3 4) (nI i) L = nI q := r1.trans d
    have ex : 12 * nI i + nI q = nI (12 * i + q) := by rw [n12, pk_mul, nI_add]
    have erw : ((fX11_lowestS (fX11_ruleS M 3 4) (nI i) L).2.2.2.2.2.2.2.2.2.2.2.1) ((12 * nI i) + (fX11_lowestR (fX11_ruleS M 3 4) (nI i) L)).toNatClampNeg = nI t := by
      rw [rq, ex, nI_clamp (by omega), r_rw hM1 hq, dr]
    have hz : ((((fX11_lowestS (fX11_ruleS M 3 4) (nI i) L).2.2.2.2.1) (((fX11_lowestS (fX11_ruleS M 3 4) (nI i) L).2.2.2.2.2.2.2.2.2.2.2.1) ((12 * nI i) + (fX11_lowestR (fX11_ruleS M 3 4) (nI i) L)).toNatClampNeg).toNatClampNeg) = 0) = (fX7_isWetR T (fX4_timberAtR P T ((fX4_searchActS P T (fX8_beginS X 3 4) L).2.2) (fX4_searchActR P T (fX8_beginS X 3 4) L)) = 0) := by
      rw [erw, r_we hM1, nI_clamp (by omega), d, dt, hT.wet ht]
    refine ⟨⟨k0, k1, fun _ => trivial, fun _ => ⟨?_, ?_, fun _ => trivial, fun _ => trivial⟩⟩, ?_, ?_, hX1.mono (by omega)⟩
    · rw [rq, ex]; exact vp_in_nI (by omega) (by omega)
    · rw [erw]; exact vp_in_nI (by omega) (by omega)
    · rw [if_neg d', if_neg d1]
      by_cases z : fX7_isWetR T (fX4_timberAtR P T ((fX4_searchActS P T (fX8_beginS X 3 4) L).2.2) (fX4_searchActR P T (fX8_beginS X 3 4) L)) = 0
      · have z' := z
        rw [← hz] at z'
        rw [if_pos z, if_pos z', r1]
      · have z' := z
        rw [← hz] at z'
        rw [if_neg z, if_neg z']
    · rw [if_neg d', ite_self]; exact hM1
end MSE
theorem s_search (k n : Nat) (C : CZ) (P : Nat → PP) (T : TT) (X : DD) (M : MM) (a b : Int32) (hk : k < 512) (hI : Inv k n C P T X M) : fX11_searchK M a b ∧ fX10_searchR n C P T X a b = fX11_searchR M a b ∧ Inv (k + 1) n C (fX10_searchS n C P T X a b).1 (fX10_searchS n C P T X a b).2.1 (fX10_searchS n C P T X a b).2.2 (fX11_searchS M a b) := by
  obtain ⟨nt, cd, en, kd, cp, lm, mn, rw, h⟩ := hI
  have hn := h.2.1
  cases hz : fz n a with
  | none =>
    have e : fX11_isPileR (sC M 0) a = 0 := (iv_pn h a).trans (ip_none hn hz)
    refine ⟨⟨trivial, fun _ => trivial, fun q => absurd e q⟩, ?_, ?_⟩
    · simp only [fX10_searchR, hz]
      exact (if_pos e).symm
    · simp only [fX10_searchS, hz]
      rw [show fX11_searchS M a b = sC M 0 from if_pos e]
      exact iv_same h 0
  | some i =>
    obtain ⟨hi, rfl, ne⟩ := ip_some hn hz
    have e : ¬ fX11_isPileR (sC M 0) (nI i) = 0 := by rw [iv_pn h]; exact ne
    rcases in_out b 1 1000 with ⟨o1, o2, -, -⟩ | ⟨o1, o2, -⟩
    · have o' : ¬ fX11_isInR b 1 1000 = 0 := by rw [o2]; decide
      obtain ⟨q1, q2, q3, q4⟩ := h.2.2.2.2.2.1 i hi
      have hci := h.2.2.1 i hi
      have hM := iv_focus h hi
      have hM0 := m_sC hM 0
      have hkm : M.2.2.2.2.2.2.2.1 (nI i).toNatClampNeg = kdz (C i).1 := by rw [r_kd hM, (r_i (by omega)).1, q1]
      have v := (r_i (show i < 12 by omega)).2
      have ne : ∀ {a c : Int32}, M.2.2.2.2.2.2.2.1 (nI i).toNatClampNeg = a → ¬ a = c → ¬ M.2.2.2.2.2.2.2.1 (nI i).toNatClampNeg = c := fun h1 h2 h3 => h2 (h1.symm.trans h3)
      have eR0 : fX10_searchR n C P T X (nI i) b = ksearchActR (C i).1 (P i) T X b := by
        simp only [fX10_searchR, hz, if_pos o1]
      have eS0 : fX10_searchS n C P T X (nI i) b = (va_up P i (P i), T, (ksearchActS (C i).1 (P i) T X b).2.2) := by
        simp only [fX10_searchS, hz, if_pos o1]
      rw [eR0, eS0]
      have hT := h.2.2.2.1
      have hX := h.2.2.2.2.1
      rcases pk_kd hci with ⟨e0, e1⟩ | ⟨e0, e1⟩ | ⟨e0, e1⟩ | ⟨e0, e1⟩ | ⟨e0, e1⟩ | ⟨e0, e1⟩ | ⟨e0, e1⟩ | ⟨e0, e1⟩ <;> rw [e1] at hkm <;> rw [e0]
      case inl =>
        obtain ⟨k1, r1, hM1, hX1⟩ := m_se9 (show i < 12 by omega) hM0 q4 hT hX (by omega) b
        refine ⟨⟨trivial, fun q => absurd q e, fun _ => ⟨fun q => absurd q o', fun _ => ⟨v, fun _ => k1, fun q => absurd hkm q⟩⟩⟩, ?_, ?_⟩
        · exact ((if_neg e).trans ((if_neg o').trans ((if_pos hkm).trans r1))).symm
        · have eS : fX11_searchS M (nI i) b = _ := (if_neg e).trans ((if_neg o').trans (if_pos hkm))
          rw [eS]
          exact iv_unI h hi hM1 q4 hT hX1 (by omega)
      case inr.inl =>
        have n5 := ne (c := 5) hkm (by decide)
        obtain ⟨k1, r1, hM1, hX1⟩ := m_se9 (show i < 12 by omega) hM0 q4 hT hX (by omega) b
        refine ⟨⟨trivial, fun q => absurd q e, fun _ => ⟨fun q => absurd q o', fun _ => ⟨v, fun q => absurd q n5, fun _ => ⟨fun _ => k1, fun q => absurd hkm q⟩⟩⟩⟩, ?_, ?_⟩
        · exact ((if_neg e).trans ((if_neg o').trans ((if_neg n5).trans ((if_pos hkm).trans r1)))).symm
        · have eS : fX11_searchS M (nI i) b = _ := (if_neg e).trans ((if_neg o').trans ((if_neg n5).trans (if_pos hkm)))
          rw [eS]
          exact iv_unI h hi hM1 q4 hT hX1 (by omega)
      case inr.inr.inl =>
        have n5 := ne (c := 5) hkm (by decide)
        have n7 := ne (c := 7) hkm (by decide)
        have n4 := ne (c := 4) hkm (by decide)
        obtain ⟨k1, r1, hM1, hX1⟩ := m_se0 (show i < 12 by omega) hM0 q4 hT hX (by omega) b
        refine ⟨⟨trivial, fun q => absurd q e, fun _ => ⟨fun q => absurd q o', fun _ => ⟨v, fun q => absurd q n5, fun _ => ⟨fun q => absurd q n7, fun _ => ⟨fun q => absurd q n4, fun _ => ⟨fun _ => k1, fun q => absurd hkm q⟩⟩⟩⟩⟩⟩, ?_, ?_⟩
        · exact ((if_neg e).trans ((if_neg o').trans ((if_neg n5).trans ((if_neg n7).trans ((if_neg n4).trans ((if_pos hkm).trans r1)))))).symm
        · have eS : fX11_searchS M (nI i) b = _ := (if_neg e).trans ((if_neg o').trans ((if_neg n5).trans ((if_neg n7).trans ((if_neg n4).trans (if_pos hkm)))))
          rw [eS]
          exact iv_unI h hi hM1 q4 hT hX1 (by omega)
      case inr.inr.inr.inl =>
        have n5 := ne (c := 5) hkm (by decide)
        have n7 := ne (c := 7) hkm (by decide)
        obtain ⟨k1, r1, hM1, hX1⟩ := m_se0 (show i < 12 by omega) hM0 q4 hT hX (by omega) b
        refine ⟨⟨trivial, fun q => absurd q e, fun _ => ⟨fun q => absurd q o', fun _ => ⟨v, fun q => absurd q n5, fun _ => ⟨fun q => absurd q n7, fun _ => ⟨fun _ => k1, fun q => absurd hkm q⟩⟩⟩⟩⟩, ?_, ?_⟩
        · exact ((if_neg e).trans ((if_neg o').trans ((if_neg n5).trans ((if_neg n7).trans ((if_pos hkm).trans r1))))).symm
        · have eS : fX11_searchS M (nI i) b = _ := (if_neg e).trans ((if_neg o').trans ((if_neg n5).trans ((if_neg n7).trans (if_pos hkm))))
          rw [eS]
          exact iv_unI h hi hM1 q4 hT hX1 (by omega)
      all_goals
        have n5 := ne (c := 5) hkm (by decide)
        have n7 := ne (c := 7) hkm (by decide)
        have n4 := ne (c := 4) hkm (by decide)
        have n6 := ne (c := 6) hkm (by decide)
        obtain ⟨k1, r1, hM1, hX1, -⟩ := m_low (show i < 12 by omega) hM0 q4 hT hX (by omega) b
        refine ⟨⟨trivial, fun q => absurd q e, fun _ => ⟨fun q => absurd q o', fun _ => ⟨v, fun q => absurd q n5, fun _ => ⟨fun q => absurd q n7, fun _ => ⟨fun q => absurd q n4, fun _ => ⟨fun q => absurd q n6, fun _ => ⟨k1, trivial⟩⟩⟩⟩⟩⟩⟩, ?_, ?_⟩
        · exact ((if_neg e).trans ((if_neg o').trans ((if_neg n5).trans ((if_neg n7).trans ((if_neg n4).trans ((if_neg n6).trans r1)))))).symm
        · have eS : fX11_searchS M (nI i) b = fX11_lowestS (sC M 0) (nI i) b := (if_neg e).trans ((if_neg o').trans ((if_neg n5).trans ((if_neg n7).trans ((if_neg n4).trans (if_neg n6)))))
          rw [eS]
          exact iv_unI h hi hM1 q4 hT hX1 (by omega)
    · have o0 : ¬ fX10_isOutsideR b 1 1000 = 0 := by rw [o1]; decide
      refine ⟨⟨trivial, fun q => absurd q e, fun _ => ⟨fun _ => trivial, fun q => absurd o2 q⟩⟩, ?_, ?_⟩
      · simp only [fX10_searchR, hz, if_neg o0]
        exact ((if_neg e).trans (if_pos o2)).symm
      · simp only [fX10_searchS, hz, if_neg o0]
        rw [show fX11_searchS M (nI i) b = sC M 0 from (if_neg e).trans (if_pos o2)]
        exact iv_same h 0
theorem s_move (k n : Nat) (C : CZ) (P : Nat → PP) (T : TT) (X : DD) (M : MM) (a b : Int32) (hk : k < 512) (hI : Inv k n C P T X M) : fX11_moveK M a b ∧ fX10_moveR n C P T X a b = fX11_moveR M a b ∧ Inv (k + 1) n C (fX10_moveS n C P T X a b).1 (fX10_moveS n C P T X a b).2.1 (fX10_moveS n C P T X a b).2.2 (fX11_moveS M a b) := by
  obtain ⟨nt, cd, en, kd, cp, lm, mn, rw, h⟩ := hI
  have hn := h.2.1
  cases hz : fz n a with
  | none =>
    have e : fX11_isPileR (sC M 0) a = 0 := (iv_pn h a).trans (ip_none hn hz)
    have eS0 : fX10_moveS n C P T X a b = (P, T, X) := by
      simp only [fX10_moveS, hz]
      cases fz n b <;> rfl
    have eR0 : fX10_moveR n C P T X a b = -101 := by
      simp only [fX10_moveR, hz]
      cases fz n b <;> rfl
    rw [eS0, eR0]
    refine ⟨⟨trivial, fun _ => trivial, fun q => absurd e q⟩, (if_pos e).symm, ?_⟩
    rw [show fX11_moveS M a b = sC M 0 from if_pos e]
    exact iv_same h 0
  | some i =>
    obtain ⟨hi, rfl, ne⟩ := ip_some hn hz
    have e : ¬ fX11_isPileR (sC M 0) (nI i) = 0 := by rw [iv_pn h]; exact ne
    cases hz2 : fz n b with
    | none =>
      have e2 : fX11_isPileR (sC M 0) b = 0 := (iv_pn h b).trans (ip_none hn hz2)
      refine ⟨⟨trivial, fun q => absurd q e, fun _ => ⟨trivial, fun _ => trivial, fun q => absurd e2 q⟩⟩, ?_, ?_⟩
      · simp only [fX10_moveR, hz, hz2]
        exact ((if_neg e).trans (if_pos e2)).symm
      · simp only [fX10_moveS, hz, hz2]
        rw [show fX11_moveS M (nI i) b = sC M 0 from (if_neg e).trans (if_pos e2)]
        exact iv_same h 0
    | some j =>
      obtain ⟨hj, rfl, ne2⟩ := ip_some hn hz2
      have e2 : ¬ fX11_isPileR (sC M 0) (nI j) = 0 := by rw [iv_pn h]; exact ne2
      obtain ⟨q1, q2, q3, q4⟩ := h.2.2.2.2.2.1 i hi
      obtain ⟨k1, r1, hM1, hP1, hT1, hX1, hd⟩ := m_take (h.2.2.1 i hi) (show i < 12 by omega) q1 (m_sC (iv_focus h hi) 0) q4 h.2.2.2.1 h.2.2.2.2.1 (by omega)
      have h1 := iv_un h hi hM1 hP1 hT1 hX1 (by omega)
      by_cases z : ktakeActR (C i).1 (P i) T X = -1 ∨ ktakeActR (C i).1 (P i) T X = -2
      · have r' : fX11_takeOfR (sC M 0) (nI i) = -1 := by
          rw [r1]
          rcases z with z | z
          · rw [z]; decide
          · rw [z]; decide
        have eR0 : fX10_moveR n C P T X (nI i) (nI j) = -1 := by
          simp only [fX10_moveR, hz, hz2]
          rcases z with z | z
          · rw [if_pos z]
          · rw [if_neg (by rw [z]; decide), if_pos z]
        have eS0 : fX10_moveS n C P T X (nI i) (nI j) = (va_up P i (ktakeActS (C i).1 (P i) T X).1, (ktakeActS (C i).1 (P i) T X).2.1, (ktakeActS (C i).1 (P i) T X).2.2) := by
          simp only [fX10_moveS, hz, hz2]
          rcases z with z | z
          · rw [if_pos z]
          · rw [if_neg (by rw [z]; decide), if_pos z]
        rw [eR0, eS0]
        refine ⟨⟨trivial, fun q => absurd q e, fun _ => ⟨trivial, fun q => absurd q e2, fun _ => ⟨k1, fun _ => trivial, fun q => absurd r' q⟩⟩⟩, ((if_neg e).trans ((if_neg e2).trans (if_pos r'))).symm, ?_⟩
        rw [show fX11_moveS M (nI i) (nI j) = fX11_takeOfS (sC M 0) (nI i) from (if_neg e).trans ((if_neg e2).trans (if_pos r'))]
        exact ⟨_, _, _, _, _, _, _, _, h1⟩
      · have z1 : ¬ ktakeActR (C i).1 (P i) T X = -1 := fun q => z (Or.inl q)
        have z2 : ¬ ktakeActR (C i).1 (P i) T X = -2 := fun q => z (Or.inr q)
        obtain ⟨t, ht, ez⟩ : ∃ t, t < nt ∧ ktakeActR (C i).1 (P i) T X = nI t := by
          rcases hd with d | d | d
          · exact absurd d z1
          · exact absurd d z2
          · exact d
        rw [if_neg z2] at r1
        have r' : ¬ fX11_takeOfR (sC M 0) (nI i) = -1 := by rw [r1]; exact z1
        have rt : fX11_takeOfR (sC M 0) (nI i) = nI t := r1.trans ez
        obtain ⟨p1, p2, p3, p4⟩ := h1.2.2.2.2.2.1 j hj
        obtain ⟨⟨k2, r2, hM2, hP2, hT2, hX2, hd2⟩, -⟩ := m_put (h1.2.2.1 j hj) (show j < 12 by omega) p1 ht (iv_focus h1 hj) p4 hT1 hX1 (by omega)
        have h2 := iv_low (k' := k + 1) (iv_un h1 hj hM2 hP2 hT2 hX2 (by omega)) (hX2.mono (by omega))
        have eR0 : fX10_moveR n C P T X (nI i) (nI j) = if (kputActR (C j).1 ((va_up P i ((ktakeActS (C i).1 (P i) T X).1)) j) ((ktakeActS (C i).1 (P i) T X).2.1) ((ktakeActS (C i).1 (P i) T X).2.2) (nI t)) = 1 then nI t else -2 - nI t := by
          simp only [fX10_moveR, hz, hz2]
          rw [if_neg z1, if_neg z2, ez]
        have eS0 : fX10_moveS n C P T X (nI i) (nI j) = (va_up (va_up P i ((ktakeActS (C i).1 (P i) T X).1)) j ((kputActS (C j).1 ((va_up P i ((ktakeActS (C i).1 (P i) T X).1)) j) ((ktakeActS (C i).1 (P i) T X).2.1) ((ktakeActS (C i).1 (P i) T X).2.2) (nI t)).1), (kputActS (C j).1 ((va_up P i ((ktakeActS (C i).1 (P i) T X).1)) j) ((ktakeActS (C i).1 (P i) T X).2.1) ((ktakeActS (C i).1 (P i) T X).2.2) (nI t)).2.1, (kputActS (C j).1 ((va_up P i ((ktakeActS (C i).1 (P i) T X).1)) j) ((ktakeActS (C i).1 (P i) T X).2.1) ((ktakeActS (C i).1 (P i) T X).2.2) (nI t)).2.2) := by
          simp only [fX10_moveS, hz, hz2]
          rw [if_neg z1, if_neg z2, ez, ite_self]
        rw [eR0, eS0]
        refine ⟨⟨trivial, fun q => absurd q e, fun _ => ⟨trivial, fun q => absurd q e2, fun _ => ⟨k1, fun q => absurd q r', fun _ => ⟨?_, fun _ => trivial, fun _ => trivial⟩⟩⟩⟩, ?_, ?_⟩
        · show fX11_putOfK (fX11_takeOfS (sC M 0) (nI i)) (nI j) (fX11_takeOfR (sC M 0) (nI i))
          rw [rt]; exact k2
        · have eR : fX11_moveR M (nI i) (nI j) = if (fX11_putOfR (fX11_takeOfS (sC M 0) (nI i)) (nI j) (fX11_takeOfR (sC M 0) (nI i))) = 0 then ((-2) - (fX11_takeOfR (sC M 0) (nI i))) else (fX11_takeOfR (sC M 0) (nI i)) := (if_neg e).trans ((if_neg e2).trans (if_neg r'))
          rw [eR, rt, r2]
          by_cases w : kputActR (C j).1 ((va_up P i ((ktakeActS (C i).1 (P i) T X).1)) j) ((ktakeActS (C i).1 (P i) T X).2.1) ((ktakeActS (C i).1 (P i) T X).2.2) (nI t) = 1
          · rw [if_pos w, if_pos w, if_neg (by decide)]
          · rw [if_neg w, if_neg w, if_pos rfl]
        · have eS : fX11_moveS M (nI i) (nI j) = fX11_putOfS (fX11_takeOfS (sC M 0) (nI i)) (nI j) (fX11_takeOfR (sC M 0) (nI i)) := (if_neg e).trans ((if_neg e2).trans ((if_neg r').trans (ite_self _)))
          rw [eS, rt]
          exact ⟨_, _, _, _, _, _, _, _, h2⟩
theorem s_at (k n : Nat) (C : CZ) (P : Nat → PP) (T : TT) (X : DD) (M : MM) (a b : Int32) (hk : k < 512) (hI : Inv k n C P T X M) : fX11_atK M a b ∧ fX10_atR n C P T X a b = fX11_atR M a b ∧ Inv (k + 1) n C (fX10_atS n C P T X a b).1 (fX10_atS n C P T X a b).2.1 (fX10_atS n C P T X a b).2.2 (fX11_atS M a b) := by
  obtain ⟨nt, cd, en, kd, cp, lm, mn, rw, h⟩ := hI
  have hn := h.2.1
  cases hz : fz n a with
  | none =>
    have e : fX11_isPileR (sC M 0) a = 0 := (iv_pn h a).trans (ip_none hn hz)
    refine ⟨⟨trivial, fun _ => trivial, fun q => absurd e q⟩, ?_, ?_⟩
    · simp only [fX10_atR, hz]
      exact (if_pos e).symm
    · simp only [fX10_atS, hz]
      rw [show fX11_atS M a b = sC M 0 from if_pos e]
      exact iv_same h 0
  | some i =>
    obtain ⟨hi, rfl, ne⟩ := ip_some hn hz
    have e : ¬ fX11_isPileR (sC M 0) (nI i) = 0 := by rw [iv_pn h]; exact ne
    obtain ⟨q1, q2, q3, q4⟩ := h.2.2.2.2.2.1 i hi
    have hM := iv_focus h hi
    have hnt := h.2.2.2.1.le
    have eS0 : fX10_atS n C P T X (nI i) b = (P, T, X) := by
      simp only [fX10_atS, hz, ite_self, va_up_at]
    have eS : fX11_atS M (nI i) b = sC M 0 := (if_neg e).trans (ite_self _)
    have eR0 : fX10_atR n C P T X (nI i) b = if fX4_timberAtR (P i) T X b = -1 then -101 else fX4_timberAtR (P i) T X b := by
      simp only [fX10_atR, hz]
    rw [eS0, eS, eR0]
    obtain ⟨c, hh, r, eP, hcp, c1, c2, c3, hr⟩ := q4
    have hm1 : (M.2.2.2.2.2.2.2.2.2.2.1 (nI i).toNatClampNeg) = nI hh := by rw [(r_i (by omega)).1, r_mn hM, eP]
    rcases in_m (m := hh) (by omega) b with ⟨j, hj, rfl, o1⟩ | ⟨o1, o2⟩
    · obtain ⟨t, ht, hrt⟩ := hr j hj
      have ex : 12 * nI i + nI j = nI (12 * i + j) := by rw [n12, pk_mul, nI_add]
      have ow : ¬ fX11_isInR (nI j) 0 ((M.2.2.2.2.2.2.2.2.2.2.1 (nI i).toNatClampNeg) - 1) = 0 := by rw [hm1, o1]; decide
      have eT : fX4_timberAtR (P i) T X (nI j) = nI t := by rw [eP, ta_in hj (by omega), hrt]
      refine ⟨⟨trivial, fun q => absurd q e, fun _ => ⟨(r_i (by omega)).2, fun q => absurd q ow, fun _ => ⟨?_, trivial⟩⟩⟩, ?_, iv_same h 0⟩
      · rw [ex]; exact vp_in_nI (by omega) (by omega)
      · have eR : fX11_atR M (nI i) (nI j) = M.2.2.2.2.2.2.2.2.2.2.2.1 ((12 * nI i) + nI j).toNatClampNeg := (if_neg e).trans (if_neg ow)
        rw [eR, eT, if_neg (nI_m1 (by omega)), ex, nI_clamp (by omega), r_rw hM (by omega), eP]
        exact hrt.symm
    · have ow : fX11_isInR b 0 ((M.2.2.2.2.2.2.2.2.2.2.1 (nI i).toNatClampNeg) - 1) = 0 := by rw [hm1, o2]
      have eT : fX4_timberAtR (P i) T X b = -1 := by
        rw [eP]
        unfold fX4_timberAtR
        rcases o1 with o1 | o1
        · rw [if_pos o1]
        · by_cases b0 : b < 0
          · rw [if_pos b0]
          · rw [if_neg b0]
            exact if_pos o1
      refine ⟨⟨trivial, fun q => absurd q e, fun _ => ⟨(r_i (by omega)).2, fun _ => trivial, fun q => absurd ow q⟩⟩, ?_, iv_same h 0⟩
      rw [eT, if_pos rfl]
      exact ((if_neg e).trans (if_pos ow)).symm
theorem s_of (k n : Nat) (C : CZ) (P : Nat → PP) (T : TT) (X : DD) (M : MM) (a b : Int32) (hk : k < 512) (hI : Inv k n C P T X M) : fX11_ofK M a b ∧ fX10_ofR n C P T X a b = fX11_ofR M a b ∧ Inv (k + 1) n C P T X (fX11_ofS M a b) := by
  obtain ⟨nt, cd, en, kd, cp, lm, mn, rw, h⟩ := hI
  have eS : fX11_ofS M a b = sC M 0 := by
    show (if _ then sC M 0 else (if _ then sC M 0 else (if _ then sC M 0 else (if _ then (if _ then sC M 0 else sC M 0) else (if _ then sC M 0 else sC M 0))))) = _
    rw [ite_self, ite_self, ite_self, ite_self, ite_self, ite_self]
  rw [eS]
  rcases it_t h.2.2.2.1 a with ⟨t, ht, rfl, t1, t2⟩ | ⟨t1, t2⟩
  · have et : ¬ fX11_isTimberR (sC M 0) (nI t) = 0 := by rw [iv_tn h, t2]; decide
    have n1 : ¬ fX7_hasR T (nI t) = 0 := by rw [t1]; decide
    have hnt := h.2.2.2.1.le
    have v60 : vp_in (nI t) 60 := vp_in_nI (by omega) (by omega)
    refine ⟨⟨trivial, fun q => absurd q et, fun _ => ⟨fun _ => ⟨v60, trivial⟩, fun _ => ⟨fun _ => ⟨v60, trivial⟩, fun _ => ⟨fun _ => ⟨v60, fun _ => trivial, fun _ => trivial⟩, fun _ => ⟨fun _ => ⟨v60, trivial⟩, fun _ => trivial⟩⟩⟩⟩⟩, ?_, iv_same h 0⟩
    have eM := h.1
    have eR : fX11_ofR M (nI t) b = (if b = 0 then T.2.1 (nI t).toNatClampNeg else (if b = 1 then T.2.2.1 (nI t).toNatClampNeg else (if b = 2 then (if T.2.2.2.1 (nI t).toNatClampNeg = 0 then 0 else 1) else (if b = 3 then T.2.2.2.2 (nI t).toNatClampNeg else -102)))) := by
      rw [eM] at et ⊢
      exact if_neg et
    rw [eR]
    unfold fX10_ofR fX7_lengthOfR fX7_weightOfR fX7_isWetR fX7_pileOfR
    simp only [if_neg n1]
    by_cases w : T.2.2.2.1 (nI t).toNatClampNeg = 0
    · simp only [if_pos w, if_pos]
    · simp only [if_neg w]
      rw [if_neg (show ¬ (1 : Int32) = 0 by decide)]
  · have et : fX11_isTimberR (sC M 0) a = 0 := by rw [iv_tn h, t2]
    refine ⟨⟨trivial, fun _ => trivial, fun q => absurd et q⟩, ?_, iv_same h 0⟩
    unfold fX10_ofR
    rw [if_pos t1]
    exact (if_pos et).symm
theorem s_count (k n : Nat) (C : CZ) (P : Nat → PP) (T : TT) (X : DD) (M : MM) (a : Int32) (hk : k < 512) (hI : Inv k n C P T X M) : fX11_countK M a ∧ fX10_countR n C P T X a = fX11_countR M a ∧ Inv (k + 1) n C P T X (fX11_countS M a) := by
  obtain ⟨nt, cd, en, kd, cp, lm, mn, rw, h⟩ := hI
  have eS : fX11_countS M a = sC M 0 := by
    show (if _ then sC M 0 else (if _ then sC M 0 else (if _ then sC M 0 else (if _ then sC M 0 else (if _ then sC M 0 else sC M 0))))) = _
    rw [ite_self, ite_self, ite_self, ite_self, ite_self]
  rw [eS]
  refine ⟨⟨fun _ => trivial, fun _ => ⟨fun _ => trivial, fun _ => ⟨fun _ => trivial, fun _ => ⟨fun _ => trivial, fun _ => ⟨fun _ => trivial, fun _ => trivial⟩⟩⟩⟩⟩, ?_, iv_same h 0⟩
  rw [h.1]
  rfl
