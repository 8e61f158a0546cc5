/-! the whole yard against the reference -/
def IV (nt : Nat) (cd en : Int32) (kd cp lm mn rw : FN) (k n : Nat) (C : CZ) (P : Nat → PP) (T : TT) (X : DD) (M : MM) : Prop := M = mk cd T (nI n) kd cp lm mn rw X en ∧ n ≤ 12 ∧ (∀ i, i < n → pkAll (C i).1) ∧ GT nt T ∧ GD (20 * k) X ∧ (∀ i, i < n → kd i = kdz (C i).1 ∧ mn i = (P i).2.2.2.2 ∧ (∀ q, q < 12 → rw (12 * i + q) = (P i).2.2.2.1 q) ∧ GL i nt (cp i) (lm i) (P i)) ∧ ∀ j, 12 * n ≤ j → rw j = 0
def Inv (k n : Nat) (C : CZ) (P : Nat → PP) (T : TT) (X : DD) (M : MM) : Prop := ∃ nt cd en kd cp lm mn rw, IV nt cd en kd cp lm mn rw k n C P T X M
theorem m_sC {i : Nat} {cd pn en : Int32} {kd cp lm mn0 rw0 : FN} {P : PP} {T : TT} {X : DD} {M : MM} (h : MR i cd pn kd cp lm mn0 rw0 P T X en M) (v : Int32) : MR i v pn kd cp lm mn0 rw0 P T X en (sC M v) := by
  obtain ⟨mn, rw, rfl, h⟩ := h
  exact ⟨mn, rw, rfl, h⟩
theorem in_out (v a b : Int32) : (fX10_isOutsideR v a b = 0 ∧ fX11_isInR v a b = 1 ∧ ¬ v < a ∧ v ≤ b) ∨ (fX10_isOutsideR v a b = 1 ∧ fX11_isInR v a b = 0 ∧ (v < a ∨ ¬ v ≤ b)) := by
  unfold fX10_isOutsideR fX11_isInR
  by_cases h1 : v < a
  · rw [if_pos h1, if_pos h1]; exact Or.inr ⟨rfl, rfl, Or.inl h1⟩
  · rw [if_neg h1, if_neg h1]
    by_cases h2 : v ≤ b
    · rw [if_pos h2, if_neg (Int32.not_lt.mpr h2)]; exact Or.inl ⟨rfl, rfl, h1, h2⟩
    · rw [if_neg h2, if_pos (Int32.not_le.mp h2)]; exact Or.inr ⟨rfl, rfl, Or.inr h2⟩
/-- a number that is in 0 .. m - 1 or not -/
theorem in_m {m : Nat} (hm : m ≤ 200) (v : Int32) : (∃ j, j < m ∧ v = nI j ∧ fX11_isInR v 0 (nI m - 1) = 1) ∨ ((v < 0 ∨ nI m ≤ v) ∧ fX11_isInR v 0 (nI m - 1) = 0) := by
  have hs : (nI m - 1 : Int32).toInt = (m : Int) - 1 := pk_sub_toInt (a := m) (b := 1) (by omega) (by omega)
  rcases pk_ix v (n := m) (by omega) with h | h | ⟨j, hj, rfl⟩
  · exact Or.inr ⟨Or.inl h, if_pos h⟩
  · refine Or.inr ⟨Or.inr h, ?_⟩
    unfold fX11_isInR
    by_cases h0 : v < 0
    · rw [if_pos h0]
    · rw [if_neg h0]
      refine if_pos ?_
      rw [Int32.lt_iff_toInt_lt, hs]
      rw [Int32.le_iff_toInt_le, nI_toInt (by omega)] at h
      omega
  · refine Or.inl ⟨j, hj, rfl, ?_⟩
    unfold fX11_isInR
    rw [if_neg (nI_pos (by omega))]
    refine if_neg ?_
    rw [Int32.lt_iff_toInt_lt, hs, nI_toInt (by omega)]
    omega
theorem ip_none {n : Nat} {a : Int32} (hn : n ≤ 12) (h : fz n a = none) : fX11_isInR a 0 (nI n - 1) = 0 := by
  rcases in_m (m := n) (by omega) a with ⟨j, hj, rfl, -⟩ | ⟨-, h2⟩
  · rw [fz_in hn (nI_pos (by omega)) (nI_ge hj (by omega))] at h
    cases h
  · exact h2
theorem ip_some {n i : Nat} {a : Int32} (hn : n ≤ 12) (h : fz n a = some i) : i < n ∧ a = nI i ∧ ¬ fX11_isInR a 0 (nI n - 1) = 0 := by
  rcases in_m (m := n) (by omega) a with ⟨j, hj, rfl, h1⟩ | ⟨h1, h2⟩
  · rw [fz_in hn (nI_pos (by omega)) (nI_ge hj (by omega)), nI_clamp (by omega)] at h
    cases h
    exact ⟨hj, rfl, by rw [h1]; decide⟩
  · rcases h1 with h1 | h1
    · rw [fz_neg h1] at h; cases h
    · rw [fz_ge hn h1] at h; cases h
theorem it_t {nt : Nat} {T : TT} (hT : GT nt T) (tb : Int32) : (∃ t, t < nt ∧ tb = nI t ∧ fX7_hasR T tb = 1 ∧ fX11_isInR tb 0 (T.1 - 1) = 1) ∨ (fX7_hasR T tb = 0 ∧ fX11_isInR tb 0 (T.1 - 1) = 0) := by
  obtain ⟨ln, wt, we, li, rfl, hn, -, -⟩ := hT
  rcases in_m (m := nt) (by omega) tb with ⟨j, hj, rfl, h1⟩ | ⟨h1, h2⟩
  · exact Or.inl ⟨j, hj, rfl, has_in hj hn, h1⟩
  · refine Or.inr ⟨?_, h2⟩
    unfold fX7_hasR
    rcases h1 with h1 | h1
    · rw [if_pos h1]
    · by_cases h0 : tb < 0
      · rw [if_pos h0]
      · rw [if_neg h0]; exact if_pos h1
section IVS
variable {nt k n i : Nat} {cd en cd' en' : Int32} {kd cp lm mn rw : FN} {C : CZ} {P : Nat → PP} {P' : PP} {T T' : TT} {X X' : DD} {M M' : MM}
theorem iv_focus (h : IV nt cd en kd cp lm mn rw k n C P T X M) (hi : i < n) : MR i cd (nI n) kd cp lm mn rw (P i) T X en M := ⟨mn, rw, h.1, (h.2.2.2.2.2.1 i hi).2.1, (h.2.2.2.2.2.1 i hi).2.2.1, fun _ _ => rfl, fun _ _ => rfl⟩
theorem iv_un (h : IV nt cd en kd cp lm mn rw k n C P T X M) (hi : i < n) (hM : MR i cd' (nI n) kd cp lm mn rw P' T' X' en' M') (hP : GL i nt (cp i) (lm i) P') (hT : GT nt T') {b : Nat} (hX : GD b X') (hb : b ≤ 20 * (k + 1)) : IV nt cd' en' kd cp lm (fun j => M'.2.2.2.2.2.2.2.2.2.2.1 j) (fun j => M'.2.2.2.2.2.2.2.2.2.2.2.1 j) (k + 1) n C (va_up P i P') T' X' M' := by
  obtain ⟨mn', rw', rfl, h1, h2, h3, h4⟩ := hM
  refine ⟨rfl, h.2.1, h.2.2.1, hT, hX.mono hb, fun j hj => ?_, fun j hj => (h4 j (by omega)).trans (h.2.2.2.2.2.2 j hj)⟩
  obtain ⟨q1, q2, q3, q4⟩ := h.2.2.2.2.2.1 j hj
  by_cases z : j = i
  · subst z
    rw [show va_up P j P' j = P' from if_pos rfl]
    exact ⟨q1, h1, h2, hP⟩
  · rw [show va_up P i P' j = P j from if_neg z]
    exact ⟨q1, (h3 j z).trans q2, fun q hq => (h4 _ (by omega)).trans (q3 q hq), q4⟩
theorem iv_unI (h : IV nt cd en kd cp lm mn rw k n C P T X M) (hi : i < n) (hM : MR i cd' (nI n) kd cp lm mn rw P' T' X' en' M') (hP : GL i nt (cp i) (lm i) P') (hT : GT nt T') {b : Nat} (hX : GD b X') (hb : b ≤ 20 * (k + 1)) : Inv (k + 1) n C (va_up P i P') T' X' M' := ⟨_, _, _, _, _, _, _, _, iv_un h hi hM hP hT hX hb⟩
theorem iv_same (h : IV nt cd en kd cp lm mn rw k n C P T X M) (v : Int32) : Inv (k + 1) n C P T X (sC M v) := by
  obtain ⟨rfl, h1, h2, h3, h4, h5⟩ := h
  exact ⟨nt, v, en, kd, cp, lm, mn, rw, rfl, h1, h2, h3, h4.mono (by omega), h5⟩
theorem iv_pn (h : IV nt cd en kd cp lm mn rw k n C P T X M) (a : Int32) : fX11_isPileR (sC M 0) a = fX11_isInR a 0 (nI n - 1) := by
  obtain ⟨rfl, -⟩ := h
  rfl
theorem iv_tn (h : IV nt cd en kd cp lm mn rw k n C P T X M) (a : Int32) : fX11_isTimberR (sC M 0) a = fX11_isInR a 0 (T.1 - 1) := by
  obtain ⟨rfl, -⟩ := h
  rfl
theorem va_up_at {α : Type} {f : Nat → α} {j : Nat} : va_up f j (f j) = f := by
  funext q
  unfold va_up
  split
  · rename_i e; rw [e]
  · rfl
end IVS
theorem s_ok (k n : Nat) (C : CZ) (P : Nat → PP) (T : TT) (X : DD) (M : MM) (hI : Inv k n C P T X M) : n ≤ 12 ∧ ∀ i, i < n → pkAll (C i).1 := by
  obtain ⟨nt, cd, en, kd, cp, lm, mn, rw, h⟩ := hI
  exact ⟨h.2.1, h.2.2.1⟩
theorem s_skip (k n : Nat) (C : CZ) (P : Nat → PP) (T : TT) (X : DD) (M : MM) (_ : k < 512) (hI : Inv k n C P T X M) : Inv (k + 1) n C P T X M := by
  obtain ⟨nt, cd, en, kd, cp, lm, mn, rw, rfl, h1, h2, h3, h4, h5⟩ := hI
  exact ⟨nt, cd, en, kd, cp, lm, mn, rw, rfl, h1, h2, h3, h4.mono (by omega), h5⟩
theorem s_load (k n : Nat) (C : CZ) (P : Nat → PP) (T : TT) (X : DD) (M : MM) (a : Int32) (hk : k < 512) (hI : Inv k n C P T X M) : fX11_loadK M a ∧ fX10_loadR n C P T X a = fX11_loadR M a ∧ Inv (k + 1) n C (fX10_loadS n C P T X a).1 (fX10_loadS n C P T X a).2.1 (fX10_loadS n C P T X a).2.2 (fX11_loadS M a) := by
  obtain ⟨nt, cd, en, kd, cp, lm, mn, rw, h⟩ := hI
  have hn := h.2.1
  cases hz : fz n a with
  | none =>
    have e : fX11_isPileR (sC M 0) a = 0 := (iv_pn h a).trans (ip_none hn hz)
    refine ⟨⟨trivial, fun _ => trivial, fun q => absurd e q⟩, ?_, ?_⟩
    · simp only [fX10_loadR, hz]
      exact (if_pos e).symm
    · simp only [fX10_loadS, hz]
      rw [show fX11_loadS M a = sC M 0 from if_pos e]
      exact iv_same h 0
  | some i =>
    obtain ⟨hi, rfl, ne⟩ := ip_some hn hz
    have e : ¬ fX11_isPileR (sC M 0) (nI i) = 0 := by rw [iv_pn h]; exact ne
    obtain ⟨q1, q2, q3, q4⟩ := h.2.2.2.2.2.1 i hi
    obtain ⟨k1, r1, hM1, hX1⟩ := m_load (h.2.2.1 i hi) (show i < 12 by omega) q1 (m_sC (iv_focus h hi) 0) q4 h.2.2.2.1 h.2.2.2.2.1 (by omega)
    refine ⟨⟨trivial, fun q => absurd q e, fun _ => ⟨k1, trivial⟩⟩, ?_, ?_⟩
    · simp only [fX10_loadR, hz]
      exact ((if_neg e).trans r1).symm
    · simp only [fX10_loadS, hz]
      rw [show fX11_loadS M (nI i) = fX11_loadOfS (sC M 0) (nI i) from if_neg e]
      exact iv_unI h hi hM1 q4 h.2.2.2.1 hX1 (by omega)
theorem s_free (k n : Nat) (C : CZ) (P : Nat → PP) (T : TT) (X : DD) (M : MM) (a : Int32) (hk : k < 512) (hI : Inv k n C P T X M) : fX11_freeK M a ∧ fX10_freeR n C P T X a = fX11_freeR M a ∧ Inv (k + 1) n C (fX10_freeS n C P T X a).1 (fX10_freeS n C P T X a).2.1 (fX10_freeS n C P T X a).2.2 (fX11_freeS M a) := by
  obtain ⟨nt, cd, en, kd, cp, lm, mn, rw, h⟩ := hI
  have hn := h.2.1
  cases hz : fz n a with
  | none =>
    have e : fX11_isPileR (sC M 0) a = 0 := (iv_pn h a).trans (ip_none hn hz)
    refine ⟨⟨trivial, fun _ => trivial, fun q => absurd e q⟩, ?_, ?_⟩
    · simp only [fX10_freeR, hz]
      exact (if_pos e).symm
    · simp only [fX10_freeS, hz]
      rw [show fX11_freeS M a = sC M 0 from if_pos e]
      exact iv_same h 0
  | some i =>
    obtain ⟨hi, rfl, ne⟩ := ip_some hn hz
    have e : ¬ fX11_isPileR (sC M 0) (nI i) = 0 := by rw [iv_pn h]; exact ne
    obtain ⟨q1, q2, q3, q4⟩ := h.2.2.2.2.2.1 i hi
    obtain ⟨k1, r1, hM1, hX1⟩ := m_free (h.2.2.1 i hi) (show i < 12 by omega) q1 (m_sC (iv_focus h hi) 0) q4 h.2.2.2.1 h.2.2.2.2.1 (by omega)
    refine ⟨⟨trivial, fun q => absurd q e, fun _ => ⟨k1, trivial⟩⟩, ?_, ?_⟩
    · simp only [fX10_freeR, hz]
      exact ((if_neg e).trans r1).symm
    · simp only [fX10_freeS, hz]
      rw [show fX11_freeS M (nI i) = fX11_freeOfS (sC M 0) (nI i) from if_neg e]
      exact iv_unI h hi hM1 q4 h.2.2.2.1 hX1 (by omega)
theorem s_full (k n : Nat) (C : CZ) (P : Nat → PP) (T : TT) (X : DD) (M : MM) (a : Int32) (hk : k < 512) (hI : Inv k n C P T X M) : fX11_fullK M a ∧ fX10_fullR n C P T X a = fX11_fullR M a ∧ Inv (k + 1) n C (fX10_fullS n C P T X a).1 (fX10_fullS n C P T X a).2.1 (fX10_fullS n C P T X a).2.2 (fX11_fullS M a) := by
  obtain ⟨nt, cd, en, kd, cp, lm, mn, rw, h⟩ := hI
  have hn := h.2.1
  cases hz : fz n a with
  | none =>
    have e : fX11_isPileR (sC M 0) a = 0 := (iv_pn h a).trans (ip_none hn hz)
    refine ⟨⟨trivial, fun _ => trivial, fun q => absurd e q⟩, ?_, ?_⟩
    · simp only [fX10_fullR, hz]
      exact (if_pos e).symm
    · simp only [fX10_fullS, hz]
      rw [show fX11_fullS M a = sC M 0 from if_pos e]
      exact iv_same h 0
  | some i =>
    obtain ⟨hi, rfl, ne⟩ := ip_some hn hz
    have e : ¬ fX11_isPileR (sC M 0) (nI i) = 0 := by rw [iv_pn h]; exact ne
    obtain ⟨q1, q2, q3, q4⟩ := h.2.2.2.2.2.1 i hi
    have hci := h.2.2.1 i hi
    have hM := iv_focus h hi
    have hM0 := m_sC hM 0
    have hkm : M.2.2.2.2.2.2.2.1 (nI i).toNatClampNeg = kdz (C i).1 := by rw [r_kd hM, (r_i (by omega)).1, q1]
    obtain ⟨k1, r1, hM1, hX1⟩ := m_free hci (show i < 12 by omega) q1 hM0 q4 h.2.2.2.1 h.2.2.2.2.1 (by omega)
    have eS0 : fX10_fullS n C P T X (nI i) = (va_up P i (P i), T, (kisFullS (C i).1 (P i) T X).2.2) := by
      simp only [fX10_fullS, hz, ite_self]
    have eR0 : fX10_fullR n C P T X (nI i) = if kisFullR (C i).1 (P i) T X = 0 then 0 else 1 := by
      simp only [fX10_fullR, hz]
    by_cases z : (C i).1 = 5
    · have hk0 : M.2.2.2.2.2.2.2.1 (nI i).toNatClampNeg = 0 := by rw [hkm, z]; rfl
      have eR : fX11_fullR M (nI i) = if (M.2.2.2.2.2.2.2.2.2.2.1 (nI i).toNatClampNeg) = (M.2.2.2.2.2.2.2.2.1 (nI i).toNatClampNeg) then 1 else 0 := (if_neg e).trans (if_pos hk0)
      have eS : fX11_fullS M (nI i) = sC M 0 := (if_neg e).trans ((if_pos hk0).trans (ite_self _))
      refine ⟨⟨trivial, fun q => absurd q e, fun _ => ⟨(r_i (by omega)).2, fun _ => ⟨fun _ => trivial, fun _ => trivial⟩, fun q => absurd hk0 q⟩⟩, ?_, ?_⟩
      · rw [eR0, eR, z]
        obtain ⟨c, hh, r, eP, hcp, c1, c2, c3, -⟩ := q4
        have hm1 : (M.2.2.2.2.2.2.2.2.2.2.1 (nI i).toNatClampNeg) = nI hh := by rw [(r_i (by omega)).1, r_mn hM, eP]
        have hc1 : (M.2.2.2.2.2.2.2.2.1 (nI i).toNatClampNeg) = nI c := by rw [(r_i (by omega)).1, r_cp hM, hcp]
        rw [hm1, hc1, eP]
        show (if (if nI hh < nI c then (0 : Int32) else 1) = 0 then (0 : Int32) else 1) = _
        by_cases w : hh < c
        · rw [if_pos (show nI hh < nI c from nI_lt w (by omega)), if_pos rfl, if_neg (by rw [nI_eq (by omega) (by omega)]; omega)]
        · have : hh = c := by omega
          subst this
          rw [if_neg (show ¬ nI hh < nI hh from nI_nlt (Nat.le_refl _) (by omega)), if_pos rfl]
          rfl
      · rw [eS0, eS, z]
        exact iv_unI h hi hM0 q4 h.2.2.2.1 h.2.2.2.2.1 (by omega)
    · have hk0 : ¬ M.2.2.2.2.2.2.2.1 (nI i).toNatClampNeg = 0 := by
        rw [hkm]
        rcases pk_kd hci with ⟨_, e⟩ | ⟨_, e⟩ | ⟨_, e⟩ | ⟨_, e⟩ | ⟨_, e⟩ | ⟨_, e⟩ | ⟨_, e⟩ | ⟨e0, e⟩ <;> first | exact absurd e0 z | (rw [e]; decide)
      have eR : fX11_fullR M (nI i) = if (fX11_freeOfR (sC M 0) (nI i)) = 0 then 1 else 0 := (if_neg e).trans (if_neg hk0)
      have eS : fX11_fullS M (nI i) = fX11_freeOfS (sC M 0) (nI i) := (if_neg e).trans ((if_neg hk0).trans (ite_self _))
      have eF : kisFullR (C i).1 (P i) T X = fX2_isFullR (C i).1 (P i) T X ∧ (kisFullS (C i).1 (P i) T X).2.2 = (kfreeActS (C i).1 (P i) T X).2.2 := by
        rcases pk_kd hci with ⟨e0, _⟩ | ⟨e0, _⟩ | ⟨e0, _⟩ | ⟨e0, _⟩ | ⟨e0, _⟩ | ⟨e0, _⟩ | ⟨e0, _⟩ | ⟨e0, _⟩ <;> first | exact absurd e0 z | (rw [e0]; exact ⟨rfl, rfl⟩)
      refine ⟨⟨trivial, fun q => absurd q e, fun _ => ⟨(r_i (by omega)).2, fun q => absurd q hk0, fun _ => ⟨k1, fun _ => trivial, fun _ => trivial⟩⟩⟩, ?_, ?_⟩
      · rw [eR0, eR, r1, eF.1]
        unfold fX2_isFullR
        by_cases w : kfreeActR (C i).1 (P i) T X = 0
        · rw [if_pos w]; decide
        · rw [if_neg w]; decide
      · rw [eS0, eS, eF.2]
        exact iv_unI h hi hM1 q4 h.2.2.2.1 hX1 (by omega)
theorem s_put (k n : Nat) (C : CZ) (P : Nat → PP) (T : TT) (X : DD) (M : MM) (a b : Int32) (hk : k < 512) (hI : Inv k n C P T X M) : fX11_putK M a b ∧ fX11_thrownR (fX11_putS M a b) = (if fX10_putH n C P T X a b = true then (1 : Int32) else 0) ∧ (fX10_putH n C P T X a b = false → fX10_putR n C P T X a b = fX11_putR M a b) ∧ Inv (k + 1) n C (fX10_putS n C P T X a b).1 (fX10_putS n C P T X a b).2.1 (fX10_putS n C P T X a b).2.2 (fX11_putS M a b) := by
  obtain ⟨nt, cd, en, kd, cp, lm, mn, rw, h⟩ := hI
  have hn := h.2.1
  cases hz : fz n a with
  | none =>
    have e : fX11_isPileR (sC M 0) a = 0 := (iv_pn h a).trans (ip_none hn hz)
    have eS : fX11_putS M a b = sC M 0 := if_pos e
    rw [eS]
    refine ⟨⟨trivial, fun _ => trivial, fun q => absurd e q⟩, ?_, fun _ => ?_, ?_⟩
    · simp only [fX10_putH, hz]; rfl
    · simp only [fX10_putR, hz]
      exact (if_pos e).symm
    · simp only [fX10_putS, hz]
      exact iv_same h 0
  | some i =>
    obtain ⟨hi, rfl, ne⟩ := ip_some hn hz
    have e : ¬ fX11_isPileR (sC M 0) (nI i) = 0 := by rw [iv_pn h]; exact ne
    rcases it_t h.2.2.2.1 b with ⟨t, ht, rfl, t1, t2⟩ | ⟨t1, t2⟩
    · have et : ¬ fX11_isTimberR (sC M 0) (nI t) = 0 := by rw [iv_tn h, t2]; decide
      have n1 : ¬ fX7_hasR T (nI t) = 0 := by rw [t1]; decide
      have hnt := h.2.2.2.1.le
      have hM := iv_focus h hi
      have hli : (M.2.2.2.2.2.1 (nI t).toNatClampNeg) = fX7_pileOfR T (nI t) := by
        rw [r_li hM]
        exact (if_neg n1).symm
      have v60 : vp_in (nI t) 60 := vp_in_nI (by omega) (by omega)
      by_cases w : fX7_pileOfR T (nI t) = -1
      · have w' := w
        rw [← hli] at w'
        obtain ⟨q1, q2, q3, q4⟩ := h.2.2.2.2.2.1 i hi
        obtain ⟨⟨k1, r1, hM1, hP1, hT1, hX1, hd⟩, -⟩ := m_put (h.2.2.1 i hi) (show i < 12 by omega) q1 ht (m_sC hM 0) q4 h.2.2.2.1 h.2.2.2.2.1 (by omega)
        have hen := r_en hM1
        have eS0 : fX10_putS n C P T X (nI i) (nI t) = (va_up P i (kputActS (C i).1 (P i) T X (nI t)).1, (kputActS (C i).1 (P i) T X (nI t)).2.1, (kputActS (C i).1 (P i) T X (nI t)).2.2) := by
          simp only [fX10_putS, hz, if_neg n1, if_pos w, ite_self]
        have eH0 : fX10_putH n C P T X (nI i) (nI t) = if kputActR (C i).1 (P i) T X (nI t) = 2 then true else false := by
          simp only [fX10_putH, hz, if_neg n1, if_pos w]
        have eR0 : fX10_putR n C P T X (nI i) (nI t) = if kputActR (C i).1 (P i) T X (nI t) = 2 then 0 else kputActR (C i).1 (P i) T X (nI t) := by
          simp only [fX10_putR, hz, if_neg n1, if_pos w]
        have eK : fX11_putK M (nI i) (nI t) := ⟨trivial, fun q => absurd q e, fun _ => ⟨trivial, fun q => absurd q et, fun _ => ⟨v60, fun _ => ⟨k1, fun _ => ⟨fun _ => trivial, fun _ => trivial⟩, fun _ => ⟨fun _ => trivial, fun _ => trivial⟩⟩, fun q => absurd w' q⟩⟩⟩
        rw [eS0, eH0, eR0]
        by_cases z2 : kputActR (C i).1 (P i) T X (nI t) = 2
        · rw [if_pos z2] at hen
          have hen' : ¬ (fX11_putOfS (sC M 0) (nI i) (nI t)).2.2.2.2.2.2.2.2.2.2.2.2.2.2.2.2 = 0 := by rw [hen]; decide
          have eS : fX11_putS M (nI i) (nI t) = sC (fX11_putOfS (sC M 0) (nI i) (nI t)) 1 := (if_neg e).trans ((if_neg et).trans ((if_pos w').trans ((if_neg hen').trans (ite_self _))))
          rw [eS, if_pos z2]
          exact ⟨eK, rfl, fun q => Bool.noConfusion q, iv_unI h hi (m_sC hM1 1) hP1 hT1 hX1 (by omega)⟩
        · rw [if_neg z2] at hen
          have hen' : (fX11_putOfS (sC M 0) (nI i) (nI t)).2.2.2.2.2.2.2.2.2.2.2.2.2.2.2.2 = 0 := hen
          have eS : fX11_putS M (nI i) (nI t) = sC (fX11_putOfS (sC M 0) (nI i) (nI t)) 0 := (if_neg e).trans ((if_neg et).trans ((if_pos w').trans ((if_pos hen').trans (ite_self _))))
          have eR : fX11_putR M (nI i) (nI t) = if fX11_putOfR (sC M 0) (nI i) (nI t) = 0 then 0 else 1 := (if_neg e).trans ((if_neg et).trans ((if_pos w').trans (if_pos hen')))
          rw [eS, if_neg z2]
          refine ⟨eK, rfl, fun _ => ?_, iv_unI h hi (m_sC hM1 0) hP1 hT1 hX1 (by omega)⟩
          rw [if_neg z2, eR, r1]
          rcases hd with d | d | d
          · rw [d]; decide
          · rw [d]; decide
          · exact absurd d z2
      · have w' := w
        rw [← hli] at w'
        have eS : fX11_putS M (nI i) (nI t) = sC M 0 := (if_neg e).trans ((if_neg et).trans (if_neg w'))
        have eR : fX11_putR M (nI i) (nI t) = -103 := (if_neg e).trans ((if_neg et).trans (if_neg w'))
        rw [eS, eR]
        refine ⟨⟨trivial, fun q => absurd q e, fun _ => ⟨trivial, fun q => absurd q et, fun _ => ⟨v60, fun q => absurd q w', fun _ => trivial⟩⟩⟩, ?_, fun _ => ?_, ?_⟩
        · simp only [fX10_putH, hz, if_neg n1, if_neg w]; rfl
        · simp only [fX10_putR, hz, if_neg n1, if_neg w]
        · simp only [fX10_putS, hz, if_neg n1, if_neg w]
          exact iv_same h 0
    · have et : fX11_isTimberR (sC M 0) b = 0 := by rw [iv_tn h, t2]
      have eS : fX11_putS M (nI i) b = sC M 0 := (if_neg e).trans (if_pos et)
      have eR : fX11_putR M (nI i) b = -101 := (if_neg e).trans (if_pos et)
      rw [eS, eR]
      refine ⟨⟨trivial, fun q => absurd q e, fun _ => ⟨trivial, fun _ => trivial, fun q => absurd et q⟩⟩, ?_, fun _ => ?_, ?_⟩
      · simp only [fX10_putH, hz, if_pos t1]; rfl
      · simp only [fX10_putR, hz, if_pos t1]
      · simp only [fX10_putS, hz, if_pos t1]
        exact iv_same h 0
theorem s_take (k n : Nat) (C : CZ) (P : Nat → PP) (T : TT) (X : DD) (M : MM) (a : Int32) (hk : k < 512) (hI : Inv k n C P T X M) : fX11_takeK M a ∧ fX11_thrownR (fX11_takeS M a) = (if fX10_takeH n C P T X a = true then (1 : Int32) else 0) ∧ (fX10_takeH n C P T X a = false → fX10_takeR n C P T X a = fX11_takeR M a) ∧ Inv (k + 1) n C (fX10_takeS n C P T X a).1 (fX10_takeS n C P T X a).2.1 (fX10_takeS n C P T X a).2.2 (fX11_takeS M a) := by
  obtain ⟨nt, cd, en, kd, cp, lm, mn, rw, h⟩ := hI
  have hn := h.2.1
  cases hz : fz n a with
  | none =>
    have e : fX11_isPileR (sC M 0) a = 0 := (iv_pn h a).trans (ip_none hn hz)
    have eS : fX11_takeS M a = sC M 0 := if_pos e
    rw [eS]
    refine ⟨⟨trivial, fun _ => trivial, fun q => absurd e q⟩, ?_, fun _ => ?_, ?_⟩
    · simp only [fX10_takeH, hz]; rfl
    · simp only [fX10_takeR, hz]
      exact (if_pos e).symm
    · simp only [fX10_takeS, hz]
      exact iv_same h 0
  | some i =>
    obtain ⟨hi, rfl, ne⟩ := ip_some hn hz
    have e : ¬ fX11_isPileR (sC M 0) (nI i) = 0 := by rw [iv_pn h]; exact ne
    obtain ⟨q1, q2, q3, q4⟩ := h.2.2.2.2.2.1 i hi
    obtain ⟨k1, r1, hM1, hP1, hT1, hX1, hd⟩ := m_take (h.2.2.1 i hi) (show i < 12 by omega) q1 (m_sC (iv_focus h hi) 0) q4 h.2.2.2.1 h.2.2.2.2.1 (by omega)
    have hen := r_en hM1
    have eS0 : fX10_takeS n C P T X (nI i) = (va_up P i (ktakeActS (C i).1 (P i) T X).1, (ktakeActS (C i).1 (P i) T X).2.1, (ktakeActS (C i).1 (P i) T X).2.2) := by
      simp only [fX10_takeS, hz, ite_self]
    have eH0 : fX10_takeH n C P T X (nI i) = if ktakeActR (C i).1 (P i) T X = -2 then true else false := by
      simp only [fX10_takeH, hz]
    have eR0 : fX10_takeR n C P T X (nI i) = if ktakeActR (C i).1 (P i) T X = -2 then 0 else ktakeActR (C i).1 (P i) T X := by
      simp only [fX10_takeR, hz]
    have eK : fX11_takeK M (nI i) := ⟨trivial, fun q => absurd q e, fun _ => ⟨k1, fun _ => trivial, fun _ => trivial⟩⟩
    have eR : fX11_takeR M (nI i) = fX11_takeOfR (sC M 0) (nI i) := (if_neg e).trans (ite_self _)
    rw [eS0, eH0, eR0, eR, r1]
    by_cases z2 : ktakeActR (C i).1 (P i) T X = -2
    · rw [if_pos z2] at hen
      have hen' : ¬ (fX11_takeOfS (sC M 0) (nI i)).2.2.2.2.2.2.2.2.2.2.2.2.2.2.2.2 = 0 := by rw [hen]; decide
      have eS : fX11_takeS M (nI i) = sC (fX11_takeOfS (sC M 0) (nI i)) 1 := (if_neg e).trans (if_neg hen')
      rw [eS, if_pos z2]
      exact ⟨eK, rfl, fun q => Bool.noConfusion q, iv_unI h hi (m_sC hM1 1) hP1 hT1 hX1 (by omega)⟩
    · rw [if_neg z2] at hen
      have hen' : (fX11_takeOfS (sC M 0) (nI i)).2.2.2.2.2.2.2.2.2.2.2.2.2.2.2.2 = 0 := hen
      have eS : fX11_takeS M (nI i) = sC (fX11_takeOfS (sC M 0) (nI i)) 0 := (if_neg e).trans (if_pos hen')
      rw [eS, if_neg z2]
      exact ⟨eK, rfl, fun _ => by rw [if_neg z2, if_neg z2], iv_unI h hi (m_sC hM1 0) hP1 hT1 hX1 (by omega)⟩
