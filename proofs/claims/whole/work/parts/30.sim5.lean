
section ST
variable {i nt b ci : Nat} {cd pn en : Int32} {kd cp lm mn0 rw0 : FN} {P : PP} {T : TT} {X : DD} {M : MM}
theorem PO.tr {R : Int32} {S : PP × TT × DD} {k k2 : Prop} {r r2 : Int32} {M' M2 : MM} (h : PO nt b i cd pn kd cp lm mn0 rw0 R S k r M') (hk : k → k2) (hr : r2 = r) (hM : M2 = M') : PO nt b i cd pn kd cp lm mn0 rw0 R S k2 r2 M2 := by
  subst hr hM
  exact ⟨hk h.1, h.2⟩
theorem pl_put (hi : i < 12) {tt : Nat} (ht : tt < nt) (hM : MR i cd pn kd cp lm mn0 rw0 P T X en M) (hP : GL i nt (cp i) (lm i) P) (hT : GT nt T) (hX : GD b X) (hb : b + 5 < 2 ^ 30) :
    PO nt (b + 5) i cd pn kd cp lm mn0 rw0 (fX4_putActR P T X (nI tt)) (fX4_putActS P T X (nI tt)) (fX11_putPlainK (sE M 0) (nI i) (nI tt)) (fX11_putPlainR (sE M 0) (nI i) (nI tt)) (fX11_putPlainS (sE M 0) (nI i) (nI tt)) := by
  obtain ⟨k2, r2, hM2, hP2, hT2, hX2, hd⟩ := m_pp hi ht (m_sE hM 0) hP hT hX (by omega)
  exact PO.mk01 k2 r2 hM2 hP2 hT2 (hX2.mono (by omega)) (hd.imp (fun h => h.1) (fun h => h.1))
theorem so_put (hi : i < 12) {tt : Nat} (ht : tt < nt) (hM : MR i cd pn kd cp lm mn0 rw0 P T X en M) (hP : GL i nt (cp i) (lm i) P) (hT : GT nt T) (hX : GD b X) (hb : b + 5 < 2 ^ 30) :
    PO nt (b + 5) i cd pn kd cp lm mn0 rw0 (fX5_putActR P T X (nI tt)) (fX5_putActS P T X (nI tt)) (fX11_putSortedK (sE M 0) (nI i) (nI tt)) (fX11_putSortedR (sE M 0) (nI i) (nI tt)) (fX11_putSortedS (sE M 0) (nI i) (nI tt)) ∧ ¬ fX5_putActR P T X (nI tt) = 2 := by
  obtain ⟨k2, r2, hM2, hP2, hT2, hX2, hd⟩ := m_ps hi ht (m_sE hM 0) hP hT hX (by omega)
  exact ⟨PO.mk01 k2 r2 hM2 hP2 hT2 (hX2.mono (by omega)) hd, by rcases hd with h | h <;> rw [h] <;> decide⟩
theorem m_put (hci : pkAll ci) (hi : i < 12) (hk : kd i = kdz ci) {tt : Nat} (ht : tt < nt) (hM : MR i cd pn kd cp lm mn0 rw0 P T X en M) (hP : GL i nt (cp i) (lm i) P) (hT : GT nt T) (hX : GD b X) (hb : b + 5 < 2 ^ 30) :
    PO nt (b + 5) i cd pn kd cp lm mn0 rw0 (kputActR ci P T X (nI tt)) (kputActS ci P T X (nI tt)) (fX11_putOfK M (nI i) (nI tt)) (fX11_putOfR M (nI i) (nI tt)) (fX11_putOfS M (nI i) (nI tt)) ∧ ((ci = 1 ∨ ci = 4) → ¬ kputActR ci P T X (nI tt) = 2) := by
  have hkm : M.2.2.2.2.2.2.2.1 (nI i).toNatClampNeg = kdz ci := by rw [r_kd hM, (r_i hi).1, hk]
  have v := (r_i hi).2
  have ne : ∀ {a c : Int32}, M.2.2.2.2.2.2.2.1 (nI i).toNatClampNeg = a → ¬ a = c → ¬ M.2.2.2.2.2.2.2.1 (nI i).toNatClampNeg = c := fun h1 h2 h3 => h2 (h1.symm.trans h3)
  rw [q_putOfR, q_putOfS]
  rcases pk_kd hci with ⟨rfl, e⟩ | ⟨rfl, e⟩ | ⟨rfl, e⟩ | ⟨rfl, e⟩ | ⟨rfl, e⟩ | ⟨rfl, e⟩ | ⟨rfl, e⟩ | ⟨rfl, e⟩ <;> rw [e] at hkm
  · have n3 := ne (c := 3) hkm (by decide)
    exact ⟨(m_st hci hi hk ht hM hP hT hX hb).tr (fun h => ⟨v, fun q => absurd q n3, fun _ => ⟨fun _ => h, fun q => absurd hkm q⟩⟩) ((if_neg n3).trans (if_pos hkm)) ((if_neg n3).trans (if_pos hkm)), fun h => by omega⟩
  · have n3 := ne (c := 3) hkm (by decide)
    have n5 := ne (c := 5) hkm (by decide)
    exact ⟨(m_st hci hi hk ht hM hP hT hX hb).tr (fun h => ⟨v, fun q => absurd q n3, fun _ => ⟨fun q => absurd q n5, fun _ => ⟨fun _ => h, fun q => absurd hkm q⟩⟩⟩) ((if_neg n3).trans ((if_neg n5).trans (if_pos hkm))) ((if_neg n3).trans ((if_neg n5).trans (if_pos hkm))), fun h => by omega⟩
  · have n3 := ne (c := 3) hkm (by decide)
    have n5 := ne (c := 5) hkm (by decide)
    have n7 := ne (c := 7) hkm (by decide)
    obtain ⟨h1, h2⟩ := m_op hi ht hM hP hT hX hb
    exact ⟨h1.tr (fun h => ⟨v, fun q => absurd q n3, fun _ => ⟨fun q => absurd q n5, fun _ => ⟨fun q => absurd q n7, fun _ => ⟨fun _ => h, fun q => absurd hkm q⟩⟩⟩⟩) ((if_neg n3).trans ((if_neg n5).trans ((if_neg n7).trans (if_pos hkm)))) ((if_neg n3).trans ((if_neg n5).trans ((if_neg n7).trans (if_pos hkm)))), fun _ => h2⟩
  · have n3 := ne (c := 3) hkm (by decide)
    have n5 := ne (c := 5) hkm (by decide)
    have n7 := ne (c := 7) hkm (by decide)
    have n6 := ne (c := 6) hkm (by decide)
    have n2 := ne (c := 2) hkm (by decide)
    obtain ⟨h1, h2⟩ := so_put hi ht hM hP hT hX hb
    exact ⟨h1.tr (fun h => ⟨v, fun q => absurd q n3, fun _ => ⟨fun q => absurd q n5, fun _ => ⟨fun q => absurd q n7, fun _ => ⟨fun q => absurd q n6, fun _ => ⟨fun q => absurd q n2, fun _ => ⟨fun _ => ⟨h, trivial⟩, fun q => absurd hkm q⟩⟩⟩⟩⟩⟩) ((if_neg n3).trans ((if_neg n5).trans ((if_neg n7).trans ((if_neg n6).trans ((if_neg n2).trans (if_pos hkm)))))) ((if_neg n3).trans ((if_neg n5).trans ((if_neg n7).trans ((if_neg n6).trans ((if_neg n2).trans (if_pos hkm)))))), fun _ => h2⟩
  · exact ⟨(m_st hci hi hk ht hM hP hT hX hb).tr (fun h => ⟨v, fun _ => h, fun q => absurd hkm q⟩) (if_pos hkm) (if_pos hkm), fun h => by omega⟩
  · have n3 := ne (c := 3) hkm (by decide)
    have n5 := ne (c := 5) hkm (by decide)
    have n7 := ne (c := 7) hkm (by decide)
    have n6 := ne (c := 6) hkm (by decide)
    obtain ⟨h1, h2⟩ := so_put hi ht hM hP hT hX hb
    exact ⟨h1.tr (fun h => ⟨v, fun q => absurd q n3, fun _ => ⟨fun q => absurd q n5, fun _ => ⟨fun q => absurd q n7, fun _ => ⟨fun q => absurd q n6, fun _ => ⟨fun _ => ⟨h, trivial⟩, fun q => absurd hkm q⟩⟩⟩⟩⟩) ((if_neg n3).trans ((if_neg n5).trans ((if_neg n7).trans ((if_neg n6).trans (if_pos hkm))))) ((if_neg n3).trans ((if_neg n5).trans ((if_neg n7).trans ((if_neg n6).trans (if_pos hkm))))), fun _ => h2⟩
  all_goals
    have n3 := ne (c := 3) hkm (by decide)
    have n5 := ne (c := 5) hkm (by decide)
    have n7 := ne (c := 7) hkm (by decide)
    have n6 := ne (c := 6) hkm (by decide)
    have n2 := ne (c := 2) hkm (by decide)
    have n4 := ne (c := 4) hkm (by decide)
    exact ⟨(pl_put hi ht hM hP hT hX hb).tr (fun h => ⟨v, fun q => absurd q n3, fun _ => ⟨fun q => absurd q n5, fun _ => ⟨fun q => absurd q n7, fun _ => ⟨fun q => absurd q n6, fun _ => ⟨fun q => absurd q n2, fun _ => ⟨fun q => absurd q n4, fun _ => ⟨h, trivial⟩⟩⟩⟩⟩⟩⟩) ((if_neg n3).trans ((if_neg n5).trans ((if_neg n7).trans ((if_neg n6).trans ((if_neg n2).trans (if_neg n4)))))) ((if_neg n3).trans ((if_neg n5).trans ((if_neg n7).trans ((if_neg n6).trans ((if_neg n2).trans (if_neg n4)))))), fun h => by omega⟩
/-- the outcome of a take -/
def TO (nt b i : Nat) (cd pn : Int32) (kd cp lm mn0 rw0 : FN) (R : Int32) (S : PP × TT × DD) (k : Prop) (r : Int32) (M' : MM) : Prop := k ∧ r = (if R = -2 then -1 else R) ∧ MR i cd pn kd cp lm mn0 rw0 S.1 S.2.1 S.2.2 (if R = -2 then 1 else 0) M' ∧ GL i nt (cp i) (lm i) S.1 ∧ GT nt S.2.1 ∧ GD b S.2.2 ∧ (R = -1 ∨ R = -2 ∨ ∃ t, t < nt ∧ R = nI t)
theorem TO.tr {R : Int32} {S : PP × TT × DD} {k k2 : Prop} {r r2 : Int32} {M' M2 : MM} (h : TO nt b i cd pn kd cp lm mn0 rw0 R S k r M') (hk : k → k2) (hr : r2 = r) (hM : M2 = M') : TO nt b i cd pn kd cp lm mn0 rw0 R S k2 r2 M2 := by
  subst hr hM
  exact ⟨hk h.1, h.2⟩
theorem nI_m1 {t : Nat} (h : t < 2 ^ 31) : ¬ nI t = -1 := fun e => absurd (show (nI t : Int32) < 0 by rw [e]; decide) (nI_pos h)
theorem nI_m2 {t : Nat} (h : t < 2 ^ 31) : ¬ nI t = -2 := fun e => absurd (show (nI t : Int32) < 0 by rw [e]; decide) (nI_pos h)
theorem TO.mk1 {R : Int32} {S : PP × TT × DD} {k : Prop} {r : Int32} {M' : MM} (hn : nt ≤ 60) (hk : k) (hr : r = R) (hM : MR i cd pn kd cp lm mn0 rw0 S.1 S.2.1 S.2.2 0 M') (h1 : GL i nt (cp i) (lm i) S.1) (h2 : GT nt S.2.1) (h3 : GD b S.2.2) (h : R = -1 ∨ ∃ t, t < nt ∧ R = nI t) : TO nt b i cd pn kd cp lm mn0 rw0 R S k r M' := by
  have n2 : ¬ R = -2 := by
    rcases h with h | ⟨t, ht, h⟩
    · rw [h]; decide
    · rw [h]; exact nI_m2 (by omega)
  refine ⟨hk, by rw [if_neg n2]; exact hr, by rw [if_neg n2]; exact hM, h1, h2, h3, ?_⟩
  rcases h with h | h
  · exact Or.inl h
  · exact Or.inr (Or.inr h)
theorem GT.le (h : GT nt T) : nt ≤ 60 := by
  obtain ⟨ln, wt, we, li, rfl, hn, -, -⟩ := h
  exact hn
theorem GT.wet {t : Nat} (h : GT nt T) (ht : t < nt) : (fX7_isWetR T (nI t) = 0) = (T.2.2.2.1 t = 0) := by
  obtain ⟨ln, wt, we, li, rfl, hn, -, -⟩ := h
  rw [iw_in ht hn]
  show _ = (we t = 0)
  by_cases z : we t = 0
  · rw [if_pos z, z]
  · rw [if_neg z]
    exact propext ⟨fun h => absurd h (by decide), fun h => absurd h z⟩
theorem GT.setWet0 {t : Nat} (h : GT nt T) (ht : t < nt) : fX7_setWetS T (nI t) 0 = (T.1, T.2.1, T.2.2.1, upd T.2.2.2.1 t (vp_nar .boolean 0), T.2.2.2.2) ∧ GT nt (fX7_setWetS T (nI t) 0) := by
  obtain ⟨ln, wt, we, li, rfl, hn, hw, hz⟩ := h
  rw [sw_in ht hn]
  refine ⟨rfl, _, _, _, _, rfl, hn, hw, fun k hk => ?_⟩
  by_cases z : k = t
  · subst z; rw [pk_us, nar0]; exact Or.inl rfl
  · rw [pk_un z]; exact hz k hk
theorem m_dy (hci : pkAll ci) (h14 : ci = 1 ∨ ci = 4) (hi : i < 12) (hk : kd i = kdz ci) (hM : MR i cd pn kd cp lm mn0 rw0 P T X en M) (hP : GL i nt (cp i) (lm i) P) (hT : GT nt T) (hX : GD b X) (hb : b + 8 < 2 ^ 30) :
    TO nt (b + 8) i cd pn kd cp lm mn0 rw0 (fX0_takeActR ci P T X) (fX0_takeActS ci P T X) (dyK M (nI i)) (dyR M (nI i)) (dyS M (nI i)) := by
  obtain ⟨k0, hM0, hX0⟩ := m_rule (m_sE hM 0) hX (by omega) 1 4
  obtain ⟨k1, r1, hM1, hP1, hT1, hX1, hd⟩ := m_tp hi hM0 hP hT hX0 (by omega)
  have hn := hT.le
  rcases hd with d | ⟨t, ht, d⟩
  · have d' : fX11_takePlainR (fX11_ruleS (sE M 0) 1 4) (nI i) = -1 := r1.trans d
    have eR : fX0_takeActR ci P T X = -2 := if_pos d
    have eS : fX0_takeActS ci P T X = ((fX4_takeActS P T (fX8_beginS X 1 4)).1, (fX4_takeActS P T (fX8_beginS X 1 4)).2.1, fX8_countNothingS (fX4_takeActS P T (fX8_beginS X 1 4)).2.2) := by
      unfold fX0_takeActS
      rw [if_pos d, if_pos d, if_pos d]
    rw [eR, eS]
    refine ⟨⟨k0, k1, fun _ => trivial, fun q => absurd d' q⟩, if_pos d', ?_, hP1, hT1, (g_no hX1).mono (by omega), Or.inr (Or.inl rfl)⟩
    have e9 : dyS M (nI i) = _ := if_pos d'
    rw [e9]
    exact m_sNo hM1
  · have d1 : ¬ fX4_takeActR P T (fX8_beginS X 1 4) = -1 := by rw [d]; exact nI_m1 (by omega)
    have d' : ¬ fX11_takePlainR (fX11_ruleS (sE M 0) 1 4) (nI i) = -1 := by rw [r1]; exact d1
    have rt : fX11_takePlainR (fX11_ruleS (sE M 0) 1 4) (nI i) = nI t := r1.trans d
    have ct : (nI t).toNatClampNeg = t := nI_clamp (by omega)
    have hz : (((fX11_takePlainS (fX11_ruleS (sE M 0) 1 4) (nI i)).2.2.2.2.1) (fX11_takePlainR (fX11_ruleS (sE M 0) 1 4) (nI i)).toNatClampNeg = 0) = (fX7_isWetR (fX4_takeActS P T (fX8_beginS X 1 4)).2.1 (fX4_takeActR P T (fX8_beginS X 1 4)) = 0) := by
      rw [r_we hM1, rt, d, ct, hT1.wet ht]
    have v60 : vp_in (fX11_takePlainR (fX11_ruleS (sE M 0) 1 4) (nI i)) 60 := by rw [rt]; exact vp_in_nI (by omega) (by omega)
    by_cases z : fX7_isWetR (fX4_takeActS P T (fX8_beginS X 1 4)).2.1 (fX4_takeActR P T (fX8_beginS X 1 4)) = 0
    · have z' := z
      rw [← hz] at z'
      have eR : fX0_takeActR ci P T X = fX4_takeActR P T (fX8_beginS X 1 4) := (if_neg d1).trans (if_pos z)
      have eS : fX0_takeActS ci P T X = fX4_takeActS P T (fX8_beginS X 1 4) := by
        unfold fX0_takeActS
        rw [if_neg d1, if_pos z, if_neg d1, if_pos z, if_neg d1, if_pos z]
      rw [eR, eS]
      refine TO.mk1 hn ⟨k0, k1, fun _ => trivial, fun _ => ⟨v60, fun _ => trivial, fun q => absurd z' q⟩⟩ (((if_neg d').trans (if_pos z')).trans r1) ?_ hP1 hT1 (hX1.mono (by omega)) (Or.inr ⟨t, ht, d⟩)
      have e9 : dyS M (nI i) = _ := (if_neg d').trans (if_pos z')
      rw [e9]
      exact hM1
    · have z' := z
      rw [← hz] at z'
      obtain ⟨sw1, sw2⟩ := hT1.setWet0 ht
      have hM2 := m_sWe hM1 (upd (fX4_takeActS P T (fX8_beginS X 1 4)).2.1.2.2.2.1 t (vp_nar .boolean 0))
      rw [← sw1] at hM2
      obtain ⟨⟨k3, r3, hM3, hP3, hT3, hX3, -⟩, hn2⟩ := m_put hci hi hk ht hM2 hP1 sw2 hX1 (by omega)
      have hn2 := hn2 h14
      rw [if_neg hn2] at hM3
      obtain ⟨k4, r4, hM4, hP4, hT4, hX4, hd4⟩ := m_tp hi hM3 hP3 hT3 hX3 (by omega)
      have eM : sWe (fX11_takePlainS (fX11_ruleS (sE M 0) 1 4) (nI i)) (upd ((fX11_takePlainS (fX11_ruleS (sE M 0) 1 4) (nI i)).2.2.2.2.1) (fX11_takePlainR (fX11_ruleS (sE M 0) 1 4) (nI i)).toNatClampNeg (vp_nar .boolean 0)) = sWe (fX11_takePlainS (fX11_ruleS (sE M 0) 1 4) (nI i)) (upd (fX4_takeActS P T (fX8_beginS X 1 4)).2.1.2.2.2.1 t (vp_nar .boolean 0)) := by
        rw [r_we hM1, rt, ct]
      have eR : fX0_takeActR ci P T X = _ := (if_neg d1).trans (if_neg z)
      have eS : fX0_takeActS ci P T X = fX4_takeActS (kputActS ci (fX4_takeActS P T (fX8_beginS X 1 4)).1 (fX7_setWetS (fX4_takeActS P T (fX8_beginS X 1 4)).2.1 (fX4_takeActR P T (fX8_beginS X 1 4)) 0) (fX4_takeActS P T (fX8_beginS X 1 4)).2.2 (fX4_takeActR P T (fX8_beginS X 1 4))).1 (kputActS ci (fX4_takeActS P T (fX8_beginS X 1 4)).1 (fX7_setWetS (fX4_takeActS P T (fX8_beginS X 1 4)).2.1 (fX4_takeActR P T (fX8_beginS X 1 4)) 0) (fX4_takeActS P T (fX8_beginS X 1 4)).2.2 (fX4_takeActR P T (fX8_beginS X 1 4))).2.1 (kputActS ci (fX4_takeActS P T (fX8_beginS X 1 4)).1 (fX7_setWetS (fX4_takeActS P T (fX8_beginS X 1 4)).2.1 (fX4_takeActR P T (fX8_beginS X 1 4)) 0) (fX4_takeActS P T (fX8_beginS X 1 4)).2.2 (fX4_takeActR P T (fX8_beginS X 1 4))).2.2 := by
        unfold fX0_takeActS
        rw [if_neg d1, if_neg z, if_neg d1, if_neg z, if_neg d1, if_neg z]
      rw [eR, eS, d]
      refine TO.mk1 hn ⟨k0, k1, fun _ => trivial, fun _ => ⟨v60, fun q => absurd q z', fun _ => ⟨?_, ?_, trivial⟩⟩⟩ (((if_neg d').trans (if_neg z')).trans ?_) ?_ hP4 hT4 (hX4.mono (by omega)) hd4
      · rw [eM, rt]; exact k3
      · rw [eM, rt]; exact k4
      · rw [eM, rt]; exact r4
      · have e9 : dyS M (nI i) = _ := (if_neg d').trans (if_neg z')
        rw [e9, eM, rt]
        exact hM4
theorem m_le (hi : i < 12) (hM : MR i cd pn kd cp lm mn0 rw0 P T X en M) (hP : GL i nt (cp i) (lm i) P) (hT : GT nt T) (hX : GD b X) (hb : b + 8 < 2 ^ 30) :
    TO nt (b + 8) i cd pn kd cp lm mn0 rw0 (fX1_takeActR P T X) (fX1_takeActS P T X) (leK M (nI i)) (leR M (nI i)) (leS M (nI i)) := by
  obtain ⟨k0, hM0, hX0⟩ := m_rule (m_sE hM 0) hX (by omega) 1 7
  obtain ⟨k1, r1, hM1, hP1, hT1, hX1, hd⟩ := m_tp hi hM0 hP hT hX0 (by omega)
  have hn := hT.le
  rcases hd with d | ⟨t, ht, d⟩
  · have d' : fX11_takePlainR (fX11_ruleS (sE M 0) 1 7) (nI i) = -1 := r1.trans d
    have eR : fX1_takeActR P T X = -2 := if_pos d
    have eS : fX1_takeActS P T X = ((fX4_takeActS P T (fX8_beginS X 1 7)).1, (fX4_takeActS P T (fX8_beginS X 1 7)).2.1, fX8_countNothingS (fX4_takeActS P T (fX8_beginS X 1 7)).2.2) := by
      unfold fX1_takeActS
      rw [if_pos d, if_pos d]
    rw [eR, eS]
    refine ⟨⟨k0, k1, fun _ => trivial, fun q => absurd d' q⟩, if_pos d', ?_, hP1, hT1, (g_no hX1).mono (by omega), Or.inr (Or.inl rfl)⟩
    have e9 : leS M (nI i) = _ := if_pos d'
    rw [e9]
    exact m_sNo hM1
  · have d1 : ¬ fX4_takeActR P T (fX8_beginS X 1 7) = -1 := by rw [d]; exact nI_m1 (by omega)
    have d' : ¬ fX11_takePlainR (fX11_ruleS (sE M 0) 1 7) (nI i) = -1 := by rw [r1]; exact d1
    have rt : fX11_takePlainR (fX11_ruleS (sE M 0) 1 7) (nI i) = nI t := r1.trans d
    have ct : (nI t).toNatClampNeg = t := nI_clamp (by omega)
    have v60 : vp_in (fX11_takePlainR (fX11_ruleS (sE M 0) 1 7) (nI i)) 60 := by rw [rt]; exact vp_in_nI (by omega) (by omega)
    have eR : fX1_takeActR P T X = fX4_takeActR P T (fX8_beginS X 1 7) := if_neg d1
    have eS : fX1_takeActS P T X = ((fX4_takeActS P T (fX8_beginS X 1 7)).1, fX7_lightenS (fX4_takeActS P T (fX8_beginS X 1 7)).2.1 (nI t), (fX4_takeActS P T (fX8_beginS X 1 7)).2.2) := by
      unfold fX1_takeActS
      rw [if_neg d1, if_neg d1, d]
    obtain ⟨ln, wt, we, li, eT, hn', hw, hz⟩ := hT1
    obtain ⟨w, w1, w2, w3⟩ := hw t ht
    have hwt : ((fX11_takePlainS (fX11_ruleS (sE M 0) 1 7) (nI i)).2.2.2.1) = wt := by rw [r_wt hM1, eT]
    have eL : fX7_lightenS (fX4_takeActS P T (fX8_beginS X 1 7)).2.1 (nI t) = (nI nt, ln, upd wt t (if w ≤ 1 then 1 else nI (w - 1)), we, li) := by
      rw [eT]
      unfold fX7_lightenS
      rw [has_in ht hn, if_neg (by decide), ct]
      show (nI nt, ln, upd wt t (if 1 < wt t - 1 then wt t - 1 else 1), we, li) = _
      have ew : wt t - 1 = nI (w - 1) := by rw [w3]; exact pk_sub (b := 1) w1
      rw [ew]
      by_cases q : w ≤ 1
      · rw [if_pos q, if_neg (show ¬ (1 : Int32) < nI (w - 1) from nI_nlt (b := w - 1) (a := 1) (by omega) (by omega))]
      · rw [if_neg q]
        by_cases q2 : 1 < w - 1
        · rw [if_pos (show (1 : Int32) < nI (w - 1) from nI_lt (a := 1) q2 (by omega))]
        · rw [if_neg (show ¬ (1 : Int32) < nI (w - 1) from nI_nlt (b := w - 1) (a := 1) (by omega) (by omega))]
          have : w - 1 = 1 := by omega
          rw [this]
          rfl
    have hT2 : GT nt (fX7_lightenS (fX4_takeActS P T (fX8_beginS X 1 7)).2.1 (nI t)) := by
      rw [eL]
      refine ⟨_, _, _, _, rfl, hn, fun k hk => ?_, hz⟩
      by_cases z : k = t
      · subst z
        rw [pk_us]
        by_cases q : w ≤ 1
        · rw [if_pos q]; exact ⟨1, by omega, by omega, rfl⟩
        · rw [if_neg q]; exact ⟨w - 1, by omega, by omega, rfl⟩
      · rw [pk_un z]; exact hw k hk
    rw [eR, eS]
    have hM2 := m_sWt hM1 (upd wt t (if w ≤ 1 then 1 else nI (w - 1)))
    have eT2 : ((fX4_takeActS P T (fX8_beginS X 1 7)).2.1.1, (fX4_takeActS P T (fX8_beginS X 1 7)).2.1.2.1, upd wt t (if w ≤ 1 then 1 else nI (w - 1)), (fX4_takeActS P T (fX8_beginS X 1 7)).2.1.2.2.2.1, (fX4_takeActS P T (fX8_beginS X 1 7)).2.1.2.2.2.2) = fX7_lightenS (fX4_takeActS P T (fX8_beginS X 1 7)).2.1 (nI t) := by
      rw [eL, eT]
    rw [eT2] at hM2
    have hcnd : (((fX11_takePlainS (fX11_ruleS (sE M 0) 1 7) (nI i)).2.2.2.1) (fX11_takePlainR (fX11_ruleS (sE M 0) 1 7) (nI i)).toNatClampNeg) = nI w := by rw [hwt, rt, ct, w3]
    by_cases q : w ≤ 1
    · have q' : (((fX11_takePlainS (fX11_ruleS (sE M 0) 1 7) (nI i)).2.2.2.1) (fX11_takePlainR (fX11_ruleS (sE M 0) 1 7) (nI i)).toNatClampNeg) ≤ 1 := by rw [hcnd]; exact nI_le (b := 1) q (by omega)
      refine TO.mk1 hn ⟨k0, k1, fun _ => trivial, fun _ => ⟨v60, fun _ => trivial, fun _ => trivial⟩⟩ (((if_neg d').trans (if_pos q')).trans r1) ?_ hP1 hT2 (hX1.mono (by omega)) (Or.inr ⟨t, ht, d⟩)
      have e9 : leS M (nI i) = _ := (if_neg d').trans (if_pos q')
      rw [if_pos q] at hM2
      rw [e9, hwt, rt, ct]
      exact hM2
    · have q' : ¬ (((fX11_takePlainS (fX11_ruleS (sE M 0) 1 7) (nI i)).2.2.2.1) (fX11_takePlainR (fX11_ruleS (sE M 0) 1 7) (nI i)).toNatClampNeg) ≤ 1 := by rw [hcnd]; exact nI_ge (a := 1) (by omega) (by omega)
      refine TO.mk1 hn ⟨k0, k1, fun _ => trivial, fun _ => ⟨v60, fun _ => trivial, fun _ => trivial⟩⟩ (((if_neg d').trans (if_neg q')).trans r1) ?_ hP1 hT2 (hX1.mono (by omega)) (Or.inr ⟨t, ht, d⟩)
      have e9 : leS M (nI i) = _ := (if_neg d').trans (if_neg q')
      rw [if_neg q] at hM2
      have ew : nI w - 1 = nI (w - 1) := pk_sub (b := 1) w1
      rw [e9, hcnd, hwt, rt, ct, ew]
      exact hM2
theorem m_take (hci : pkAll ci) (hi : i < 12) (hk : kd i = kdz ci) (hM : MR i cd pn kd cp lm mn0 rw0 P T X en M) (hP : GL i nt (cp i) (lm i) P) (hT : GT nt T) (hX : GD b X) (hb : b + 8 < 2 ^ 30) :
    TO nt (b + 8) i cd pn kd cp lm mn0 rw0 (ktakeActR ci P T X) (ktakeActS ci P T X) (fX11_takeOfK M (nI i)) (fX11_takeOfR M (nI i)) (fX11_takeOfS M (nI i)) := by
  have hkm : M.2.2.2.2.2.2.2.1 (nI i).toNatClampNeg = kdz ci := by rw [r_kd hM, (r_i hi).1, hk]
  have v := (r_i hi).2
  have ne : ∀ {a c : Int32}, M.2.2.2.2.2.2.2.1 (nI i).toNatClampNeg = a → ¬ a = c → ¬ M.2.2.2.2.2.2.2.1 (nI i).toNatClampNeg = c := fun h1 h2 h3 => h2 (h1.symm.trans h3)
  have hpl : TO nt (b + 8) i cd pn kd cp lm mn0 rw0 (fX4_takeActR P T X) (fX4_takeActS P T X) (fX11_takePlainK (sE M 0) (nI i)) (fX11_takePlainR (sE M 0) (nI i)) (fX11_takePlainS (sE M 0) (nI i)) := by
    obtain ⟨k2, r2, hM2, hP2, hT2, hX2, hd⟩ := m_tp hi (m_sE hM 0) hP hT hX (by omega)
    exact TO.mk1 hT.le k2 r2 hM2 hP2 hT2 (hX2.mono (by omega)) hd
  rw [q_takeOfR, q_takeOfS]
  rcases pk_kd hci with ⟨rfl, e⟩ | ⟨rfl, e⟩ | ⟨rfl, e⟩ | ⟨rfl, e⟩ | ⟨rfl, e⟩ | ⟨rfl, e⟩ | ⟨rfl, e⟩ | ⟨rfl, e⟩ <;> rw [e] at hkm
  case inr.inl =>
    have n4 := ne (c := 4) hkm (by decide)
    have n6 := ne (c := 6) hkm (by decide)
    exact (m_le hi hM hP hT hX hb).tr (fun h => ⟨v, fun q => absurd q n4, fun _ => ⟨fun q => absurd q n6, fun _ => ⟨fun _ => h, fun q => absurd hkm q⟩⟩⟩) ((if_neg n4).trans ((if_neg n6).trans (if_pos hkm))) ((if_neg n4).trans ((if_neg n6).trans (if_pos hkm)))
  case inr.inr.inl =>
    have n4 := ne (c := 4) hkm (by decide)
    exact (m_dy hci (Or.inr rfl) hi hk hM hP hT hX hb).tr (fun h => ⟨v, fun q => absurd q n4, fun _ => ⟨fun _ => h, fun q => absurd hkm q⟩⟩) ((if_neg n4).trans (if_pos hkm)) ((if_neg n4).trans (if_pos hkm))
  case inr.inr.inr.inl =>
    exact (m_dy hci (Or.inl rfl) hi hk hM hP hT hX hb).tr (fun h => ⟨v, fun _ => h, fun q => absurd hkm q⟩) (if_pos hkm) (if_pos hkm)
  all_goals
    have n4 := ne (c := 4) hkm (by decide)
    have n6 := ne (c := 6) hkm (by decide)
    have n7 := ne (c := 7) hkm (by decide)
    exact hpl.tr (fun h => ⟨v, fun q => absurd q n4, fun _ => ⟨fun q => absurd q n6, fun _ => ⟨fun q => absurd q n7, fun _ => ⟨h, trivial⟩⟩⟩⟩) ((if_neg n4).trans ((if_neg n6).trans (if_neg n7))) ((if_neg n4).trans ((if_neg n6).trans (if_neg n7)))
/-- free -/
theorem m_fs (hci : pkAll ci) (hi : i < 12) (hk : kd i = kdz ci) (hM : MR i cd pn kd cp lm mn0 rw0 P T X en M) (hP : GL i nt (cp i) (lm i) P) (hT : GT nt T) (hX : GD b X) (hb : b + 4 < 2 ^ 30) :
    fX11_freeStrictK M (nI i) ∧ fX11_freeStrictR M (nI i) = fX6_freeActR ci P T X ∧ MR i cd pn kd cp lm mn0 rw0 P T (fX6_freeActS ci P T X).2.2 en (fX11_freeStrictS M (nI i)) ∧ GD (b + 4) (fX6_freeActS ci P T X).2.2 := by
  obtain ⟨k0, hM0, hX0⟩ := m_rule hM hX (by omega) 4 3
  obtain ⟨k1, r1, hM1, hX1⟩ := m_load hci hi hk hM0 hP hT hX0 (by omega)
  obtain ⟨k2, hM2, hX2⟩ := m_rule hM1 hX1 (by omega) 4 0
  have hlm : P.2.2.1 = lm i ∧ P.2.1 = cp i := by
    obtain ⟨c, h, r, rfl, e, -⟩ := hP
    exact ⟨rfl, e.symm⟩
  have hc : (fX11_loadOfR (fX11_ruleS M 4 3) (nI i) < ((fX11_loadOfS (fX11_ruleS M 4 3) (nI i)).2.2.2.2.2.2.2.2.2.1) (nI i).toNatClampNeg) = (kloadActR ci P T (fX8_beginS X 4 3) < P.2.2.1) := by
    rw [r1, r_lm hM1, (r_i hi).1, hlm.1]
  by_cases q : kloadActR ci P T (fX8_beginS X 4 3) < P.2.2.1
  · have q' := q
    rw [← hc] at q'
    have eR : fX6_freeActR ci P T X = P.2.1 - P.2.2.2.2 := if_pos q
    have eS : (fX6_freeActS ci P T X).2.2 = fX8_beginS (kloadActS ci P T (fX8_beginS X 4 3)).2.2 4 0 := if_pos q
    rw [eR, eS]
    refine ⟨⟨k0, k1, (r_i hi).2, fun _ => ⟨k2, trivial⟩, fun h => absurd q' h⟩, (if_pos q').trans ?_, ?_, hX2.mono (by omega)⟩
    · rw [r_cp hM2, (r_i hi).1, r_mn hM2, hlm.2]
    · have e9 : fX11_freeStrictS M (nI i) = _ := if_pos q'
      rw [e9]
      exact hM2
  · have q' := q
    rw [← hc] at q'
    have eR : fX6_freeActR ci P T X = 0 := if_neg q
    have eS : (fX6_freeActS ci P T X).2.2 = (kloadActS ci P T (fX8_beginS X 4 3)).2.2 := if_neg q
    rw [eR, eS]
    refine ⟨⟨k0, k1, (r_i hi).2, fun h => absurd h q', fun _ => trivial⟩, if_neg q', ?_, hX1.mono (by omega)⟩
    have e9 : fX11_freeStrictS M (nI i) = _ := if_neg q'
    rw [e9]
    exact hM1
theorem m_free (hci : pkAll ci) (hi : i < 12) (hk : kd i = kdz ci) (hM : MR i cd pn kd cp lm mn0 rw0 P T X en M) (hP : GL i nt (cp i) (lm i) P) (hT : GT nt T) (hX : GD b X) (hb : b + 5 < 2 ^ 30) :
    fX11_freeOfK M (nI i) ∧ fX11_freeOfR M (nI i) = kfreeActR ci P T X ∧ MR i cd pn kd cp lm mn0 rw0 P T (kfreeActS ci P T X).2.2 en (fX11_freeOfS M (nI i)) ∧ GD (b + 5) (kfreeActS ci P T X).2.2 := by
  have hkm : M.2.2.2.2.2.2.2.1 (nI i).toNatClampNeg = kdz ci := by rw [r_kd hM, (r_i hi).1, hk]
  have v := (r_i hi).2
  have ne : ∀ {a c : Int32}, M.2.2.2.2.2.2.2.1 (nI i).toNatClampNeg = a → ¬ a = c → ¬ M.2.2.2.2.2.2.2.1 (nI i).toNatClampNeg = c := fun h1 h2 h3 => h2 (h1.symm.trans h3)
  have hpl : fX11_ruleK M 4 0 ∧ (((fX11_ruleS M 4 0).2.2.2.2.2.2.2.2.1) (nI i).toNatClampNeg - ((fX11_ruleS M 4 0).2.2.2.2.2.2.2.2.2.2.1) (nI i).toNatClampNeg) = fX4_freeActR P T X ∧ MR i cd pn kd cp lm mn0 rw0 P T (fX8_beginS X 4 0) en (fX11_ruleS M 4 0) ∧ GD (b + 5) (fX8_beginS X 4 0) := by
    obtain ⟨k2, hM2, hX2⟩ := m_rule hM hX (by omega) 4 0
    refine ⟨k2, ?_, hM2, hX2.mono (by omega)⟩
    have hcp : P.2.1 = cp i := by
      obtain ⟨c, h, r, rfl, e, -⟩ := hP
      exact e.symm
    rw [r_cp hM2, (r_i hi).1, r_mn hM2, ← hcp]
    rfl
  unfold fX11_freeOfR fX11_freeOfS
  rcases pk_kd hci with ⟨rfl, e⟩ | ⟨rfl, e⟩ | ⟨rfl, e⟩ | ⟨rfl, e⟩ | ⟨rfl, e⟩ | ⟨rfl, e⟩ | ⟨rfl, e⟩ | ⟨rfl, e⟩ <;> rw [e] at hkm
  case inl =>
    have n7 := ne (c := 7) hkm (by decide)
    have n3 := ne (c := 3) hkm (by decide)
    obtain ⟨k2, r2, hM2, hX2⟩ := m_fs hci hi hk hM hP hT hX (by omega)
    rw [if_neg n7, if_neg n3, if_pos hkm, if_neg n7, if_neg n3, if_pos hkm]
    exact ⟨⟨v, fun q => absurd q n7, fun _ => ⟨fun q => absurd q n3, fun _ => ⟨fun _ => ⟨k2, trivial⟩, fun q => absurd hkm q⟩⟩⟩, r2, hM2, hX2.mono (by omega)⟩
  case inr.inl =>
    obtain ⟨k1, hM1, hX1⟩ := m_rule hM hX (by omega) 4 7
    obtain ⟨k2, r2, hM2, hX2⟩ := m_fs hci hi hk hM1 hP hT hX1 (by omega)
    rw [if_pos hkm, if_pos hkm, r2, ite_self]
    refine ⟨⟨v, fun _ => ⟨k1, k2, fun _ => trivial, fun _ => trivial⟩, fun q => absurd hkm q⟩, ?_, hM2, hX2.mono (by omega)⟩
    show _ = fX1_freeActR 2 P T X
    unfold fX1_freeActR
    by_cases q : (0 : Int32) < fX6_freeActR 2 P T (fX8_beginS X 4 7) - 1
    · rw [if_pos q, if_pos (Int32.le_of_lt q)]
    · rw [if_neg q]
      by_cases q2 : (0 : Int32) ≤ fX6_freeActR 2 P T (fX8_beginS X 4 7) - 1
      · rw [if_pos q2]
        exact Int32.le_antisymm (Int32.not_lt.mp q) q2
      · rw [if_neg q2]
  case inr.inr.inr.inr.inl =>
    have n7 := ne (c := 7) hkm (by decide)
    obtain ⟨k2, r2, hM2, hX2⟩ := m_fs hci hi hk hM hP hT hX (by omega)
    rw [if_neg n7, if_pos hkm, if_neg n7, if_pos hkm]
    exact ⟨⟨v, fun q => absurd q n7, fun _ => ⟨fun _ => ⟨k2, trivial⟩, fun q => absurd hkm q⟩⟩, r2, hM2, hX2.mono (by omega)⟩
  all_goals
    have n7 := ne (c := 7) hkm (by decide)
    have n3 := ne (c := 3) hkm (by decide)
    have n5 := ne (c := 5) hkm (by decide)
    rw [if_neg n7, if_neg n3, if_neg n5, if_neg n7, if_neg n3, if_neg n5]
    exact ⟨⟨v, fun q => absurd q n7, fun _ => ⟨fun q => absurd q n3, fun _ => ⟨fun q => absurd q n5, fun _ => ⟨hpl.1, trivial⟩⟩⟩⟩, hpl.2.1, hpl.2.2.1, hpl.2.2.2⟩
end ST
