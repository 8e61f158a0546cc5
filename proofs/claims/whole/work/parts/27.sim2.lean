section AC
variable {i nt b : Nat} {cd pn en : Int32} {kd cp lm mn0 rw0 : FN} {P : PP} {T : TT} {X : DD} {M : MM}
theorem r_cd (h : MR i cd pn kd cp lm mn0 rw0 P T X en M) : M.1 = cd := by
  obtain ⟨mn, rw, rfl, -⟩ := h
  rfl
theorem r_ts (h : MR i cd pn kd cp lm mn0 rw0 P T X en M) : M.2.1 = T.1 := by
  obtain ⟨mn, rw, rfl, -⟩ := h
  rfl
theorem r_ln (h : MR i cd pn kd cp lm mn0 rw0 P T X en M) : M.2.2.1 = T.2.1 := by
  obtain ⟨mn, rw, rfl, -⟩ := h
  rfl
theorem r_wt (h : MR i cd pn kd cp lm mn0 rw0 P T X en M) : M.2.2.2.1 = T.2.2.1 := by
  obtain ⟨mn, rw, rfl, -⟩ := h
  rfl
theorem r_we (h : MR i cd pn kd cp lm mn0 rw0 P T X en M) : M.2.2.2.2.1 = T.2.2.2.1 := by
  obtain ⟨mn, rw, rfl, -⟩ := h
  rfl
theorem r_li (h : MR i cd pn kd cp lm mn0 rw0 P T X en M) : M.2.2.2.2.2.1 = T.2.2.2.2 := by
  obtain ⟨mn, rw, rfl, -⟩ := h
  rfl
theorem r_pn (h : MR i cd pn kd cp lm mn0 rw0 P T X en M) : M.2.2.2.2.2.2.1 = pn := by
  obtain ⟨mn, rw, rfl, -⟩ := h
  rfl
theorem r_kd (h : MR i cd pn kd cp lm mn0 rw0 P T X en M) : M.2.2.2.2.2.2.2.1 = kd := by
  obtain ⟨mn, rw, rfl, -⟩ := h
  rfl
theorem r_cp (h : MR i cd pn kd cp lm mn0 rw0 P T X en M) : M.2.2.2.2.2.2.2.2.1 = cp := by
  obtain ⟨mn, rw, rfl, -⟩ := h
  rfl
theorem r_lm (h : MR i cd pn kd cp lm mn0 rw0 P T X en M) : M.2.2.2.2.2.2.2.2.2.1 = lm := by
  obtain ⟨mn, rw, rfl, -⟩ := h
  rfl
theorem r_tr (h : MR i cd pn kd cp lm mn0 rw0 P T X en M) : M.2.2.2.2.2.2.2.2.2.2.2.2.1 = X.1 := by
  obtain ⟨mn, rw, rfl, -⟩ := h
  rfl
theorem r_dn (h : MR i cd pn kd cp lm mn0 rw0 P T X en M) : M.2.2.2.2.2.2.2.2.2.2.2.2.2.1 = X.2.2.2.1 := by
  obtain ⟨mn, rw, rfl, -⟩ := h
  rfl
theorem r_hv (h : MR i cd pn kd cp lm mn0 rw0 P T X en M) : M.2.2.2.2.2.2.2.2.2.2.2.2.2.2.1 = X.2.2.2.2.1 := by
  obtain ⟨mn, rw, rfl, -⟩ := h
  rfl
theorem r_no (h : MR i cd pn kd cp lm mn0 rw0 P T X en M) : M.2.2.2.2.2.2.2.2.2.2.2.2.2.2.2.1 = X.2.2.2.2.2 := by
  obtain ⟨mn, rw, rfl, -⟩ := h
  rfl
theorem r_en (h : MR i cd pn kd cp lm mn0 rw0 P T X en M) : M.2.2.2.2.2.2.2.2.2.2.2.2.2.2.2.2 = en := by
  obtain ⟨mn, rw, rfl, -⟩ := h
  rfl
theorem r_mn (h : MR i cd pn kd cp lm mn0 rw0 P T X en M) : M.2.2.2.2.2.2.2.2.2.2.1 i = P.2.2.2.2 := by
  obtain ⟨mn, rw, rfl, h1, -⟩ := h
  exact h1
theorem r_rw (h : MR i cd pn kd cp lm mn0 rw0 P T X en M) {k : Nat} (hk : k < 12) : M.2.2.2.2.2.2.2.2.2.2.2.1 (12 * i + k) = P.2.2.2.1 k := by
  obtain ⟨mn, rw, rfl, h1, h2, -⟩ := h
  exact h2 k hk
end AC
theorem r_i {i : Nat} (hi : i < 12) : (nI i).toNatClampNeg = i ∧ vp_in (nI i) 12 := ⟨nI_clamp (by omega), vp_in_nI (by omega) (by omega)⟩
section M1
variable {i nt b ci : Nat} {cd pn en : Int32} {kd cp lm mn0 rw0 : FN} {P : PP} {T : TT} {X : DD} {M : MM}
theorem m_gl (hi : i < 12) (hM : MR i cd pn kd cp lm mn0 rw0 P T X en M) (hP : GL i nt (cp i) (lm i) P) (hT : GT nt T) : ∃ aw ad : Int32, (∀ X', fX4_loadActR P T X' = aw) ∧ (∀ X', fX3_loadActR P T X' = aw + 10 * ad) ∧
    ∀ (fin : Int32 → Int32 → Int32) (M0 : MM), gLR M (nI i) fin (((M.2.2.2.2.2.2.2.2.2.2.1) (nI i).toNatClampNeg).toNatClampNeg + 1) (0, 0, 0) = fin aw ad ∧ gLS M (nI i) M0 (((M.2.2.2.2.2.2.2.2.2.2.1) (nI i).toNatClampNeg).toNatClampNeg + 1) (0, 0, 0) = M ∧ gLK M (nI i) (((M.2.2.2.2.2.2.2.2.2.2.1) (nI i).toNatClampNeg).toNatClampNeg + 1) (0, 0, 0) := by
  obtain ⟨mn, rw, rfl, h1, h2, h3, h4⟩ := hM
  obtain ⟨c, h, r, rfl, -, hc1, hc2, hh, hr⟩ := hP
  obtain ⟨ln, wt, we, li, rfl, hn, -, -⟩ := hT
  refine ⟨aW r wt h, aD r we h, fun X' => cl_load hn (by omega) hr, fun X' => cl_load3 hn (by omega) hr, fun fin M0 => ?_⟩
  have e : (mn (nI i).toNatClampNeg).toNatClampNeg + 1 = h + 1 := by
    rw [(r_i hi).1, h1]
    show (nI h).toNatClampNeg + 1 = h + 1
    rw [nI_clamp (by omega)]
  have q := g_all (cd := cd) (pn := pn) (en := en) (kd := kd) (cp := cp) (lm := lm) (mn := mn) (rw := rw) (X := X) (ln := ln) (wt := wt) (we := we) (li := li) fin M0 hi hn (show h ≤ 12 by omega) h1 h2 hr (h + 1) 0 (by omega) (by omega)
  rw [← e] at q
  exact q
theorem pk_kd (h : pkAll ci) : (ci = 10 ∧ kdz ci = 5) ∨ (ci = 2 ∧ kdz ci = 7) ∨ (ci = 4 ∧ kdz ci = 6) ∨ (ci = 1 ∧ kdz ci = 4) ∨ (ci = 7 ∧ kdz ci = 3) ∨ (ci = 6 ∧ kdz ci = 2) ∨ (ci = 3 ∧ kdz ci = 1) ∨ (ci = 5 ∧ kdz ci = 0) := by
  rcases h with rfl | rfl | rfl | rfl | rfl | rfl | rfl | rfl <;> simp [kdz]
theorem m_load_plain (hi : i < 12) (h5 : ¬ kd i = 5) (h7 : ¬ kd i = 7) (h6 : ¬ kd i = 6) (hM : MR i cd pn kd cp lm mn0 rw0 P T X en M) (hP : GL i nt (cp i) (lm i) P) (hT : GT nt T) (hX : GD b X) (hb : b + 2 < 2 ^ 30) :
    fX11_loadOfK M (nI i) ∧ fX11_loadOfR M (nI i) = fX4_loadActR P T X ∧ MR i cd pn kd cp lm mn0 rw0 P T (fX8_beginS X 2 0) en (fX11_loadOfS M (nI i)) ∧ GD (b + 2) (fX8_beginS X 2 0) := by
  have hk : M.2.2.2.2.2.2.2.1 (nI i).toNatClampNeg = kd i := by rw [r_kd hM, (r_i hi).1]
  obtain ⟨k1, hM1, hX1⟩ := m_rule hM hX (by omega) 2 0
  obtain ⟨aw, ad, w1, w2, hg⟩ := m_gl hi hM1 hP hT
  obtain ⟨g1, g2, g3⟩ := hg (fun a _ => a) M
  rw [← hk] at h5 h7 h6
  refine ⟨⟨(r_i hi).2, fun q => absurd q h5, fun _ => ⟨fun q => absurd q h7, fun _ => ⟨fun q => absurd q h6, fun _ => ⟨k1, lo_2K _ _ _ _ g3, trivial⟩⟩⟩⟩, ?_, ?_, hX1.mono (by omega)⟩
  · unfold fX11_loadOfR
    rw [if_neg h5, if_neg h7, if_neg h6, lo_2R, g1, w1 X]
  · unfold fX11_loadOfS
    rw [if_neg h5, if_neg h7, if_neg h6, lo_2S, g2]
    exact hM1
theorem m_load (hci : pkAll ci) (hi : i < 12) (hk : kd i = kdz ci) (hM : MR i cd pn kd cp lm mn0 rw0 P T X en M) (hP : GL i nt (cp i) (lm i) P) (hT : GT nt T) (hX : GD b X) (hb : b + 2 < 2 ^ 30) :
    fX11_loadOfK M (nI i) ∧ fX11_loadOfR M (nI i) = kloadActR ci P T X ∧ MR i cd pn kd cp lm mn0 rw0 P T (kloadActS ci P T X).2.2 en (fX11_loadOfS M (nI i)) ∧ GD (b + 2) (kloadActS ci P T X).2.2 := by
  have hkm : M.2.2.2.2.2.2.2.1 (nI i).toNatClampNeg = kdz ci := by rw [r_kd hM, (r_i hi).1, hk]
  rcases pk_kd hci with ⟨rfl, e⟩ | ⟨rfl, e⟩ | ⟨rfl, e⟩ | ⟨rfl, e⟩ | ⟨rfl, e⟩ | ⟨rfl, e⟩ | ⟨rfl, e⟩ | ⟨rfl, e⟩
  · rw [e] at hkm
    obtain ⟨k1, hM1, hX1⟩ := m_rule hM hX (by omega) 2 5
    obtain ⟨k2, hM2, hX2⟩ := m_rule hM1 hX1 (by omega) 2 0
    obtain ⟨aw, ad, w1, w2, hg⟩ := m_gl hi hM2 hP hT
    obtain ⟨g1, g2, g3⟩ := hg (fun a _ => 2 * a) M
    refine ⟨⟨(r_i hi).2, fun _ => ⟨k1, k2, lo_1K _ _ _ _ g3, trivial⟩, fun q => absurd hkm q⟩, ?_, ?_, hX2⟩
    · unfold fX11_loadOfR
      rw [if_pos hkm, lo_1R, g1, ← w1 (fX8_beginS X 2 5)]
      rfl
    · unfold fX11_loadOfS
      rw [if_pos hkm, lo_1S, g2]
      exact hM2
  · rw [e] at hkm
    have h5 : ¬ M.2.2.2.2.2.2.2.1 (nI i).toNatClampNeg = 5 := by rw [hkm]; decide
    obtain ⟨k1, hM1, hX1⟩ := m_rule hM hX (by omega) 2 5
    obtain ⟨k2, hM2, hX2⟩ := m_rule hM1 hX1 (by omega) 2 0
    obtain ⟨aw, ad, w1, w2, hg⟩ := m_gl hi hM2 hP hT
    obtain ⟨g1, g2, g3⟩ := hg (fun a _ => 2 * a) M
    refine ⟨⟨(r_i hi).2, fun q => absurd q h5, fun _ => ⟨fun _ => ⟨k1, k2, lo_4K _ _ _ _ g3, trivial⟩, fun q => absurd hkm q⟩⟩, ?_, ?_, hX2⟩
    · unfold fX11_loadOfR
      rw [if_neg h5, if_pos hkm, lo_4R, g1, ← w1 (fX8_beginS X 2 5)]
      rfl
    · unfold fX11_loadOfS
      rw [if_neg h5, if_pos hkm, lo_4S, g2]
      exact hM2
  · rw [e] at hkm
    have h5 : ¬ M.2.2.2.2.2.2.2.1 (nI i).toNatClampNeg = 5 := by rw [hkm]; decide
    have h7 : ¬ M.2.2.2.2.2.2.2.1 (nI i).toNatClampNeg = 7 := by rw [hkm]; decide
    obtain ⟨k1, hM1, hX1⟩ := m_rule hM hX (by omega) 2 6
    obtain ⟨k2, hM2, hX2⟩ := m_rule hM1 hX1 (by omega) 2 0
    obtain ⟨aw, ad, w1, w2, hg⟩ := m_gl hi hM2 hP hT
    obtain ⟨g1, g2, g3⟩ := hg (fun a z => a + 10 * z) M
    refine ⟨⟨(r_i hi).2, fun q => absurd q h5, fun _ => ⟨fun q => absurd q h7, fun _ => ⟨fun _ => ⟨k1, k2, lo_3K _ _ _ _ g3, trivial⟩, fun q => absurd hkm q⟩⟩⟩, ?_, ?_, hX2⟩
    · unfold fX11_loadOfR
      rw [if_neg h5, if_neg h7, if_pos hkm, lo_3R, g1, ← w2 X]
      rfl
    · unfold fX11_loadOfS
      rw [if_neg h5, if_neg h7, if_pos hkm, lo_3S, g2]
      exact hM2
  all_goals
    rw [e] at hk
    exact m_load_plain hi (by rw [hk]; decide) (by rw [hk]; decide) (by rw [hk]; decide) hM hP hT hX hb
end M1
/-! the search for the lowest -/
def aS (r ln : FN) (L : Int32) : Nat → Nat → Int32
  | 0, _ => -1
  | m + 1, k => if ln (r k).toNatClampNeg < L then aS r ln L m (k + 1) else nI k
theorem aS_in {r ln : FN} {L : Int32} : ∀ m k, aS r ln L m k = -1 ∨ ∃ q, k ≤ q ∧ q < k + m ∧ aS r ln L m k = nI q := by
  intro m
  induction m with
  | zero => intro k; exact Or.inl rfl
  | succ m ih =>
    intro k
    unfold aS
    by_cases w : ln (r k).toNatClampNeg < L
    · rw [if_pos w]
      rcases ih (k + 1) with h | ⟨q, h1, h2, h3⟩
      · exact Or.inl h
      · exact Or.inr ⟨q, by omega, by omega, h3⟩
    · rw [if_neg w]
      exact Or.inr ⟨k, by omega, by omega, rfl⟩
theorem cl_sr {i nt : Nat} {c q lmv L : Int32} {h : Nat} {ln wt we li r : FN} {X : DD} (hn : nt ≤ 60) (hh : h ≤ 12) (hr : ∀ k, k < h → ∃ t, t < nt ∧ r k = nI t) : ∀ f k, h - k < f → k ≤ h → lX4_search (q, c, lmv, r, nI h) (nI nt, ln, wt, we, li) X L f (nI k) = aS r ln L (h - k) k := by
  intro f
  induction f with
  | zero => intro k h1; omega
  | succ f ih =>
    intro k h1 h2
    unfold lX4_search
    by_cases e : k = h
    · subst e
      rw [if_pos (nI_le (Nat.le_refl _) (by omega)), Nat.sub_self]
      rfl
    · obtain ⟨t, ht, hrt⟩ := hr k (by omega)
      have e2 : h - k = (h - (k + 1)) + 1 := by omega
      rw [if_neg (nI_ge (by omega) (by omega)), ta_in (by omega) hh, hrt, lo_in ht hn, nI_1, e2]
      unfold aS
      rw [hrt, nI_clamp (by omega)]
      by_cases w : ln t < L
      · rw [if_pos w, if_pos w]
        exact ih (k + 1) (by omega) (by omega)
      · rw [if_neg w, if_neg w]
theorem rf_sr {i nt : Nat} {cd pn en L : Int32} {kd cp lm mn rw : FN} {h : Nat} {r : FN} {ln wt we li : FN} {X : DD} {M : MM} (e1 : fX11_ruleS M 3 0 = mk cd (nI nt, ln, wt, we, li) pn kd cp lm mn rw X en) (hi : i < 12) (hn : nt ≤ 60) (hh : h ≤ 12) (hm : mn i = nI h) (hrw : ∀ k, k < 12 → rw (12 * i + k) = r k) (hr : ∀ k, k < h → ∃ t, t < nt ∧ r k = nI t) : ∀ f k, h - k < f → k ≤ h →
    lX11_lowest_1R M (nI i) L f (nI k) = aS r ln L (h - k) k ∧ lX11_lowest_1S M (nI i) L f (nI k) = fX11_ruleS M 3 0 ∧ lX11_lowest_1K M (nI i) L f (nI k) := by
  intro f
  induction f with
  | zero => intro k h1; omega
  | succ f ih =>
    intro k h1 h2
    have hcl : (nI i).toNatClampNeg = i := nI_clamp (by omega)
    unfold lX11_lowest_1R lX11_lowest_1S lX11_lowest_1K
    by_cases e : k = h
    · subst e
      have hle : ((fX11_ruleS M 3 0).2.2.2.2.2.2.2.2.2.2.1) (nI i).toNatClampNeg ≤ nI k := by rw [e1, hcl]; show mn i ≤ nI k; rw [hm]; exact nI_le (Nat.le_refl _) (by omega)
      refine ⟨?_, ?_, (r_i hi).2, fun _ => trivial, fun q => absurd hle q⟩
      · rw [if_pos hle, Nat.sub_self]
        rfl
      · rw [if_pos hle]
    · obtain ⟨t, ht, hrt⟩ := hr k (by omega)
      obtain ⟨q1, q2, q3⟩ := g_row hi hh hrw (show k < h by omega)
      have hg : ¬ ((fX11_ruleS M 3 0).2.2.2.2.2.2.2.2.2.2.1) (nI i).toNatClampNeg ≤ nI k := by rw [e1, hcl]; show ¬ mn i ≤ nI k; rw [hm]; exact nI_ge (by omega) (by omega)
      have hx0 : ((fX11_ruleS M 3 0).2.2.2.2.2.2.2.2.2.2.2.1) (12 * nI i + nI k).toNatClampNeg = nI t := by rw [e1]; show rw _ = _; rw [q3, hrt]
      have hx : ((fX11_ruleS M 3 0).2.2.1) (((fX11_ruleS M 3 0).2.2.2.2.2.2.2.2.2.2.2.1) (12 * nI i + nI k).toNatClampNeg).toNatClampNeg = ln t := by rw [hx0, nI_clamp (by omega), e1]; rfl
      have e2 : h - k = (h - (k + 1)) + 1 := by omega
      have e3 : aS r ln L (h - k) k = if ln t < L then aS r ln L (h - (k + 1)) (k + 1) else nI k := by
        rw [e2]
        show (if ln (r k).toNatClampNeg < L then aS r ln L (h - (k + 1)) (k + 1) else nI k) = _
        rw [hrt, nI_clamp (by omega)]
      obtain ⟨i1, i2, i3⟩ := ih (k + 1) (by omega) (by omega)
      rw [← nI_1] at i1 i2 i3
      have hv1 : vp_in (12 * nI i + nI k) 144 := by rw [q1]; exact vp_in_nI (by omega) (by omega)
      have hv2 : vp_in (((fX11_ruleS M 3 0).2.2.2.2.2.2.2.2.2.2.2.1) (12 * nI i + nI k).toNatClampNeg) 60 := by rw [hx0]; exact vp_in_nI (by omega) (by omega)
      by_cases w : ln t < L
      · have w' := w
        rw [← hx] at w'
        refine ⟨?_, ?_, (r_i hi).2, fun q => absurd q hg, fun _ => ⟨hv1, hv2, fun _ => ⟨i3, trivial⟩, fun q => absurd w' q⟩⟩
        · rw [if_neg hg, if_pos w', e3, if_pos w, i1]
        · rw [if_neg hg, if_pos w', i2]
      · have w' := w
        rw [← hx] at w'
        refine ⟨?_, ?_, (r_i hi).2, fun q => absurd q hg, fun _ => ⟨hv1, hv2, fun q => absurd q w', fun _ => trivial⟩⟩
        · rw [if_neg hg, if_neg w', e3, if_neg w]
        · rw [if_neg hg, if_neg w']
section M2
variable {i nt b ci : Nat} {cd pn en : Int32} {kd cp lm mn0 rw0 : FN} {P : PP} {T : TT} {X : DD} {M : MM}
theorem m_low (hi : i < 12) (hM : MR i cd pn kd cp lm mn0 rw0 P T X en M) (hP : GL i nt (cp i) (lm i) P) (hT : GT nt T) (hX : GD b X) (hb : b + 1 < 2 ^ 30) (L : Int32) :
    fX11_lowestK M (nI i) L ∧ fX11_lowestR M (nI i) L = fX4_searchActR P T X L ∧ MR i cd pn kd cp lm mn0 rw0 P T (fX8_beginS X 3 0) en (fX11_lowestS M (nI i) L) ∧ GD (b + 1) (fX8_beginS X 3 0) ∧
    (fX4_searchActR P T X L = -1 ∨ ∃ q t, q < 12 ∧ t < nt ∧ fX4_searchActR P T X L = nI q ∧ P.2.2.2.1 q = nI t ∧ ∀ X', fX4_timberAtR P T X' (nI q) = nI t) := by
  obtain ⟨k1, hM1, hX1⟩ := m_rule hM hX (by omega) 3 0
  have hM1' := hM1
  obtain ⟨mn, rw, e1, h1, h2, h3, h4⟩ := hM1
  obtain ⟨c, h, r, rfl, -, hc1, hc2, hh, hr⟩ := hP
  obtain ⟨ln, wt, we, li, rfl, hn, -, -⟩ := hT
  have e : (((fX11_ruleS M 3 0).2.2.2.2.2.2.2.2.2.2.1) (nI i).toNatClampNeg).toNatClampNeg + 1 = h + 1 := by
    rw [e1, (r_i hi).1]
    show (mn i).toNatClampNeg + 1 = h + 1
    rw [h1]
    show (nI h).toNatClampNeg + 1 = h + 1
    rw [nI_clamp (by omega)]
  obtain ⟨s1, s2, s3⟩ := rf_sr (L := L) e1 hi hn (show h ≤ 12 by omega) h1 h2 hr (h + 1) 0 (by omega) (by omega)
  have hc : fX4_searchActR (nI i, nI c, lm i, r, nI h) (nI nt, ln, wt, we, li) X L = aS r ln L (h - 0) 0 := by
    unfold fX4_searchActR
    exact cl_sr (i := i) hn (by omega) hr _ 0 (by show h - 0 < (nI h).toNatClampNeg + 1; rw [nI_clamp (by omega)]; omega) (by omega)
  refine ⟨⟨k1, ?_, trivial⟩, ?_, ?_, hX1, ?_⟩
  · rw [e]; exact s3
  · unfold fX11_lowestR
    rw [e, hc]
    exact s1
  · unfold fX11_lowestS
    rw [e]
    exact s2.symm ▸ hM1'
  · rw [hc]
    rcases aS_in (r := r) (ln := ln) (L := L) (h - 0) 0 with q | ⟨q, -, q2, q3⟩
    · exact Or.inl q
    · obtain ⟨t, ht, hrt⟩ := hr q (by omega)
      exact Or.inr ⟨q, t, by omega, ht, q3, hrt, fun X' => (ta_in (by omega) (by omega)).trans hrt⟩
/-- put of the plain pile -/
theorem m_pp (hi : i < 12) {tt : Nat} (ht : tt < nt) (hM : MR i cd pn kd cp lm mn0 rw0 P T X en M) (hP : GL i nt (cp i) (lm i) P) (hT : GT nt T) (hX : GD b X) (hb : b + 1 < 2 ^ 30) :
    fX11_putPlainK M (nI i) (nI tt) ∧ fX11_putPlainR M (nI i) (nI tt) = fX4_putActR P T X (nI tt) ∧ MR i cd pn kd cp lm mn0 rw0 (fX4_putActS P T X (nI tt)).1 (fX4_putActS P T X (nI tt)).2.1 (fX4_putActS P T X (nI tt)).2.2 en (fX11_putPlainS M (nI i) (nI tt)) ∧
    GL i nt (cp i) (lm i) (fX4_putActS P T X (nI tt)).1 ∧ GT nt (fX4_putActS P T X (nI tt)).2.1 ∧ GD (b + 1) (fX4_putActS P T X (nI tt)).2.2 ∧
    ((fX4_putActR P T X (nI tt) = 0 ∧ (fX4_putActS P T X (nI tt)).1 = P) ∨ (fX4_putActR P T X (nI tt) = 1 ∧ ∃ h r, h < 12 ∧ P.2.2.2.2 = nI h ∧ (fX4_putActS P T X (nI tt)).1 = (nI i, cp i, lm i, r, nI (h + 1)) ∧ r h = nI tt)) := by
  obtain ⟨k1, hM1, hX1⟩ := m_rule hM hX (by omega) 0 0
  have hM1' := hM1
  obtain ⟨mn, rw, e1, h1, h2, h3, h4⟩ := hM1
  obtain ⟨c, h, r, rfl, hcp, hc1, hc2, hh, hr⟩ := hP
  obtain ⟨ln, wt, we, li, rfl, hn, hw, hz⟩ := hT
  have h1 : mn i = nI h := h1
  have hcl := (r_i hi).1
  have f0 : ¬ nI h < 0 := nI_pos (by omega)
  by_cases q : h = c
  · subst q
    have hR : fX4_putActR (nI i, nI h, lm i, r, nI h) (nI nt, ln, wt, we, li) X (nI tt) = 0 := by
      simp only [fX4_putActR, if_neg f0, if_pos (show nI h ≤ nI h from nI_le (Nat.le_refl _) (by omega))]
    have hS : fX4_putActS (nI i, nI h, lm i, r, nI h) (nI nt, ln, wt, we, li) X (nI tt) = ((nI i, nI h, lm i, r, nI h), (nI nt, ln, wt, we, li), fX8_beginS X 0 0) := by
      simp only [fX4_putActS, if_neg f0, if_pos (show nI h ≤ nI h from nI_le (Nat.le_refl _) (by omega))]
    have hc : ((fX11_ruleS M 0 0).2.2.2.2.2.2.2.2.2.2.1) (nI i).toNatClampNeg = ((fX11_ruleS M 0 0).2.2.2.2.2.2.2.2.1) (nI i).toNatClampNeg := by
      rw [e1, hcl]
      show mn i = cp i
      rw [h1, hcp]
    rw [hR, hS]
    refine ⟨⟨k1, (r_i hi).2, fun _ => trivial, fun q => absurd hc q⟩, ?_, ?_, ⟨_, _, _, rfl, hcp, hc1, hc2, hh, hr⟩, ⟨_, _, _, _, rfl, hn, hw, hz⟩, hX1, Or.inl ⟨rfl, rfl⟩⟩
    · unfold fX11_putPlainR
      rw [if_pos hc]
    · unfold fX11_putPlainS
      rw [if_pos hc]
      exact hM1'
  · have f1 : ¬ nI c ≤ nI h := nI_ge (by omega) (by omega)
    have f2 : nI h < 12 := nI_lt (b := 12) (by omega) (by omega)
    have hR : fX4_putActR (nI i, nI c, lm i, r, nI h) (nI nt, ln, wt, we, li) X (nI tt) = 1 := by
      simp only [fX4_putActR, if_neg f0, if_neg f1, if_pos f2]
    have hS : fX4_putActS (nI i, nI c, lm i, r, nI h) (nI nt, ln, wt, we, li) X (nI tt) = ((nI i, nI c, lm i, upd r h (nI tt), nI (h + 1)), (nI nt, ln, wt, we, upd li tt (nI i)), fX8_beginS X 0 0) := by
      simp only [fX4_putActS, if_neg f0, if_neg f1, if_pos f2, sp_in ht hn, nI_1, nI_clamp (show h < 2 ^ 31 by omega)]
    have hc : ¬ ((fX11_ruleS M 0 0).2.2.2.2.2.2.2.2.2.2.1) (nI i).toNatClampNeg = ((fX11_ruleS M 0 0).2.2.2.2.2.2.2.2.1) (nI i).toNatClampNeg := by
      rw [e1, hcl]
      show ¬ mn i = cp i
      rw [h1, hcp, nI_eq (by omega) (by omega)]
      exact q
    have hx : 12 * nI i + nI h = nI (12 * i + h) := by rw [n12, pk_mul, nI_add]
    have hy : ((fX11_ruleS M 0 0).2.2.2.2.2.2.2.2.2.2.1) (nI i).toNatClampNeg = nI h := by rw [e1, hcl]; exact h1
    rw [hR, hS]
    refine ⟨⟨k1, (r_i hi).2, fun q => absurd q hc, fun _ => ⟨?_, vp_in_nI (by omega) (by omega), trivial⟩⟩, ?_, ?_, ⟨_, _, _, rfl, hcp, hc1, hc2, by omega, ?_⟩, ⟨_, _, _, _, rfl, hn, hw, hz⟩, hX1, Or.inr ⟨rfl, h, upd r h (nI tt), by omega, rfl, by rw [hcp], pk_us⟩⟩
    · rw [hy, hx]; exact vp_in_nI (by omega) (by omega)
    · unfold fX11_putPlainR
      rw [if_neg hc]
    · unfold fX11_putPlainS
      rw [if_neg hc, hy, hx, nI_1, hcl, nI_clamp (n := tt) (by omega), nI_clamp (n := 12 * i + h) (by omega), e1]
      refine ⟨upd mn i (nI (h + 1)), upd rw (12 * i + h) (nI tt), rfl, pk_us, fun k hk => ?_, fun j hj => ?_, fun j hj => ?_⟩
      · show upd rw (12 * i + h) (nI tt) (12 * i + k) = upd r h (nI tt) k
        by_cases z : k = h
        · subst z; rw [pk_us, pk_us]
        · rw [pk_un (by omega), pk_un z]; exact h2 k hk
      · rw [pk_un hj]; exact h3 j hj
      · rw [pk_un (by omega)]; exact h4 j hj
    · intro k hk
      by_cases z : k = h
      · exact ⟨tt, ht, by rw [z, pk_us]⟩
      · rw [pk_un z]; exact hr k (by omega)
/-- take of the plain pile -/
theorem m_tp (hi : i < 12) (hM : MR i cd pn kd cp lm mn0 rw0 P T X en M) (hP : GL i nt (cp i) (lm i) P) (hT : GT nt T) (hX : GD b X) (hb : b + 1 < 2 ^ 30) :
    fX11_takePlainK M (nI i) ∧ fX11_takePlainR M (nI i) = fX4_takeActR P T X ∧ MR i cd pn kd cp lm mn0 rw0 (fX4_takeActS P T X).1 (fX4_takeActS P T X).2.1 (fX4_takeActS P T X).2.2 en (fX11_takePlainS M (nI i)) ∧
    GL i nt (cp i) (lm i) (fX4_takeActS P T X).1 ∧ GT nt (fX4_takeActS P T X).2.1 ∧ GD (b + 1) (fX4_takeActS P T X).2.2 ∧ (fX4_takeActR P T X = -1 ∨ ∃ t, t < nt ∧ fX4_takeActR P T X = nI t) := by
  obtain ⟨k1, hM1, hX1⟩ := m_rule hM hX (by omega) 1 0
  have hM1' := hM1
  obtain ⟨mn, rw, e1, h1, h2, h3, h4⟩ := hM1
  obtain ⟨c, h, r, rfl, hcp, hc1, hc2, hh, hr⟩ := hP
  obtain ⟨ln, wt, we, li, rfl, hn, hw, hz⟩ := hT
  have h1 : mn i = nI h := h1
  have hcl := (r_i hi).1
  have hy : ((fX11_ruleS M 1 0).2.2.2.2.2.2.2.2.2.2.1) i = nI h := by rw [e1]; exact h1
  cases h with
  | zero =>
    have f0 : nI 0 < 1 := nI_lt (a := 0) (b := 1) (by omega) (by omega)
    have hR : fX4_takeActR (nI i, nI c, lm i, r, nI 0) (nI nt, ln, wt, we, li) X = -1 := by
      simp only [fX4_takeActR, if_pos f0]
    have hS : fX4_takeActS (nI i, nI c, lm i, r, nI 0) (nI nt, ln, wt, we, li) X = ((nI i, nI c, lm i, r, nI 0), (nI nt, ln, wt, we, li), fX8_beginS X 1 0) := by
      simp only [fX4_takeActS, if_pos f0]
    have hc : ((fX11_ruleS M 1 0).2.2.2.2.2.2.2.2.2.2.1) (nI i).toNatClampNeg = 0 := by
      rw [hcl, hy]
      rfl
    rw [hR, hS]
    refine ⟨⟨k1, (r_i hi).2, fun _ => trivial, fun q => absurd hc q⟩, ?_, ?_, ⟨_, _, _, rfl, hcp, hc1, hc2, hh, hr⟩, ⟨_, _, _, _, rfl, hn, hw, hz⟩, hX1, Or.inl rfl⟩
    · unfold fX11_takePlainR
      rw [if_pos hc]
    · unfold fX11_takePlainS
      rw [if_pos hc]
      exact hM1'
  | succ h =>
    obtain ⟨t, ht, hrt⟩ := hr h (by omega)
    have f0 : ¬ nI (h + 1) < 1 := nI_nlt (b := 1) (by omega) (by omega)
    have f1 : nI (h + 1) ≤ 12 := nI_le (b := 12) (by omega) (by omega)
    have hR : fX4_takeActR (nI i, nI c, lm i, r, nI (h + 1)) (nI nt, ln, wt, we, li) X = nI t := by
      simp only [fX4_takeActR, if_neg f0, if_pos f1, nI_pred, nI_clamp (show h < 2 ^ 31 by omega), hrt]
    have hS : fX4_takeActS (nI i, nI c, lm i, r, nI (h + 1)) (nI nt, ln, wt, we, li) X = ((nI i, nI c, lm i, r, nI h), (nI nt, ln, wt, we, upd li t (-1)), fX8_beginS X 1 0) := by
      simp only [fX4_takeActS, if_neg f0, if_pos f1, nI_pred, nI_clamp (show h < 2 ^ 31 by omega), hrt, sp_in ht hn]
    have hc : ¬ ((fX11_ruleS M 1 0).2.2.2.2.2.2.2.2.2.2.1) (nI i).toNatClampNeg = 0 := by
      rw [hcl, hy]
      exact nI_ne0 (by omega) (by omega)
    have hx : 12 * nI i + nI h = nI (12 * i + h) := by rw [n12, pk_mul, nI_add]
    have hrow : ((fX11_ruleS M 1 0).2.2.2.2.2.2.2.2.2.2.2.1) (12 * i + h) = nI t := by rw [e1]; exact (h2 h (by omega)).trans hrt
    rw [hR, hS]
    refine ⟨⟨k1, (r_i hi).2, fun q => absurd q hc, fun _ => ⟨?_, ?_, trivial⟩⟩, ?_, ?_, ⟨_, _, _, rfl, hcp, hc1, hc2, by omega, fun k hk => hr k (by omega)⟩, ⟨_, _, _, _, rfl, hn, hw, hz⟩, hX1, Or.inr ⟨t, ht, rfl⟩⟩
    · rw [pk_us, hcl, hy, nI_pred, hx]; exact vp_in_nI (by omega) (by omega)
    · rw [pk_us, hcl, hy, nI_pred, hx, nI_clamp (n := 12 * i + h) (by omega), hrow]; exact vp_in_nI (by omega) (by omega)
    · unfold fX11_takePlainR
      rw [if_neg hc, pk_us, hcl, hy, nI_pred, hx, nI_clamp (n := 12 * i + h) (by omega), hrow]
    · unfold fX11_takePlainS
      rw [if_neg hc, pk_us, hcl, hy, nI_pred, hx, nI_clamp (n := 12 * i + h) (by omega), hrow, nI_clamp (n := t) (by omega), e1]
      refine ⟨upd mn i (nI h), rw, rfl, pk_us, h2, fun j hj => ?_, h4⟩
      rw [pk_un hj]; exact h3 j hj
end M2
