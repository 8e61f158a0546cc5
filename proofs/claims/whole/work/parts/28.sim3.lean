/-! put of a sorted pile -/
def sk (ln : FN) (L : Int32) : Nat → FN → FN
  | 0, r => r
  | k + 1, r => if ln (r k).toNatClampNeg < L then sk ln L k (upd (upd r k (r (k + 1))) (k + 1) (r k)) else r
theorem sk_in {ln : FN} {L : Int32} {H nt : Nat} : ∀ k r, k < H → (∀ j, j < H → ∃ t, t < nt ∧ r j = nI t) → ∀ j, j < H → ∃ t, t < nt ∧ sk ln L k r j = nI t := by
  intro k
  induction k with
  | zero => intro r _ hr; exact hr
  | succ k ih =>
    intro r hk hr
    unfold sk
    by_cases w : ln (r k).toNatClampNeg < L
    · rw [if_pos w]
      refine ih _ (by omega) (fun j hj => ?_)
      by_cases z : j = k + 1
      · subst z; rw [pk_us]; exact hr k (by omega)
      · rw [pk_un z]
        by_cases z2 : j = k
        · subst z2; rw [pk_us]; exact hr (j + 1) (by omega)
        · rw [pk_un z2]; exact hr j hj
    · rw [if_neg w]
      exact hr
theorem cl_sink {nt : Nat} {c q lmv L : Int32} {H : Nat} {ln wt we li : FN} {X : DD} (hn : nt ≤ 60) (hH : H ≤ 12) : ∀ f k r, k < f → k < H → (∀ j, j < H → ∃ t, t < nt ∧ r j = nI t) → lX5_sink (nI nt, ln, wt, we, li) X L f (q, c, lmv, r, nI H) (nI k) = (q, c, lmv, sk ln L k r, nI H) := by
  intro f
  induction f with
  | zero => intro k r h1; omega
  | succ f ih =>
    intro k r h1 h2 hr
    unfold lX5_sink
    cases k with
    | zero => rw [if_pos (show nI 0 ≤ 0 from nI_le (a := 0) (b := 0) (by omega) (by omega))]; rfl
    | succ k =>
      obtain ⟨t, ht, hrt⟩ := hr k (by omega)
      have g0 : ¬ nI (k + 1) ≤ 0 := nI_nle (by omega) (by omega)
      rw [if_neg g0, nI_pred, ta_in (show k < H by omega) hH, hrt, lo_in ht hn]
      have e3 : sk ln L (k + 1) r = if ln t < L then sk ln L k (upd (upd r k (r (k + 1))) (k + 1) (r k)) else r := by
        show (if ln (r k).toNatClampNeg < L then _ else _) = _
        rw [hrt, nI_clamp (by omega)]
      by_cases w : ln t < L
      · rw [if_pos w, e3, if_pos w, pk_m1]
        have es : (fX4_swapWithUnderS (q, c, lmv, r, nI H) (nI nt, ln, wt, we, li) X (nI (k + 1))).1 = (q, c, lmv, upd (upd r k (r (k + 1))) (k + 1) (r k), nI H) := by
          have g1 : ¬ nI (k + 1) < 1 := nI_nlt (b := 1) (by omega) (by omega)
          have g2 : ¬ nI H ≤ nI (k + 1) := nI_ge (by omega) (by omega)
          have g3 : ¬ (12 : Int32) ≤ nI (k + 1) := nI_ge (b := 12) (by omega) (by omega)
          simp only [fX4_swapWithUnderS, if_neg g1, if_neg g2, if_neg g3, nI_pred, nI_clamp (show k < 2 ^ 31 by omega), nI_clamp (show k + 1 < 2 ^ 31 by omega)]
        rw [es]
        refine ih k _ (by omega) (by omega) (fun j hj => ?_)
        by_cases z : j = k + 1
        · subst z; rw [pk_us]; exact hr k (by omega)
        · rw [pk_un z]
          by_cases z2 : j = k
          · subst z2; rw [pk_us]; exact hr (j + 1) (by omega)
          · rw [pk_un z2]; exact hr j hj
      · rw [if_neg w, e3, if_neg w]
theorem rf_sink {i nt tt H : Nat} {cd pn en : Int32} {kd cp lm mn : FN} {ln wt we li : FN} {X : DD} {M : MM} (hR : ¬ fX11_putPlainR (fX11_ruleS M 0 2) (nI i) (nI tt) = 0) (hi : i < 12) (hn : nt ≤ 60) (ht : tt < nt) (hH : H ≤ 12) : ∀ f k rw r, k < f → k < H → (∀ j, j < 12 → rw (12 * i + j) = r j) → r k = nI tt → (∀ j, j < H → ∃ t, t < nt ∧ r j = nI t) →
    lX11_putSorted_1R M (nI i) (nI tt) f (nI (12 * i + k), mk cd (nI nt, ln, wt, we, li) pn kd cp lm mn rw X en) = fX11_putPlainR (fX11_ruleS M 0 2) (nI i) (nI tt) ∧
    (∃ rw', lX11_putSorted_1S M (nI i) (nI tt) f (nI (12 * i + k), mk cd (nI nt, ln, wt, we, li) pn kd cp lm mn rw X en) = mk cd (nI nt, ln, wt, we, li) pn kd cp lm mn rw' X en ∧ (∀ j, j < 12 → rw' (12 * i + j) = sk ln (ln tt) k r j) ∧ ∀ j, j / 12 ≠ i → rw' j = rw j) ∧
    lX11_putSorted_1K M (nI i) (nI tt) f (nI (12 * i + k), mk cd (nI nt, ln, wt, we, li) pn kd cp lm mn rw X en) := by
  intro f
  induction f with
  | zero => intro k rw r h1; omega
  | succ f ih =>
    intro k rw r h1 h2 hrw hrk hr
    have e12 : 12 * nI i = nI (12 * i) := by rw [n12, pk_mul]
    unfold lX11_putSorted_1R lX11_putSorted_1S lX11_putSorted_1K
    cases k with
    | zero =>
      have g0 : nI (12 * i + 0) ≤ 12 * nI i := by rw [e12]; exact nI_le (by omega) (by omega)
      refine ⟨?_, ⟨rw, ?_, hrw, fun _ _ => rfl⟩, fun q => absurd q hR, fun _ => ⟨fun _ => trivial, fun q => absurd g0 q⟩⟩
      · rw [if_neg hR]
        exact if_pos g0
      · rw [if_neg hR]
        exact if_pos g0
    | succ k =>
      obtain ⟨t, ht', hrt⟩ := hr k (by omega)
      have g0 : ¬ nI (12 * i + (k + 1)) ≤ 12 * nI i := by rw [e12]; exact nI_ge (by omega) (by omega)
      have ep : nI (12 * i + (k + 1)) - 1 = nI (12 * i + k) := nI_pred (12 * i + k)
      have em : nI (12 * i + (k + 1)) + (-1) = nI (12 * i + k) := pk_m1 (12 * i + k)
      have c1 : (nI (12 * i + k)).toNatClampNeg = 12 * i + k := nI_clamp (by omega)
      have c2 : (nI (12 * i + (k + 1))).toNatClampNeg = 12 * i + (k + 1) := nI_clamp (by omega)
      have ct : (nI tt).toNatClampNeg = tt := nI_clamp (by omega)
      have hx0 : rw (nI (12 * i + (k + 1)) - 1).toNatClampNeg = nI t := by rw [ep, c1, hrw k (by omega), hrt]
      have hx : (ln (nI tt).toNatClampNeg ≤ ln (rw (nI (12 * i + (k + 1)) - 1).toNatClampNeg).toNatClampNeg) = (ln tt ≤ ln t) := by rw [hx0, ct, nI_clamp (n := t) (by omega)]
      have e3 : sk ln (ln tt) (k + 1) r = if ln t < ln tt then sk ln (ln tt) k (upd (upd r k (r (k + 1))) (k + 1) (r k)) else r := by
        show (if ln (r k).toNatClampNeg < ln tt then _ else _) = _
        rw [hrt, nI_clamp (by omega)]
      have hv1 : vp_in (nI (12 * i + (k + 1)) - 1) 144 := by rw [ep]; exact vp_in_nI (by omega) (by omega)
      have hv2 : vp_in (rw (nI (12 * i + (k + 1)) - 1).toNatClampNeg) 60 := by rw [hx0]; exact vp_in_nI (by omega) (by omega)
      have hv3 : vp_in (nI (12 * i + (k + 1))) 144 := vp_in_nI (by omega) (by omega)
      by_cases w : ln tt ≤ ln t
      · have w' : ln (nI tt).toNatClampNeg ≤ ln (rw (nI (12 * i + (k + 1)) - 1).toNatClampNeg).toNatClampNeg := by rw [hx]; exact w
        have wn : ¬ ln t < ln tt := Int32.not_lt.mpr w
        rw [if_neg wn] at e3
        refine ⟨?_, ⟨rw, ?_, fun j hj => by rw [e3]; exact hrw j hj, fun _ _ => rfl⟩, fun q => absurd q hR, fun _ => ⟨fun q => absurd q g0, fun _ => ⟨hv1, hv2, vp_in_nI (by omega) (by omega), fun _ => trivial, fun q => absurd w' q⟩⟩⟩
        · rw [if_neg hR]
          exact (if_neg g0).trans (if_pos w')
        · rw [if_neg hR]
          exact (if_neg g0).trans (if_pos w')
      · have w' : ¬ ln (nI tt).toNatClampNeg ≤ ln (rw (nI (12 * i + (k + 1)) - 1).toNatClampNeg).toNatClampNeg := by rw [hx]; exact w
        have wn : ln t < ln tt := Int32.not_le.mp w
        rw [if_pos wn] at e3
        obtain ⟨i1, ⟨rw', i2, i4, i5⟩, i3⟩ := ih k (upd (upd rw (12 * i + (k + 1)) (rw (12 * i + k))) (12 * i + k) (nI tt)) (upd (upd r k (r (k + 1))) (k + 1) (r k)) (by omega) (by omega)
          (fun j hj => by
            by_cases z : j = k
            · subst z; rw [pk_us, pk_un (by omega), pk_us, hrk]
            · rw [pk_un (by omega)]
              by_cases z2 : j = k + 1
              · subst z2; rw [pk_us, pk_us, hrw k (by omega)]
              · rw [pk_un (by omega), pk_un z2, pk_un z]; exact hrw j hj)
          (by rw [pk_un (by omega), pk_us, hrk])
          (fun j hj => by
            by_cases z : j = k + 1
            · subst z; rw [pk_us]; exact hr k (by omega)
            · rw [pk_un z]
              by_cases z2 : j = k
              · subst z2; rw [pk_us]; exact hr (j + 1) (by omega)
              · rw [pk_un z2]; exact hr j hj)
        have eM : (nI (12 * i + (k + 1)) + (-1), mk cd (nI nt, ln, wt, we, li) pn kd cp lm mn (upd (upd rw (nI (12 * i + (k + 1))).toNatClampNeg (rw (nI (12 * i + (k + 1)) - 1).toNatClampNeg)) (nI (12 * i + (k + 1)) - 1).toNatClampNeg (nI tt)) X en) = (nI (12 * i + k), mk cd (nI nt, ln, wt, we, li) pn kd cp lm mn (upd (upd rw (12 * i + (k + 1)) (rw (12 * i + k))) (12 * i + k) (nI tt)) X en) := by
          rw [em, ep, c1, c2]
        rw [← eM] at i1 i2 i3
        refine ⟨?_, ⟨rw', ?_, fun j hj => by rw [e3]; exact i4 j hj, fun j hj => ?_⟩, fun q => absurd q hR, fun _ => ⟨fun q => absurd q g0, fun _ => ⟨hv1, hv2, vp_in_nI (by omega) (by omega), fun q => absurd q w', fun _ => ⟨hv3, i3, trivial⟩⟩⟩⟩
        · rw [if_neg hR]
          exact (if_neg g0).trans ((if_neg w').trans i1)
        · rw [if_neg hR]
          exact (if_neg g0).trans ((if_neg w').trans i2)
        · rw [i5 j hj, pk_un (by omega), pk_un (by omega)]
section M3
variable {i nt b ci : Nat} {cd pn en : Int32} {kd cp lm mn0 rw0 : FN} {P : PP} {T : TT} {X : DD} {M : MM}
/-- put of the sorted pile -/
theorem m_ps (hi : i < 12) {tt : Nat} (ht : tt < nt) (hM : MR i cd pn kd cp lm mn0 rw0 P T X en M) (hP : GL i nt (cp i) (lm i) P) (hT : GT nt T) (hX : GD b X) (hb : b + 2 < 2 ^ 30) :
    fX11_putSortedK M (nI i) (nI tt) ∧ fX11_putSortedR M (nI i) (nI tt) = fX5_putActR P T X (nI tt) ∧ MR i cd pn kd cp lm mn0 rw0 (fX5_putActS P T X (nI tt)).1 (fX5_putActS P T X (nI tt)).2.1 (fX5_putActS P T X (nI tt)).2.2 en (fX11_putSortedS M (nI i) (nI tt)) ∧
    GL i nt (cp i) (lm i) (fX5_putActS P T X (nI tt)).1 ∧ GT nt (fX5_putActS P T X (nI tt)).2.1 ∧ GD (b + 2) (fX5_putActS P T X (nI tt)).2.2 ∧ (fX5_putActR P T X (nI tt) = 0 ∨ fX5_putActR P T X (nI tt) = 1) := by
  obtain ⟨k0, hM0, hX0⟩ := m_rule hM hX (by omega) 0 2
  obtain ⟨k1, r1, hM1, hP1, hT1, hX1, hd⟩ := m_pp hi ht hM0 hP hT hX0 (by omega)
  have hcl := (r_i hi).1
  have eR : fX5_putActR P T X (nI tt) = fX4_putActR P T (fX8_beginS X 0 2) (nI tt) := by
    unfold fX5_putActR
    split <;> rfl
  have e12 : 12 * nI i = nI (12 * i) := by rw [n12, pk_mul]
  rcases hd with ⟨d1, d2⟩ | ⟨d1, h, r, hh, dh, d2, d3⟩
  · have h0 : fX11_putPlainR (fX11_ruleS M 0 2) (nI i) (nI tt) = 0 := r1.trans d1
    have n1 : ¬ fX4_putActR P T (fX8_beginS X 0 2) (nI tt) = 1 := by rw [d1]; decide
    have eS : fX5_putActS P T X (nI tt) = fX4_putActS P T (fX8_beginS X 0 2) (nI tt) := by
      unfold fX5_putActS
      rw [if_neg n1]
    rw [eR, eS, d1]
    refine ⟨⟨k0, k1, (r_i hi).2, ?_, trivial⟩, ?_, ?_, hP1, hT1, hX1.mono (by omega), Or.inl rfl⟩
    · unfold lX11_putSorted_1K
      exact ⟨fun _ => trivial, fun q => absurd h0 q⟩
    · unfold fX11_putSortedR lX11_putSorted_1R
      rw [if_pos h0, h0]
    · unfold fX11_putSortedS lX11_putSorted_1S
      rw [if_pos h0]
      exact hM1
  · have h0 : ¬ fX11_putPlainR (fX11_ruleS M 0 2) (nI i) (nI tt) = 0 := by rw [r1, d1]; decide
    obtain ⟨mn, rw, e1, h1, h2, h3, h4⟩ := hM1
    obtain ⟨ln, wt, we, li, eT, hn, hw, hz⟩ := hT1
    obtain ⟨c, H, r', eP, hcp, hc1, hc2, hHc, hr⟩ := hP1
    rw [d2] at eP
    have er : r = r' := congrArg (fun z : PP => z.2.2.2.1) eP
    have e2 : nI (h + 1) = nI H := congrArg (fun z : PP => z.2.2.2.2) eP
    subst er
    have eH : H = h + 1 := by
      have e5 := (nI_eq (a := h + 1) (b := H) (by omega) (by omega)).mp e2
      omega
    subst eH
    rw [d2] at h1 h2
    rw [eT] at e1
    have h1 : mn i = nI (h + 1) := h1
    have ey : (fX11_putPlainS (fX11_ruleS M 0 2) (nI i) (nI tt)).2.2.2.2.2.2.2.2.2.2.1 (nI i).toNatClampNeg = nI (h + 1) := by rw [e1, hcl]; exact h1
    have ex : 12 * nI i + nI (h + 1) - 1 = nI (12 * i + h) := by rw [e12, nI_add]; exact nI_pred (12 * i + h)
    have ef : ((12 * nI i + nI (h + 1) - 1).toInt - (12 * nI i).toInt).toNat + 1 = h + 1 := by
      rw [ex, e12, nI_toInt (by omega), nI_toInt (by omega)]
      omega
    obtain ⟨s1, ⟨rw', s2, s4, s5⟩, s3⟩ := rf_sink (cd := cd) (pn := pn) (en := en) (kd := kd) (cp := cp) (lm := lm) (mn := mn) (wt := wt) (we := we) (li := li) (ln := ln) (X := (fX4_putActS P T (fX8_beginS X 0 2) (nI tt)).2.2) h0 hi hn ht (show h + 1 ≤ 12 by omega) (h + 1) h rw r (by omega) (by omega) h2 d3 hr
    have eS : (fX5_putActS P T X (nI tt)).1 = (nI i, cp i, lm i, sk ln (ln tt) h r, nI (h + 1)) := by
      unfold fX5_putActS
      simp only []
      rw [if_pos d1, eT, d2, lo_in ht hn]
      unfold fX5_sinkTopmostS
      show lX5_sink _ _ _ ((nI (h + 1) - 1).toInt.toNat + 1) _ (nI (h + 1) - 1) = _
      rw [nI_pred, nI_toInt (by omega)]
      exact cl_sink hn (by omega) _ h r (by omega) (by omega) hr
    have eS2 : (fX5_putActS P T X (nI tt)).2 = (fX4_putActS P T (fX8_beginS X 0 2) (nI tt)).2 := rfl
    rw [eR, eS2, eS, d1, eT]
    refine ⟨⟨k0, k1, (r_i hi).2, ?_, trivial⟩, ?_, ⟨mn, rw', ?_, h1, s4, h3, fun j hj => (s5 j hj).trans (h4 j hj)⟩, ⟨c, h + 1, _, by rw [hcp], hcp, hc1, hc2, hHc, sk_in h r (by omega) hr⟩, ⟨_, _, _, _, rfl, hn, hw, hz⟩, hX1.mono (by omega), Or.inr rfl⟩
    · rw [ey, ef, ex, e1]; exact s3
    · unfold fX11_putSortedR
      rw [ey, ef, ex, e1, s1, r1, d1]
    · unfold fX11_putSortedS
      rw [ey, ef, ex, e1, s2]
end M3
