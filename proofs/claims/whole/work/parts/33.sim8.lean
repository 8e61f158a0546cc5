
theorem s_trace (k n : Nat) (C : CZ) (P : Nat → PP) (T : TT) (X : DD) (M : MM) (a : Int32) (hk : k < 512) (hI : Inv k n C P T X M) : fX11_traceK M a ∧ fX10_traceR n C P T X a = fX11_traceR M a ∧ Inv (k + 1) n C P T X (fX11_traceS M a) := by
  obtain ⟨nt, cd, en, kd, cp, lm, mn, rw, h⟩ := hI
  have eS : fX11_traceS M a = sC M 0 := by
    show (if _ then (if _ then sC M 0 else sC M 0) else (if _ then sC M 0 else sC M 0)) = _
    rw [ite_self, ite_self, ite_self]
  rw [eS]
  refine (and_assoc.mp ⟨?_, iv_same h 0⟩)
  obtain ⟨tr, d, hv, no, eX, hd⟩ := h.2.2.2.2.1
  have eM : M = mk cd T (nI n) kd cp lm mn rw (xO tr d hv no) en := by rw [h.1, eX]
  have edn : M.2.2.2.2.2.2.2.2.2.2.2.2.2.1 = nI d := by rw [eM]; rfl
  have etr : M.2.2.2.2.2.2.2.2.2.2.2.2.1 = tr := by rw [eM]; rfl
  have er : fX10_traceR n C P T X a = fX8_latestR (xO tr d hv no) a := by rw [eX]; rfl
  rw [er]
  unfold fX11_traceK fX11_traceR
  rw [edn, etr]
  rcases in_m (m := min d 200) (by omega) a with ⟨j, hj, rfl, o1⟩ | ⟨o1, o2⟩
  · have e1 : nI d - 1 = nI (d - 1) := pk_sub (b := 1) (by omega)
    have e2 : nI d - 1 - nI j = nI (d - 1 - j) := by rw [e1]; exact pk_sub (by omega)
    have e3 : (nI d - 1 - nI j) - (nI d - 1 - nI j) / 200 * 200 = nI ((d - 1 - j) % 200) := by rw [e2]; exact pk_rem (d := 200) (by omega) (by omega) (by omega)
    have v200 : vp_in ((nI d - 1 - nI j) - (nI d - 1 - nI j) / 200 * 200) 200 := by rw [e3]; exact vp_in_nI (Nat.mod_lt _ (by omega)) (by omega)
    have ec : fX8_latestR (xO tr d hv no) (nI j) = tr ((d - 1 - j) % 200) := by
      have hnx : nx d = (d - 1) % 200 + 1 := if_neg (by omega)
      have p1 : nI (nx d) - 1 = nI ((d - 1) % 200) := by rw [hnx]; exact nI_pred _
      have c0 : ¬ nI j < 0 := nI_pos (by omega)
      have c1 : nI j < nI (min d 200) := nI_lt hj (by omega)
      unfold fX8_latestR xO
      simp only [if_neg c0, if_pos c1, p1]
      by_cases w : j ≤ (d - 1) % 200
      · have p2 : nI ((d - 1) % 200) - nI j = nI ((d - 1) % 200 - j) := pk_sub w
        have c2 : (0 : Int32) ≤ nI ((d - 1) % 200 - j) := nI_pos' (by omega)
        have c3 : ¬ nI ((d - 1) % 200 - j) < 0 := nI_pos (by omega)
        have c4 : ¬ (200 : Int32) ≤ nI ((d - 1) % 200 - j) := nI_ge (b := 200) (by omega) (by omega)
        rw [p2, if_pos c2, if_neg c3, if_neg c4, nI_clamp (by omega)]
        congr 1
        omega
      · have p2 : nI ((d - 1) % 200) - nI j < 0 := pk_sneg (by omega) (by omega)
        have p3 : nI ((d - 1) % 200) - nI j + 200 = nI ((d - 1) % 200 + 200 - j) := by
          have q1 : nI ((d - 1) % 200 + 200) - nI j = nI ((d - 1) % 200 + 200 - j) := pk_sub (by omega)
          rw [← q1, ← nI_add, n200, Int32.sub_eq_add_neg, Int32.sub_eq_add_neg, Int32.add_assoc, Int32.add_assoc, Int32.add_comm (-nI j)]
        have c2 : ¬ (0 : Int32) ≤ nI ((d - 1) % 200) - nI j := Int32.not_le.mpr p2
        have c3 : ¬ nI ((d - 1) % 200 + 200 - j) < 0 := nI_pos (by omega)
        have c4 : ¬ (200 : Int32) ≤ nI ((d - 1) % 200 + 200 - j) := nI_ge (b := 200) (by omega) (by omega)
        rw [if_neg c2, p3, if_neg c3, if_neg c4, nI_clamp (by omega)]
        congr 1
        omega
    rw [ec, e3, nI_clamp (by omega)]
    by_cases w : 200 ≤ d
    · have w' : (200 : Int32) ≤ nI d := nI_le (a := 200) w (by omega)
      have em : min d 200 = 200 := by omega
      rw [em] at o1
      have o' : ¬ fX11_isInR (nI j) 0 (200 - 1) = 0 := by rw [show (200 - 1 : Int32) = nI 200 - 1 from rfl, o1]; decide
      refine ⟨⟨fun _ => ⟨fun q => absurd q o', fun _ => ⟨by rw [← e3]; exact v200, trivial⟩⟩, fun q => absurd w' q⟩, ?_⟩
      rw [if_pos w', if_neg o']
    · have w' : ¬ (200 : Int32) ≤ nI d := nI_ge (b := 200) (by omega) (by omega)
      have em : min d 200 = d := by omega
      rw [em] at o1
      have o' : ¬ fX11_isInR (nI j) 0 (nI d - 1) = 0 := by rw [o1]; decide
      refine ⟨⟨fun q => absurd q w', fun _ => ⟨fun q => absurd q o', fun _ => ⟨by rw [← e3]; exact v200, trivial⟩⟩⟩, ?_⟩
      rw [if_neg w', if_neg o']
  · have ec : fX8_latestR (xO tr d hv no) a = -101 := by
      unfold fX8_latestR xO
      simp only []
      by_cases a0 : a < 0
      · rw [if_pos a0]
      · rw [if_neg a0]
        rcases o1 with o1 | o1
        · exact absurd o1 a0
        · rw [if_neg (Int32.not_lt.mpr o1)]
    rw [ec]
    by_cases w : 200 ≤ d
    · have w' : (200 : Int32) ≤ nI d := nI_le (a := 200) w (by omega)
      have em : min d 200 = 200 := by omega
      rw [em] at o2
      have o' : fX11_isInR a 0 (200 - 1) = 0 := o2
      exact ⟨⟨fun _ => ⟨fun _ => trivial, fun q => absurd o' q⟩, fun q => absurd w' q⟩, by rw [if_pos w', if_pos o']⟩
    · have w' : ¬ (200 : Int32) ≤ nI d := nI_ge (b := 200) (by omega) (by omega)
      have em : min d 200 = d := by omega
      rw [em] at o2
      exact ⟨⟨fun q => absurd q w', fun _ => ⟨fun _ => trivial, fun q => absurd o2 q⟩⟩, by rw [if_neg w', if_pos o2]⟩
theorem GL.more {i nt : Nat} {c l : Int32} {P : PP} (h : GL i nt c l P) : GL i (nt + 1) c l P := by
  obtain ⟨c, hh, r, e, h1, h2, h3, h4, h5⟩ := h
  exact ⟨c, hh, r, e, h1, h2, h3, h4, fun k hk => (h5 k hk).elim (fun t ht => ⟨t, by omega, ht.2⟩)⟩
theorem in_of {v : Int32} {a b : Nat} (ha : a < 2 ^ 31) (hb : b < 2 ^ 31) (h1 : ¬ v < nI a) (h2 : v ≤ nI b) : ∃ j, a ≤ j ∧ j ≤ b ∧ v = nI j := by
  rw [Int32.lt_iff_toInt_lt, nI_toInt ha] at h1
  rw [Int32.le_iff_toInt_le, nI_toInt hb] at h2
  refine ⟨v.toInt.toNat, by omega, by omega, ?_⟩
  rw [← Int32.toInt_inj, nI_toInt (by omega)]
  omega
theorem s_timber (k n : Nat) (C : CZ) (P : Nat → PP) (T : TT) (X : DD) (M : MM) (a b z : Int32) (hk : k < 512) (hI : Inv k n C P T X M) (hzz : z = 0 ∨ z = 1) : fX11_timberK M a b z ∧ fX10_timberR n C P T X a b z = fX11_timberR M a b z ∧ Inv (k + 1) n C (fX10_timberS n C P T X a b z).1 (fX10_timberS n C P T X a b z).2.1 (fX10_timberS n C P T X a b z).2.2 (fX11_timberS M a b z) := by
  obtain ⟨nt, cd, en, kd, cp, lm, mn, rw, h⟩ := hI
  rcases in_out a 1 1000 with ⟨o1, o2, -, -⟩ | ⟨o1, o2, -⟩
  · have o' : ¬ fX11_isInR a 1 1000 = 0 := by rw [o2]; decide
    rcases in_out b 1 1000 with ⟨p1, p2, pl, ph⟩ | ⟨p1, p2, -⟩
    · have p' : ¬ fX11_isInR b 1 1000 = 0 := by rw [p2]; decide
      obtain ⟨w, w1, w2, rfl⟩ := in_of (v := b) (a := 1) (b := 1000) (by omega) (by omega) pl ph
      obtain ⟨eM, hn, hC, hT, hX, hp, h0⟩ := h
      obtain ⟨ln, wt, we, li, rfl, hn60, hw, hz⟩ := hT
      have ets : M.2.1 = nI nt := by rw [eM]; rfl
      have c0 : ¬ nI nt < 0 := nI_pos (by omega)
      have eR0 : fX10_timberR n C P (nI nt, ln, wt, we, li) X a (nI w) z = fX7_addR (nI nt, ln, wt, we, li) a (nI w) z := (if_pos o1).trans (if_pos p1)
      have eS0 : fX10_timberS n C P (nI nt, ln, wt, we, li) X a (nI w) z = (P, fX7_addS (nI nt, ln, wt, we, li) a (nI w) z, X) := (if_pos o1).trans (if_pos p1)
      rw [eR0, eS0]
      by_cases q : nt = 60
      · subst q
        have q' : M.2.1 = 60 := ets
        have c1 : ¬ nI 60 < 60 := nI_nlt (b := 60) (by omega) (by omega)
        refine ⟨⟨fun h => absurd h o', fun _ => ⟨fun h => absurd h p', fun _ => ⟨fun _ => trivial, fun h => absurd q' h⟩⟩⟩, ?_, ?_⟩
        · rw [show fX11_timberR M a (nI w) z = -104 from (if_neg o').trans ((if_neg p').trans (if_pos q'))]
          unfold fX7_addR
          simp only [if_neg c0, if_neg c1]
        · rw [show fX11_timberS M a (nI w) z = sC M 0 from (if_neg o').trans ((if_neg p').trans (if_pos q'))]
          have e5 : fX7_addS (nI 60, ln, wt, we, li) a (nI w) z = (nI 60, ln, wt, we, li) := by
            unfold fX7_addS
            simp only [if_neg c0, if_neg c1]
          rw [e5]
          exact iv_same ⟨eM, hn, hC, ⟨_, _, _, _, rfl, hn60, hw, hz⟩, hX, hp, h0⟩ 0
      · have q' : ¬ M.2.1 = 60 := by rw [ets, n60, nI_eq (by omega) (by omega)]; exact q
        have c1 : nI nt < 60 := nI_lt (b := 60) (by omega) (by omega)
        have e5 : fX7_addS (nI nt, ln, wt, we, li) a (nI w) z = (nI (nt + 1), upd ln nt a, upd wt nt (nI w), upd we nt (vp_nar .boolean z), upd li nt (-1)) := by
          unfold fX7_addS
          simp only [if_neg c0, if_pos c1, nI_1, nI_clamp (show nt < 2 ^ 31 by omega)]
        refine ⟨⟨fun h => absurd h o', fun _ => ⟨fun h => absurd h p', fun _ => ⟨fun h => absurd h q', fun _ => ⟨?_, trivial⟩⟩⟩⟩, ?_, ?_⟩
        · rw [ets]; exact vp_in_nI (by omega) (by omega)
        · rw [show fX11_timberR M a (nI w) z = (M.2.1 + 1) - 1 from (if_neg o').trans ((if_neg p').trans (if_neg q')), ets, nI_1, nI_pred]
          unfold fX7_addR
          simp only [if_neg c0, if_pos c1]
        · have eS : fX11_timberS M a (nI w) z = _ := (if_neg o').trans ((if_neg p').trans (if_neg q'))
          rw [eS, e5, eM]
          refine ⟨nt + 1, 0, en, kd, cp, lm, mn, rw, ?_, hn, hC, ⟨_, _, _, _, rfl, by omega, fun j hj => ?_, fun j hj => ?_⟩, hX.mono (by omega), fun i hi => ?_, h0⟩
          · unfold mk
            simp only [nI_1, nI_clamp (show nt < 2 ^ 31 by omega)]
          · by_cases e : j = nt
            · subst e; rw [pk_us]; exact ⟨w, w1, w2, rfl⟩
            · rw [pk_un e]; exact hw j (by omega)
          · by_cases e : j = nt
            · subst e
              rw [pk_us]
              rcases hzz with rfl | rfl
              · exact Or.inl nar0
              · exact Or.inr nar1
            · rw [pk_un e]; exact hz j (by omega)
          · obtain ⟨q1, q2, q3, q4⟩ := hp i hi
            exact ⟨q1, q2, q3, q4.more⟩
    · have p0 : ¬ fX10_isOutsideR b 1 1000 = 0 := by rw [p1]; decide
      refine ⟨⟨fun h => absurd h o', fun _ => ⟨fun _ => trivial, fun h => absurd p2 h⟩⟩, ?_, ?_⟩
      · rw [show fX11_timberR M a b z = -102 from (if_neg o').trans (if_pos p2)]
        exact (if_pos o1).trans (if_neg p0)
      · rw [show fX11_timberS M a b z = sC M 0 from (if_neg o').trans (if_pos p2), show fX10_timberS n C P T X a b z = (P, T, X) from (if_pos o1).trans (if_neg p0)]
        exact iv_same h 0
  · have o0 : ¬ fX10_isOutsideR a 1 1000 = 0 := by rw [o1]; decide
    refine ⟨⟨fun _ => trivial, fun h => absurd o2 h⟩, ?_, ?_⟩
    · rw [show fX11_timberR M a b z = -102 from if_pos o2]
      exact if_neg o0
    · rw [show fX11_timberS M a b z = sC M 0 from if_pos o2, show fX10_timberS n C P T X a b z = (P, T, X) from if_neg o0]
      exact iv_same h 0
theorem ck_all {a : Int32} (h1 : ¬ a < 0) (h2 : a ≤ 7) : kdz (ciK a) = a ∧ pkAll (ciK a) := by
  obtain ⟨j, -, hj, rfl⟩ := in_of (v := a) (a := 0) (b := 7) (by omega) (by omega) h1 h2
  have : j = 0 ∨ j = 1 ∨ j = 2 ∨ j = 3 ∨ j = 4 ∨ j = 5 ∨ j = 6 ∨ j = 7 := by omega
  unfold pkAll
  rcases this with rfl | rfl | rfl | rfl | rfl | rfl | rfl | rfl <;> decide +kernel
theorem s_pile (k n : Nat) (C : CZ) (P : Nat → PP) (T : TT) (X : DD) (M : MM) (a b z : Int32) (hk : k < 512) (hI : Inv k n C P T X M) : fX11_pileK M a b z ∧ fX10_pileR n a b z = fX11_pileR M a b z ∧ ∀ (n1 : Nat) (C1 : CZ) (P1 : Nat → PP), ((¬ okP n a b z ∧ n1 = n ∧ C1 = C ∧ P1 = P) ∨ (okP n a b z ∧ ∃ q q1 : Nat, n1 = n + 1 ∧ C1 = va_up C n (ciK a, q, q1) ∧ P1 = va_up P n (nI n, b, z, (fun _ => 0), 0))) → Inv (k + 1) n1 C1 P1 T X (fX11_pileS M a b z) := by
  obtain ⟨nt, cd, en, kd, cp, lm, mn, rw, h⟩ := hI
  have no : ¬ okP n a b z → fX11_pileS M a b z = sC M 0 → ∀ (n1 : Nat) (C1 : CZ) (P1 : Nat → PP), ((¬ okP n a b z ∧ n1 = n ∧ C1 = C ∧ P1 = P) ∨ (okP n a b z ∧ ∃ q q1 : Nat, n1 = n + 1 ∧ C1 = va_up C n (ciK a, q, q1) ∧ P1 = va_up P n (nI n, b, z, (fun _ => 0), 0))) → Inv (k + 1) n1 C1 P1 T X (fX11_pileS M a b z) := by
    intro h1 h2 n1 C1 P1 h3
    rcases h3 with ⟨-, rfl, rfl, rfl⟩ | ⟨h4, -⟩
    · rw [h2]; exact iv_same h 0
    · exact absurd h4 h1
  have hn := h.2.1
  have epn : M.2.2.2.2.2.2.1 = nI n := by rw [h.1]; rfl
  rcases in_out a 0 7 with ⟨o1, o2, ol, oh⟩ | ⟨o1, o2, -⟩
  · have o' : ¬ fX11_isInR a 0 7 = 0 := by rw [o2]; decide
    rcases in_out b 1 12 with ⟨p1, p2, pl, ph⟩ | ⟨p1, p2, -⟩
    · have p' : ¬ fX11_isInR b 1 12 = 0 := by rw [p2]; decide
      rcases in_out z 0 20000 with ⟨r1, r2, -, -⟩ | ⟨r1, r2, -⟩
      · have r' : ¬ fX11_isInR z 0 20000 = 0 := by rw [r2]; decide
        have c0 : ¬ nI n < 0 := nI_pos (by omega)
        by_cases q : n = 12
        · subst q
          have q' : M.2.2.2.2.2.2.1 = 12 := epn
          have c1 : ¬ nI 12 < 12 := nI_nlt (b := 12) (by omega) (by omega)
          refine ⟨⟨fun h => absurd h o', fun _ => ⟨fun h => absurd h p', fun _ => ⟨fun h => absurd h r', fun _ => ⟨fun _ => trivial, fun h => absurd q' h⟩⟩⟩⟩, ?_, no (fun h => absurd h.2.2.2 (by omega)) ((if_neg o').trans ((if_neg p').trans ((if_neg r').trans (if_pos q'))))⟩
          rw [show fX11_pileR M a b z = -104 from (if_neg o').trans ((if_neg p').trans ((if_neg r').trans (if_pos q')))]
          unfold fX10_pileR
          rw [if_pos o1, if_pos p1, if_pos r1, if_neg c0, if_neg c1]
        · have q' : ¬ M.2.2.2.2.2.2.1 = 12 := by rw [epn, n12, nI_eq (by omega) (by omega)]; exact q
          have c1 : nI n < 12 := nI_lt (b := 12) (by omega) (by omega)
          have hok : okP n a b z := ⟨o1, p1, r1, by omega⟩
          refine ⟨⟨fun h => absurd h o', fun _ => ⟨fun h => absurd h p', fun _ => ⟨fun h => absurd h r', fun _ => ⟨fun h => absurd h q', fun _ => ⟨?_, trivial⟩⟩⟩⟩⟩, ?_, ?_⟩
          · rw [epn]; exact vp_in_nI (by omega) (by omega)
          · rw [show fX11_pileR M a b z = (M.2.2.2.2.2.2.1 + 1) - 1 from (if_neg o').trans ((if_neg p').trans ((if_neg r').trans (if_neg q'))), epn, nI_1, nI_pred]
            unfold fX10_pileR
            rw [if_pos o1, if_pos p1, if_pos r1, if_neg c0, if_pos c1]
          · intro n1 C1 P1 h3
            rcases h3 with ⟨h4, -⟩ | ⟨-, q5, q6, rfl, rfl, rfl⟩
            · exact absurd hok h4
            · have eS : fX11_pileS M a b z = _ := (if_neg o').trans ((if_neg p').trans ((if_neg r').trans (if_neg q')))
              obtain ⟨eM, -, hC, hT, hX, hp, h0⟩ := h
              obtain ⟨cc, cc1, cc2, rfl⟩ := in_of (v := b) (a := 1) (b := 12) (by omega) (by omega) pl ph
              rw [eS, eM]
              refine ⟨nt, 0, en, upd kd n a, upd cp n (nI cc), upd lm n z, upd mn n 0, rw, ?_, by omega, fun i hi => ?_, hT, hX.mono (by omega), fun i hi => ?_, fun j hj => h0 j (by omega)⟩
              · unfold mk
                simp only [nI_1, nI_clamp (show n < 2 ^ 31 by omega)]
              · by_cases e : i = n
                · subst e
                  rw [show va_up C i (ciK a, q5, q6) i = (ciK a, q5, q6) from if_pos rfl]
                  exact (ck_all ol oh).2
                · rw [show va_up C n (ciK a, q5, q6) i = C i from if_neg e]
                  exact hC i (by omega)
              · by_cases e : i = n
                · subst e
                  rw [show va_up C i (ciK a, q5, q6) i = (ciK a, q5, q6) from if_pos rfl, show va_up P i (nI i, nI cc, z, (fun _ => 0), 0) i = (nI i, nI cc, z, (fun _ => 0), 0) from if_pos rfl, pk_us, pk_us, pk_us, pk_us]
                  exact ⟨(ck_all ol oh).1.symm, rfl, fun q hq => h0 _ (by omega), cc, 0, fun _ => 0, rfl, rfl, cc1, cc2, by omega, fun k hk => absurd hk (by omega)⟩
                · rw [show va_up C n (ciK a, q5, q6) i = C i from if_neg e, show va_up P n (nI n, nI cc, z, (fun _ => 0), 0) i = P i from if_neg e, pk_un e, pk_un e, pk_un e, pk_un e]
                  exact hp i (by omega)
      · have r0 : ¬ fX10_isOutsideR z 0 20000 = 0 := by rw [r1]; decide
        refine ⟨⟨fun h => absurd h o', fun _ => ⟨fun h => absurd h p', fun _ => ⟨fun _ => trivial, fun h => absurd r2 h⟩⟩⟩, ?_, no (fun h => r0 h.2.2.1) ((if_neg o').trans ((if_neg p').trans (if_pos r2)))⟩
        rw [show fX11_pileR M a b z = -102 from (if_neg o').trans ((if_neg p').trans (if_pos r2))]
        exact (if_pos o1).trans ((if_pos p1).trans (if_neg r0))
    · have p0 : ¬ fX10_isOutsideR b 1 12 = 0 := by rw [p1]; decide
      refine ⟨⟨fun h => absurd h o', fun _ => ⟨fun _ => trivial, fun h => absurd p2 h⟩⟩, ?_, no (fun h => p0 h.2.1) ((if_neg o').trans (if_pos p2))⟩
      rw [show fX11_pileR M a b z = -102 from (if_neg o').trans (if_pos p2)]
      exact (if_pos o1).trans (if_neg p0)
  · have o0 : ¬ fX10_isOutsideR a 0 7 = 0 := by rw [o1]; decide
    refine ⟨⟨fun _ => trivial, fun h => absurd o2 h⟩, ?_, no (fun h => o0 h.1) (if_pos o2)⟩
    rw [show fX11_pileR M a b z = -102 from if_pos o2]
    exact if_neg o0
def mm0 : MM := (0, 0, (fun _ => 0), (fun _ => 0), (fun _ => 0), (fun _ => 0), 0, (fun _ => 0), (fun _ => 0), (fun _ => 0), (fun _ => 0), (fun _ => 0), (fun _ => 0), 0, 0, 0, 0)
theorem inv0 (C : CZ) (P : Nat → PP) : Inv 0 0 C P tt0 xx0 mm0 := by
  refine ⟨0, 0, 0, (fun _ => 0), (fun _ => 0), (fun _ => 0), (fun _ => 0), (fun _ => 0), rfl, by omega, fun i hi => absurd hi (by omega), ⟨_, _, _, _, rfl, by omega, fun k hk => absurd hk (by omega), fun k hk => absurd hk (by omega)⟩, ⟨(fun _ => 0), 0, 0, 0, rfl, by omega⟩, fun i hi => absurd hi (by omega), fun _ _ => rfl⟩
