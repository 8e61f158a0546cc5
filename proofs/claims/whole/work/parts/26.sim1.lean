/-! layer 2: the reference over the class's own values. GD: the trace after d rules; GL: a pile; GT: the timbers; MR: the reference's state M shows pile i as P, the timbers as T, the trace as X -/
def nx (d : Nat) : Nat := if d = 0 then 0 else (d - 1) % 200 + 1
def xO (tr : FN) (d : Nat) (hv no : Int32) : DD := (tr, nI (nx d), nI (min d 200), nI d, hv, no)
def GD (b : Nat) (X : DD) : Prop := ∃ tr d hv no, X = xO tr d hv no ∧ d ≤ b
def GL (i nt : Nat) (cpv lmv : Int32) (P : PP) : Prop := ∃ c h r, P = (nI i, nI c, lmv, r, nI h) ∧ cpv = nI c ∧ 1 ≤ c ∧ c ≤ 12 ∧ h ≤ c ∧ ∀ k, k < h → ∃ t, t < nt ∧ r k = nI t
def GT (nt : Nat) (T : TT) : Prop := ∃ ln wt we li, T = (nI nt, ln, wt, we, li) ∧ nt ≤ 60 ∧ (∀ k, k < nt → ∃ w, 1 ≤ w ∧ w ≤ 1000 ∧ wt k = nI w) ∧ ∀ k, k < nt → we k = 0 ∨ we k = 1
def mk (cd : Int32) (T : TT) (pn : Int32) (kd cp lm mn rw : FN) (X : DD) (en : Int32) : MM := (cd, T.1, T.2.1, T.2.2.1, T.2.2.2.1, T.2.2.2.2, pn, kd, cp, lm, mn, rw, X.1, X.2.2.2.1, X.2.2.2.2.1, X.2.2.2.2.2, en)
def MR (i : Nat) (cd pn : Int32) (kd cp lm mn0 rw0 : FN) (P : PP) (T : TT) (X : DD) (en : Int32) (M : MM) : Prop := ∃ mn rw, M = mk cd T pn kd cp lm mn rw X en ∧ mn i = P.2.2.2.2 ∧ (∀ k, k < 12 → rw (12 * i + k) = P.2.2.2.1 k) ∧ (∀ j, j ≠ i → mn j = mn0 j) ∧ ∀ j, j / 12 ≠ i → rw j = rw0 j
def kdz (ci : Nat) : Int32 := match ci with | 3 => 1 | 6 => 2 | 7 => 3 | 1 => 4 | 10 => 5 | 4 => 6 | 2 => 7 | _ => 0
theorem n200 : (200 : Int32) = nI 200 := rfl
theorem n60 : (60 : Int32) = nI 60 := rfl
theorem n12 : (12 : Int32) = nI 12 := rfl
theorem n1 : (1 : Int32) = nI 1 := rfl
theorem n0 : (0 : Int32) = nI 0 := rfl
theorem GD.mono {b b' : Nat} {X : DD} (h : GD b X) (hb : b ≤ b') : GD b' X := by
  obtain ⟨tr, d, hv, no, e, hd⟩ := h
  exact ⟨tr, d, hv, no, e, Nat.le_trans hd hb⟩
theorem nx_a {d : Nat} (h : nx d < 200) : nx d = d % 200 ∧ nx (d + 1) = nx d + 1 := by
  unfold nx at *
  split at h
  · rename_i h0; subst h0; exact ⟨rfl, rfl⟩
  · rename_i h0
    rw [if_neg h0, if_neg (by omega)]
    constructor <;> omega
theorem nx_b {d : Nat} (h : ¬ nx d < 200) : d % 200 = 0 ∧ nx (d + 1) = 1 := by
  unfold nx at *
  split at h
  · omega
  · rw [if_neg (by omega)]
    constructor <;> omega
theorem nx_le (d : Nat) : nx d ≤ 200 := by
  unfold nx
  split <;> omega
theorem bg_eq {tr : FN} {d : Nat} {hv no : Int32} (hd : d < 2 ^ 30) (a k : Int32) : fX8_beginS (xO tr d hv no) a k = xO (upd tr (d % 200) (10 * a + k)) (d + 1) hv no := by
  have hn := nx_le d
  have hk : (if (200 : Int32) < nI (min d 200) + 1 then (200 : Int32) else nI (min d 200) + 1) = nI (min (d + 1) 200) := by
    rw [n200, nI_1]
    by_cases q : d < 200
    · rw [if_neg (nI_nlt (by omega) (by omega))]
      congr 1
      omega
    · rw [if_pos (nI_lt (by omega) (by omega))]
      congr 1
      omega
  unfold fX8_beginS xO
  simp only []
  rw [if_neg (nI_pos (by omega)), hk, nI_1]
  by_cases q : nx d < 200
  · rw [if_pos (by rw [n200]; exact nI_lt q (by omega)), nI_clamp (by omega), (nx_a q).1, nI_1, ← (nx_a q).1, ← (nx_a q).2]
  · rw [if_neg (by rw [n200]; exact nI_nlt (by omega) (by omega)), (nx_b q).1, (nx_b q).2]
    simp only [nI_1]
    rfl
section RS
variable {i nt b : Nat} {cd pn en : Int32} {kd cp lm mn0 rw0 : FN} {P : PP} {T : TT} {X : DD} {M : MM}
theorem m_rule (hM : MR i cd pn kd cp lm mn0 rw0 P T X en M) (hX : GD b X) (hb : b < 2 ^ 30) (a k : Int32) : fX11_ruleK M a k ∧ MR i cd pn kd cp lm mn0 rw0 P T (fX8_beginS X a k) en (fX11_ruleS M a k) ∧ GD (b + 1) (fX8_beginS X a k) := by
  obtain ⟨mn, rw, rfl, h1, h2, h3, h4⟩ := hM
  obtain ⟨tr, d, hv, no, rfl, hd⟩ := hX
  have e : nI d - nI d / 200 * 200 = nI (d % 200) := pk_rem (d := 200) (by omega) (by omega) (by omega)
  refine ⟨⟨?_, trivial⟩, ⟨mn, rw, ?_, h1, h2, h3, h4⟩, ?_⟩
  · show vp_in (nI d - nI d / 200 * 200) 200
    rw [e]
    exact vp_in_nI (Nat.mod_lt _ (by omega)) (by omega)
  · rw [bg_eq (by omega)]
    unfold fX11_ruleS mk xO
    simp only [e, nI_1]
    rw [nI_clamp (by omega)]
  · rw [bg_eq (by omega)]
    exact ⟨_, _, _, _, rfl, by omega⟩
end RS
/-! the timbers by their numbers -/
section TS
variable {nt : Nat} {ln wt we li r : FN} {X : DD}
theorem has_in {t : Nat} (ht : t < nt) (hn : nt ≤ 60) : fX7_hasR (nI nt, ln, wt, we, li) (nI t) = 1 := by
  unfold fX7_hasR
  simp only []
  rw [if_neg (nI_pos (by omega)), if_neg (nI_ge ht (by omega)), if_neg (by rw [n60]; exact nI_ge (by omega) (by omega))]
theorem wo_in {t : Nat} (ht : t < nt) (hn : nt ≤ 60) : fX7_weightOfR (nI nt, ln, wt, we, li) (nI t) = wt t := by
  unfold fX7_weightOfR
  rw [has_in ht hn, if_neg (by decide), nI_clamp (by omega)]
theorem lo_in {t : Nat} (ht : t < nt) (hn : nt ≤ 60) : fX7_lengthOfR (nI nt, ln, wt, we, li) (nI t) = ln t := by
  unfold fX7_lengthOfR
  rw [has_in ht hn, if_neg (by decide), nI_clamp (by omega)]
theorem iw_in {t : Nat} (ht : t < nt) (hn : nt ≤ 60) : fX7_isWetR (nI nt, ln, wt, we, li) (nI t) = if we t = 0 then 0 else 1 := by
  unfold fX7_isWetR
  rw [has_in ht hn, if_neg (by decide), nI_clamp (by omega)]
theorem sp_in {t : Nat} (ht : t < nt) (hn : nt ≤ 60) (z : Int32) : fX7_setPileS (nI nt, ln, wt, we, li) (nI t) z = (nI nt, ln, wt, we, upd li t z) := by
  unfold fX7_setPileS
  rw [has_in ht hn, if_neg (by decide), nI_clamp (by omega)]
theorem sw_in {t : Nat} (ht : t < nt) (hn : nt ≤ 60) (z : Int32) : fX7_setWetS (nI nt, ln, wt, we, li) (nI t) z = (nI nt, ln, wt, upd we t (vp_nar .boolean z), li) := by
  unfold fX7_setWetS
  rw [has_in ht hn, if_neg (by decide), nI_clamp (by omega)]
theorem ta_in {q c : Int32} {lmv : Int32} {h k : Nat} {T : TT} (hk : k < h) (hh : h ≤ 12) : fX4_timberAtR (q, c, lmv, r, nI h) T X (nI k) = r k := by
  unfold fX4_timberAtR
  simp only []
  rw [if_neg (nI_pos (by omega)), if_neg (nI_ge hk (by omega)), if_neg (by rw [n12]; exact nI_ge (by omega) (by omega)), nI_clamp (by omega)]
end TS
/-! sums over a row -/
def aW (r wt : FN) : Nat → Int32
  | 0 => 0
  | m + 1 => aW r wt m + wt (r m).toNatClampNeg
def aD (r we : FN) : Nat → Int32
  | 0 => 0
  | m + 1 => if we (r m).toNatClampNeg = 0 then aD r we m else aD r we m + 1
section LC
variable {i nt : Nat} {c q lmv : Int32} {h : Nat} {ln wt we li r : FN} {X : DD}
theorem cl_ld (hn : nt ≤ 60) (hh : h ≤ 12) (hr : ∀ k, k < h → ∃ t, t < nt ∧ r k = nI t) : ∀ f k, h - k < f → k ≤ h → lX4_load (q, c, lmv, r, nI h) (nI nt, ln, wt, we, li) X f (aW r wt k) (nI k) = aW r wt h := by
  intro f
  induction f with
  | zero => intro k h1; omega
  | succ f ih =>
    intro k h1 h2
    unfold lX4_load
    by_cases e : k = h
    · subst e
      rw [if_pos (nI_le (Nat.le_refl _) (by omega))]
    · obtain ⟨t, ht, hrt⟩ := hr k (by omega)
      rw [if_neg (nI_ge (by omega) (by omega)), ta_in (by omega) hh, hrt, wo_in ht hn, nI_1]
      have e2 : aW r wt k + wt t = aW r wt (k + 1) := by
        show _ = aW r wt k + wt (r k).toNatClampNeg
        rw [hrt, nI_clamp (by omega)]
      rw [e2]
      exact ih (k + 1) (by omega) (by omega)
theorem cl_wt (hn : nt ≤ 60) (hh : h ≤ 12) (hr : ∀ k, k < h → ∃ t, t < nt ∧ r k = nI t) (z : Int32) : ∀ f k, h - k < f → k ≤ h → lX3_load (q, c, lmv, r, nI h) (nI nt, ln, wt, we, li) X f (z + 10 * aD r we k) (nI k) = z + 10 * aD r we h := by
  intro f
  induction f with
  | zero => intro k h1; omega
  | succ f ih =>
    intro k h1 h2
    unfold lX3_load
    show (if nI h ≤ nI k then _ else _) = _
    by_cases e : k = h
    · subst e
      rw [if_pos (nI_le (Nat.le_refl _) (by omega))]
    · obtain ⟨t, ht, hrt⟩ := hr k (by omega)
      rw [if_neg (nI_ge (by omega) (by omega)), ta_in (by omega) hh, hrt, iw_in ht hn, nI_1]
      have e2 : aD r we (k + 1) = if we t = 0 then aD r we k else aD r we k + 1 := by
        show (if we (r k).toNatClampNeg = 0 then _ else _) = _
        rw [hrt, nI_clamp (by omega)]
      by_cases w : we t = 0
      · rw [if_pos w, if_pos rfl]
        rw [if_pos w] at e2
        rw [← e2]
        exact ih (k + 1) (by omega) (by omega)
      · rw [if_neg w, if_neg (by decide)]
        rw [if_neg w] at e2
        have e3 : z + 10 * aD r we k + 10 = z + 10 * aD r we (k + 1) := by
          rw [e2, Int32.mul_add, Int32.add_assoc]
          rfl
        rw [e3]
        exact ih (k + 1) (by omega) (by omega)
theorem cl_load (hn : nt ≤ 60) (hh : h ≤ 12) (hr : ∀ k, k < h → ∃ t, t < nt ∧ r k = nI t) : fX4_loadActR (q, c, lmv, r, nI h) (nI nt, ln, wt, we, li) X = aW r wt h := by
  unfold fX4_loadActR
  exact cl_ld hn hh hr _ 0 (by show h - 0 < (nI h).toNatClampNeg + 1; rw [nI_clamp (by omega)]; omega) (by omega)
theorem cl_load3 (hn : nt ≤ 60) (hh : h ≤ 12) (hr : ∀ k, k < h → ∃ t, t < nt ∧ r k = nI t) : fX3_loadActR (q, c, lmv, r, nI h) (nI nt, ln, wt, we, li) X = aW r wt h + 10 * aD r we h := by
  unfold fX3_loadActR
  rw [cl_load hn hh hr]
  have e := cl_wt (q := q) (c := c) (lmv := lmv) (ln := ln) (wt := wt) (li := li) (we := we) (X := (fX4_loadActS (q, c, lmv, r, nI h) (nI nt, ln, wt, we, li) (fX8_beginS X 2 6)).2.2) hn hh hr (aW r wt h) ((nI h).toNatClampNeg + 1) 0 (by rw [nI_clamp (by omega)]; omega) (by omega)
  have e0 : aW r wt h + 10 * aD r we 0 = aW r wt h := by
    show aW r wt h + 10 * 0 = _
    rw [Int32.mul_zero, Int32.add_zero]
  rw [e0] at e
  exact e
end LC
/-! the reference's load loop, once for its four printings -/
def gLR (M : MM) (pl : Int32) (fin : Int32 → Int32 → Int32) : Nat → Int32 × Int32 × Int32 → Int32
  | 0, _ => 0
  | n + 1, x => (if ((M.2.2.2.2.2.2.2.2.2.2.1) pl.toNatClampNeg) ≤ x.2.2 then fin x.1 x.2.1 else (if ((M.2.2.2.2.1) ((M.2.2.2.2.2.2.2.2.2.2.2.1) ((12 * pl) + x.2.2).toNatClampNeg).toNatClampNeg) = 0 then gLR M pl fin n ((x.1 + ((M.2.2.2.1) ((M.2.2.2.2.2.2.2.2.2.2.2.1) ((12 * pl) + x.2.2).toNatClampNeg).toNatClampNeg)), (x.2.1 + 0), (x.2.2 + 1)) else gLR M pl fin n ((x.1 + ((M.2.2.2.1) ((M.2.2.2.2.2.2.2.2.2.2.2.1) ((12 * pl) + x.2.2).toNatClampNeg).toNatClampNeg)), (x.2.1 + 1), (x.2.2 + 1))))
def gLS (M : MM) (pl : Int32) (M0 : MM) : Nat → Int32 × Int32 × Int32 → MM
  | 0, _ => M0
  | n + 1, x => (if ((M.2.2.2.2.2.2.2.2.2.2.1) pl.toNatClampNeg) ≤ x.2.2 then M else (if ((M.2.2.2.2.1) ((M.2.2.2.2.2.2.2.2.2.2.2.1) ((12 * pl) + x.2.2).toNatClampNeg).toNatClampNeg) = 0 then gLS M pl M0 n ((x.1 + ((M.2.2.2.1) ((M.2.2.2.2.2.2.2.2.2.2.2.1) ((12 * pl) + x.2.2).toNatClampNeg).toNatClampNeg)), (x.2.1 + 0), (x.2.2 + 1)) else gLS M pl M0 n ((x.1 + ((M.2.2.2.1) ((M.2.2.2.2.2.2.2.2.2.2.2.1) ((12 * pl) + x.2.2).toNatClampNeg).toNatClampNeg)), (x.2.1 + 1), (x.2.2 + 1))))
def gLK (M : MM) (pl : Int32) : Nat → Int32 × Int32 × Int32 → Prop
  | 0, _ => True
  | n + 1, x => ((((M.2.2.2.2.2.2.2.2.2.2.1) pl.toNatClampNeg) ≤ x.2.2 → True) ∧ (¬ ((M.2.2.2.2.2.2.2.2.2.2.1) pl.toNatClampNeg) ≤ x.2.2 → (vp_in ((12 * pl) + x.2.2) 144 ∧ vp_in ((M.2.2.2.2.2.2.2.2.2.2.2.1) ((12 * pl) + x.2.2).toNatClampNeg) 60 ∧ ((((M.2.2.2.2.1) ((M.2.2.2.2.2.2.2.2.2.2.2.1) ((12 * pl) + x.2.2).toNatClampNeg).toNatClampNeg) = 0 → (gLK M pl n ((x.1 + ((M.2.2.2.1) ((M.2.2.2.2.2.2.2.2.2.2.2.1) ((12 * pl) + x.2.2).toNatClampNeg).toNatClampNeg)), (x.2.1 + 0), (x.2.2 + 1)) ∧ True)) ∧ (¬ ((M.2.2.2.2.1) ((M.2.2.2.2.2.2.2.2.2.2.2.1) ((12 * pl) + x.2.2).toNatClampNeg).toNatClampNeg) = 0 → (gLK M pl n ((x.1 + ((M.2.2.2.1) ((M.2.2.2.2.2.2.2.2.2.2.2.1) ((12 * pl) + x.2.2).toNatClampNeg).toNatClampNeg)), (x.2.1 + 1), (x.2.2 + 1)) ∧ True))))))
theorem lo_1R (M : MM) (pl : Int32) : ∀ n x, lX11_loadOf_1R M pl n x = gLR (fX11_ruleS (fX11_ruleS M 2 5) 2 0) pl (fun a _ => 2 * a) n x := by
  intro n
  induction n with
  | zero => intro x; rfl
  | succ n ih => intro x; unfold lX11_loadOf_1R gLR; simp only [ih]
theorem lo_1S (M : MM) (pl : Int32) : ∀ n x, lX11_loadOf_1S M pl n x = gLS (fX11_ruleS (fX11_ruleS M 2 5) 2 0) pl M n x := by
  intro n
  induction n with
  | zero => intro x; rfl
  | succ n ih => intro x; unfold lX11_loadOf_1S gLS; simp only [ih]
theorem lo_1K (M : MM) (pl : Int32) : ∀ n x, gLK (fX11_ruleS (fX11_ruleS M 2 5) 2 0) pl n x → lX11_loadOf_1K M pl n x := by
  intro n
  induction n with
  | zero => intro x _; exact trivial
  | succ n ih => intro x hx; unfold lX11_loadOf_1K; exact ⟨fun _ => trivial, fun q => ⟨(hx.2 q).1, (hx.2 q).2.1, fun w => ⟨ih _ ((hx.2 q).2.2.1 w).1, trivial⟩, fun w => ⟨ih _ ((hx.2 q).2.2.2 w).1, trivial⟩⟩⟩
theorem lo_2R (M : MM) (pl : Int32) : ∀ n x, lX11_loadOf_2R M pl n x = gLR (fX11_ruleS M 2 0) pl (fun a _ => a) n x := by
  intro n
  induction n with
  | zero => intro x; rfl
  | succ n ih => intro x; unfold lX11_loadOf_2R gLR; simp only [ih]
theorem lo_2S (M : MM) (pl : Int32) : ∀ n x, lX11_loadOf_2S M pl n x = gLS (fX11_ruleS M 2 0) pl M n x := by
  intro n
  induction n with
  | zero => intro x; rfl
  | succ n ih => intro x; unfold lX11_loadOf_2S gLS; simp only [ih]
theorem lo_2K (M : MM) (pl : Int32) : ∀ n x, gLK (fX11_ruleS M 2 0) pl n x → lX11_loadOf_2K M pl n x := by
  intro n
  induction n with
  | zero => intro x _; exact trivial
  | succ n ih => intro x hx; unfold lX11_loadOf_2K; exact ⟨fun _ => trivial, fun q => ⟨(hx.2 q).1, (hx.2 q).2.1, fun w => ⟨ih _ ((hx.2 q).2.2.1 w).1, trivial⟩, fun w => ⟨ih _ ((hx.2 q).2.2.2 w).1, trivial⟩⟩⟩
theorem lo_3R (M : MM) (pl : Int32) : ∀ n x, lX11_loadOf_3R M pl n x = gLR (fX11_ruleS (fX11_ruleS M 2 6) 2 0) pl (fun a z => a + 10 * z) n x := by
  intro n
  induction n with
  | zero => intro x; rfl
  | succ n ih => intro x; unfold lX11_loadOf_3R gLR; simp only [ih]
theorem lo_3S (M : MM) (pl : Int32) : ∀ n x, lX11_loadOf_3S M pl n x = gLS (fX11_ruleS (fX11_ruleS M 2 6) 2 0) pl M n x := by
  intro n
  induction n with
  | zero => intro x; rfl
  | succ n ih => intro x; unfold lX11_loadOf_3S gLS; simp only [ih]
theorem lo_3K (M : MM) (pl : Int32) : ∀ n x, gLK (fX11_ruleS (fX11_ruleS M 2 6) 2 0) pl n x → lX11_loadOf_3K M pl n x := by
  intro n
  induction n with
  | zero => intro x _; exact trivial
  | succ n ih => intro x hx; unfold lX11_loadOf_3K; exact ⟨fun _ => trivial, fun q => ⟨(hx.2 q).1, (hx.2 q).2.1, fun w => ⟨ih _ ((hx.2 q).2.2.1 w).1, trivial⟩, fun w => ⟨ih _ ((hx.2 q).2.2.2 w).1, trivial⟩⟩⟩
theorem lo_4R (M : MM) (pl : Int32) : ∀ n x, lX11_loadOf_4R M pl n x = gLR (fX11_ruleS (fX11_ruleS M 2 5) 2 0) pl (fun a _ => 2 * a) n x := by
  intro n
  induction n with
  | zero => intro x; rfl
  | succ n ih => intro x; unfold lX11_loadOf_4R gLR; simp only [ih]
theorem lo_4S (M : MM) (pl : Int32) : ∀ n x, lX11_loadOf_4S M pl n x = gLS (fX11_ruleS (fX11_ruleS M 2 5) 2 0) pl M n x := by
  intro n
  induction n with
  | zero => intro x; rfl
  | succ n ih => intro x; unfold lX11_loadOf_4S gLS; simp only [ih]
theorem lo_4K (M : MM) (pl : Int32) : ∀ n x, gLK (fX11_ruleS (fX11_ruleS M 2 5) 2 0) pl n x → lX11_loadOf_4K M pl n x := by
  intro n
  induction n with
  | zero => intro x _; exact trivial
  | succ n ih => intro x hx; unfold lX11_loadOf_4K; exact ⟨fun _ => trivial, fun q => ⟨(hx.2 q).1, (hx.2 q).2.1, fun w => ⟨ih _ ((hx.2 q).2.2.1 w).1, trivial⟩, fun w => ⟨ih _ ((hx.2 q).2.2.2 w).1, trivial⟩⟩⟩
section LG
variable {i nt : Nat} {cd pn en : Int32} {kd cp lm mn rw : FN} {h : Nat} {r : FN} {ln wt we li : FN} {X : DD}
theorem g_row (hi : i < 12) (hh : h ≤ 12) (hrw : ∀ k, k < 12 → rw (12 * i + k) = r k) {k : Nat} (hk : k < h) : 12 * nI i + nI k = nI (12 * i + k) ∧ (12 * nI i + nI k).toNatClampNeg = 12 * i + k ∧ rw (12 * nI i + nI k).toNatClampNeg = r k := by
  have e : 12 * nI i + nI k = nI (12 * i + k) := by rw [n12, pk_mul, nI_add]
  refine ⟨e, ?_, ?_⟩
  · rw [e, nI_clamp (by omega)]
  · rw [e, nI_clamp (by omega)]
    exact hrw k (by omega)
theorem g_all (fin : Int32 → Int32 → Int32) (M0 : MM) (hi : i < 12) (hn : nt ≤ 60) (hh : h ≤ 12) (hm : mn i = nI h) (hrw : ∀ k, k < 12 → rw (12 * i + k) = r k) (hr : ∀ k, k < h → ∃ t, t < nt ∧ r k = nI t) : ∀ f k, h - k < f → k ≤ h →
    gLR (mk cd (nI nt, ln, wt, we, li) pn kd cp lm mn rw X en) (nI i) fin f (aW r wt k, aD r we k, nI k) = fin (aW r wt h) (aD r we h) ∧
    gLS (mk cd (nI nt, ln, wt, we, li) pn kd cp lm mn rw X en) (nI i) M0 f (aW r wt k, aD r we k, nI k) = mk cd (nI nt, ln, wt, we, li) pn kd cp lm mn rw X en ∧
    gLK (mk cd (nI nt, ln, wt, we, li) pn kd cp lm mn rw X en) (nI i) f (aW r wt k, aD r we k, nI k) := by
  intro f
  induction f with
  | zero => intro k h1; omega
  | succ f ih =>
    intro k h1 h2
    have hcl : (nI i).toNatClampNeg = i := nI_clamp (by omega)
    by_cases e : k = h
    · subst e
      have hle : mn (nI i).toNatClampNeg ≤ nI k := by rw [hcl, hm]; exact nI_le (Nat.le_refl _) (by omega)
      unfold gLR gLS gLK
      refine ⟨?_, ?_, fun _ => trivial, fun q => absurd hle q⟩
      · exact if_pos hle
      · exact if_pos hle
    · obtain ⟨t, ht, hrt⟩ := hr k (by omega)
      obtain ⟨q1, q2, q3⟩ := g_row hi hh hrw (show k < h by omega)
      have hg : ¬ mn (nI i).toNatClampNeg ≤ nI k := by rw [hcl, hm]; exact nI_ge (by omega) (by omega)
      have hx : (rw (12 * nI i + nI k).toNatClampNeg).toNatClampNeg = t := by rw [q3, hrt, nI_clamp (by omega)]
      have e1 : aW r wt (k + 1) = aW r wt k + wt (rw (12 * nI i + nI k).toNatClampNeg).toNatClampNeg := by
        show aW r wt k + wt (r k).toNatClampNeg = _
        rw [hx, hrt, nI_clamp (by omega)]
      have e2 : aD r we (k + 1) = if we (rw (12 * nI i + nI k).toNatClampNeg).toNatClampNeg = 0 then aD r we k else aD r we k + 1 := by
        show (if we (r k).toNatClampNeg = 0 then _ else _) = _
        rw [hx, hrt, nI_clamp (by omega)]
      obtain ⟨i1, i2, i3⟩ := ih (k + 1) (by omega) (by omega)
      rw [e1, ← nI_1] at i1 i2 i3
      have hv1 : vp_in (12 * nI i + nI k) 144 := by rw [q1]; exact vp_in_nI (by omega) (by omega)
      have hv2 : vp_in (rw (12 * nI i + nI k).toNatClampNeg) 60 := by rw [q3, hrt]; exact vp_in_nI (by omega) (by omega)
      unfold gLR gLS gLK
      by_cases w : we (rw (12 * nI i + nI k).toNatClampNeg).toNatClampNeg = 0
      · have e3 : aD r we (k + 1) = aD r we k + 0 := by rw [e2, if_pos w, Int32.add_zero]
        rw [e3] at i1 i2 i3
        refine ⟨?_, ?_, fun q => absurd q hg, fun _ => ⟨hv1, hv2, fun _ => ⟨i3, trivial⟩, fun q => absurd w q⟩⟩
        · exact (if_neg hg).trans ((if_pos w).trans i1)
        · exact (if_neg hg).trans ((if_pos w).trans i2)
      · have e3 : aD r we (k + 1) = aD r we k + 1 := by rw [e2, if_neg w]
        rw [e3] at i1 i2 i3
        refine ⟨?_, ?_, fun q => absurd q hg, fun _ => ⟨hv1, hv2, fun q => absurd q w, fun _ => ⟨i3, trivial⟩⟩⟩
        · exact (if_neg hg).trans ((if_neg w).trans i1)
        · exact (if_neg hg).trans ((if_neg w).trans i2)
end LG
