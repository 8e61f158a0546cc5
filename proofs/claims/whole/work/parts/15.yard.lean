/-! the yard: PileHeirs, its array of piles, the piles -/
abbrev GX : Type := ClassId × Nat × Nat
abbrev GX.cQ (x : GX) : ClassId := x.1
abbrev GX.xo (x : GX) : Nat := x.2.1
abbrev GX.pa (x : GX) : Nat := x.2.2
/-- a pile's class number, its address, its row's address -/
abbrev CZ : Type := Nat → Nat × Nat × Nat
abbrev tyX (g : GA) (x : GX) : List (ClassId × FieldType) := [(g.cI, .int), (g.cZ, .boolean), (x.cQ, .object "PileHeirs$Plain")]
def pfn (n : Nat) (C : CZ) : Nat → Option Nat := fun i => if i < n then some (C i).2.1 else none
abbrev wY (g : GA) (x : GX) (n : Nat) (C : CZ) : va_W := [(x.xo, .inr (11, [.ref g.tm, .ref g.dn, .ref x.pa, .int (nI n)])), (x.pa, .inl (x.cQ, 12, .inr (.inr (.inr (.inr (pfn n C))))))]
def wpz (g : GA) (C : CZ) (P : Nat → PP) (i : Nat) : va_W := wP g (C i).1 (C i).2.1 (C i).2.2 (P i)
def wL (g : GA) (n : Nat) (C : CZ) (P : Nat → PP) : va_W := (List.range n).flatMap (wpz g C P)
def wO (g : GA) (n : Nat) (C : CZ) (P : Nat → PP) (i : Nat) : va_W := ((List.range n).erase i).flatMap (wpz g C P)
abbrev wX0 (g : GA) (x : GX) (n : Nat) (C : CZ) (T : TT) (X : DD) : va_W := [(x.xo, .inr (11, [.ref g.tm, .ref g.dn, .ref x.pa, .int (nI n)])), (x.pa, .inl (x.cQ, 12, .inr (.inr (.inr (.inr (pfn n C)))))),
  (g.tm, .inr (8, [.ref g.al, .ref g.aw, .ref g.az, .ref g.ap, .int T.1])), (g.al, .inl (g.cI, 60, .inl T.2.1)), (g.aw, .inl (g.cI, 60, .inl T.2.2.1)), (g.az, .inl (g.cZ, 60, .inl T.2.2.2.1)), (g.ap, .inl (g.cI, 60, .inl T.2.2.2.2)),
  (g.dn, .inr (9, [.ref g.rg, .int X.2.1, .int X.2.2.1, .int X.2.2.2.1, .int X.2.2.2.2.1, .int X.2.2.2.2.2])), (g.rg, .inl (g.cI, 200, .inl X.1))]
abbrev wX (g : GA) (x : GX) (n : Nat) (C : CZ) (P : Nat → PP) (T : TT) (X : DD) : va_W := wX0 g x n C T X ++ wL g n C P
/-- with one pile in front -/
abbrev wF0 (g : GA) (x : GX) (n : Nat) (C : CZ) (ci h rw : Nat) (P : PP) (T : TT) (X : DD) : va_W := [(x.xo, .inr (11, [.ref g.tm, .ref g.dn, .ref x.pa, .int (nI n)])), (x.pa, .inl (x.cQ, 12, .inr (.inr (.inr (.inr (pfn n C)))))),
  (h, .inr (ci, [.ref g.tm, .ref g.dn, .int P.1, .int P.2.1, .int P.2.2.1, .ref rw, .int P.2.2.2.2])), (rw, .inl (g.cI, 12, .inl P.2.2.2.1)),
  (g.tm, .inr (8, [.ref g.al, .ref g.aw, .ref g.az, .ref g.ap, .int T.1])), (g.al, .inl (g.cI, 60, .inl T.2.1)), (g.aw, .inl (g.cI, 60, .inl T.2.2.1)), (g.az, .inl (g.cZ, 60, .inl T.2.2.2.1)), (g.ap, .inl (g.cI, 60, .inl T.2.2.2.2)),
  (g.dn, .inr (9, [.ref g.rg, .int X.2.1, .int X.2.2.1, .int X.2.2.2.1, .int X.2.2.2.2.1, .int X.2.2.2.2.2])), (g.rg, .inl (g.cI, 200, .inl X.1))]
theorem vP_iff {D : va_G} {cl : List vw_C} {ws : va_W} {H : Heap} : va_P D cl ws H ↔ ∀ q ∈ ws, va_at D cl q H := by
  constructor
  · intro h q hq
    obtain ⟨k, hk⟩ := List.getElem?_of_mem hq
    exact h k q hk
  · intro h k q hk
    exact h q (List.mem_of_getElem? hk)
theorem vD_iff {A : Nat → Prop} {ws : va_W} : va_D A ws ↔ (ws.map Prod.fst).Nodup ∧ ∀ q ∈ ws, A q.1 := by
  constructor
  · intro h
    refine ⟨?_, fun q hq => ?_⟩
    · refine List.pairwise_iff_getElem.mpr ?_
      intro i j hi hj hij hc
      have hj' : j < ws.length := by simpa using hj
      have hi' : i < ws.length := by simpa using hi
      have := h.1 i j _ _ (List.getElem?_eq_getElem hi') (List.getElem?_eq_getElem hj') (by simpa using hc)
      omega
    · obtain ⟨k, hk⟩ := List.getElem?_of_mem hq
      exact h.2 k q hk
  · intro h
    refine ⟨fun i j p q hi hj hpq => ?_, fun k q hk => h.2 q (List.mem_of_getElem? hk)⟩
    have hi' := (List.getElem?_eq_some_iff.mp hi).1
    have hj' := (List.getElem?_eq_some_iff.mp hj).1
    have ei : ws[i] = p := (List.getElem?_eq_some_iff.mp hi).2
    have ej : ws[j] = q := (List.getElem?_eq_some_iff.mp hj).2
    have hpw := List.pairwise_iff_getElem.mp h.1
    rcases Nat.lt_trichotomy i j with hl | hl | hl
    · exact absurd (by rw [List.getElem_map, List.getElem_map, ei, ej]; exact hpq) (hpw i j (by simpa using hi') (by simpa using hj') hl)
    · exact hl
    · exact absurd (by rw [List.getElem_map, List.getElem_map, ei, ej]; exact hpq.symm) (hpw j i (by simpa using hj') (by simpa using hi') hl)
theorem vP_perm {D : va_G} {cl : List vw_C} {ws ws' : va_W} {H : Heap} (hp : List.Perm ws ws') (h : va_P D cl ws H) : va_P D cl ws' H := vP_iff.mpr fun q hq => vP_iff.mp h q (hp.mem_iff.mpr hq)
theorem vD_perm {A : Nat → Prop} {ws ws' : va_W} (hp : List.Perm ws ws') (h : va_D A ws) : va_D A ws' := by
  rw [vD_iff] at h ⊢
  exact ⟨((hp.map Prod.fst).nodup_iff).mp h.1, fun q hq => h.2 q (hp.mem_iff.mpr hq)⟩
theorem wL_perm (g : GA) {n : Nat} (C : CZ) (P : Nat → PP) {i : Nat} (hi : i < n) : List.Perm (wL g n C P) (wpz g C P i ++ wO g n C P i) := by
  have h := (List.perm_cons_erase (List.mem_range.mpr hi)).flatMap_right (wpz g C P)
  rw [List.flatMap_cons] at h
  exact h
theorem wO_up (g : GA) (n : Nat) (C : CZ) (P : Nat → PP) (i : Nat) (Q : PP) : wO g n C (va_up P i Q) i = wO g n C P i := by
  unfold wO
  have h : ∀ j ∈ (List.range n).erase i, wpz g C (va_up P i Q) j = wpz g C P j := by
    intro j hj
    have hne : j ≠ i := fun e => by
      subst e
      exact absurd hj (List.Nodup.not_mem_erase List.nodup_range)
    unfold wpz
    rw [va_up_ne _ _ hne]
  rw [List.flatMap_def, List.flatMap_def, List.map_congr_left h]
/-- the pile i comes to the front -/
theorem wF_perm (g : GA) (x : GX) {n : Nat} (C : CZ) (P : Nat → PP) (T : TT) (X : DD) {i : Nat} (hi : i < n) : List.Perm (wX g x n C P T X) (wF0 g x n C (C i).1 (C i).2.1 (C i).2.2 (P i) T X ++ wO g n C P i) := by
  refine (List.Perm.append_left _ (wL_perm g C P hi)).trans ?_
  rw [← List.append_assoc]
  refine List.Perm.append_right _ ?_
  show List.Perm (wX0 g x n C T X ++ [_, _]) _
  refine List.Perm.cons _ (List.Perm.cons _ ?_)
  exact List.perm_append_comm (l₁ := [_, _, _, _, _, _, _]) (l₂ := [_, _])
theorem wU_perm (g : GA) (x : GX) {n : Nat} (C : CZ) (P : Nat → PP) (Q : PP) (T : TT) (X : DD) {i : Nat} (hi : i < n) : List.Perm (wF0 g x n C (C i).1 (C i).2.1 (C i).2.2 Q T X ++ wO g n C P i) (wX g x n C (va_up P i Q) T X) := by
  have h := (wF_perm g x C (va_up P i Q) T X hi).symm
  rw [va_up_self, wO_up] at h
  exact h
/-- the place of a pile by its number -/
def fz (n : Nat) (pl : Int32) : Option Nat := if 0 ≤ pl.toInt ∧ pl.toInt < n then some pl.toNatClampNeg else none
theorem fz_neg {n : Nat} {pl : Int32} (h : pl < 0) : fz n pl = none := by
  rw [Int32.lt_iff_toInt_lt, Int32.toInt_zero] at h
  unfold fz
  rw [if_neg (by omega)]
theorem fz_ge {n : Nat} {pl : Int32} (hn : n ≤ 12) (h : nI n ≤ pl) : fz n pl = none := by
  rw [Int32.le_iff_toInt_le, nI_toInt (by omega)] at h
  unfold fz
  rw [if_neg (by omega)]
theorem fz_in {n : Nat} {pl : Int32} (hn : n ≤ 12) (h0 : ¬ pl < 0) (h : ¬ nI n ≤ pl) : fz n pl = some pl.toNatClampNeg := by
  rw [Int32.lt_iff_toInt_lt, Int32.toInt_zero] at h0
  rw [Int32.le_iff_toInt_le, nI_toInt (by omega)] at h
  unfold fz
  rw [if_pos (by omega)]
theorem fz_lt {n i : Nat} {pl : Int32} (h : fz n pl = some i) : i < n := by
  unfold fz at h
  split at h
  · rename_i hc
    cases h
    have : pl.toNatClampNeg = pl.toInt.toNat := rfl
    omega
  · cases h
section ZD
variable {p : Program} {l : Launch} {e : Env} {R : Room} {s : State} {m : MethodId} {args : Array Value} {below : List Frame} {meth : Method} {c : Code} {H : Heap} {locs : List Loc} {cells slots : Nat} {Q : State → Prop}
variable {D : va_G} {tys : List (ClassId × FieldType)} {A : Nat → Prop} {H0 : Heap} {ws wc w1 pl : va_W}
variable {pc : Nat} {ls : Array Slot} {rest st0 : List Value} {a : Array Value} {mc ms : Nat}
theorem z_free (hD : va_D A (ws ++ pl)) (hS : va_S A H0 H locs) (hA : ∀ q, H0.size ≤ q → A q) (isC : List Nat) (hC : isC.map (fun i => ws[i]?) = wc.map some) : ∀ q, va_A wc H.size q → A q := by
  intro q h
  rcases h with ⟨k, e, h⟩ | h
  · obtain ⟨i, -, hi⟩ := va_in_of isC hC h
    refine hD.2 i (q, e) ?_
    rw [List.getElem?_append_left (List.getElem?_eq_some_iff.mp hi).1]
    exact hi
  · exact hA q (Nat.le_trans hS.1 h)
/-- a call whose cells lie in the first part ws of the world; the tail pl stays -/
theorem z_ieQ {r0 : Int32} (hr : va_Run p l e R s m args below meth c H locs cells slots 0 0 (F0 m pc ls st0) rest (va_Qi (fun r w => r = r0 ∧ w = w1) (ctB D tys (va_A wc H.size)) (va_A wc H.size) a) (va_A wc H.size))
    (hP : va_P D vwCl (ws ++ pl) H) (hD : va_D A (ws ++ pl)) (hS : va_S A H0 H locs) (hA : ∀ q, H0.size ≤ q → A q) (wr wn : va_W) (isC isR isN : List Nat) (hC : isC.map (fun i => ws[i]?) = wc.map some) (hR : isR.map (fun i => ws[i]?) = wr.map some) (hn : va_nd isR = true) (hdis : ∀ i ∈ isR, i ∉ isC) (hN : isN.map (fun i => (wr ++ w1)[i]?) = wn.map some) (hnN : va_nd isN = true)
    (kk : ∀ (H : Heap) (locs : List Loc), va_P D vwCl (wn ++ pl) H → va_D A (wn ++ pl) → va_S A H0 H locs → W p l e R s m args below meth c H locs cells slots Q (F0 m (pc + 3) ls (.int r0 :: rest))) :
    W p l e R s m args below meth c H locs cells slots Q (F0 m pc ls st0) := by
  have hF := z_free hD hS hA isC hC
  refine va_calli hr hS (fun q _ h => hF q h) hF (fun r u t H1 locs1 ht hvm hw hB hz1 hk1 hS1 => ?_)
  obtain ⟨hP1, hK1, hD1⟩ := hB
  rw [ht] at hP1
  obtain ⟨rfl, rfl⟩ := hw
  obtain ⟨hP2, hD2⟩ := va_joinQ (wr := wr) (w1 := u) hP hD isC isR hC hR hn hdis hk1 hF hP1 hD1
  exact kk H1 locs1 (hP2.part isN hN) (hD2.part isN hnN hN) hS1
theorem z_qeQ {r0 : Option Nat} (hr : va_Run p l e R s m args below meth c H locs cells slots 0 0 (F0 m pc ls st0) rest (va_Qq (fun r w => r = r0 ∧ w = w1) (ctB D tys (va_A wc H.size)) (va_A wc H.size) a) (va_A wc H.size))
    (hP : va_P D vwCl (ws ++ pl) H) (hD : va_D A (ws ++ pl)) (hS : va_S A H0 H locs) (hA : ∀ q, H0.size ≤ q → A q) (wr wn : va_W) (isC isR isN : List Nat) (hC : isC.map (fun i => ws[i]?) = wc.map some) (hR : isR.map (fun i => ws[i]?) = wr.map some) (hn : va_nd isR = true) (hdis : ∀ i ∈ isR, i ∉ isC) (hN : isN.map (fun i => (wr ++ w1)[i]?) = wn.map some) (hnN : va_nd isN = true)
    (kk : ∀ (H : Heap) (locs : List Loc), va_P D vwCl (wn ++ pl) H → va_D A (wn ++ pl) → va_S A H0 H locs → W p l e R s m args below meth c H locs cells slots Q (F0 m (pc + 3) ls (va_rf r0 :: rest))) :
    W p l e R s m args below meth c H locs cells slots Q (F0 m pc ls st0) := by
  have hF := z_free hD hS hA isC hC
  refine va_callq hr hS (fun q _ h => hF q h) hF (fun r u t H1 locs1 ht hvm hw hB hz1 hk1 hS1 => ?_)
  obtain ⟨hP1, hK1, hD1⟩ := hB
  rw [ht] at hP1
  obtain ⟨rfl, rfl⟩ := hw
  obtain ⟨hP2, hD2⟩ := va_joinQ (wr := wr) (w1 := u) hP hD isC isR hC hR hn hdis hk1 hF hP1 hD1
  exact kk H1 locs1 (hP2.part isN hN) (hD2.part isN hnN hN) hS1
theorem vP_left (h : va_P D vwCl (ws ++ pl) H) : va_P D vwCl ws H := vP_iff.mpr fun q hq => vP_iff.mp h q (List.mem_append_left _ hq)
theorem vD_left (h : va_D A (ws ++ pl)) : va_D A ws := by
  rw [vD_iff] at h ⊢
  rw [List.map_append, List.nodup_append] at h
  exact ⟨h.1.1, fun q hq => h.2 q (List.mem_append_left _ hq)⟩
end ZD
