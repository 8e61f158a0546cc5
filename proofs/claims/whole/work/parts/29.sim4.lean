/-! the acts of the reference, kind by kind -/
def sE (M : MM) (v : Int32) : MM := (M.1, M.2.1, M.2.2.1, M.2.2.2.1, M.2.2.2.2.1, M.2.2.2.2.2.1, M.2.2.2.2.2.2.1, M.2.2.2.2.2.2.2.1, M.2.2.2.2.2.2.2.2.1, M.2.2.2.2.2.2.2.2.2.1, M.2.2.2.2.2.2.2.2.2.2.1, M.2.2.2.2.2.2.2.2.2.2.2.1, M.2.2.2.2.2.2.2.2.2.2.2.2.1, M.2.2.2.2.2.2.2.2.2.2.2.2.2.1, M.2.2.2.2.2.2.2.2.2.2.2.2.2.2.1, M.2.2.2.2.2.2.2.2.2.2.2.2.2.2.2.1, v)
def sC (M : MM) (v : Int32) : MM := (v, M.2.1, M.2.2.1, M.2.2.2.1, M.2.2.2.2.1, M.2.2.2.2.2.1, M.2.2.2.2.2.2.1, M.2.2.2.2.2.2.2.1, M.2.2.2.2.2.2.2.2.1, M.2.2.2.2.2.2.2.2.2.1, M.2.2.2.2.2.2.2.2.2.2.1, M.2.2.2.2.2.2.2.2.2.2.2.1, M.2.2.2.2.2.2.2.2.2.2.2.2.1, M.2.2.2.2.2.2.2.2.2.2.2.2.2.1, M.2.2.2.2.2.2.2.2.2.2.2.2.2.2.1, M.2.2.2.2.2.2.2.2.2.2.2.2.2.2.2.1, M.2.2.2.2.2.2.2.2.2.2.2.2.2.2.2.2)
def sWe (M : MM) (f : FN) : MM := (M.1, M.2.1, M.2.2.1, M.2.2.2.1, f, M.2.2.2.2.2.1, M.2.2.2.2.2.2.1, M.2.2.2.2.2.2.2.1, M.2.2.2.2.2.2.2.2.1, M.2.2.2.2.2.2.2.2.2.1, M.2.2.2.2.2.2.2.2.2.2.1, M.2.2.2.2.2.2.2.2.2.2.2.1, M.2.2.2.2.2.2.2.2.2.2.2.2.1, M.2.2.2.2.2.2.2.2.2.2.2.2.2.1, M.2.2.2.2.2.2.2.2.2.2.2.2.2.2.1, M.2.2.2.2.2.2.2.2.2.2.2.2.2.2.2.1, M.2.2.2.2.2.2.2.2.2.2.2.2.2.2.2.2)
def sWt (M : MM) (f : FN) : MM := (M.1, M.2.1, M.2.2.1, f, M.2.2.2.2.1, M.2.2.2.2.2.1, M.2.2.2.2.2.2.1, M.2.2.2.2.2.2.2.1, M.2.2.2.2.2.2.2.2.1, M.2.2.2.2.2.2.2.2.2.1, M.2.2.2.2.2.2.2.2.2.2.1, M.2.2.2.2.2.2.2.2.2.2.2.1, M.2.2.2.2.2.2.2.2.2.2.2.2.1, M.2.2.2.2.2.2.2.2.2.2.2.2.2.1, M.2.2.2.2.2.2.2.2.2.2.2.2.2.2.1, M.2.2.2.2.2.2.2.2.2.2.2.2.2.2.2.1, M.2.2.2.2.2.2.2.2.2.2.2.2.2.2.2.2)
def sHv (M : MM) : MM := (M.1, M.2.1, M.2.2.1, M.2.2.2.1, M.2.2.2.2.1, M.2.2.2.2.2.1, M.2.2.2.2.2.2.1, M.2.2.2.2.2.2.2.1, M.2.2.2.2.2.2.2.2.1, M.2.2.2.2.2.2.2.2.2.1, M.2.2.2.2.2.2.2.2.2.2.1, M.2.2.2.2.2.2.2.2.2.2.2.1, M.2.2.2.2.2.2.2.2.2.2.2.2.1, M.2.2.2.2.2.2.2.2.2.2.2.2.2.1, (M.2.2.2.2.2.2.2.2.2.2.2.2.2.2.1 + 1), M.2.2.2.2.2.2.2.2.2.2.2.2.2.2.2.1, 1)
def sNo (M : MM) : MM := (M.1, M.2.1, M.2.2.1, M.2.2.2.1, M.2.2.2.2.1, M.2.2.2.2.2.1, M.2.2.2.2.2.2.1, M.2.2.2.2.2.2.2.1, M.2.2.2.2.2.2.2.2.1, M.2.2.2.2.2.2.2.2.2.1, M.2.2.2.2.2.2.2.2.2.2.1, M.2.2.2.2.2.2.2.2.2.2.2.1, M.2.2.2.2.2.2.2.2.2.2.2.2.1, M.2.2.2.2.2.2.2.2.2.2.2.2.2.1, M.2.2.2.2.2.2.2.2.2.2.2.2.2.2.1, (M.2.2.2.2.2.2.2.2.2.2.2.2.2.2.2.1 + 1), 1)
def stR (M : MM) (pl tb : Int32) : Int32 := (if ((fX11_loadOfR (fX11_ruleS (sE M 0) 0 3) pl) + (((fX11_loadOfS (fX11_ruleS (sE M 0) 0 3) pl).2.2.2.1) tb.toNatClampNeg)) ≤ (((fX11_loadOfS (fX11_ruleS (sE M 0) 0 3) pl).2.2.2.2.2.2.2.2.2.1) pl.toNatClampNeg) then (fX11_putPlainR (fX11_loadOfS (fX11_ruleS (sE M 0) 0 3) pl) pl tb) else 0)
def stS (M : MM) (pl tb : Int32) : MM := (if ((fX11_loadOfR (fX11_ruleS (sE M 0) 0 3) pl) + (((fX11_loadOfS (fX11_ruleS (sE M 0) 0 3) pl).2.2.2.1) tb.toNatClampNeg)) ≤ (((fX11_loadOfS (fX11_ruleS (sE M 0) 0 3) pl).2.2.2.2.2.2.2.2.2.1) pl.toNatClampNeg) then fX11_putPlainS (fX11_loadOfS (fX11_ruleS (sE M 0) 0 3) pl) pl tb else sHv (fX11_loadOfS (fX11_ruleS (sE M 0) 0 3) pl))
def stK (M : MM) (pl tb : Int32) : Prop := (fX11_ruleK (sE M 0) 0 3 ∧ fX11_loadOfK (fX11_ruleS (sE M 0) 0 3) pl ∧ vp_in tb 60 ∧ ((((fX11_loadOfR (fX11_ruleS (sE M 0) 0 3) pl) + (((fX11_loadOfS (fX11_ruleS (sE M 0) 0 3) pl).2.2.2.1) tb.toNatClampNeg)) ≤ (((fX11_loadOfS (fX11_ruleS (sE M 0) 0 3) pl).2.2.2.2.2.2.2.2.2.1) pl.toNatClampNeg) → (fX11_putPlainK (fX11_loadOfS (fX11_ruleS (sE M 0) 0 3) pl) pl tb ∧ True)) ∧ (¬ ((fX11_loadOfR (fX11_ruleS (sE M 0) 0 3) pl) + (((fX11_loadOfS (fX11_ruleS (sE M 0) 0 3) pl).2.2.2.1) tb.toNatClampNeg)) ≤ (((fX11_loadOfS (fX11_ruleS (sE M 0) 0 3) pl).2.2.2.2.2.2.2.2.2.1) pl.toNatClampNeg) → True)))
def opR (M : MM) (pl tb : Int32) : Int32 := (if (((fX11_ruleS (sE M 0) 0 6).2.2.2.2.1) tb.toNatClampNeg) = 0 then (if ((((fX11_ruleS (sE M 0) 0 6).2.2.2.1) tb.toNatClampNeg) - (((fX11_ruleS (sE M 0) 0 6).2.2.2.1) tb.toNatClampNeg) / 2 * 2) = 1 then (fX11_putSortedR (sWe (fX11_ruleS (sE M 0) 0 6) (upd ((fX11_ruleS (sE M 0) 0 6).2.2.2.2.1) tb.toNatClampNeg (vp_nar .boolean 1))) pl tb) else (fX11_putSortedR (sWe (fX11_ruleS (sE M 0) 0 6) (upd ((fX11_ruleS (sE M 0) 0 6).2.2.2.2.1) tb.toNatClampNeg (vp_nar .boolean 0))) pl tb)) else (fX11_putSortedR (sWe (fX11_ruleS (sE M 0) 0 6) (upd ((fX11_ruleS (sE M 0) 0 6).2.2.2.2.1) tb.toNatClampNeg (vp_nar .boolean 1))) pl tb))
def opS (M : MM) (pl tb : Int32) : MM := (if (((fX11_ruleS (sE M 0) 0 6).2.2.2.2.1) tb.toNatClampNeg) = 0 then (if ((((fX11_ruleS (sE M 0) 0 6).2.2.2.1) tb.toNatClampNeg) - (((fX11_ruleS (sE M 0) 0 6).2.2.2.1) tb.toNatClampNeg) / 2 * 2) = 1 then (fX11_putSortedS (sWe (fX11_ruleS (sE M 0) 0 6) (upd ((fX11_ruleS (sE M 0) 0 6).2.2.2.2.1) tb.toNatClampNeg (vp_nar .boolean 1))) pl tb) else (fX11_putSortedS (sWe (fX11_ruleS (sE M 0) 0 6) (upd ((fX11_ruleS (sE M 0) 0 6).2.2.2.2.1) tb.toNatClampNeg (vp_nar .boolean 0))) pl tb)) else (fX11_putSortedS (sWe (fX11_ruleS (sE M 0) 0 6) (upd ((fX11_ruleS (sE M 0) 0 6).2.2.2.2.1) tb.toNatClampNeg (vp_nar .boolean 1))) pl tb))
def opK (M : MM) (pl tb : Int32) : Prop := (fX11_ruleK (sE M 0) 0 6 ∧ vp_in tb 60 ∧ (((((fX11_ruleS (sE M 0) 0 6).2.2.2.2.1) tb.toNatClampNeg) = 0 → ((((((fX11_ruleS (sE M 0) 0 6).2.2.2.1) tb.toNatClampNeg) - (((fX11_ruleS (sE M 0) 0 6).2.2.2.1) tb.toNatClampNeg) / 2 * 2) = 1 → (fX11_putSortedK (sWe (fX11_ruleS (sE M 0) 0 6) (upd ((fX11_ruleS (sE M 0) 0 6).2.2.2.2.1) tb.toNatClampNeg (vp_nar .boolean 1))) pl tb ∧ True)) ∧ (¬ ((((fX11_ruleS (sE M 0) 0 6).2.2.2.1) tb.toNatClampNeg) - (((fX11_ruleS (sE M 0) 0 6).2.2.2.1) tb.toNatClampNeg) / 2 * 2) = 1 → (fX11_putSortedK (sWe (fX11_ruleS (sE M 0) 0 6) (upd ((fX11_ruleS (sE M 0) 0 6).2.2.2.2.1) tb.toNatClampNeg (vp_nar .boolean 0))) pl tb ∧ True)))) ∧ (¬ (((fX11_ruleS (sE M 0) 0 6).2.2.2.2.1) tb.toNatClampNeg) = 0 → (fX11_putSortedK (sWe (fX11_ruleS (sE M 0) 0 6) (upd ((fX11_ruleS (sE M 0) 0 6).2.2.2.2.1) tb.toNatClampNeg (vp_nar .boolean 1))) pl tb ∧ True))))
theorem q_putOfR (M : MM) (pl tb : Int32) : fX11_putOfR M pl tb = (if (M.2.2.2.2.2.2.2.1 pl.toNatClampNeg) = 3 then stR M pl tb else (if (M.2.2.2.2.2.2.2.1 pl.toNatClampNeg) = 5 then stR M pl tb else (if (M.2.2.2.2.2.2.2.1 pl.toNatClampNeg) = 7 then stR M pl tb else (if (M.2.2.2.2.2.2.2.1 pl.toNatClampNeg) = 6 then opR M pl tb else (if (M.2.2.2.2.2.2.2.1 pl.toNatClampNeg) = 2 then fX11_putSortedR (sE M 0) pl tb else (if (M.2.2.2.2.2.2.2.1 pl.toNatClampNeg) = 4 then fX11_putSortedR (sE M 0) pl tb else fX11_putPlainR (sE M 0) pl tb)))))) := rfl
theorem q_putOfS (M : MM) (pl tb : Int32) : fX11_putOfS M pl tb = (if (M.2.2.2.2.2.2.2.1 pl.toNatClampNeg) = 3 then stS M pl tb else (if (M.2.2.2.2.2.2.2.1 pl.toNatClampNeg) = 5 then stS M pl tb else (if (M.2.2.2.2.2.2.2.1 pl.toNatClampNeg) = 7 then stS M pl tb else (if (M.2.2.2.2.2.2.2.1 pl.toNatClampNeg) = 6 then opS M pl tb else (if (M.2.2.2.2.2.2.2.1 pl.toNatClampNeg) = 2 then fX11_putSortedS (sE M 0) pl tb else (if (M.2.2.2.2.2.2.2.1 pl.toNatClampNeg) = 4 then fX11_putSortedS (sE M 0) pl tb else fX11_putPlainS (sE M 0) pl tb)))))) := rfl
def dyR (M : MM) (pl : Int32) : Int32 := (if (fX11_takePlainR (fX11_ruleS (sE M 0) 1 4) pl) = (-1) then (-1) else (if (((fX11_takePlainS (fX11_ruleS (sE M 0) 1 4) pl).2.2.2.2.1) (fX11_takePlainR (fX11_ruleS (sE M 0) 1 4) pl).toNatClampNeg) = 0 then (fX11_takePlainR (fX11_ruleS (sE M 0) 1 4) pl) else (fX11_takePlainR (fX11_putOfS (sWe (fX11_takePlainS (fX11_ruleS (sE M 0) 1 4) pl) (upd ((fX11_takePlainS (fX11_ruleS (sE M 0) 1 4) pl).2.2.2.2.1) (fX11_takePlainR (fX11_ruleS (sE M 0) 1 4) pl).toNatClampNeg (vp_nar .boolean 0))) pl (fX11_takePlainR (fX11_ruleS (sE M 0) 1 4) pl)) pl)))
def dyS (M : MM) (pl : Int32) : MM := (if (fX11_takePlainR (fX11_ruleS (sE M 0) 1 4) pl) = (-1) then sNo (fX11_takePlainS (fX11_ruleS (sE M 0) 1 4) pl) else (if (((fX11_takePlainS (fX11_ruleS (sE M 0) 1 4) pl).2.2.2.2.1) (fX11_takePlainR (fX11_ruleS (sE M 0) 1 4) pl).toNatClampNeg) = 0 then (fX11_takePlainS (fX11_ruleS (sE M 0) 1 4) pl) else (fX11_takePlainS (fX11_putOfS (sWe (fX11_takePlainS (fX11_ruleS (sE M 0) 1 4) pl) (upd ((fX11_takePlainS (fX11_ruleS (sE M 0) 1 4) pl).2.2.2.2.1) (fX11_takePlainR (fX11_ruleS (sE M 0) 1 4) pl).toNatClampNeg (vp_nar .boolean 0))) pl (fX11_takePlainR (fX11_ruleS (sE M 0) 1 4) pl)) pl)))
def dyK (M : MM) (pl : Int32) : Prop := (fX11_ruleK (sE M 0) 1 4 ∧ fX11_takePlainK (fX11_ruleS (sE M 0) 1 4) pl ∧ (((fX11_takePlainR (fX11_ruleS (sE M 0) 1 4) pl) = (-1) → True) ∧ (¬ (fX11_takePlainR (fX11_ruleS (sE M 0) 1 4) pl) = (-1) → (vp_in (fX11_takePlainR (fX11_ruleS (sE M 0) 1 4) pl) 60 ∧ (((((fX11_takePlainS (fX11_ruleS (sE M 0) 1 4) pl).2.2.2.2.1) (fX11_takePlainR (fX11_ruleS (sE M 0) 1 4) pl).toNatClampNeg) = 0 → True) ∧ (¬ (((fX11_takePlainS (fX11_ruleS (sE M 0) 1 4) pl).2.2.2.2.1) (fX11_takePlainR (fX11_ruleS (sE M 0) 1 4) pl).toNatClampNeg) = 0 → (fX11_putOfK (sWe (fX11_takePlainS (fX11_ruleS (sE M 0) 1 4) pl) (upd ((fX11_takePlainS (fX11_ruleS (sE M 0) 1 4) pl).2.2.2.2.1) (fX11_takePlainR (fX11_ruleS (sE M 0) 1 4) pl).toNatClampNeg (vp_nar .boolean 0))) pl (fX11_takePlainR (fX11_ruleS (sE M 0) 1 4) pl) ∧ fX11_takePlainK (fX11_putOfS (sWe (fX11_takePlainS (fX11_ruleS (sE M 0) 1 4) pl) (upd ((fX11_takePlainS (fX11_ruleS (sE M 0) 1 4) pl).2.2.2.2.1) (fX11_takePlainR (fX11_ruleS (sE M 0) 1 4) pl).toNatClampNeg (vp_nar .boolean 0))) pl (fX11_takePlainR (fX11_ruleS (sE M 0) 1 4) pl)) pl ∧ True)))))))
def leR (M : MM) (pl : Int32) : Int32 := (if (fX11_takePlainR (fX11_ruleS (sE M 0) 1 7) pl) = (-1) then (-1) else (if (((fX11_takePlainS (fX11_ruleS (sE M 0) 1 7) pl).2.2.2.1) (fX11_takePlainR (fX11_ruleS (sE M 0) 1 7) pl).toNatClampNeg) ≤ 1 then (fX11_takePlainR (fX11_ruleS (sE M 0) 1 7) pl) else (fX11_takePlainR (fX11_ruleS (sE M 0) 1 7) pl)))
def leS (M : MM) (pl : Int32) : MM := (if (fX11_takePlainR (fX11_ruleS (sE M 0) 1 7) pl) = (-1) then sNo (fX11_takePlainS (fX11_ruleS (sE M 0) 1 7) pl) else (if (((fX11_takePlainS (fX11_ruleS (sE M 0) 1 7) pl).2.2.2.1) (fX11_takePlainR (fX11_ruleS (sE M 0) 1 7) pl).toNatClampNeg) ≤ 1 then sWt (fX11_takePlainS (fX11_ruleS (sE M 0) 1 7) pl) (upd ((fX11_takePlainS (fX11_ruleS (sE M 0) 1 7) pl).2.2.2.1) (fX11_takePlainR (fX11_ruleS (sE M 0) 1 7) pl).toNatClampNeg 1) else sWt (fX11_takePlainS (fX11_ruleS (sE M 0) 1 7) pl) (upd ((fX11_takePlainS (fX11_ruleS (sE M 0) 1 7) pl).2.2.2.1) (fX11_takePlainR (fX11_ruleS (sE M 0) 1 7) pl).toNatClampNeg ((((fX11_takePlainS (fX11_ruleS (sE M 0) 1 7) pl).2.2.2.1) (fX11_takePlainR (fX11_ruleS (sE M 0) 1 7) pl).toNatClampNeg) - 1))))
def leK (M : MM) (pl : Int32) : Prop := (fX11_ruleK (sE M 0) 1 7 ∧ fX11_takePlainK (fX11_ruleS (sE M 0) 1 7) pl ∧ (((fX11_takePlainR (fX11_ruleS (sE M 0) 1 7) pl) = (-1) → True) ∧ (¬ (fX11_takePlainR (fX11_ruleS (sE M 0) 1 7) pl) = (-1) → (vp_in (fX11_takePlainR (fX11_ruleS (sE M 0) 1 7) pl) 60 ∧ (((((fX11_takePlainS (fX11_ruleS (sE M 0) 1 7) pl).2.2.2.1) (fX11_takePlainR (fX11_ruleS (sE M 0) 1 7) pl).toNatClampNeg) ≤ 1 → True) ∧ (¬ (((fX11_takePlainS (fX11_ruleS (sE M 0) 1 7) pl).2.2.2.1) (fX11_takePlainR (fX11_ruleS (sE M 0) 1 7) pl).toNatClampNeg) ≤ 1 → True))))))
theorem q_takeOfR (M : MM) (pl : Int32) : fX11_takeOfR M pl = (if (M.2.2.2.2.2.2.2.1 pl.toNatClampNeg) = 4 then dyR M pl else (if (M.2.2.2.2.2.2.2.1 pl.toNatClampNeg) = 6 then dyR M pl else (if (M.2.2.2.2.2.2.2.1 pl.toNatClampNeg) = 7 then leR M pl else fX11_takePlainR (sE M 0) pl))) := rfl
theorem q_takeOfS (M : MM) (pl : Int32) : fX11_takeOfS M pl = (if (M.2.2.2.2.2.2.2.1 pl.toNatClampNeg) = 4 then dyS M pl else (if (M.2.2.2.2.2.2.2.1 pl.toNatClampNeg) = 6 then dyS M pl else (if (M.2.2.2.2.2.2.2.1 pl.toNatClampNeg) = 7 then leS M pl else fX11_takePlainS (sE M 0) pl))) := rfl

theorem nar1 : vp_nar .boolean 1 = 1 := by decide +kernel
theorem nar0 : vp_nar .boolean 0 = 0 := by decide +kernel
theorem upd_same {f : FN} {k : Nat} {v : Int32} (h : f k = v) : upd f k v = f := by
  funext j
  by_cases z : j = k
  · subst z; rw [pk_us, h]
  · rw [pk_un z]
section SE
variable {i nt b ci : Nat} {cd pn en : Int32} {kd cp lm mn0 rw0 : FN} {P : PP} {T : TT} {X : DD} {M : MM}
theorem m_sE (h : MR i cd pn kd cp lm mn0 rw0 P T X en M) (v : Int32) : MR i cd pn kd cp lm mn0 rw0 P T X v (sE M v) := by
  obtain ⟨mn, rw, rfl, h⟩ := h
  exact ⟨mn, rw, rfl, h⟩
theorem m_sHv (h : MR i cd pn kd cp lm mn0 rw0 P T X en M) : MR i cd pn kd cp lm mn0 rw0 P T (fX8_countHeavyS X) 1 (sHv M) := by
  obtain ⟨mn, rw, rfl, h⟩ := h
  exact ⟨mn, rw, rfl, h⟩
theorem m_sNo (h : MR i cd pn kd cp lm mn0 rw0 P T X en M) : MR i cd pn kd cp lm mn0 rw0 P T (fX8_countNothingS X) 1 (sNo M) := by
  obtain ⟨mn, rw, rfl, h⟩ := h
  exact ⟨mn, rw, rfl, h⟩
theorem m_sWe (h : MR i cd pn kd cp lm mn0 rw0 P T X en M) (f : FN) : MR i cd pn kd cp lm mn0 rw0 P (T.1, T.2.1, T.2.2.1, f, T.2.2.2.2) X en (sWe M f) := by
  obtain ⟨mn, rw, rfl, h⟩ := h
  exact ⟨mn, rw, rfl, h⟩
theorem m_sWt (h : MR i cd pn kd cp lm mn0 rw0 P T X en M) (f : FN) : MR i cd pn kd cp lm mn0 rw0 P (T.1, T.2.1, f, T.2.2.2.1, T.2.2.2.2) X en (sWt M f) := by
  obtain ⟨mn, rw, rfl, h⟩ := h
  exact ⟨mn, rw, rfl, h⟩
theorem g_hv (h : GD b X) : GD b (fX8_countHeavyS X) := by
  obtain ⟨tr, d, hv, no, rfl, hd⟩ := h
  exact ⟨tr, d, hv + 1, no, rfl, hd⟩
theorem g_no (h : GD b X) : GD b (fX8_countNothingS X) := by
  obtain ⟨tr, d, hv, no, rfl, hd⟩ := h
  exact ⟨tr, d, hv, no + 1, rfl, hd⟩
/-- the outcome of a put -/
def PO (nt b i : Nat) (cd pn : Int32) (kd cp lm mn0 rw0 : FN) (R : Int32) (S : PP × TT × DD) (k : Prop) (r : Int32) (M' : MM) : Prop := k ∧ r = (if R = 1 then 1 else 0) ∧ MR i cd pn kd cp lm mn0 rw0 S.1 S.2.1 S.2.2 (if R = 2 then 1 else 0) M' ∧ GL i nt (cp i) (lm i) S.1 ∧ GT nt S.2.1 ∧ GD b S.2.2 ∧ (R = 0 ∨ R = 1 ∨ R = 2)
theorem PO.mk01 {R : Int32} {S : PP × TT × DD} {k : Prop} {r : Int32} {M' : MM} (hk : k) (hr : r = R) (hM : MR i cd pn kd cp lm mn0 rw0 S.1 S.2.1 S.2.2 0 M') (h1 : GL i nt (cp i) (lm i) S.1) (h2 : GT nt S.2.1) (h3 : GD b S.2.2) (h : R = 0 ∨ R = 1) : PO nt b i cd pn kd cp lm mn0 rw0 R S k r M' := by
  rcases h with h | h
  · subst h; exact ⟨hk, hr, hM, h1, h2, h3, Or.inl rfl⟩
  · subst h; exact ⟨hk, hr, hM, h1, h2, h3, Or.inr (Or.inl rfl)⟩
theorem m_st (hci : pkAll ci) (hi : i < 12) (hk : kd i = kdz ci) {tt : Nat} (ht : tt < nt) (hM : MR i cd pn kd cp lm mn0 rw0 P T X en M) (hP : GL i nt (cp i) (lm i) P) (hT : GT nt T) (hX : GD b X) (hb : b + 5 < 2 ^ 30) :
    PO nt (b + 5) i cd pn kd cp lm mn0 rw0 (fX6_putActR ci P T X (nI tt)) (fX6_putActS ci P T X (nI tt)) (stK M (nI i) (nI tt)) (stR M (nI i) (nI tt)) (stS M (nI i) (nI tt)) := by
  obtain ⟨k0, hM0, hX0⟩ := m_rule (m_sE hM 0) hX (by omega) 0 3
  obtain ⟨k1, r1, hM1, hX1⟩ := m_load hci hi hk hM0 hP hT hX0 (by omega)
  have hpw : fX7_weightOfR T (nI tt) = T.2.2.1 tt := by
    obtain ⟨ln, wt, we, li, rfl, hn, -, -⟩ := hT
    exact wo_in ht hn
  have hlm : P.2.2.1 = lm i := by
    obtain ⟨c, h, r, rfl, -⟩ := hP
    rfl
  have hn : nt ≤ 60 := by
    obtain ⟨ln, wt, we, li, rfl, hn, -, -⟩ := hT
    exact hn
  have hc : (((fX11_loadOfR (fX11_ruleS (sE M 0) 0 3) (nI i)) + (((fX11_loadOfS (fX11_ruleS (sE M 0) 0 3) (nI i)).2.2.2.1) (nI tt).toNatClampNeg)) ≤ (((fX11_loadOfS (fX11_ruleS (sE M 0) 0 3) (nI i)).2.2.2.2.2.2.2.2.2.1) (nI i).toNatClampNeg)) = (kloadActR ci P T (fX8_beginS X 0 3) + fX7_weightOfR T (nI tt) ≤ P.2.2.1) := by
    rw [r1, r_wt hM1, r_lm hM1, (r_i hi).1, nI_clamp (n := tt) (by omega), hpw, hlm]
  by_cases q : kloadActR ci P T (fX8_beginS X 0 3) + fX7_weightOfR T (nI tt) ≤ P.2.2.1
  · have q' := q
    rw [← hc] at q'
    obtain ⟨k2, r2, hM2, hP2, hT2, hX2, hd⟩ := m_pp hi ht hM1 hP hT hX1 (by omega)
    have eR : fX6_putActR ci P T X (nI tt) = fX4_putActR P T (kloadActS ci P T (fX8_beginS X 0 3)).2.2 (nI tt) := if_pos q
    have eS : fX6_putActS ci P T X (nI tt) = fX4_putActS P T (kloadActS ci P T (fX8_beginS X 0 3)).2.2 (nI tt) := by
      unfold fX6_putActS
      rw [if_pos q, if_pos q, if_pos q]
    rw [eR, eS]
    refine PO.mk01 ⟨k0, k1, vp_in_nI (by omega) (by omega), fun _ => ⟨k2, trivial⟩, fun _ => trivial⟩ ((if_pos q').trans r2) ?_ hP2 hT2 (hX2.mono (by omega)) (hd.imp (fun h => h.1) (fun h => h.1))
    have e : stS M (nI i) (nI tt) = _ := if_pos q'
    rw [e]
    exact hM2
  · have q' := q
    rw [← hc] at q'
    have eR : fX6_putActR ci P T X (nI tt) = 2 := if_neg q
    have eS : fX6_putActS ci P T X (nI tt) = (P, T, fX8_countHeavyS (kloadActS ci P T (fX8_beginS X 0 3)).2.2) := by
      unfold fX6_putActS
      rw [if_neg q, if_neg q, if_neg q]
    rw [eR, eS]
    refine ⟨⟨k0, k1, vp_in_nI (by omega) (by omega), fun h => absurd h q', fun _ => trivial⟩, (if_neg q').trans rfl, ?_, hP, hT, (g_hv hX1).mono (by omega), Or.inr (Or.inr rfl)⟩
    have e : stS M (nI i) (nI tt) = _ := if_neg q'
    rw [e]
    exact m_sHv hM1
theorem m_op (hi : i < 12) {tt : Nat} (ht : tt < nt) (hM : MR i cd pn kd cp lm mn0 rw0 P T X en M) (hP : GL i nt (cp i) (lm i) P) (hT : GT nt T) (hX : GD b X) (hb : b + 5 < 2 ^ 30) :
    PO nt (b + 5) i cd pn kd cp lm mn0 rw0 (fX3_putActR P T X (nI tt)) (fX3_putActS P T X (nI tt)) (opK M (nI i) (nI tt)) (opR M (nI i) (nI tt)) (opS M (nI i) (nI tt)) ∧ ¬ fX3_putActR P T X (nI tt) = 2 := by
  obtain ⟨k0, hM0, hX0⟩ := m_rule (m_sE hM 0) hX (by omega) 0 6
  obtain ⟨ln, wt, we, li, rfl, hn, hw, hz⟩ := hT
  obtain ⟨w, w1, w2, w3⟩ := hw tt ht
  have ct : (nI tt).toNatClampNeg = tt := nI_clamp (by omega)
  have hpw : fX7_weightOfR (nI nt, ln, wt, we, li) (nI tt) = nI w := (wo_in ht hn).trans w3
  have hrem : nI w - nI w / 2 * 2 = nI (w % 2) := pk_rem (d := 2) (by omega) (by omega) (by omega)
  have zq : ((fX11_ruleS (sE M 0) 0 6).2.2.2.2.1) (nI tt).toNatClampNeg = we tt := by rw [r_we hM0, ct]
  have wq : ((fX11_ruleS (sE M 0) 0 6).2.2.2.1) (nI tt).toNatClampNeg = nI w := by rw [r_wt hM0, ct]; exact w3
  have oq : ((fX11_ruleS (sE M 0) 0 6).2.2.2.1) (nI tt).toNatClampNeg - ((fX11_ruleS (sE M 0) 0 6).2.2.2.1) (nI tt).toNatClampNeg / 2 * 2 = nI (w % 2) := by rw [wq, hrem]
  have uq : ∀ v : Int32, upd ((fX11_ruleS (sE M 0) 0 6).2.2.2.2.1) (nI tt).toNatClampNeg (vp_nar .boolean v) = upd we tt (vp_nar .boolean v) := fun v => by rw [r_we hM0, ct]
  -- the class, by parity
  have hcls : ∃ we', fX3_putActR P (nI nt, ln, wt, we, li) X (nI tt) = fX5_putActR P (nI nt, ln, wt, we', li) (fX8_beginS X 0 6) (nI tt) ∧ fX3_putActS P (nI nt, ln, wt, we, li) X (nI tt) = fX5_putActS P (nI nt, ln, wt, we', li) (fX8_beginS X 0 6) (nI tt) ∧ (∀ k, k < nt → we' k = 0 ∨ we' k = 1) ∧ ((w % 2 = 0 ∧ we' = we) ∨ (w % 2 = 1 ∧ we' = upd we tt 1)) := by
    rcases Nat.mod_two_eq_zero_or_one w with p | p
    · have h0 : fX7_weightOfR (nI nt, ln, wt, we, li) (nI tt) - fX7_weightOfR (nI nt, ln, wt, we, li) (nI tt) / 2 * 2 = 0 := by rw [hpw, hrem, p]; rfl
      refine ⟨we, if_pos h0, ?_, hz, Or.inl ⟨p, rfl⟩⟩
      unfold fX3_putActS
      rw [if_pos h0, if_pos h0, if_pos h0]
    · have h0 : ¬ fX7_weightOfR (nI nt, ln, wt, we, li) (nI tt) - fX7_weightOfR (nI nt, ln, wt, we, li) (nI tt) / 2 * 2 = 0 := by rw [hpw, hrem, p]; decide
      have es : fX7_setWetS (nI nt, ln, wt, we, li) (nI tt) 1 = (nI nt, ln, wt, upd we tt 1, li) := by rw [sw_in ht hn, nar1]
      refine ⟨upd we tt 1, ?_, ?_, fun k hk => ?_, Or.inr ⟨p, rfl⟩⟩
      · unfold fX3_putActR
        rw [if_neg h0, es]
      · unfold fX3_putActS
        rw [if_neg h0, if_neg h0, if_neg h0, es]
      · by_cases z : k = tt
        · subst z; exact Or.inr pk_us
        · rw [pk_un z]; exact hz k hk
  obtain ⟨we', c1, c2, c3, c4⟩ := hcls
  have hM1 := m_sWe hM0 we'
  have hT1 : GT nt (nI nt, ln, wt, we', li) := ⟨_, _, _, _, rfl, hn, hw, c3⟩
  obtain ⟨k2, r2, hM2, hP2, hT2, hX2, hd⟩ := m_ps hi ht hM1 hP hT1 hX0 (by omega)
  rw [c1, c2]
  have hfin : ∀ v : Int32, upd we tt (vp_nar .boolean v) = we' → fX11_putSortedK (sWe (fX11_ruleS (sE M 0) 0 6) (upd ((fX11_ruleS (sE M 0) 0 6).2.2.2.2.1) (nI tt).toNatClampNeg (vp_nar .boolean v))) (nI i) (nI tt) ∧ fX11_putSortedR (sWe (fX11_ruleS (sE M 0) 0 6) (upd ((fX11_ruleS (sE M 0) 0 6).2.2.2.2.1) (nI tt).toNatClampNeg (vp_nar .boolean v))) (nI i) (nI tt) = fX5_putActR P (nI nt, ln, wt, we', li) (fX8_beginS X 0 6) (nI tt) ∧ fX11_putSortedS (sWe (fX11_ruleS (sE M 0) 0 6) (upd ((fX11_ruleS (sE M 0) 0 6).2.2.2.2.1) (nI tt).toNatClampNeg (vp_nar .boolean v))) (nI i) (nI tt) = fX11_putSortedS (sWe (fX11_ruleS (sE M 0) 0 6) we') (nI i) (nI tt) := by
    intro v hv
    rw [uq v, hv]
    exact ⟨k2, r2, rfl⟩
  have hv60 : vp_in (nI tt) 60 := vp_in_nI (by omega) (by omega)
  refine ⟨?_, by rcases hd with h | h <;> rw [h] <;> decide⟩
  by_cases z : we tt = 0
  · have z' : ((fX11_ruleS (sE M 0) 0 6).2.2.2.2.1) (nI tt).toNatClampNeg = 0 := zq.trans z
    rcases c4 with ⟨p, e⟩ | ⟨p, e⟩
    · have o' : ¬ ((fX11_ruleS (sE M 0) 0 6).2.2.2.1) (nI tt).toNatClampNeg - ((fX11_ruleS (sE M 0) 0 6).2.2.2.1) (nI tt).toNatClampNeg / 2 * 2 = 1 := by rw [oq, p]; decide
      obtain ⟨f1, f2, f3⟩ := hfin 0 (by rw [nar0, upd_same z, e])
      refine PO.mk01 ⟨k0, hv60, fun _ => ⟨fun h => absurd h o', fun _ => ⟨f1, trivial⟩⟩, fun h => absurd z' h⟩ (((if_pos z').trans (if_neg o')).trans f2) ?_ hP2 hT2 (hX2.mono (by omega)) hd
      have e9 : opS M (nI i) (nI tt) = _ := ((if_pos z').trans (if_neg o')).trans f3
      rw [e9]
      exact hM2
    · have o' : ((fX11_ruleS (sE M 0) 0 6).2.2.2.1) (nI tt).toNatClampNeg - ((fX11_ruleS (sE M 0) 0 6).2.2.2.1) (nI tt).toNatClampNeg / 2 * 2 = 1 := by rw [oq, p]; rfl
      obtain ⟨f1, f2, f3⟩ := hfin 1 (by rw [nar1, e])
      refine PO.mk01 ⟨k0, hv60, fun _ => ⟨fun _ => ⟨f1, trivial⟩, fun h => absurd o' h⟩, fun h => absurd z' h⟩ (((if_pos z').trans (if_pos o')).trans f2) ?_ hP2 hT2 (hX2.mono (by omega)) hd
      have e9 : opS M (nI i) (nI tt) = _ := ((if_pos z').trans (if_pos o')).trans f3
      rw [e9]
      exact hM2
  · have z' : ¬ ((fX11_ruleS (sE M 0) 0 6).2.2.2.2.1) (nI tt).toNatClampNeg = 0 := by rw [zq]; exact z
    have z1 : we tt = 1 := (hz tt ht).resolve_left z
    have e1 : upd we tt (vp_nar .boolean 1) = we' := by
      rw [nar1, upd_same z1]
      rcases c4 with ⟨p, e⟩ | ⟨p, e⟩
      · exact e.symm
      · rw [e, upd_same z1]
    obtain ⟨f1, f2, f3⟩ := hfin 1 e1
    refine PO.mk01 ⟨k0, hv60, fun h => absurd h z', fun _ => ⟨f1, trivial⟩⟩ ((if_neg z').trans f2) ?_ hP2 hT2 (hX2.mono (by omega)) hd
    have e9 : opS M (nI i) (nI tt) = _ := (if_neg z').trans f3
    rw [e9]
    exact hM2
end SE
