/-! the worlds of the class: the yard's timbers, its trace, a pile -/
abbrev FN : Type := Nat → Int32
/-- int[] and boolean[]; Timbers and its four arrays; Trace and its ring -/
abbrev GA : Type := ClassId × ClassId × Nat × Nat × Nat × Nat × Nat × Nat × Nat
abbrev GA.cI (g : GA) : ClassId := g.1
abbrev GA.cZ (g : GA) : ClassId := g.2.1
abbrev GA.tm (g : GA) : Nat := g.2.2.1
abbrev GA.al (g : GA) : Nat := g.2.2.2.1
abbrev GA.aw (g : GA) : Nat := g.2.2.2.2.1
abbrev GA.az (g : GA) : Nat := g.2.2.2.2.2.1
abbrev GA.ap (g : GA) : Nat := g.2.2.2.2.2.2.1
abbrev GA.dn (g : GA) : Nat := g.2.2.2.2.2.2.2.1
abbrev GA.rg (g : GA) : Nat := g.2.2.2.2.2.2.2.2
/-- Timbers: size, lengths, weights, wets, pile numbers -/
abbrev TT : Type := Int32 × FN × FN × FN × FN
/-- Trace: ring, next, kept, rules, heavies, nothings -/
abbrev DD : Type := FN × Int32 × Int32 × Int32 × Int32 × Int32
/-- a pile: number, cap, limit, row, height -/
abbrev PP : Type := Int32 × Int32 × Int32 × FN × Int32
abbrev tyA (g : GA) : List (ClassId × FieldType) := [(g.cI, .int), (g.cZ, .boolean)]
abbrev wT (g : GA) (T : TT) : va_W := [(g.tm, .inr (8, [.ref g.al, .ref g.aw, .ref g.az, .ref g.ap, .int T.1])), (g.al, .inl (g.cI, 60, .inl T.2.1)), (g.aw, .inl (g.cI, 60, .inl T.2.2.1)), (g.az, .inl (g.cZ, 60, .inl T.2.2.2.1)), (g.ap, .inl (g.cI, 60, .inl T.2.2.2.2))]
abbrev wD (g : GA) (X : DD) : va_W := [(g.dn, .inr (9, [.ref g.rg, .int X.2.1, .int X.2.2.1, .int X.2.2.2.1, .int X.2.2.2.2.1, .int X.2.2.2.2.2])), (g.rg, .inl (g.cI, 200, .inl X.1))]
abbrev wP (g : GA) (ci h rw : Nat) (P : PP) : va_W := [(h, .inr (ci, [.ref g.tm, .ref g.dn, .int P.1, .int P.2.1, .int P.2.2.1, .ref rw, .int P.2.2.2.2])), (rw, .inl (g.cI, 12, .inl P.2.2.2.1))]
abbrev wA (g : GA) (ci h rw : Nat) (P : PP) (T : TT) (X : DD) : va_W := [(h, .inr (ci, [.ref g.tm, .ref g.dn, .int P.1, .int P.2.1, .int P.2.2.1, .ref rw, .int P.2.2.2.2])), (rw, .inl (g.cI, 12, .inl P.2.2.2.1)),
  (g.tm, .inr (8, [.ref g.al, .ref g.aw, .ref g.az, .ref g.ap, .int T.1])), (g.al, .inl (g.cI, 60, .inl T.2.1)), (g.aw, .inl (g.cI, 60, .inl T.2.2.1)), (g.az, .inl (g.cZ, 60, .inl T.2.2.2.1)), (g.ap, .inl (g.cI, 60, .inl T.2.2.2.2)),
  (g.dn, .inr (9, [.ref g.rg, .int X.2.1, .int X.2.2.1, .int X.2.2.2.1, .int X.2.2.2.2.1, .int X.2.2.2.2.2])), (g.rg, .inl (g.cI, 200, .inl X.1))]
theorem in_lt {i v : Int32} {n : Nat} (hv : v.toInt = n) (h0 : ¬ i < 0) (h1 : i < v) : vp_in i n := by
  rw [vp_in_iff]
  rw [Int32.lt_iff_toInt_lt] at h0 h1
  rw [Int32.toInt_zero] at h0
  omega
theorem in_nle {i v : Int32} {n : Nat} (hv : v.toInt = n) (h0 : ¬ i < 0) (h1 : ¬ v ≤ i) : vp_in i n := by
  rw [vp_in_iff]
  rw [Int32.lt_iff_toInt_lt, Int32.toInt_zero] at h0
  rw [Int32.le_iff_toInt_le] at h1
  omega
theorem g_max : (.code Lib.Math.max.name Lib.Math.max.code 2 (some .int) : Cond) ∈ GW := gw_of (i := 404) (by decide +kernel) rfl
theorem g_maxs : (.static Lib.Math.max.name : Cond) ∈ GW := gw_of (i := 403) (by decide +kernel) rfl
theorem g_min : (.code Lib.Math.min.name Lib.Math.min.code 2 (some .int) : Cond) ∈ GW := gw_of (i := 300) (by decide +kernel) rfl
theorem g_mins : (.static Lib.Math.min.name : Cond) ∈ GW := gw_of (i := 299) (by decide +kernel) rfl
theorem in_X7 : ∀ w ∈ u_ws RX7 TX7 5, w ∈ GW := List.forall_mem_cons.mpr ⟨g_38, List.forall_mem_cons.mpr ⟨g_40, List.forall_mem_cons.mpr ⟨g_42, List.forall_mem_cons.mpr ⟨g_44, List.forall_mem_cons.mpr ⟨g_46, fun _ h => absurd h List.not_mem_nil⟩⟩⟩⟩⟩
theorem in_X8 : ∀ w ∈ u_ws RX8 TX8 6, w ∈ GW := List.forall_mem_cons.mpr ⟨g_63, List.forall_mem_cons.mpr ⟨g_65, List.forall_mem_cons.mpr ⟨g_67, List.forall_mem_cons.mpr ⟨g_69, List.forall_mem_cons.mpr ⟨g_71, List.forall_mem_cons.mpr ⟨g_73, fun _ h => absurd h List.not_mem_nil⟩⟩⟩⟩⟩⟩
theorem in_X10 : ∀ w ∈ u_ws RX10 TX10 4, w ∈ GW := List.forall_mem_cons.mpr ⟨g_82, List.forall_mem_cons.mpr ⟨g_84, List.forall_mem_cons.mpr ⟨g_86, List.forall_mem_cons.mpr ⟨g_88, fun _ h => absurd h List.not_mem_nil⟩⟩⟩⟩
theorem in_X11 : ∀ w ∈ u_ws RX11 TX11 17, w ∈ GW := List.forall_mem_cons.mpr ⟨g_703, List.forall_mem_cons.mpr ⟨g_705, List.forall_mem_cons.mpr ⟨g_707, List.forall_mem_cons.mpr ⟨g_709, List.forall_mem_cons.mpr ⟨g_711, List.forall_mem_cons.mpr ⟨g_713, List.forall_mem_cons.mpr ⟨g_715, List.forall_mem_cons.mpr ⟨g_717, List.forall_mem_cons.mpr ⟨g_719, List.forall_mem_cons.mpr ⟨g_721, List.forall_mem_cons.mpr ⟨g_723, List.forall_mem_cons.mpr ⟨g_725, List.forall_mem_cons.mpr ⟨g_727, List.forall_mem_cons.mpr ⟨g_729, List.forall_mem_cons.mpr ⟨g_731, List.forall_mem_cons.mpr ⟨g_733, List.forall_mem_cons.mpr ⟨g_735, fun _ h => absurd h List.not_mem_nil⟩⟩⟩⟩⟩⟩⟩⟩⟩⟩⟩⟩⟩⟩⟩⟩⟩
theorem in_X4 : ∀ w ∈ u_ws RX4 TX4 7, w ∈ GW := List.forall_mem_cons.mpr ⟨g_251, List.forall_mem_cons.mpr ⟨g_252, List.forall_mem_cons.mpr ⟨g_253, List.forall_mem_cons.mpr ⟨g_254, List.forall_mem_cons.mpr ⟨g_255, List.forall_mem_cons.mpr ⟨g_256, List.forall_mem_cons.mpr ⟨g_257, fun _ h => absurd h List.not_mem_nil⟩⟩⟩⟩⟩⟩⟩
theorem in_X2 : ∀ w ∈ u_ws RX2 TX4 7, w ∈ GW := List.forall_mem_cons.mpr ⟨g_150, List.forall_mem_cons.mpr ⟨g_152, List.forall_mem_cons.mpr ⟨g_154, List.forall_mem_cons.mpr ⟨g_156, List.forall_mem_cons.mpr ⟨g_158, List.forall_mem_cons.mpr ⟨g_160, List.forall_mem_cons.mpr ⟨g_162, fun _ h => absurd h List.not_mem_nil⟩⟩⟩⟩⟩⟩⟩
theorem in_X5 : ∀ w ∈ u_ws RX5 TX4 7, w ∈ GW := List.forall_mem_cons.mpr ⟨g_171, List.forall_mem_cons.mpr ⟨g_172, List.forall_mem_cons.mpr ⟨g_173, List.forall_mem_cons.mpr ⟨g_174, List.forall_mem_cons.mpr ⟨g_175, List.forall_mem_cons.mpr ⟨g_176, List.forall_mem_cons.mpr ⟨g_177, fun _ h => absurd h List.not_mem_nil⟩⟩⟩⟩⟩⟩⟩
theorem in_X6 : ∀ w ∈ u_ws RX6 TX4 7, w ∈ GW := List.forall_mem_cons.mpr ⟨g_185, List.forall_mem_cons.mpr ⟨g_186, List.forall_mem_cons.mpr ⟨g_187, List.forall_mem_cons.mpr ⟨g_188, List.forall_mem_cons.mpr ⟨g_189, List.forall_mem_cons.mpr ⟨g_190, List.forall_mem_cons.mpr ⟨g_191, fun _ h => absurd h List.not_mem_nil⟩⟩⟩⟩⟩⟩⟩
theorem in_X0 : ∀ w ∈ u_ws RX0 TX4 7, w ∈ GW := List.forall_mem_cons.mpr ⟨g_199, List.forall_mem_cons.mpr ⟨g_200, List.forall_mem_cons.mpr ⟨g_201, List.forall_mem_cons.mpr ⟨g_202, List.forall_mem_cons.mpr ⟨g_203, List.forall_mem_cons.mpr ⟨g_204, List.forall_mem_cons.mpr ⟨g_205, fun _ h => absurd h List.not_mem_nil⟩⟩⟩⟩⟩⟩⟩
theorem in_X9 : ∀ w ∈ u_ws RX9 TX4 7, w ∈ GW := List.forall_mem_cons.mpr ⟨g_213, List.forall_mem_cons.mpr ⟨g_214, List.forall_mem_cons.mpr ⟨g_215, List.forall_mem_cons.mpr ⟨g_216, List.forall_mem_cons.mpr ⟨g_217, List.forall_mem_cons.mpr ⟨g_218, List.forall_mem_cons.mpr ⟨g_219, fun _ h => absurd h List.not_mem_nil⟩⟩⟩⟩⟩⟩⟩
theorem in_X3 : ∀ w ∈ u_ws RX3 TX4 7, w ∈ GW := List.forall_mem_cons.mpr ⟨g_227, List.forall_mem_cons.mpr ⟨g_228, List.forall_mem_cons.mpr ⟨g_229, List.forall_mem_cons.mpr ⟨g_230, List.forall_mem_cons.mpr ⟨g_231, List.forall_mem_cons.mpr ⟨g_232, List.forall_mem_cons.mpr ⟨g_233, fun _ h => absurd h List.not_mem_nil⟩⟩⟩⟩⟩⟩⟩
theorem in_X1 : ∀ w ∈ u_ws RX1 TX4 7, w ∈ GW := List.forall_mem_cons.mpr ⟨g_241, List.forall_mem_cons.mpr ⟨g_242, List.forall_mem_cons.mpr ⟨g_243, List.forall_mem_cons.mpr ⟨g_244, List.forall_mem_cons.mpr ⟨g_245, List.forall_mem_cons.mpr ⟨g_246, List.forall_mem_cons.mpr ⟨g_247, fun _ h => absurd h List.not_mem_nil⟩⟩⟩⟩⟩⟩⟩
