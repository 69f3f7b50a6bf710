/-! the judge of a state -/
def shF0 (D : Nat → Nat → Int) (st sg : Nat → Int) (i : Nat) : Int := shV D st sg i
def hlF (D : Nat → Nat → Int) (st sg : Nat → Int) (i : Nat) : Int := hlS D st sg i (len D i)
def onF (D : Nat → Nat → Int) (st sg : Nat → Int) (i : Nat) : Int := nrO st sg (D i 0)
def mcF (D : Nat → Nat → Int) (st sg : Nat → Int) (i : Nat) : Int := mcS D st sg i (len D i)
theorem nr_b {sg : Nat → Int} {b : Int} (hb : 0 ≤ b ∧ b ≤ 600) : ∀ (r : Nat) (d : Int), 0 ≤ d → d + r ≤ 20 → -5 ≤ nr sg b d r ∧ nr sg b d r ≤ 650
  | 0, _, _, _ => ⟨by show (-5 : Int) ≤ -5; omega, by show (-5 : Int) ≤ 650; omega⟩
  | r + 1, d, h0, h1 => by
    have ih := nr_b (sg := sg) hb r (d + 1) (by omega) (by omega)
    unfold nr
    by_cases c1 : on? sg (b - d) = true
    · rw [if_pos c1]
      have c2 : sgA sg (b - d) ≠ -1 := by unfold on? at c1; exact (of_decide_eq_true c1).1
      have : 0 ≤ b - d := by
        by_cases h : 0 ≤ b - d
        · exact h
        · exact absurd (by unfold sgA; rw [if_neg (by omega)]) c2
      omega
    · rw [if_neg c1]
      split <;> omega
theorem onF_b {n : Nat} {D : Nat → Nat → Int} {st sg : Nat → Int} (hv : VD n D) (hst : VT st) {i : Nat} (hi : i < n) : -5 ≤ onF D st sg i ∧ onF D st sg i ≤ 700 := by
  have hb := hv.2.1 i hi
  have h2 := hst.2.2.1
  have := nr_b (sg := sg) (b := D i 0) ⟨by omega, by omega⟩ (st 2 + 1).toNat 0 (by omega) (by omega)
  unfold onF nrO
  omega
/-- what the judge holds behind it -/
def JPost (M M2 : Mm) (n : Nat) (D : Nat → Nat → Int) (st sg : Nat → Int) : Prop := (M2.1 = M.1 ∧ M2.2.2 = M.2.2 ∧ ∀ q j, q < 69 ∨ 79 < q → M2.2.1 q j = M.2.1 q j) ∧
  (∀ j, j < n → M2.2.1 70 j = mcF D st sg j ∧ M2.2.1 71 j = shV D st sg j ∧ M2.2.1 73 j = onF D st sg j ∧ M2.2.1 74 j = rsV D st sg j ∧ M2.2.1 75 j = mn10 (rwA D (rsV D st sg) j) ∧ M2.2.1 76 j = ptW D (shV D st sg) (hlF D st sg) (onF D st sg) (rsV D st sg) j) ∧
  (∀ p : Nat, p < pcN n D → M2.2.1 77 p = hP D (rsV D st sg) p n ∧ M2.2.1 78 p = pP D (ptW D (shV D st sg) (hlF D st sg) (onF D st sg) (rsV D st sg)) p n + exP n D (rsV D st sg) p ∧ M2.2.1 79 p = lP D (rsV D st sg) p n) ∧
  M2.2.1 69 10 = sm (fun p => hP D (rsV D st sg) p n) (pcN n D) ∧ M2.2.1 69 11 = sm (fun p => pP D (ptW D (shV D st sg) (hlF D st sg) (onF D st sg) (rsV D st sg)) p n + exP n D (rsV D st sg) p) (pcN n D)
section JUDGE
variable {K : Int → Mm → Prop} {M : Mm} {s n : Nat} {D : Nat → Nat → Int} {st sg : Nat → Int}
set_option maxRecDepth 20000 in
theorem e_judge (hj : JdP M) (h : SS M s n D st sg) (hs : s + 8 < 69) (hv : VD n D) (hst : VT st) (hg : VG sg) (hK : ∀ M2, JPost M M2 n D st sg → K 0 M2) : m_X1_judge [.inr (some 69), .inr (some s)] K M := by
  have h40 := h.2.1.2.1
  obtain ⟨a1, a2, a3, a4, a5, a6, a7⟩ := h.1
  simp only [m_X1_judge, mk0, B_X1_judge, iC, iL, iF, iA, iAc, iLen, iT, iAdd, iSub, iMul, iDiv, iRem, iNeg, iCh, iAnd31, iQ, iMax, iMin, iAbs, iCallS, iCallV, aN, aI, aR, rL, rF, rA, cEq, cNe, cLt, cGe, cGt, cLe, cAnd, cOr, cNot, cNull, sSkip, sSeq, sLoc, sLocR, sInc, sPut, sPutR, sPutAdd, sPutSub, sAst, sCst, sRst, sAstAdd, sAstSub, sIf1, sIf, sRet, sRetV, sCallV, sCallS, sPop, sCopy, sCopyT, sObj, sSw, iAddW, iMulW, iAndM, iShr, cQ, ent_0, ent_1, ent_2, ent_3, ent_4, ent_5, ent_6, va_up_self, va_up_ne, ne_eq, Nat.reduceEqDiff, not_false_eq_true, not_true_eq_false, si_1, si_2, si_g, sr_1, sr_2, cp_1, cp_2, List.length_cons, List.length_nil, Nat.reduceAdd, true_and, and_true, and_self, eq_self, true_implies, forall_const, Bool.false_eq_true, false_implies, or_true, true_or, Option.some.injEq, Prod.mk.injEq, exists_eq_left', exists_eq', exists_and_left, reduceIte, Int.reduceEq, Int.reduceNe]
  refine while_n (n := n) (fun r ρ M2 => ∃ i : Nat, i + r = n ∧ ρ 0 = .inr (some 69) ∧ ρ 1 = .inr (some s) ∧ ρ 2 = .inl (i : Int) ∧ (M2.1 = M.1 ∧ M2.2.2 = M.2.2 ∧ ∀ q j, q < 69 ∨ 79 < q → M2.2.1 q j = M.2.1 q j) ∧ ∀ j, j < i → M2.2.1 70 j = mcF D st sg j ∧ M2.2.1 71 j = shV D st sg j ∧ M2.2.1 72 j = hlF D st sg j ∧ M2.2.1 73 j = onF D st sg j ∧ M2.2.1 74 j = rsV D st sg j) ?_ ⟨0, by omega, rfl, rfl, rfl, ⟨rfl, rfl, fun _ _ _ => rfl⟩, fun j hj => by omega⟩
  rintro r W hW ρ M2 ⟨i, hr, h0, h1, h2, ⟨g1, g2, g3⟩, hI⟩
  have hS2 : SS M2 s n D st sg := SS_fr h g1 g2 (fun q j x1 x2 => g3 q j (by omega))
  have hJ2 : JdP M2 := JdP_fr hj g1 g2
  obtain ⟨b1, b2, b3, b4, b5, b6, b7⟩ := hS2.1
  simp only [h0, h1, h2, hJ2.1, b1, b2, b7.1, e_size hS2.2.1, iC, iL, iF, iA, iAc, iLen, iT, iAdd, iSub, iMul, iDiv, iRem, iNeg, iCh, iAnd31, iQ, iMax, iMin, iAbs, iCallS, iCallV, aN, aI, aR, rL, rF, rA, cEq, cNe, cLt, cGe, cGt, cLe, cAnd, cOr, cNot, cNull, sSkip, sSeq, sLoc, sLocR, sInc, sPut, sPutR, sPutAdd, sPutSub, sAst, sCst, sRst, sAstAdd, sAstSub, sIf1, sIf, sRet, sRetV, sCallV, sCallS, sPop, sCopy, sCopyT, sObj, sSw, iAddW, iMulW, iAndM, iShr, cQ, ent_0, ent_1, ent_2, ent_3, ent_4, ent_5, ent_6, va_up_self, va_up_ne, ne_eq, Nat.reduceEqDiff, not_false_eq_true, not_true_eq_false, si_1, si_2, si_g, sr_1, sr_2, cp_1, cp_2, List.length_cons, List.length_nil, Nat.reduceAdd, true_and, and_true, and_self, eq_self, true_implies, forall_const, Bool.false_eq_true, false_implies, or_true, true_or, Option.some.injEq, Prod.mk.injEq, exists_eq_left', exists_eq', exists_and_left, reduceIte, Int.reduceEq, Int.reduceNe]
  by_cases hi : i < n
  · have r1 : inR ((i : Int) + 1) := inR_s (by omega) (by omega)
    rw [if_pos (by omega)]
    refine e_hear hJ2 hS2 hs hv hst hg hi ⟨r1, hW _ _ (by omega) ⟨i + 1, by omega, by simp [va_up, h0], by simp [va_up, h1], by simp [va_up], ⟨g1, g2, fun q j hq => ?_⟩, fun j hj => ?_⟩⟩
    · unfold hearM
      simp only [si_g]
      rw [if_neg (by omega), if_neg (by omega), if_neg (by omega), if_neg (by omega), if_neg (by omega)]
      exact g3 q j hq
    · by_cases hji : j = i
      · subst hji
        simp [hearM, si_g, mcF, hlF, onF]
      · have := hI j (by omega)
        simp [hearM, si_g, hji, this]
  · rw [if_neg (by omega)]
    obtain rfl : i = n := by omega
    refine e_score (sh := shV D st sg) (hd := hlF D st sg) (on' := onF D st sg) (rs := rsV D st sg) hJ2 hS2.2.1 (by omega) hv (fun j hj => ?_) (fun M3 hM3 => ?_)
    · have := hI j hj
      have s1 := shV_b (st := st) (sg := sg) hv hj
      have s2 := hlS_b D st sg j (len D j)
      have s3 := onF_b (sg := sg) hv hst hj
      have s4 := hv.2.1 j hj
      have s5 : len D j ≤ 32 := by unfold len; omega
      exact ⟨this.2.1, this.2.2.1, this.2.2.2.1, this.2.2.2.2, s1, ⟨s2.1, by unfold hlF; omega⟩, s3⟩
    · obtain ⟨⟨m1, m2, m3⟩, m4, m5, m6, m7⟩ := hM3
      refine ⟨m1.trans g1, hK _ ⟨⟨m1.trans g1, m2.trans g2, fun q j hq => (m3 q j (by omega)).trans (g3 q j hq)⟩, fun j hj => ?_, m5, m6, m7⟩⟩
      have i1 := hI j hj
      have i2 := m4 j hj
      rw [m3 70 j (by omega), m3 71 j (by omega), m3 73 j (by omega), m3 74 j (by omega)]
      exact ⟨i1.1, i1.2.1, i1.2.2.2.1, i1.2.2.2.2, i2.1, i2.2⟩
/-- as if each syllable was sung as it is wanted -/
def perfPts (n : Nat) (D : Nat → Nat → Int) (b : Int) : Int := sm (fun p => pP D (ptW D (fun _ => 100) (fun i => bl D i b) (fun i => D i 0) (fun _ => 0)) p n + exP n D (fun _ => 0) p) (pcN n D)
theorem bl_b {b : Int} (hv : VD n D) {i : Nat} (hi : i < n) (hb : 2 ≤ b) : 0 ≤ bl D i b ∧ bl D i b ≤ 32 := by
  have h1 := hv.2.1 i hi
  unfold bl
  rw [Int.tdiv_eq_ediv_of_nonneg (by omega), Int.tdiv_eq_ediv_of_nonneg (by omega)]
  have h2 : D i 0 / b ≤ (D i 0 + D i 1 - 1) / b := Int.ediv_le_ediv (by omega) (by omega)
  have h3 : (D i 0 + D i 1 - 1) / b ≤ (D i 0 + 31) / b := Int.ediv_le_ediv (by omega) (by omega)
  have h4 : (D i 0 + 31) / b ≤ (D i 0 + 31 * b) / b := Int.ediv_le_ediv (by omega) (by
    have := mul_b (x := 31) (y := b - 1) (a := 31) (b := (b - 1).toNat) (by omega) (by omega) (by omega) (by omega)
    have : 31 ≤ 31 * b := by omega
    omega)
  have h5 : (D i 0 + 31 * b) / b = D i 0 / b + 31 := Int.add_mul_ediv_right _ _ (by omega)
  omega
set_option maxRecDepth 20000 in
theorem e_judgePerfect (hj : JdP M) (h : SS M s n D st sg) (hs : s + 8 < 69) (hv : VD n D) (hst : VT st) (hK : ∀ M2, (M2.1 = M.1 ∧ M2.2.2 = M.2.2 ∧ ∀ q j, q < 69 ∨ 79 < q → M2.2.1 q j = M.2.1 q j) → M2.2.1 69 11 = perfPts n D (st 0) → K 0 M2) : m_X1_judgePerfect [.inr (some 69), .inr (some s)] K M := by
  have h40 := h.2.1.2.1
  have e0 : Int.toNat 0 = 0 := rfl
  obtain ⟨a1, a2, a3, a4, a5, a6, a7⟩ := h.1
  simp only [m_X1_judgePerfect, mk0, B_X1_judgePerfect, iC, iL, iF, iA, iAc, iLen, iT, iAdd, iSub, iMul, iDiv, iRem, iNeg, iCh, iAnd31, iQ, iMax, iMin, iAbs, iCallS, iCallV, aN, aI, aR, rL, rF, rA, cEq, cNe, cLt, cGe, cGt, cLe, cAnd, cOr, cNot, cNull, sSkip, sSeq, sLoc, sLocR, sInc, sPut, sPutR, sPutAdd, sPutSub, sAst, sCst, sRst, sAstAdd, sAstSub, sIf1, sIf, sRet, sRetV, sCallV, sCallS, sPop, sCopy, sCopyT, sObj, sSw, iAddW, iMulW, iAndM, iShr, cQ, ent_0, ent_1, ent_2, ent_3, ent_4, ent_5, ent_6, va_up_self, va_up_ne, ne_eq, Nat.reduceEqDiff, not_false_eq_true, not_true_eq_false, si_1, si_2, si_g, sr_1, sr_2, cp_1, cp_2, List.length_cons, List.length_nil, Nat.reduceAdd, true_and, and_true, and_self, eq_self, true_implies, forall_const, Bool.false_eq_true, false_implies, or_true, true_or, Option.some.injEq, Prod.mk.injEq, exists_eq_left', exists_eq', exists_and_left, reduceIte, Int.reduceEq, Int.reduceNe, a1, a2]
  refine while_n (n := n) (fun r ρ M2 => ∃ i : Nat, i + r = n ∧ ρ 0 = .inr (some 69) ∧ ρ 1 = .inr (some s) ∧ ρ 2 = .inr (some (s + 1)) ∧ ρ 3 = .inl (i : Int) ∧ (M2.1 = M.1 ∧ M2.2.2 = M.2.2 ∧ ∀ q j, q < 69 ∨ 79 < q → M2.2.1 q j = M.2.1 q j) ∧ ∀ j, j < i → M2.2.1 71 j = 100 ∧ M2.2.1 72 j = bl D j (st 0) ∧ M2.2.1 73 j = D j 0 ∧ M2.2.1 74 j = 0) ?_ ⟨0, by omega, rfl, rfl, rfl, rfl, ⟨rfl, rfl, fun _ _ _ => rfl⟩, fun j hj => by omega⟩
  rintro r W hW ρ M2 ⟨i, hr, h0, h1, h2, h3, ⟨g1, g2, g3⟩, hI⟩
  have hS2 : SS M2 s n D st sg := SS_fr h g1 g2 (fun q j x1 x2 => g3 q j (by omega))
  have hJ2 : JdP M2 := JdP_fr hj g1 g2
  obtain ⟨b1, b2, b3, b4, b5, b6, b7⟩ := hS2.1
  obtain ⟨j0, hA, hR⟩ := hJ2
  simp only [h0, h1, h2, h3, j0, b1, b2, b7.1, e_size hS2.2.1, iC, iL, iF, iA, iAc, iLen, iT, iAdd, iSub, iMul, iDiv, iRem, iNeg, iCh, iAnd31, iQ, iMax, iMin, iAbs, iCallS, iCallV, aN, aI, aR, rL, rF, rA, cEq, cNe, cLt, cGe, cGt, cLe, cAnd, cOr, cNot, cNull, sSkip, sSeq, sLoc, sLocR, sInc, sPut, sPutR, sPutAdd, sPutSub, sAst, sCst, sRst, sAstAdd, sAstSub, sIf1, sIf, sRet, sRetV, sCallV, sCallS, sPop, sCopy, sCopyT, sObj, sSw, iAddW, iMulW, iAndM, iShr, cQ, ent_0, ent_1, ent_2, ent_3, ent_4, ent_5, ent_6, va_up_self, va_up_ne, ne_eq, Nat.reduceEqDiff, not_false_eq_true, not_true_eq_false, si_1, si_2, si_g, sr_1, sr_2, cp_1, cp_2, List.length_cons, List.length_nil, Nat.reduceAdd, true_and, and_true, and_self, eq_self, true_implies, forall_const, Bool.false_eq_true, false_implies, or_true, true_or, Option.some.injEq, Prod.mk.injEq, exists_eq_left', exists_eq', exists_and_left, reduceIte, Int.reduceEq, Int.reduceNe]
  by_cases hi : i < n
  · have r1 : inR ((i : Int) + 1) := inR_s (by omega) (by omega)
    have d0 : (0 : Int) ≤ i := by omega
    have d1 : (i : Int) < (40 : Nat) := by omega
    have hbr : 1 ≤ st 0 := by have := hst.1; omega
    have q1 : ∀ z1 z2, CS (si (si M2 70 i z1) 71 i z2) (s + 1) n D := fun z1 z2 => CS_fr hS2.2.1 rfl rfl (fun q j x1 x2 => by simp only [si_g]; rw [if_neg (by omega), if_neg (by omega)])
    have q2 : ∀ z1 z2, SS (si (si M2 70 i z1) 71 i z2) s n D st sg := fun z1 z2 => SS_fr hS2 rfl rfl (fun q j x1 x2 => by simp only [si_g]; rw [if_neg (by omega), if_neg (by omega)])
    have q3 : ∀ z1 z2 z3, CS (si (si (si M2 70 i z1) 71 i z2) 72 i z3) (s + 1) n D := fun z1 z2 z3 => CS_fr hS2.2.1 rfl rfl (fun q j x1 x2 => by simp only [si_g]; rw [if_neg (by omega), if_neg (by omega), if_neg (by omega)])
    rw [if_pos (by omega), if_pos (by omega)]
    simp only [e_lengthOf hS2.2.1, at0_in hi, hA, hR, d0, d1, Int.toNat_natCast, e_setting (q2 _ _) (j := 0) ⟨by decide, by decide⟩, e0, b1, b7.1, e_barLinesOf (q1 _ _) hv hi hbr, e_beginningOf (q3 _ _ _), r1, j0, ent_0, ent_1, ent_2, ent_3, ent_4, ent_5, ent_6, va_up_self, va_up_ne, ne_eq, Nat.reduceEqDiff, not_false_eq_true, not_true_eq_false, si_1, si_2, si_g, sr_1, sr_2, cp_1, cp_2, List.length_cons, List.length_nil, Nat.reduceAdd, true_and, and_true, and_self, eq_self, true_implies, forall_const, Bool.false_eq_true, false_implies, or_true, true_or, Option.some.injEq, Prod.mk.injEq, exists_eq_left', exists_eq', exists_and_left, reduceIte, Int.reduceEq, Int.reduceNe]
    refine hW _ _ (by omega) ⟨i + 1, by omega, by simp [va_up, h0], by simp [va_up, h1], by simp [va_up, h2], by simp [va_up], ⟨g1, g2, fun q j hq => ?_⟩, fun j hj => ?_⟩
    · simp only [si_g]
      rw [if_neg (by omega), if_neg (by omega), if_neg (by omega), if_neg (by omega), if_neg (by omega)]
      exact g3 q j hq
    · by_cases hji : j = i
      · subst hji
        simp [si_g]
      · have := hI j (by omega)
        simp [si_g, hji, this]
  · rw [if_neg (by omega)]
    obtain rfl : i = n := by omega
    refine e_score (sh := fun _ => 100) (hd := fun i => bl D i (st 0)) (on' := fun i => D i 0) (rs := fun _ => 0) ⟨j0, hA, hR⟩ hS2.2.1 (by omega) hv (fun j hj => ?_) (fun M3 hM3 => ?_)
    · have := hI j hj
      have s2 := bl_b hv hj hst.1.1
      have s4 := hv.2.1 j hj
      refine ⟨this.1, this.2.1, this.2.2.1, this.2.2.2, ?_, ?_, ?_⟩
      · show (0 : Int) ≤ 100 ∧ (100 : Int) ≤ 3200
        omega
      · show 0 ≤ bl D j (st 0) ∧ bl D j (st 0) ≤ 40
        omega
      · show -5 ≤ D j 0 ∧ D j 0 ≤ 700
        omega
    · obtain ⟨⟨m1, m2, m3⟩, m4, m5, m6, m7⟩ := hM3
      exact ⟨m1.trans g1, hK _ ⟨m1.trans g1, m2.trans g2, fun q j hq => (m3 q j (by omega)).trans (g3 q j hq)⟩ m7⟩
end JUDGE
