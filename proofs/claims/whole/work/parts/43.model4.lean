theorem brS_hl {n : Nat} {D : Nat → Nat → Int} {st h : Nat → Int} {k : Nat} (hv : VD n D) (hst : VT st) (hk : k < n) (j : Nat) : brS D st h k 1 j = hlS D st h k j := by
  unfold brS hlS
  refine sm_cong (fun i _ => ?_)
  have hb := hv.2.1 k hk
  have h0 := hst.1
  cases i with
  | zero =>
    rw [if_neg (by omega), if_neg (fun q => by simp [ahd] at q)]
  | succ i =>
    unfold barB ahd
    have c : 0 < D k 0 + ((i + 1 : Nat) : Int) := by omega
    have c2 : 0 < st 0 := by omega
    generalize D k 0 + ((i + 1 : Nat) : Int) = x at c ⊢
    by_cases c3 : x.tmod (st 0) = 0 <;> by_cases c4 : mB D st h k (i + 1) = true <;> by_cases c5 : mB D st h k i = true <;> simp [c, c2, c3, c4, c5]
/-- multiples of b among a + 1 .. a + j -/
theorem mul_cnt {a b : Int} (ha : 0 ≤ a) (hb : 1 ≤ b) : ∀ j : Nat, sm (fun i => if 1 ≤ i ∧ (a + i).tmod b = 0 then 1 else 0) (j + 1) = (a + j) / b - a / b
  | 0 => by
    show (0 : Int) + (if 1 ≤ 0 ∧ _ then 1 else 0) = _
    rw [if_neg (by omega)]
    simp
  | j + 1 => by
    have ih := mul_cnt ha hb j
    show sm (fun i => if 1 ≤ i ∧ (a + i).tmod b = 0 then 1 else 0) (j + 1) + (if 1 ≤ j + 1 ∧ (a + ((j + 1 : Nat) : Int)).tmod b = 0 then 1 else 0) = _
    rw [ih, Int.tmod_eq_emod_of_nonneg (by omega)]
    have e1 : a + ((j + 1 : Nat) : Int) = a + j + 1 := by omega
    rw [e1]
    have q1 := Int.emod_add_mul_ediv (a + j) b
    have q2 := Int.emod_add_mul_ediv (a + j + 1) b
    have m1 := Int.emod_nonneg (a + j) (by omega : b ≠ 0)
    have m2 := Int.emod_lt_of_pos (a + j) (by omega : 0 < b)
    have m3 := Int.emod_nonneg (a + j + 1) (by omega : b ≠ 0)
    have m4 := Int.emod_lt_of_pos (a + j + 1) (by omega : 0 < b)
    have hd : b * ((a + j + 1) / b) = b * ((a + j) / b) + (a + j) % b + 1 - (a + j + 1) % b := by omega
    by_cases c : (a + j + 1) % b = 0
    · rw [if_pos ⟨by omega, c⟩]
      have h1 : b * ((a + j + 1) / b - (a + j) / b) = (a + j) % b + 1 := by rw [Int.mul_sub]; omega
      have h2 : (a + j + 1) / b - (a + j) / b = 1 := by
        have l1 : 0 < (a + j + 1) / b - (a + j) / b := by
          by_cases z : 0 < (a + j + 1) / b - (a + j) / b
          · exact z
          · have := Int.mul_nonneg (by omega : 0 ≤ b) (by omega : 0 ≤ -((a + j + 1) / b - (a + j) / b))
            rw [Int.mul_neg] at this
            omega
        have l2 : (a + j + 1) / b - (a + j) / b < 2 := by
          by_cases z : (a + j + 1) / b - (a + j) / b < 2
          · exact z
          · have := Int.mul_nonneg (by omega : 0 ≤ b) (by omega : 0 ≤ (a + j + 1) / b - (a + j) / b - 2)
            rw [Int.mul_sub] at this
            omega
        omega
      omega
    · rw [if_neg (fun q => c q.2)]
      have h1 : b * ((a + j + 1) / b - (a + j) / b) = (a + j) % b + 1 - (a + j + 1) % b := by rw [Int.mul_sub]; omega
      have h2 : (a + j + 1) / b - (a + j) / b = 0 := by
        have l1 : -1 < (a + j + 1) / b - (a + j) / b := by
          by_cases z : -1 < (a + j + 1) / b - (a + j) / b
          · exact z
          · have := Int.mul_nonneg (by omega : 0 ≤ b) (by omega : 0 ≤ -((a + j + 1) / b - (a + j) / b) - 1)
            rw [Int.mul_sub, Int.mul_neg] at this
            omega
        have l2 : (a + j + 1) / b - (a + j) / b < 1 := by
          by_cases z : (a + j + 1) / b - (a + j) / b < 1
          · exact z
          · have := Int.mul_nonneg (by omega : 0 ≤ b) (by omega : 0 ≤ (a + j + 1) / b - (a + j) / b - 1)
            rw [Int.mul_sub] at this
            omega
        omega
      omega
theorem brS_bl {n : Nat} {D : Nat → Nat → Int} {st h : Nat → Int} {k : Nat} (hv : VD n D) (hst : VT st) (hk : k < n) : brS D st h k 0 (len D k) = bl D k (st 0) := by
  have hb := hv.2.1 k hk
  have h0 := hst.1
  obtain ⟨m, hm⟩ : ∃ m, len D k = m + 1 := ⟨len D k - 1, by unfold len; omega⟩
  have e : brS D st h k 0 (m + 1) = sm (fun i => if 1 ≤ i ∧ (D k 0 + i).tmod (st 0) = 0 then 1 else 0) (m + 1) := by
    unfold brS
    refine sm_cong (fun i _ => ?_)
    by_cases c : 1 ≤ i ∧ (D k 0 + (i : Int)).tmod (st 0) = 0 <;> simp [c]
  rw [hm, e, mul_cnt (by omega) (by omega)]
  have e2 : D k 0 + (m : Int) = D k 0 + D k 1 - 1 := by unfold len at hm; omega
  rw [e2]
  unfold bl
  rw [Int.tdiv_eq_ediv_of_nonneg (by omega), Int.tdiv_eq_ediv_of_nonneg (by omega)]
section MJ2
variable {K : Int → Mm → Prop} {M : Mm} {n : Nat} {D : Nat → Nat → Int} {st h : Nat → Int} {k : Nat}
set_option maxRecDepth 20000 in
theorem e_pointsOf7 (hm : MR M n D st) (hv : VD n D) (hst : VT st) (H : HH M h) (hg : VG h) (hk : k < n) (h86 : M.2.1 86 k = mcF D st h k) (h87 : M.2.1 87 k = onF D st h k) (h88 : M.2.1 88 k = rsV D st h k) (h89 : M.2.1 89 k = mn10 (rwA D (rsV D st h) k))
    (hK : K (ptW D (shV D st h) (hlF D st h) (onF D st h) (rsV D st h) k) M) : m_X7_pointsOf [.inr (some 80), .inl k] K M := by
  obtain ⟨m0, mA, mR⟩ := hm.1
  have hn := hm.2.1
  have hb := hv.2.1 k hk
  have c0 : (0 : Int) ≤ k := by omega
  have c1 : (k : Int) < (40 : Nat) := by omega
  have hl32 : len D k ≤ 32 := by unfold len; omega
  have hmb := mcS_b D st h k (len D k)
  have hm86 : 0 ≤ M.2.1 86 k ∧ M.2.1 86 k ≤ 32 := by rw [h86]; unfold mcF; omega
  have hon := onF_b (sg := h) hv hst hk
  have hsh := shV_b (st := st) (sg := h) hv hk
  have hhl := brS_b D st h k 1 (len D k)
  have hrw := mn10_b (rwA_b D (rsV D st h) k).1
  have es : (M.2.1 86 k * 100).tdiv (D k 1) = shV D st h k := by rw [h86]; rfl
  have ab := absI_b (x := onF D st h k - D k 0) (c := 1000) (by omega) (by omega)
  have ehl : brS D st h k 1 (len D k) = hlF D st h k := brS_hl hv hst hk _
  simp only [m_X7_pointsOf, mk0, B_X7_pointsOf, iC, iL, iF, iA, iAc, iLen, iT, iAdd, iSub, iMul, iDiv, iRem, iNeg, iCh, iAnd31, iQ, iMax, iMin, iAbs, iCallS, iCallV, aN, aI, aR, rL, rF, rA, cEq, cNe, cLt, cGe, cGt, cLe, cAnd, cOr, cNot, cNull, sSkip, sSeq, sLoc, sLocR, sInc, sPut, sPutR, sPutAdd, sPutSub, sAst, sCst, sRst, sAstAdd, sAstSub, sIf1, sIf, sRet, sRetV, sCallV, sCallS, sPop, sCopy, sCopyT, sObj, sSw, ent_0, ent_1, ent_2, ent_3, ent_4, ent_5, ent_6, va_up_self, va_up_ne, ne_eq, Nat.reduceEqDiff, not_false_eq_true, not_true_eq_false, si_1, si_2, si_g, sr_1, sr_2, cp_1, cp_2, List.length_cons, List.length_nil, Nat.reduceAdd, true_and, and_true, and_self, eq_self, true_implies, forall_const, Bool.false_eq_true, false_implies, or_true, true_or, Option.some.injEq, Prod.mk.injEq, exists_eq_left', exists_eq', exists_and_left, reduceIte, Int.reduceEq, Int.reduceNe, m0, mA, mR, c0, c1, Int.toNat_natCast, h87, h88, h89, e_share7 hm hv hk hm86, es]
  unfold ptW ptV at hK
  by_cases c : rsV D st h k = 0
  · rw [if_pos c] at hK
    rw [if_neg (by simp [c])]
    refine e_bars7 (Or.inr rfl) hm hv hst (fun _ => H) hg hk ?_
    rw [ehl] at hhl ⊢
    have a2 := mx0_b (shV D st h k + 5 * hlF D st h k - 2 * absI (onF D st h k - D k 0))
    have a3 := mul_b (x := mx0 (shV D st h k + 5 * hlF D st h k - 2 * absI (onF D st h k - D k 0))) (y := 10 + mn10 (rwA D (rsV D st h) k)) (a := 3400) (b := 20) (by omega) (by omega) (by omega) (by omega)
    have a4 : 0 ≤ mx0 (shV D st h k + 5 * hlF D st h k - 2 * absI (onF D st h k - D k 0)) * (10 + mn10 (rwA D (rsV D st h) k)) := Int.mul_nonneg a2.1 (by omega)
    have a5 := tdiv_nn (b := 10) a4 (by decide)
    have r1 : inR (onF D st h k - D k 0) := inR_s (by omega) (by omega)
    have r3 : inR (5 * hlF D st h k) := inR_s (by omega) (by omega)
    have r4 : inR (shV D st h k + 5 * hlF D st h k) := inR_s (by omega) (by omega)
    have r5 : inR (2 * absI (onF D st h k - D k 0)) := inR_s (by omega) (by omega)
    have r6 : inR (shV D st h k + 5 * hlF D st h k - 2 * absI (onF D st h k - D k 0)) := inR_s (by omega) (by omega)
    have r7 : inR (10 + mn10 (rwA D (rsV D st h) k)) := inR_s (by omega) (by omega)
    have r8 : inR (mx0 (shV D st h k + 5 * hlF D st h k - 2 * absI (onF D st h k - D k 0)) * (10 + mn10 (rwA D (rsV D st h) k))) := inR_s (by omega) (by omega)
    have r9 : inR ((mx0 (shV D st h k + 5 * hlF D st h k - 2 * absI (onF D st h k - D k 0)) * (10 + mn10 (rwA D (rsV D st h) k))).tdiv 10) := inR_s (by omega) (by omega)
    simp only [m0, mA, mR, c0, c1, Int.toNat_natCast, h87, h89, e_of0 hm hk, e_sizeI (v := onF D st h k - D k 0) ⟨by omega, by omega⟩, r1, r3, r4, r5, r6, r7, ent_0, ent_1, ent_2, ent_3, ent_4, ent_5, ent_6, va_up_self, va_up_ne, ne_eq, Nat.reduceEqDiff, not_false_eq_true, not_true_eq_false, si_1, si_2, si_g, sr_1, sr_2, cp_1, cp_2, List.length_cons, List.length_nil, Nat.reduceAdd, true_and, and_true, and_self, eq_self, true_implies, forall_const, Bool.false_eq_true, false_implies, or_true, true_or, Option.some.injEq, Prod.mk.injEq, exists_eq_left', exists_eq', exists_and_left, reduceIte, Int.reduceEq, Int.reduceNe]
    by_cases c2 : shV D st h k + 5 * hlF D st h k - 2 * absI (onF D st h k - D k 0) < 0
    · have e : mx0 (shV D st h k + 5 * hlF D st h k - 2 * absI (onF D st h k - D k 0)) = 0 := by unfold mx0; rw [if_neg (by omega)]
      rw [e] at hK
      rw [if_pos c2]
      simpa using hK
    · have e : mx0 (shV D st h k + 5 * hlF D st h k - 2 * absI (onF D st h k - D k 0)) = shV D st h k + 5 * hlF D st h k - 2 * absI (onF D st h k - D k 0) := by unfold mx0; split <;> omega
      rw [e] at hK r8 r9
      rw [if_neg c2]
      exact ⟨r8, r9, hK⟩
  · rw [if_neg c] at hK
    rw [if_pos c]
    exact hK
end MJ2
