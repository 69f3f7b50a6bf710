theorem on_out {h : Nat → Int} {t : Int} (ht : ¬ (0 ≤ t ∧ t < 600)) : on? h t = false := by
  unfold on?
  have : sgA h t = -1 := by unfold sgA; rw [if_neg ht]
  simp [this]
theorem si_si (M : Mm) (q k : Nat) (a b : Int) : si (si M q k a) q k b = si M q k b := by
  refine mm_ext rfl (fun x y => ?_) rfl
  simp only [si_g]
  split <;> rfl
def brS (D : Nat → Nat → Int) (st h : Nat → Int) (k : Nat) (am : Int) (j : Nat) : Int := sm (fun i => if 1 ≤ i ∧ (D k 0 + i).tmod (st 0) = 0 ∧ (am = 0 ∨ (mB D st h k i = true ∧ mB D st h k (i - 1) = true)) then 1 else 0) j
theorem brS_b (D : Nat → Nat → Int) (st h : Nat → Int) (k : Nat) (am : Int) (j : Nat) : 0 ≤ brS D st h k am j ∧ brS D st h k am j ≤ j := sm_01 (fun i _ => by split <;> omega)
theorem HH_fr {M M2 : Mm} {h : Nat → Int} (H : HH M h) (h3 : ∀ j, M2.2.1 85 j = M.2.1 85 j) : HH M2 h := fun t ht => by rw [h3]; exact H t ht
section MJ
variable {K : Int → Mm → Prop} {M : Mm} {n : Nat} {D : Nat → Nat → Int} {st h : Nat → Int} {k : Nat}
set_option maxRecDepth 20000 in
theorem e_near7 (hm : MR M n D st) (hv : VD n D) (hst : VT st) (H : HH M h) (hg : VG h) (hk : k < n) (hK : K (onF D st h k) M) : m_X7_nearestOnset [.inr (some 80), .inl k] K M := by
  obtain ⟨m0, mA, mR⟩ := hm.1
  have hb := hv.2.1 k hk
  have h8 := hst.2.2.1
  have s2 := hm.2.2.2.2 2 (by decide)
  have e2 : Int.toNat 2 = 2 := rfl
  have d2 : (0 : Int) ≤ 2 ∧ (2 : Int) < (806 : Nat) := by decide
  simp only [m_X7_nearestOnset, mk0, B_X7_nearestOnset, iC, iL, iF, iA, iAc, iLen, iT, iAdd, iSub, iMul, iDiv, iRem, iNeg, iCh, iAnd31, iQ, iMax, iMin, iAbs, iCallS, iCallV, aN, aI, aR, rL, rF, rA, cEq, cNe, cLt, cGe, cGt, cLe, cAnd, cOr, cNot, cNull, sSkip, sSeq, sLoc, sLocR, sInc, sPut, sPutR, sPutAdd, sPutSub, sAst, sCst, sRst, sAstAdd, sAstSub, sIf1, sIf, sRet, sRetV, sCallV, sCallS, sPop, sCopy, sCopyT, sObj, sSw, ent_0, ent_1, ent_2, ent_3, ent_4, ent_5, ent_6, va_up_self, va_up_ne, ne_eq, Nat.reduceEqDiff, not_false_eq_true, not_true_eq_false, si_1, si_2, si_g, sr_1, sr_2, cp_1, cp_2, List.length_cons, List.length_nil, Nat.reduceAdd, true_and, and_true, and_self, eq_self, true_implies, forall_const, Bool.false_eq_true, false_implies, or_true, true_or, Option.some.injEq, Prod.mk.injEq, exists_eq_left', exists_eq', exists_and_left, reduceIte, Int.reduceEq, Int.reduceNe, m0, e_of0 hm hk]
  refine while_n (n := (st 2 + 1).toNat) (fun r ρ M2 => M2 = M ∧ ∃ i : Nat, i + r = (st 2 + 1).toNat ∧ ρ 0 = .inr (some 80) ∧ ρ 1 = .inl (k : Int) ∧ ρ 2 = .inl (D k 0) ∧ ρ 3 = .inl (i : Int) ∧ onF D st h k = nr h (D k 0) i r) ?_ ⟨rfl, 0, by omega, rfl, rfl, rfl, rfl, rfl⟩
  rintro r W hW ρ M2 ⟨rfl, i, hr, h0, h1, h2, h3, h4⟩
  simp only [h0, h1, h2, h3, m0, mA, mR, e2, d2.1, d2.2, s2, e_isTick, iC, iL, iF, iA, iAc, iLen, iT, iAdd, iSub, iMul, iDiv, iRem, iNeg, iCh, iAnd31, iQ, iMax, iMin, iAbs, iCallS, iCallV, aN, aI, aR, rL, rF, rA, cEq, cNe, cLt, cGe, cGt, cLe, cAnd, cOr, cNot, cNull, sSkip, sSeq, sLoc, sLocR, sInc, sPut, sPutR, sPutAdd, sPutSub, sAst, sCst, sRst, sAstAdd, sAstSub, sIf1, sIf, sRet, sRetV, sCallV, sCallS, sPop, sCopy, sCopyT, sObj, sSw, ent_0, ent_1, ent_2, ent_3, ent_4, ent_5, ent_6, va_up_self, va_up_ne, ne_eq, Nat.reduceEqDiff, not_false_eq_true, not_true_eq_false, si_1, si_2, si_g, sr_1, sr_2, cp_1, cp_2, List.length_cons, List.length_nil, Nat.reduceAdd, true_and, and_true, and_self, eq_self, true_implies, forall_const, Bool.false_eq_true, false_implies, or_true, true_or, Option.some.injEq, Prod.mk.injEq, exists_eq_left', exists_eq', exists_and_left, reduceIte, Int.reduceEq, Int.reduceNe]
  by_cases hi : (i : Int) ≤ st 2
  · have r1 : inR (D k 0 - (i : Int)) := inR_s (by omega) (by omega)
    have r2 : inR (D k 0 + (i : Int)) := inR_s (by omega) (by omega)
    have r3 : inR ((i : Int) + 1) := inR_s (by omega) (by omega)
    obtain ⟨r', rfl⟩ : ∃ r', r = r' + 1 := ⟨r - 1, by omega⟩
    rw [if_pos hi]
    rw [h4] at hK
    unfold nr at hK h4
    have tail : ¬ on? h (D k 0 - (i : Int)) = true → (if ((if 0 ≤ D k 0 + (i : Int) ∧ D k 0 + (i : Int) ≤ 599 then (1 : Int) else 0) ≠ 0) then (∃ w, M2.1[80]? = some (7, w)) ∧ inR (D k 0 + (i : Int)) ∧ m_X7_isOnset [.inr (some 80), .inl (D k 0 + (i : Int))] (fun x M3 => if x ≠ 0 then inR (D k 0 + (i : Int)) ∧ M3.1 = M2.1 ∧ K (D k 0 + (i : Int)) M3 else inR ((i : Int) + 1) ∧ W (va_up ρ 3 (.inl ((i : Int) + 1))) M3) M2 else inR ((i : Int) + 1) ∧ W (va_up ρ 3 (.inl ((i : Int) + 1))) M2) := by
      intro c1
      rw [if_neg c1] at hK h4
      by_cases t2 : 0 ≤ D k 0 + (i : Int) ∧ D k 0 + (i : Int) ≤ 599
      · rw [if_pos t2, if_pos (by decide)]
        refine ⟨⟨0, m0⟩, r2, (e_isOnset7 hm.1 H hg ⟨by omega, by omega⟩).mpr ?_⟩
        by_cases c2 : on? h (D k 0 + (i : Int)) = true
        · rw [if_pos c2] at hK ⊢
          rw [if_pos (by decide)]
          exact ⟨r2, rfl, hK⟩
        · rw [if_neg c2] at h4 ⊢
          rw [if_neg (by decide)]
          exact ⟨r3, hW _ _ (by omega) ⟨rfl, i + 1, by omega, by simp [va_up, h0], by simp [va_up, h1], by simp [va_up, h2], by simp [va_up], by rw [h4]; rfl⟩⟩
      · have c2 := on_out (h := h) (t := D k 0 + (i : Int)) (by omega)
        rw [if_neg t2, if_neg (by decide)]
        rw [if_neg (by rw [c2]; decide)] at h4
        exact ⟨r3, hW _ _ (by omega) ⟨rfl, i + 1, by omega, by simp [va_up, h0], by simp [va_up, h1], by simp [va_up, h2], by simp [va_up], by rw [h4]; rfl⟩⟩
    refine ⟨r1, ?_⟩
    by_cases t1 : 0 ≤ D k 0 - (i : Int) ∧ D k 0 - (i : Int) ≤ 599
    · rw [if_pos t1, if_pos (by decide)]
      refine ⟨r1, (e_isOnset7 hm.1 H hg ⟨by omega, by omega⟩).mpr ?_⟩
      by_cases c1 : on? h (D k 0 - (i : Int)) = true
      · rw [if_pos c1] at hK ⊢
        rw [if_pos (by decide)]
        exact ⟨r1, rfl, hK⟩
      · rw [if_neg c1, if_neg (by decide)]
        refine ⟨r2, ?_⟩
        simpa only [m0, ent_0, ent_1, ent_2, ent_3, ent_4, ent_5, ent_6, va_up_self, va_up_ne, ne_eq, Nat.reduceEqDiff, not_false_eq_true, not_true_eq_false, si_1, si_2, si_g, sr_1, sr_2, cp_1, cp_2, List.length_cons, List.length_nil, Nat.reduceAdd, true_and, and_true, and_self, eq_self, true_implies, forall_const, Bool.false_eq_true, false_implies, or_true, true_or, Option.some.injEq, Prod.mk.injEq, exists_eq_left', exists_eq', exists_and_left, reduceIte, Int.reduceEq, Int.reduceNe] using tail c1
    · have c1 := on_out (h := h) (t := D k 0 - (i : Int)) (by omega)
      rw [if_neg t1, if_neg (by decide)]
      refine ⟨r2, ?_⟩
      simpa only [m0, ent_0, ent_1, ent_2, ent_3, ent_4, ent_5, ent_6, va_up_self, va_up_ne, ne_eq, Nat.reduceEqDiff, not_false_eq_true, not_true_eq_false, si_1, si_2, si_g, sr_1, sr_2, cp_1, cp_2, List.length_cons, List.length_nil, Nat.reduceAdd, true_and, and_true, and_self, eq_self, true_implies, forall_const, Bool.false_eq_true, false_implies, or_true, true_or, Option.some.injEq, Prod.mk.injEq, exists_eq_left', exists_eq', exists_and_left, reduceIte, Int.reduceEq, Int.reduceNe] using tail (by rw [c1]; decide)
  · rw [if_neg hi]
    obtain rfl : r = 0 := by omega
    rw [h4] at hK
    exact hK
theorem e_share7 (hm : MR M n D st) (hv : VD n D) (hk : k < n) (hb : 0 ≤ M.2.1 86 k ∧ M.2.1 86 k ≤ 32) : m_X7_share [.inr (some 80), .inl k] K M ↔ K ((M.2.1 86 k * 100).tdiv (D k 1)) M := by
  obtain ⟨m0, mA, mR⟩ := hm.1
  have hn := hm.2.1
  have h1 := hv.2.1 k hk
  have c0 : (0 : Int) ≤ k := by omega
  have c1 : (k : Int) < (40 : Nat) := by omega
  have n0 : ¬ D k 1 = 0 := by omega
  have r1 : inR (M.2.1 86 k * 100) := inR_s (by omega) (by omega)
  have h4 := tdiv_nn (a := M.2.1 86 k * 100) (b := D k 1) (by omega) (by omega)
  have r2 : inR ((M.2.1 86 k * 100).tdiv (D k 1)) := inR_s (by omega) (by omega)
  simp only [m_X7_share, mk0, B_X7_share, iC, iL, iF, iA, iAc, iLen, iT, iAdd, iSub, iMul, iDiv, iRem, iNeg, iCh, iAnd31, iQ, iMax, iMin, iAbs, iCallS, iCallV, aN, aI, aR, rL, rF, rA, cEq, cNe, cLt, cGe, cGt, cLe, cAnd, cOr, cNot, cNull, sSkip, sSeq, sLoc, sLocR, sInc, sPut, sPutR, sPutAdd, sPutSub, sAst, sCst, sRst, sAstAdd, sAstSub, sIf1, sIf, sRet, sRetV, sCallV, sCallS, sPop, sCopy, sCopyT, sObj, sSw, ent_0, ent_1, ent_2, ent_3, ent_4, ent_5, ent_6, va_up_self, va_up_ne, ne_eq, Nat.reduceEqDiff, not_false_eq_true, not_true_eq_false, si_1, si_2, si_g, sr_1, sr_2, cp_1, cp_2, List.length_cons, List.length_nil, Nat.reduceAdd, true_and, and_true, and_self, eq_self, true_implies, forall_const, Bool.false_eq_true, false_implies, or_true, true_or, Option.some.injEq, Prod.mk.injEq, exists_eq_left', exists_eq', exists_and_left, reduceIte, Int.reduceEq, Int.reduceNe, m0, mA, mR, c0, c1, Int.toNat_natCast, r1, e_of1 hm hk, n0, r2]
set_option maxRecDepth 20000 in
theorem e_reasonOf7 (hm : MR M n D st) (hv : VD n D) (H : HH M h) (hg : VG h) (hk : k < n) (h86 : M.2.1 86 k = mcF D st h k) (h87 : M.2.1 87 k = onF D st h k) (hK : K (rsV D st h k) M) : m_X7_reasonOf [.inr (some 80), .inl k] K M := by
  obtain ⟨m0, mA, mR⟩ := hm.1
  have hn := hm.2.1
  have hb := hv.2.1 k hk
  have c0 : (0 : Int) ≤ k := by omega
  have c1 : (k : Int) < (40 : Nat) := by omega
  have hlen : (len D k : Int) = D k 1 := by unfold len; omega
  simp only [m_X7_reasonOf, mk0, B_X7_reasonOf, iC, iL, iF, iA, iAc, iLen, iT, iAdd, iSub, iMul, iDiv, iRem, iNeg, iCh, iAnd31, iQ, iMax, iMin, iAbs, iCallS, iCallV, aN, aI, aR, rL, rF, rA, cEq, cNe, cLt, cGe, cGt, cLe, cAnd, cOr, cNot, cNull, sSkip, sSeq, sLoc, sLocR, sInc, sPut, sPutR, sPutAdd, sPutSub, sAst, sCst, sRst, sAstAdd, sAstSub, sIf1, sIf, sRet, sRetV, sCallV, sCallS, sPop, sCopy, sCopyT, sObj, sSw, ent_0, ent_1, ent_2, ent_3, ent_4, ent_5, ent_6, va_up_self, va_up_ne, ne_eq, Nat.reduceEqDiff, not_false_eq_true, not_true_eq_false, si_1, si_2, si_g, sr_1, sr_2, cp_1, cp_2, List.length_cons, List.length_nil, Nat.reduceAdd, true_and, and_true, and_self, eq_self, true_implies, forall_const, Bool.false_eq_true, false_implies, or_true, true_or, Option.some.injEq, Prod.mk.injEq, exists_eq_left', exists_eq', exists_and_left, reduceIte, Int.reduceEq, Int.reduceNe, m0, e_of0 hm hk]
  refine while_n (n := len D k) (fun r ρ M2 => M2 = M ∧ ∃ j : Nat, j + r = len D k ∧ ρ 0 = .inr (some 80) ∧ ρ 1 = .inl (k : Int) ∧ ρ 2 = .inl (scS D h k j) ∧ ρ 3 = .inl (D k 0 + (j : Int))) ?_ ⟨rfl, 0, by omega, rfl, rfl, rfl, by simp [va_up]⟩
  rintro r W hW ρ M2 ⟨rfl, j, hr, h0, h1, h2, h3⟩
  simp only [h0, h1, h2, h3, m0, e_behind hm hv hk, iC, iL, iF, iA, iAc, iLen, iT, iAdd, iSub, iMul, iDiv, iRem, iNeg, iCh, iAnd31, iQ, iMax, iMin, iAbs, iCallS, iCallV, aN, aI, aR, rL, rF, rA, cEq, cNe, cLt, cGe, cGt, cLe, cAnd, cOr, cNot, cNull, sSkip, sSeq, sLoc, sLocR, sInc, sPut, sPutR, sPutAdd, sPutSub, sAst, sCst, sRst, sAstAdd, sAstSub, sIf1, sIf, sRet, sRetV, sCallV, sCallS, sPop, sCopy, sCopyT, sObj, sSw, ent_0, ent_1, ent_2, ent_3, ent_4, ent_5, ent_6, va_up_self, va_up_ne, ne_eq, Nat.reduceEqDiff, not_false_eq_true, not_true_eq_false, si_1, si_2, si_g, sr_1, sr_2, cp_1, cp_2, List.length_cons, List.length_nil, Nat.reduceAdd, true_and, and_true, and_self, eq_self, true_implies, forall_const, Bool.false_eq_true, false_implies, or_true, true_or, Option.some.injEq, Prod.mk.injEq, exists_eq_left', exists_eq', exists_and_left, reduceIte, Int.reduceEq, Int.reduceNe]
  by_cases hj : j < len D k
  · have bs := scS_b D h k j
    have e1 := HH_at H (t := D k 0 + (j : Int)) ⟨by omega, by omega⟩
    have hp := sgA_b hg (D k 0 + (j : Int))
    have d0 : 0 ≤ D k 0 + (j : Int) := by omega
    have d1 : D k 0 + (j : Int) < (600 : Nat) := by omega
    have r1 : inR (scS D h k j + 1) := inR_s (by omega) (by omega)
    have r2 : inR (scS D h k j + 0) := inR_s (by omega) (by omega)
    have r3 : inR (D k 0 + (j : Int) + 1) := inR_s (by omega) (by omega)
    have g1 : scS D h k (j + 1) = scS D h k j + (if pj D h k j = -1 then 0 else 1) := rfl
    have g2 : pj D h k j = sgA h (D k 0 + (j : Int)) := rfl
    rw [g2] at g1
    rw [if_pos (by omega)]
    simp only [mA, mR, d0, d1, e1, ent_0, ent_1, ent_2, ent_3, ent_4, ent_5, ent_6, va_up_self, va_up_ne, ne_eq, Nat.reduceEqDiff, not_false_eq_true, not_true_eq_false, si_1, si_2, si_g, sr_1, sr_2, cp_1, cp_2, List.length_cons, List.length_nil, Nat.reduceAdd, true_and, and_true, and_self, eq_self, true_implies, forall_const, Bool.false_eq_true, false_implies, or_true, true_or, Option.some.injEq, Prod.mk.injEq, exists_eq_left', exists_eq', exists_and_left, reduceIte, Int.reduceEq, Int.reduceNe]
    by_cases c : sgA h (D k 0 + (j : Int)) = -1
    · have c2 : ¬ (0 < sgA h (D k 0 + (j : Int)) + 1) := by omega
      rw [if_neg c2]
      rw [if_pos c] at g1
      exact ⟨r2, r3, hW _ _ (by omega) ⟨rfl, j + 1, by omega, by simp [va_up, h0], by simp [va_up, h1], by simp [va_up, g1], by simp [va_up]; omega⟩⟩
    · have c2 : 0 < sgA h (D k 0 + (j : Int)) + 1 := by omega
      rw [if_pos c2]
      rw [if_neg c] at g1
      exact ⟨r1, r3, hW _ _ (by omega) ⟨rfl, j + 1, by omega, by simp [va_up, h0], by simp [va_up, h1], by simp [va_up, g1], by simp [va_up]; omega⟩⟩
  · rw [if_neg (by omega)]
    obtain rfl : j = len D k := by omega
    have hmb := mcS_b D st h k (len D k)
    have e4 : Int.toNat 4 = 4 := rfl
    have d4 : (0 : Int) ≤ 4 ∧ (4 : Int) < (806 : Nat) := by decide
    have s4 := hm.2.2.2.2 4 (by decide)
    have hm86 : 0 ≤ M2.2.1 86 k ∧ M2.2.1 86 k ≤ 32 := by rw [h86]; unfold mcF; omega
    unfold rsV shV at hK
    simp only [mA, mR, c0, c1, Int.toNat_natCast, e_share7 hm hv hk hm86, e4, d4.1, d4.2, s4, h86, h87, m0, h0, h1, h2, iC, iL, iF, iA, iAc, iLen, iT, iAdd, iSub, iMul, iDiv, iRem, iNeg, iCh, iAnd31, iQ, iMax, iMin, iAbs, iCallS, iCallV, aN, aI, aR, rL, rF, rA, cEq, cNe, cLt, cGe, cGt, cLe, cAnd, cOr, cNot, cNull, sSkip, sSeq, sLoc, sLocR, sInc, sPut, sPutR, sPutAdd, sPutSub, sAst, sCst, sRst, sAstAdd, sAstSub, sIf1, sIf, sRet, sRetV, sCallV, sCallS, sPop, sCopy, sCopyT, sObj, sSw, ent_0, ent_1, ent_2, ent_3, ent_4, ent_5, ent_6, va_up_self, va_up_ne, ne_eq, Nat.reduceEqDiff, not_false_eq_true, not_true_eq_false, si_1, si_2, si_g, sr_1, sr_2, cp_1, cp_2, List.length_cons, List.length_nil, Nat.reduceAdd, true_and, and_true, and_self, eq_self, true_implies, forall_const, Bool.false_eq_true, false_implies, or_true, true_or, Option.some.injEq, Prod.mk.injEq, exists_eq_left', exists_eq', exists_and_left, reduceIte, Int.reduceEq, Int.reduceNe]
    unfold mcF onF
    (repeat' split) <;> simp_all
set_option maxRecDepth 20000 in
theorem e_bars7 {am : Int} (ham : am = 0 ∨ am = 1) (hm : MR M n D st) (hv : VD n D) (hst : VT st) (H : am = 1 → HH M h) (hg : VG h) (hk : k < n) (hK : K (brS D st h k am (len D k)) M) : m_X7_bars [.inr (some 80), .inl k, .inl am] K M := by
  obtain ⟨m0, mA, mR⟩ := hm.1
  have hn := hm.2.1
  have hb := hv.2.1 k hk
  have hlen : (len D k : Int) = D k 1 := by unfold len; omega
  have r0 : inR (D k 0 + 1) := inR_s (by omega) (by omega)
  have s0 := hm.2.2.2.2 0 (by decide)
  have e0 : Int.toNat 0 = 0 := rfl
  have d00 : (0 : Int) ≤ 0 ∧ (0 : Int) < (806 : Nat) := by decide
  have hst0 := hst.1
  have nz : ¬ st 0 = 0 := by omega
  simp only [m_X7_bars, mk0, B_X7_bars, iC, iL, iF, iA, iAc, iLen, iT, iAdd, iSub, iMul, iDiv, iRem, iNeg, iCh, iAnd31, iQ, iMax, iMin, iAbs, iCallS, iCallV, aN, aI, aR, rL, rF, rA, cEq, cNe, cLt, cGe, cGt, cLe, cAnd, cOr, cNot, cNull, sSkip, sSeq, sLoc, sLocR, sInc, sPut, sPutR, sPutAdd, sPutSub, sAst, sCst, sRst, sAstAdd, sAstSub, sIf1, sIf, sRet, sRetV, sCallV, sCallS, sPop, sCopy, sCopyT, sObj, sSw, ent_0, ent_1, ent_2, ent_3, ent_4, ent_5, ent_6, va_up_self, va_up_ne, ne_eq, Nat.reduceEqDiff, not_false_eq_true, not_true_eq_false, si_1, si_2, si_g, sr_1, sr_2, cp_1, cp_2, List.length_cons, List.length_nil, Nat.reduceAdd, true_and, and_true, and_self, eq_self, true_implies, forall_const, Bool.false_eq_true, false_implies, or_true, true_or, Option.some.injEq, Prod.mk.injEq, exists_eq_left', exists_eq', exists_and_left, reduceIte, Int.reduceEq, Int.reduceNe, m0, e_of0 hm hk, r0]
  refine while_n (n := len D k - 1) (fun r ρ M2 => M2 = M ∧ ∃ j : Nat, 1 ≤ j ∧ j + r = len D k ∧ ρ 0 = .inr (some 80) ∧ ρ 1 = .inl (k : Int) ∧ ρ 2 = .inl am ∧ ρ 3 = .inl (brS D st h k am j) ∧ ρ 4 = .inl (D k 0 + (j : Int))) ?_ ⟨rfl, 1, by omega, by omega, rfl, rfl, rfl, ?_, rfl⟩
  · rintro r W hW ρ M2 ⟨rfl, j, hj1, hr, h0, h1, h2, h3, h4⟩
    simp only [h0, h1, h2, h3, h4, m0, e_behind hm hv hk, iC, iL, iF, iA, iAc, iLen, iT, iAdd, iSub, iMul, iDiv, iRem, iNeg, iCh, iAnd31, iQ, iMax, iMin, iAbs, iCallS, iCallV, aN, aI, aR, rL, rF, rA, cEq, cNe, cLt, cGe, cGt, cLe, cAnd, cOr, cNot, cNull, sSkip, sSeq, sLoc, sLocR, sInc, sPut, sPutR, sPutAdd, sPutSub, sAst, sCst, sRst, sAstAdd, sAstSub, sIf1, sIf, sRet, sRetV, sCallV, sCallS, sPop, sCopy, sCopyT, sObj, sSw, ent_0, ent_1, ent_2, ent_3, ent_4, ent_5, ent_6, va_up_self, va_up_ne, ne_eq, Nat.reduceEqDiff, not_false_eq_true, not_true_eq_false, si_1, si_2, si_g, sr_1, sr_2, cp_1, cp_2, List.length_cons, List.length_nil, Nat.reduceAdd, true_and, and_true, and_self, eq_self, true_implies, forall_const, Bool.false_eq_true, false_implies, or_true, true_or, Option.some.injEq, Prod.mk.injEq, exists_eq_left', exists_eq', exists_and_left, reduceIte, Int.reduceEq, Int.reduceNe]
    by_cases hj : j < len D k
    · have bs := brS_b D st h k am j
      have tb : 0 ≤ (D k 0 + (j : Int)).tmod (st 0) ∧ (D k 0 + (j : Int)).tmod (st 0) < st 0 := by
        rw [Int.tmod_eq_emod_of_nonneg (by omega)]
        exact ⟨Int.emod_nonneg _ nz, Int.emod_lt_of_pos _ (by omega)⟩
      have r1 : inR ((D k 0 + (j : Int)).tmod (st 0)) := inR_s (by omega) (by omega)
      have r2 : inR (brS D st h k am j + 0) := inR_s (by omega) (by omega)
      have r3 : inR (brS D st h k am j + 1) := inR_s (by omega) (by omega)
      have r4 : inR (D k 0 + (j : Int) + 1) := inR_s (by omega) (by omega)
      have r5 : inR (D k 0 + (j : Int) - 1) := inR_s (by omega) (by omega)
      have g1 : brS D st h k am (j + 1) = brS D st h k am j + (if 1 ≤ j ∧ (D k 0 + j).tmod (st 0) = 0 ∧ (am = 0 ∨ (mB D st h k j = true ∧ mB D st h k (j - 1) = true)) then 1 else 0) := rfl
      have key : ∀ v, v = brS D st h k am (j + 1) → W (va_up (va_up ρ 3 (.inl v)) 4 (.inl (D k 0 + (j : Int) + 1))) M2 := by
        intro v hvv
        refine hW _ _ (by omega) ⟨rfl, j + 1, by omega, by omega, by simp [va_up, h0], by simp [va_up, h1], by simp [va_up, h2], by simp [va_up, hvv], ?_⟩
        simp [va_up]
        omega
      rw [if_pos (by omega)]
      simp only [mA, mR, e0, d00.1, d00.2, s0, nz, r1, r2, r3, r4, r5, ent_0, ent_1, ent_2, ent_3, ent_4, ent_5, ent_6, va_up_self, va_up_ne, ne_eq, Nat.reduceEqDiff, not_false_eq_true, not_true_eq_false, si_1, si_2, si_g, sr_1, sr_2, cp_1, cp_2, List.length_cons, List.length_nil, Nat.reduceAdd, true_and, and_true, and_self, eq_self, true_implies, forall_const, Bool.false_eq_true, false_implies, or_true, true_or, Option.some.injEq, Prod.mk.injEq, exists_eq_left', exists_eq', exists_and_left, reduceIte, Int.reduceEq, Int.reduceNe]
      by_cases c1 : (D k 0 + (j : Int)).tmod (st 0) = 0
      · rcases ham with rfl | rfl
        · rw [if_pos ⟨hj1, c1, Or.inl rfl⟩] at g1
          simp only [c1, if_true, not_true_eq_false, if_false, ent_0, ent_1, ent_2, ent_3, ent_4, ent_5, ent_6, va_up_self, va_up_ne, ne_eq, Nat.reduceEqDiff, not_false_eq_true, not_true_eq_false, si_1, si_2, si_g, sr_1, sr_2, cp_1, cp_2, List.length_cons, List.length_nil, Nat.reduceAdd, true_and, and_true, and_self, eq_self, true_implies, forall_const, Bool.false_eq_true, false_implies, or_true, true_or, Option.some.injEq, Prod.mk.injEq, exists_eq_left', exists_eq', exists_and_left, reduceIte, Int.reduceEq, Int.reduceNe]
          exact key _ g1.symm
        · have q1 : mt? st (sgA h (D k 0 + (j : Int))) (wn D k (D k 0 + (j : Int) - D k 0)) = mB D st h k j := by
            unfold mB pj
            rw [show D k 0 + (j : Int) - D k 0 = (j : Int) by omega]
          have q2 : mt? st (sgA h (D k 0 + (j : Int) - 1)) (wn D k (D k 0 + (j : Int) - 1 - D k 0)) = mB D st h k (j - 1) := by
            unfold mB pj
            rw [show D k 0 + (j : Int) - 1 - D k 0 = ((j - 1 : Nat) : Int) by omega, show D k 0 + (j : Int) - 1 = D k 0 + ((j - 1 : Nat) : Int) by omega]
          simp only [c1, if_true, Int.reduceNe, Int.reduceEq, not_true_eq_false, not_false_eq_true, if_false, ent_0, ent_1, ent_2, ent_3, ent_4, ent_5, ent_6, va_up_self, va_up_ne, ne_eq, Nat.reduceEqDiff, not_false_eq_true, not_true_eq_false, si_1, si_2, si_g, sr_1, sr_2, cp_1, cp_2, List.length_cons, List.length_nil, Nat.reduceAdd, true_and, and_true, and_self, eq_self, true_implies, forall_const, Bool.false_eq_true, false_implies, or_true, true_or, Option.some.injEq, Prod.mk.injEq, exists_eq_left', exists_eq', exists_and_left, reduceIte, Int.reduceEq, Int.reduceNe]
          refine (e_matches7 hm hv hst (H rfl) hg hk (t := D k 0 + (j : Int)) ⟨by omega, by omega⟩).mpr ?_
          rw [q1]
          by_cases c2 : mB D st h k j = true
          · rw [if_pos c2, if_pos (by decide)]
            simp only [m0, r5, ent_0, ent_1, ent_2, ent_3, ent_4, ent_5, ent_6, va_up_self, va_up_ne, ne_eq, Nat.reduceEqDiff, not_false_eq_true, not_true_eq_false, si_1, si_2, si_g, sr_1, sr_2, cp_1, cp_2, List.length_cons, List.length_nil, Nat.reduceAdd, true_and, and_true, and_self, eq_self, true_implies, forall_const, Bool.false_eq_true, false_implies, or_true, true_or, Option.some.injEq, Prod.mk.injEq, exists_eq_left', exists_eq', exists_and_left, reduceIte, Int.reduceEq, Int.reduceNe]
            refine (e_matches7 hm hv hst (H rfl) hg hk (t := D k 0 + (j : Int) - 1) ⟨by omega, by omega⟩).mpr ?_
            rw [q2]
            by_cases c3 : mB D st h k (j - 1) = true
            · rw [if_pos ⟨hj1, c1, Or.inr ⟨c2, c3⟩⟩] at g1
              rw [if_pos c3, if_pos (by decide)]
              exact key _ g1.symm
            · rw [if_neg (fun q => q.2.2.elim (by decide) (fun z => c3 z.2))] at g1
              rw [if_neg c3, if_neg (by decide)]
              exact key _ g1.symm
          · rw [if_neg (fun q => q.2.2.elim (by decide) (fun z => c2 z.1))] at g1
            rw [if_neg c2, if_neg (by decide)]
            exact key _ g1.symm
      · rw [if_neg (fun q => c1 q.2.1)] at g1
        simp only [c1, if_false]
        exact key _ g1.symm
    · rw [if_neg (by omega)]
      obtain rfl : j = len D k := by omega
      exact hK
  · show _ = Sum.inl (brS D st h k am 1)
    simp [va_up, brS, sm]
end MJ
