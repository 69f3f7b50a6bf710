theorem JVg_of {M : Mm} {n : Nat} {D : Nat → Nat → Int} {st h : Nat → Int} (hv : VD n D) (hJ : ∀ j, j < n → M.2.1 88 j = rsV D st h j ∧ M.2.1 90 j = ptW D (shV D st h) (hlF D st h) (onF D st h) (rsV D st h) j) : JVg M n (rsV D st h) (ptW D (shV D st h) (hlF D st h) (onF D st h) (rsV D st h)) := by
  intro j hj
  obtain ⟨h1, h2⟩ := hJ j hj
  have hl : len D j ≤ 32 := by have := (hv.2.1 j hj); unfold len; omega
  have hb := hlS_b D st h j (len D j)
  exact ⟨h1, h2, ptW_b (shV_b hv hj) (by unfold hlF; omega)⟩
def JS (M M2 : Mm) (n : Nat) (D : Nat → Nat → Int) (st h : Nat → Int) : Prop := (M2.1 = M.1 ∧ M2.2.2 = M.2.2 ∧ ∀ q j, q < 85 ∨ 90 < q → M2.2.1 q j = M.2.1 q j) ∧ HH M2 h ∧ ∀ j, j < n → M2.2.1 86 j = mcF D st h j ∧ M2.2.1 87 j = onF D st h j ∧ M2.2.1 88 j = rsV D st h j ∧ M2.2.1 89 j = mn10 (rwA D (rsV D st h) j) ∧ M2.2.1 90 j = ptW D (shV D st h) (hlF D st h) (onF D st h) (rsV D st h) j
theorem JS.g {M M2 : Mm} {n : Nat} {D : Nat → Nat → Int} {st h : Nat → Int} (hv : VD n D) (h1 : JS M M2 n D st h) : JVg M2 n (rsV D st h) (ptW D (shV D st h) (hlF D st h) (onF D st h) (rsV D st h)) := JVg_of hv (fun j hj => ⟨(h1.2.2 j hj).2.2.1, (h1.2.2 j hj).2.2.2.2⟩)
theorem JS.m {M M2 : Mm} {n : Nat} {D : Nat → Nat → Int} {st h : Nat → Int} (hm : MR M n D st) (h1 : JS M M2 n D st h) : MR M2 n D st := MR_fr hm h1.1.1 h1.1.2.1 (fun j _ => h1.1.2.2 81 j (by omega))
theorem VG_sh (sg : Nat → Int) (tt y : Int) : VG (shF sg tt y) := fun t _ => by
  show -1 ≤ (if sgA sg ((t : Int) - tt) = -1 then -1 else clp (sgA sg ((t : Int) - tt) + y)) ∧ (if sgA sg ((t : Int) - tt) = -1 then -1 else clp (sgA sg ((t : Int) - tt) + y)) ≤ 60
  have := clp_b (sgA sg ((t : Int) - tt) + y)
  split <;> omega
theorem sh_00 {sg : Nat → Int} (hg : VG sg) {t : Nat} (ht : t < 600) : shF sg 0 0 t = sg t := by
  have h1 := hg t ht
  have e : sgA sg ((t : Int) - 0) = sg t := by
    unfold sgA
    rw [if_pos (by omega)]
    congr 1
  unfold shF clp
  rw [e]
  (repeat' split) <;> omega
section MJ8
variable {K : Int → Mm → Prop} {M : Mm} {n : Nat} {D : Nat → Nat → Int} {st sg h rs pt : Nat → Int}
set_option maxRecDepth 20000 in
theorem e_allPoints7 (hm : MR M n D st) (hv : VD n D) (hJ : JVg M n rs pt) (hK : K (sm (fun p => pP D pt (p : Nat) n + exP n D rs (p : Nat)) (pcN n D)) M) : m_X7_allPoints [.inr (some 80)] K M := by
  obtain ⟨m0, mA, mR⟩ := hm.1
  have hn := hm.2.1
  obtain ⟨pb1, pb2⟩ := pcN_b hv
  have hb := fun p : Nat => pP_b (D := D) (pt := pt) (p := (p : Int)) (i := n) (fun j hj => (hJ j hj).2.2)
  have sb := fun p : Nat => sm_b (f := fun p => pP D pt (p : Nat) n + exP n D rs (p : Nat)) (a := 0) (b := 272050) (n := p) (fun i _ => by
    have := hb i
    have := exP_b (n := n) (D := D) (rs := rs) (i : Int)
    show 0 ≤ pP D pt i n + exP n D rs i ∧ pP D pt i n + exP n D rs i ≤ 272050
    omega)
  simp only [m_X7_allPoints, mk0, B_X7_allPoints, iC, iL, iF, iA, iAc, iLen, iT, iAdd, iSub, iMul, iDiv, iRem, iNeg, iCh, iAnd31, iQ, iMax, iMin, iAbs, iCallS, iCallV, aN, aI, aR, rL, rF, rA, cEq, cNe, cLt, cGe, cGt, cLe, cAnd, cOr, cNot, cNull, sSkip, sSeq, sLoc, sLocR, sInc, sPut, sPutR, sPutAdd, sPutSub, sAst, sCst, sRst, sAstAdd, sAstSub, sIf1, sIf, sRet, sRetV, sCallV, sCallS, sPop, sCopy, sCopyT, sObj, sSw, ent_0, ent_1, ent_2, ent_3, ent_4, ent_5, ent_6, va_up_self, va_up_ne, ne_eq, Nat.reduceEqDiff, not_false_eq_true, not_true_eq_false, si_1, si_2, si_g, sr_1, sr_2, cp_1, cp_2, List.length_cons, List.length_nil, Nat.reduceAdd, true_and, and_true, and_self, eq_self, true_implies, forall_const, Bool.false_eq_true, false_implies, or_true, true_or, Option.some.injEq, Prod.mk.injEq, exists_eq_left', exists_eq', exists_and_left, reduceIte, Int.reduceEq, Int.reduceNe]
  refine while_n (n := pcN n D) (fun r ρ M2 => M2 = M ∧ ∃ p : Nat, p + r = pcN n D ∧ ρ 0 = .inr (some 80) ∧ ρ 1 = .inl (sm (fun p => pP D pt (p : Nat) n + exP n D rs (p : Nat)) p) ∧ ρ 2 = .inl (p : Int)) ?_ ⟨rfl, 0, by omega, rfl, rfl, rfl⟩
  rintro r W hW ρ M2 ⟨rfl, p, hr, h0, h1, h2⟩
  simp only [h0, h1, h2, m0, mA, mR, iC, iL, iF, iA, iAc, iLen, iT, iAdd, iSub, iMul, iDiv, iRem, iNeg, iCh, iAnd31, iQ, iMax, iMin, iAbs, iCallS, iCallV, aN, aI, aR, rL, rF, rA, cEq, cNe, cLt, cGe, cGt, cLe, cAnd, cOr, cNot, cNull, sSkip, sSeq, sLoc, sLocR, sInc, sPut, sPutR, sPutAdd, sPutSub, sAst, sCst, sRst, sAstAdd, sAstSub, sIf1, sIf, sRet, sRetV, sCallV, sCallS, sPop, sCopy, sCopyT, sObj, sSw, ent_0, ent_1, ent_2, ent_3, ent_4, ent_5, ent_6, va_up_self, va_up_ne, ne_eq, Nat.reduceEqDiff, not_false_eq_true, not_true_eq_false, si_1, si_2, si_g, sr_1, sr_2, cp_1, cp_2, List.length_cons, List.length_nil, Nat.reduceAdd, true_and, and_true, and_self, eq_self, true_implies, forall_const, Bool.false_eq_true, false_implies, or_true, true_or, Option.some.injEq, Prod.mk.injEq, exists_eq_left', exists_eq', exists_and_left, reduceIte, Int.reduceEq, Int.reduceNe]
  refine e_phrases hm hv ?_
  by_cases hp : p < pcN n D
  · rw [if_pos (by omega)]
    refine ⟨⟨0, m0⟩, e_ofPhrase hm hv hJ ?_⟩
    have s1 := sb p
    have s2 := sb (p + 1)
    have e : ofV n D rs pt p 3 = pP D pt p n + exP n D rs p := rfl
    have e2 : sm (fun p => pP D pt (p : Nat) n + exP n D rs (p : Nat)) (p + 1) = sm (fun p => pP D pt (p : Nat) n + exP n D rs (p : Nat)) p + (pP D pt p n + exP n D rs p) := rfl
    rw [e, ← e2]
    have s3 : p + 1 ≤ 40 := by omega
    have r1 : inR (sm (fun p => pP D pt (p : Nat) n + exP n D rs (p : Nat)) (p + 1)) := by
      unfold inR
      constructor <;> omega
    have r2 : inR ((p : Int) + 1) := inR_s (by omega) (by omega)
    simp only [r1, r2, h2, ent_0, ent_1, ent_2, ent_3, ent_4, ent_5, ent_6, va_up_self, va_up_ne, ne_eq, Nat.reduceEqDiff, not_false_eq_true, not_true_eq_false, si_1, si_2, si_g, sr_1, sr_2, cp_1, cp_2, List.length_cons, List.length_nil, Nat.reduceAdd, true_and, and_true, and_self, eq_self, true_implies, forall_const, Bool.false_eq_true, false_implies, or_true, true_or, Option.some.injEq, Prod.mk.injEq, exists_eq_left', exists_eq', exists_and_left, reduceIte, Int.reduceEq, Int.reduceNe]
    exact hW _ _ (by omega) ⟨rfl, p + 1, by omega, by simp [va_up, h0], by simp [va_up], by simp [va_up]⟩
  · rw [if_neg (by omega)]
    obtain rfl : p = pcN n D := by omega
    exact ⟨rfl, hK⟩
set_option maxRecDepth 20000 in
theorem e_hits7 (hm : MR M n D st) (hJ : ∀ j, j < n → M.2.1 88 j = rs j) (hK : K (sm (fun k => if rs k = 0 then 1 else 0) n) M) : m_X7_hits [.inr (some 80)] K M := by
  obtain ⟨m0, mA, mR⟩ := hm.1
  have hn := hm.2.1
  have e5 : Int.toNat 5 = 5 := rfl
  have d5 : (0 : Int) ≤ 5 ∧ (5 : Int) < (806 : Nat) := by decide
  have sb := fun p : Nat => sm_01 (f := fun k => if rs k = 0 then 1 else 0) (n := p) (fun i _ => by split <;> omega)
  simp only [m_X7_hits, mk0, B_X7_hits, iC, iL, iF, iA, iAc, iLen, iT, iAdd, iSub, iMul, iDiv, iRem, iNeg, iCh, iAnd31, iQ, iMax, iMin, iAbs, iCallS, iCallV, aN, aI, aR, rL, rF, rA, cEq, cNe, cLt, cGe, cGt, cLe, cAnd, cOr, cNot, cNull, sSkip, sSeq, sLoc, sLocR, sInc, sPut, sPutR, sPutAdd, sPutSub, sAst, sCst, sRst, sAstAdd, sAstSub, sIf1, sIf, sRet, sRetV, sCallV, sCallS, sPop, sCopy, sCopyT, sObj, sSw, ent_0, ent_1, ent_2, ent_3, ent_4, ent_5, ent_6, va_up_self, va_up_ne, ne_eq, Nat.reduceEqDiff, not_false_eq_true, not_true_eq_false, si_1, si_2, si_g, sr_1, sr_2, cp_1, cp_2, List.length_cons, List.length_nil, Nat.reduceAdd, true_and, and_true, and_self, eq_self, true_implies, forall_const, Bool.false_eq_true, false_implies, or_true, true_or, Option.some.injEq, Prod.mk.injEq, exists_eq_left', exists_eq', exists_and_left, reduceIte, Int.reduceEq, Int.reduceNe]
  refine while_n (n := n) (fun r ρ M2 => M2 = M ∧ ∃ p : Nat, p + r = n ∧ ρ 0 = .inr (some 80) ∧ ρ 1 = .inl (sm (fun k => if rs k = 0 then 1 else 0) p) ∧ ρ 2 = .inl (p : Int)) ?_ ⟨rfl, 0, by omega, rfl, rfl, rfl⟩
  rintro r W hW ρ M2 ⟨rfl, p, hr, h0, h1, h2⟩
  simp only [h0, h1, h2, m0, mA, mR, e5, d5.1, d5.2, hm.2.2.1, iC, iL, iF, iA, iAc, iLen, iT, iAdd, iSub, iMul, iDiv, iRem, iNeg, iCh, iAnd31, iQ, iMax, iMin, iAbs, iCallS, iCallV, aN, aI, aR, rL, rF, rA, cEq, cNe, cLt, cGe, cGt, cLe, cAnd, cOr, cNot, cNull, sSkip, sSeq, sLoc, sLocR, sInc, sPut, sPutR, sPutAdd, sPutSub, sAst, sCst, sRst, sAstAdd, sAstSub, sIf1, sIf, sRet, sRetV, sCallV, sCallS, sPop, sCopy, sCopyT, sObj, sSw, ent_0, ent_1, ent_2, ent_3, ent_4, ent_5, ent_6, va_up_self, va_up_ne, ne_eq, Nat.reduceEqDiff, not_false_eq_true, not_true_eq_false, si_1, si_2, si_g, sr_1, sr_2, cp_1, cp_2, List.length_cons, List.length_nil, Nat.reduceAdd, true_and, and_true, and_self, eq_self, true_implies, forall_const, Bool.false_eq_true, false_implies, or_true, true_or, Option.some.injEq, Prod.mk.injEq, exists_eq_left', exists_eq', exists_and_left, reduceIte, Int.reduceEq, Int.reduceNe]
  by_cases hp : p < n
  · rw [if_pos (by omega)]
    have c0 : (0 : Int) ≤ p := by omega
    have c1 : (p : Int) < (40 : Nat) := by omega
    have e := hJ p hp
    have s1 := sb p
    have e2 : sm (fun k => if rs k = 0 then 1 else 0) (p + 1) = sm (fun k => if rs k = 0 then 1 else 0) p + (if rs p = 0 then 1 else 0) := rfl
    have r1 : inR (sm (fun k => if rs k = 0 then 1 else 0) p + 1) := inR_s (by omega) (by omega)
    have r0 : inR (sm (fun k => if rs k = 0 then 1 else 0) p + 0) := inR_s (by omega) (by omega)
    have r2 : inR ((p : Int) + 1) := inR_s (by omega) (by omega)
    simp only [c0, c1, e, Int.toNat_natCast, ent_0, ent_1, ent_2, ent_3, ent_4, ent_5, ent_6, va_up_self, va_up_ne, ne_eq, Nat.reduceEqDiff, not_false_eq_true, not_true_eq_false, si_1, si_2, si_g, sr_1, sr_2, cp_1, cp_2, List.length_cons, List.length_nil, Nat.reduceAdd, true_and, and_true, and_self, eq_self, true_implies, forall_const, Bool.false_eq_true, false_implies, or_true, true_or, Option.some.injEq, Prod.mk.injEq, exists_eq_left', exists_eq', exists_and_left, reduceIte, Int.reduceEq, Int.reduceNe]
    by_cases hc : rs p = 0
    · rw [if_pos hc] at e2 ⊢
      simp only [r1, r2, h2, ent_0, ent_1, ent_2, ent_3, ent_4, ent_5, ent_6, va_up_self, va_up_ne, ne_eq, Nat.reduceEqDiff, not_false_eq_true, not_true_eq_false, si_1, si_2, si_g, sr_1, sr_2, cp_1, cp_2, List.length_cons, List.length_nil, Nat.reduceAdd, true_and, and_true, and_self, eq_self, true_implies, forall_const, Bool.false_eq_true, false_implies, or_true, true_or, Option.some.injEq, Prod.mk.injEq, exists_eq_left', exists_eq', exists_and_left, reduceIte, Int.reduceEq, Int.reduceNe]
      exact hW _ _ (by omega) ⟨rfl, p + 1, by omega, by simp [va_up, h0], by simp [va_up, e2], by simp [va_up]⟩
    · rw [if_neg hc] at e2 ⊢
      simp only [r0, r2, h2, ent_0, ent_1, ent_2, ent_3, ent_4, ent_5, ent_6, va_up_self, va_up_ne, ne_eq, Nat.reduceEqDiff, not_false_eq_true, not_true_eq_false, si_1, si_2, si_g, sr_1, sr_2, cp_1, cp_2, List.length_cons, List.length_nil, Nat.reduceAdd, true_and, and_true, and_self, eq_self, true_implies, forall_const, Bool.false_eq_true, false_implies, or_true, true_or, Option.some.injEq, Prod.mk.injEq, exists_eq_left', exists_eq', exists_and_left, reduceIte, Int.reduceEq, Int.reduceNe]
      exact hW _ _ (by omega) ⟨rfl, p + 1, by omega, by simp [va_up, h0], by simp [va_up, e2], by simp [va_up]⟩
  · rw [if_neg (by omega)]
    obtain rfl : p = n := by omega
    exact hK
set_option maxRecDepth 20000 in
theorem e_mostPoints7 (hm : MR M n D st) (hv : VD n D) (hst : VT st) (hK : K (perfPts n D (st 0)) M) : m_X7_mostPoints [.inr (some 80)] K M := by
  obtain ⟨m0, mA, mR⟩ := hm.1
  have hn := hm.2.1
  have e5 : Int.toNat 5 = 5 := rfl
  have d5 : (0 : Int) ≤ 5 ∧ (5 : Int) < (806 : Nat) := by decide
  rw [perf_sum hv] at hK
  have fb : ∀ i, i < n → 0 ≤ ptW D (fun _ => 100) (fun i => bl D i (st 0)) (fun i => D i 0) (fun _ => 0) i + (if re D (fun _ => 0) (i + 1) = 2 then 50 else 0) ∧ ptW D (fun _ => 100) (fun i => bl D i (st 0)) (fun i => D i 0) (fun _ => 0) i + (if re D (fun _ => 0) (i + 1) = 2 then 50 else 0) ≤ 6850 := fun i hi => by
    have h1 := ptW_b (D := D) (sh := fun _ => 100) (hd := fun i => bl D i (st 0)) (on' := fun i => D i 0) (rs := fun _ => 0) (i := i) (by omega) (by have := bl_b hv hi (by have := hst.1; omega : 2 ≤ st 0); omega)
    split <;> omega
  generalize hf : (fun i => ptW D (fun _ => 100) (fun i => bl D i (st 0)) (fun i => D i 0) (fun _ => 0) i + (if re D (fun _ => 0) (i + 1) = 2 then 50 else 0)) = f at hK
  have sb := fun (p : Nat) (hp : p ≤ n) => sm_b (f := f) (a := 0) (b := 6850) (n := p) (fun i hi => by rw [← hf]; exact fb i (by omega))
  simp only [m_X7_mostPoints, mk0, B_X7_mostPoints, iC, iL, iF, iA, iAc, iLen, iT, iAdd, iSub, iMul, iDiv, iRem, iNeg, iCh, iAnd31, iQ, iMax, iMin, iAbs, iCallS, iCallV, aN, aI, aR, rL, rF, rA, cEq, cNe, cLt, cGe, cGt, cLe, cAnd, cOr, cNot, cNull, sSkip, sSeq, sLoc, sLocR, sInc, sPut, sPutR, sPutAdd, sPutSub, sAst, sCst, sRst, sAstAdd, sAstSub, sIf1, sIf, sRet, sRetV, sCallV, sCallS, sPop, sCopy, sCopyT, sObj, sSw, ent_0, ent_1, ent_2, ent_3, ent_4, ent_5, ent_6, va_up_self, va_up_ne, ne_eq, Nat.reduceEqDiff, not_false_eq_true, not_true_eq_false, si_1, si_2, si_g, sr_1, sr_2, cp_1, cp_2, List.length_cons, List.length_nil, Nat.reduceAdd, true_and, and_true, and_self, eq_self, true_implies, forall_const, Bool.false_eq_true, false_implies, or_true, true_or, Option.some.injEq, Prod.mk.injEq, exists_eq_left', exists_eq', exists_and_left, reduceIte, Int.reduceEq, Int.reduceNe]
  refine while_n (n := n) (fun r ρ M2 => M2 = M ∧ ∃ p : Nat, p + r = n ∧ ρ 0 = .inr (some 80) ∧ ρ 1 = .inl (sm f p) ∧ ρ 2 = .inl (re D (fun _ => 0) p) ∧ ρ 3 = .inl (p : Int)) ?_ ⟨rfl, 0, by omega, rfl, rfl, rfl, rfl⟩
  rintro r W hW ρ M2 ⟨rfl, p, hr, h0, h1, h2, h3⟩
  simp only [h0, h1, h2, h3, m0, mA, mR, e5, d5.1, d5.2, hm.2.2.1, iC, iL, iF, iA, iAc, iLen, iT, iAdd, iSub, iMul, iDiv, iRem, iNeg, iCh, iAnd31, iQ, iMax, iMin, iAbs, iCallS, iCallV, aN, aI, aR, rL, rF, rA, cEq, cNe, cLt, cGe, cGt, cLe, cAnd, cOr, cNot, cNull, sSkip, sSeq, sLoc, sLocR, sInc, sPut, sPutR, sPutAdd, sPutSub, sAst, sCst, sRst, sAstAdd, sAstSub, sIf1, sIf, sRet, sRetV, sCallV, sCallS, sPop, sCopy, sCopyT, sObj, sSw, ent_0, ent_1, ent_2, ent_3, ent_4, ent_5, ent_6, va_up_self, va_up_ne, ne_eq, Nat.reduceEqDiff, not_false_eq_true, not_true_eq_false, si_1, si_2, si_g, sr_1, sr_2, cp_1, cp_2, List.length_cons, List.length_nil, Nat.reduceAdd, true_and, and_true, and_self, eq_self, true_implies, forall_const, Bool.false_eq_true, false_implies, or_true, true_or, Option.some.injEq, Prod.mk.injEq, exists_eq_left', exists_eq', exists_and_left, reduceIte, Int.reduceEq, Int.reduceNe]
  by_cases hp : p < n
  · rw [if_pos (by omega)]
    refine (e_of4 hm hp).mpr ?_
    have s1 := sb p (by omega)
    have s2 := sb (p + 1) hp
    have hbl := bl_b hv hp (by have := hst.1; omega : 2 ≤ st 0)
    have hre := re_b D (fun _ => 0) p
    have hrw := rwA_b D (fun _ => 0) p
    have hmn := mn10_b hrw.1
    have ere : re D (fun _ => 0) (p + 1) = rwA D (fun _ => 0) p + 1 := by rw [re_s]; simp
    have ept := ptW_p hv (by have := hst.1; omega : 2 ≤ st 0) hp
    have e2 : sm f (p + 1) = sm f p + (((100 + 5 * bl D p (st 0)) * (10 + mn10 (rwA D (fun _ => 0) p))).tdiv 10 + (if re D (fun _ => 0) (p + 1) = 2 then 50 else 0)) := by
      rw [← ept, ← hf]
      rfl
    have q1 : 0 ≤ (100 + 5 * bl D p (st 0)) * (10 + mn10 (rwA D (fun _ => 0) p)) ∧ (100 + 5 * bl D p (st 0)) * (10 + mn10 (rwA D (fun _ => 0) p)) ≤ 260 * 20 := by
      constructor
      · exact Int.mul_nonneg (by omega) (by omega)
      · exact Int.mul_le_mul (by omega) (by omega) (by omega) (by omega)
    have q2 : 0 ≤ ((100 + 5 * bl D p (st 0)) * (10 + mn10 (rwA D (fun _ => 0) p))).tdiv 10 ∧ ((100 + 5 * bl D p (st 0)) * (10 + mn10 (rwA D (fun _ => 0) p))).tdiv 10 ≤ 520 := by
      rw [Int.tdiv_eq_ediv_of_nonneg q1.1]
      omega
    have r1 : inR (5 * bl D p (st 0)) := inR_s (by omega) (by omega)
    have r2 : inR (100 + 5 * bl D p (st 0)) := inR_s (by omega) (by omega)
    have r3 : inR (10 + mn10 (rwA D (fun _ => 0) p)) := inR_s (by omega) (by omega)
    have r4 : inR ((100 + 5 * bl D p (st 0)) * (10 + mn10 (rwA D (fun _ => 0) p))) := inR_s (by omega) (by omega)
    have r5 : inR (sm f p + ((100 + 5 * bl D p (st 0)) * (10 + mn10 (rwA D (fun _ => 0) p))).tdiv 10) := by unfold inR; constructor <;> omega
    have rd : inR (((100 + 5 * bl D p (st 0)) * (10 + mn10 (rwA D (fun _ => 0) p))).tdiv 10) := inR_s (by omega) (by omega)
    have r6 : inR (rwA D (fun _ => 0) p + 1) := inR_s (by omega) (by omega)
    have r7 : inR (sm f p + ((100 + 5 * bl D p (st 0)) * (10 + mn10 (rwA D (fun _ => 0) p))).tdiv 10 + 50) := by unfold inR; constructor <;> omega
    have r8 : inR (sm f p + ((100 + 5 * bl D p (st 0)) * (10 + mn10 (rwA D (fun _ => 0) p))).tdiv 10 + 0) := by unfold inR; constructor <;> omega
    have r9 : inR ((p : Int) + 1) := inR_s (by omega) (by omega)
    have hbr : ∀ K2 : Int → Mm → Prop, K2 (bl D p (st 0)) M2 → m_X7_bars [.inr (some 80), .inl (p : Int), .inl 0] K2 M2 := fun K2 hK2 => e_bars7 (h := fun _ => -1) (.inl rfl) hm hv hst (fun e => absurd e (by decide)) (fun t _ => ⟨Int.le_refl _, show (-1 : Int) ≤ 60 by decide⟩) hp (by rw [brS_bl hv hst hp]; exact hK2)
    have fin : ∀ ρ2 : En, ρ2 0 = .inr (some 80) → ρ2 1 = .inl (sm f (p + 1)) → ρ2 2 = .inl (rwA D (fun _ => 0) p + 1) → ρ2 3 = .inl ((p : Int) + 1) → W ρ2 M2 := fun ρ2 y0 y1 y2 y3 => hW _ _ (by omega) ⟨rfl, p + 1, by omega, y0, y1, by rw [y2, ere], y3⟩
    rw [ere] at e2
    by_cases c4 : D p 4 = 1
    · have erw : rwA D (fun _ => 0) p = 0 := if_pos c4
      rw [erw] at r3 r4 r5 r6 r7 r8 rd e2 fin
      simp only [show mn10 0 = 0 from rfl] at r3 r4 r5 r7 r8 rd e2
      rw [if_pos c4]
      refine ⟨⟨0, m0⟩, hbr _ ?_⟩
      simp only [Int.reduceLT, r1, r2, r3, r4, r5, r6, r8, r9, rd, h3, iC, iL, iF, iA, iAc, iLen, iT, iAdd, iSub, iMul, iDiv, iRem, iNeg, iCh, iAnd31, iQ, iMax, iMin, iAbs, iCallS, iCallV, aN, aI, aR, rL, rF, rA, cEq, cNe, cLt, cGe, cGt, cLe, cAnd, cOr, cNot, cNull, sSkip, sSeq, sLoc, sLocR, sInc, sPut, sPutR, sPutAdd, sPutSub, sAst, sCst, sRst, sAstAdd, sAstSub, sIf1, sIf, sRet, sRetV, sCallV, sCallS, sPop, sCopy, sCopyT, sObj, sSw, ent_0, ent_1, ent_2, ent_3, ent_4, ent_5, ent_6, va_up_self, va_up_ne, ne_eq, Nat.reduceEqDiff, not_false_eq_true, not_true_eq_false, si_1, si_2, si_g, sr_1, sr_2, cp_1, cp_2, List.length_cons, List.length_nil, Nat.reduceAdd, true_and, and_true, and_self, eq_self, true_implies, forall_const, Bool.false_eq_true, false_implies, or_true, true_or, Option.some.injEq, Prod.mk.injEq, exists_eq_left', exists_eq', exists_and_left, reduceIte, Int.reduceEq, Int.reduceNe]
      rw [if_neg (show ¬ ((0 : Int) + 1 = 2) by decide)] at e2 ⊢
      exact fin _ (by simp [va_up, h0]) (by simp [va_up, e2]) (by simp [va_up]) (by simp [va_up])
    · have erw : rwA D (fun _ => 0) p = re D (fun _ => 0) p := if_neg c4
      rw [erw] at r3 r4 r5 r6 r7 r8 rd e2 fin
      rw [if_neg c4]
      refine ⟨⟨0, m0⟩, hbr _ ?_⟩
      by_cases c10 : re D (fun _ => 0) p < 10
      · have em : mn10 (re D (fun _ => 0) p) = re D (fun _ => 0) p := by unfold mn10; split <;> omega
        rw [em] at r3 r4 r5 r7 r8 rd e2
        simp only [c10, if_true, r1, r2, r3, r4, r5, r6, r7, r8, r9, rd, h3, iC, iL, iF, iA, iAc, iLen, iT, iAdd, iSub, iMul, iDiv, iRem, iNeg, iCh, iAnd31, iQ, iMax, iMin, iAbs, iCallS, iCallV, aN, aI, aR, rL, rF, rA, cEq, cNe, cLt, cGe, cGt, cLe, cAnd, cOr, cNot, cNull, sSkip, sSeq, sLoc, sLocR, sInc, sPut, sPutR, sPutAdd, sPutSub, sAst, sCst, sRst, sAstAdd, sAstSub, sIf1, sIf, sRet, sRetV, sCallV, sCallS, sPop, sCopy, sCopyT, sObj, sSw, ent_0, ent_1, ent_2, ent_3, ent_4, ent_5, ent_6, va_up_self, va_up_ne, ne_eq, Nat.reduceEqDiff, not_false_eq_true, not_true_eq_false, si_1, si_2, si_g, sr_1, sr_2, cp_1, cp_2, List.length_cons, List.length_nil, Nat.reduceAdd, true_and, and_true, and_self, eq_self, true_implies, forall_const, Bool.false_eq_true, false_implies, or_true, true_or, Option.some.injEq, Prod.mk.injEq, exists_eq_left', exists_eq', exists_and_left, reduceIte, Int.reduceEq, Int.reduceNe]
        by_cases c2 : re D (fun _ => 0) p + 1 = 2
        · rw [if_pos c2] at e2 ⊢
          exact fin _ (by simp [va_up, h0]) (by simp [va_up, e2] <;> omega) (by simp [va_up]) (by simp [va_up])
        · rw [if_neg c2] at e2 ⊢
          exact fin _ (by simp [va_up, h0]) (by simp [va_up, e2]) (by simp [va_up]) (by simp [va_up])
      · have em : mn10 (re D (fun _ => 0) p) = 10 := by unfold mn10; split <;> omega
        have c2 : ¬ (re D (fun _ => 0) p + 1 = 2) := by omega
        rw [em] at r3 r4 r5 r7 r8 rd e2
        simp only [c10, c2, if_false, r1, r2, r3, r4, r5, r6, r7, r8, r9, rd, h3, iC, iL, iF, iA, iAc, iLen, iT, iAdd, iSub, iMul, iDiv, iRem, iNeg, iCh, iAnd31, iQ, iMax, iMin, iAbs, iCallS, iCallV, aN, aI, aR, rL, rF, rA, cEq, cNe, cLt, cGe, cGt, cLe, cAnd, cOr, cNot, cNull, sSkip, sSeq, sLoc, sLocR, sInc, sPut, sPutR, sPutAdd, sPutSub, sAst, sCst, sRst, sAstAdd, sAstSub, sIf1, sIf, sRet, sRetV, sCallV, sCallS, sPop, sCopy, sCopyT, sObj, sSw, ent_0, ent_1, ent_2, ent_3, ent_4, ent_5, ent_6, va_up_self, va_up_ne, ne_eq, Nat.reduceEqDiff, not_false_eq_true, not_true_eq_false, si_1, si_2, si_g, sr_1, sr_2, cp_1, cp_2, List.length_cons, List.length_nil, Nat.reduceAdd, true_and, and_true, and_self, eq_self, true_implies, forall_const, Bool.false_eq_true, false_implies, or_true, true_or, Option.some.injEq, Prod.mk.injEq, exists_eq_left', exists_eq', exists_and_left, reduceIte, Int.reduceEq, Int.reduceNe] at e2 ⊢
        exact fin _ (by simp [va_up, h0]) (by simp [va_up, e2]) (by simp [va_up]) (by simp [va_up])
  · rw [if_neg (by omega)]
    obtain rfl : p = n := by omega
    exact hK
set_option maxRecDepth 20000 in
theorem e_sungTicks7 (hm : MdP M) (H : HH M h) (hg : VG h) (hK : K (sm (fun t => if h t = -1 then 0 else 1) 600) M) : m_X7_sungTicks [.inr (some 80)] K M := by
  obtain ⟨m0, mA, mR⟩ := hm
  obtain ⟨N, hN⟩ : ∃ N, N = 600 := ⟨600, rfl⟩
  rw [← hN] at hK
  have sb := fun p : Nat => sm_01 (f := fun t => if h t = -1 then 0 else 1) (n := p) (fun i _ => by split <;> omega)
  simp only [m_X7_sungTicks, mk0, B_X7_sungTicks, iC, iL, iF, iA, iAc, iLen, iT, iAdd, iSub, iMul, iDiv, iRem, iNeg, iCh, iAnd31, iQ, iMax, iMin, iAbs, iCallS, iCallV, aN, aI, aR, rL, rF, rA, cEq, cNe, cLt, cGe, cGt, cLe, cAnd, cOr, cNot, cNull, sSkip, sSeq, sLoc, sLocR, sInc, sPut, sPutR, sPutAdd, sPutSub, sAst, sCst, sRst, sAstAdd, sAstSub, sIf1, sIf, sRet, sRetV, sCallV, sCallS, sPop, sCopy, sCopyT, sObj, sSw, ent_0, ent_1, ent_2, ent_3, ent_4, ent_5, ent_6, va_up_self, va_up_ne, ne_eq, Nat.reduceEqDiff, not_false_eq_true, not_true_eq_false, si_1, si_2, si_g, sr_1, sr_2, cp_1, cp_2, List.length_cons, List.length_nil, Nat.reduceAdd, true_and, and_true, and_self, eq_self, true_implies, forall_const, Bool.false_eq_true, false_implies, or_true, true_or, Option.some.injEq, Prod.mk.injEq, exists_eq_left', exists_eq', exists_and_left, reduceIte, Int.reduceEq, Int.reduceNe]
  refine while_n (n := N) (fun r ρ M2 => M2 = M ∧ ∃ p : Nat, p + r = N ∧ ρ 0 = .inr (some 80) ∧ ρ 1 = .inl (sm (fun t => if h t = -1 then 0 else 1) p) ∧ ρ 2 = .inl (p : Int)) ?_ ⟨rfl, 0, by omega, rfl, rfl, rfl⟩
  rintro r W hW ρ M2 ⟨rfl, p, hr, h0, h1, h2⟩
  simp only [h0, h1, h2, m0, mA, mR, iC, iL, iF, iA, iAc, iLen, iT, iAdd, iSub, iMul, iDiv, iRem, iNeg, iCh, iAnd31, iQ, iMax, iMin, iAbs, iCallS, iCallV, aN, aI, aR, rL, rF, rA, cEq, cNe, cLt, cGe, cGt, cLe, cAnd, cOr, cNot, cNull, sSkip, sSeq, sLoc, sLocR, sInc, sPut, sPutR, sPutAdd, sPutSub, sAst, sCst, sRst, sAstAdd, sAstSub, sIf1, sIf, sRet, sRetV, sCallV, sCallS, sPop, sCopy, sCopyT, sObj, sSw, ent_0, ent_1, ent_2, ent_3, ent_4, ent_5, ent_6, va_up_self, va_up_ne, ne_eq, Nat.reduceEqDiff, not_false_eq_true, not_true_eq_false, si_1, si_2, si_g, sr_1, sr_2, cp_1, cp_2, List.length_cons, List.length_nil, Nat.reduceAdd, true_and, and_true, and_self, eq_self, true_implies, forall_const, Bool.false_eq_true, false_implies, or_true, true_or, Option.some.injEq, Prod.mk.injEq, exists_eq_left', exists_eq', exists_and_left, reduceIte, Int.reduceEq, Int.reduceNe]
  by_cases hp : p < N
  · rw [if_pos (by omega)]
    have c0 : (0 : Int) ≤ p := by omega
    have c1 : (p : Int) < (600 : Nat) := by omega
    have e := H p (by omega)
    have s0 := hg p (by omega)
    have s1 := sb p
    have e2 : sm (fun t => if h t = -1 then 0 else 1) (p + 1) = sm (fun t => if h t = -1 then 0 else 1) p + (if h p = -1 then 0 else 1) := rfl
    have r1 : inR (sm (fun t => if h t = -1 then 0 else 1) p + 1) := inR_s (by omega) (by omega)
    have r0 : inR (sm (fun t => if h t = -1 then 0 else 1) p + 0) := inR_s (by omega) (by omega)
    have r2 : inR ((p : Int) + 1) := inR_s (by omega) (by omega)
    simp only [c0, c1, e, Int.toNat_natCast, ent_0, ent_1, ent_2, ent_3, ent_4, ent_5, ent_6, va_up_self, va_up_ne, ne_eq, Nat.reduceEqDiff, not_false_eq_true, not_true_eq_false, si_1, si_2, si_g, sr_1, sr_2, cp_1, cp_2, List.length_cons, List.length_nil, Nat.reduceAdd, true_and, and_true, and_self, eq_self, true_implies, forall_const, Bool.false_eq_true, false_implies, or_true, true_or, Option.some.injEq, Prod.mk.injEq, exists_eq_left', exists_eq', exists_and_left, reduceIte, Int.reduceEq, Int.reduceNe]
    by_cases hc : h p = -1
    · rw [if_pos hc] at e2
      rw [if_neg (by omega)]
      simp only [r0, r2, h2, ent_0, ent_1, ent_2, ent_3, ent_4, ent_5, ent_6, va_up_self, va_up_ne, ne_eq, Nat.reduceEqDiff, not_false_eq_true, not_true_eq_false, si_1, si_2, si_g, sr_1, sr_2, cp_1, cp_2, List.length_cons, List.length_nil, Nat.reduceAdd, true_and, and_true, and_self, eq_self, true_implies, forall_const, Bool.false_eq_true, false_implies, or_true, true_or, Option.some.injEq, Prod.mk.injEq, exists_eq_left', exists_eq', exists_and_left, reduceIte, Int.reduceEq, Int.reduceNe]
      exact hW _ _ (by omega) ⟨rfl, p + 1, by omega, by simp [va_up, h0], by simp [va_up, e2], by simp [va_up]⟩
    · rw [if_neg hc] at e2
      rw [if_pos (by omega)]
      simp only [r1, r2, h2, ent_0, ent_1, ent_2, ent_3, ent_4, ent_5, ent_6, va_up_self, va_up_ne, ne_eq, Nat.reduceEqDiff, not_false_eq_true, not_true_eq_false, si_1, si_2, si_g, sr_1, sr_2, cp_1, cp_2, List.length_cons, List.length_nil, Nat.reduceAdd, true_and, and_true, and_self, eq_self, true_implies, forall_const, Bool.false_eq_true, false_implies, or_true, true_or, Option.some.injEq, Prod.mk.injEq, exists_eq_left', exists_eq', exists_and_left, reduceIte, Int.reduceEq, Int.reduceNe]
      exact hW _ _ (by omega) ⟨rfl, p + 1, by omega, by simp [va_up, h0], by simp [va_up, e2], by simp [va_up]⟩
  · rw [if_neg (by omega)]
    obtain rfl : p = N := by omega
    exact hK
set_option maxRecDepth 20000 in
theorem e_onsets7 (hm : MdP M) (H : HH M h) (hg : VG h) (hK : K (sm (fun t => if on? h t = true then 1 else 0) 600) M) : m_X7_onsets [.inr (some 80)] K M := by
  have hm2 := hm
  obtain ⟨m0, mA, mR⟩ := hm
  obtain ⟨N, hN⟩ : ∃ N, N = 600 := ⟨600, rfl⟩
  rw [← hN] at hK
  have sb := fun p : Nat => sm_01 (f := fun t => if on? h t = true then 1 else 0) (n := p) (fun i _ => by split <;> omega)
  simp only [m_X7_onsets, mk0, B_X7_onsets, iC, iL, iF, iA, iAc, iLen, iT, iAdd, iSub, iMul, iDiv, iRem, iNeg, iCh, iAnd31, iQ, iMax, iMin, iAbs, iCallS, iCallV, aN, aI, aR, rL, rF, rA, cEq, cNe, cLt, cGe, cGt, cLe, cAnd, cOr, cNot, cNull, sSkip, sSeq, sLoc, sLocR, sInc, sPut, sPutR, sPutAdd, sPutSub, sAst, sCst, sRst, sAstAdd, sAstSub, sIf1, sIf, sRet, sRetV, sCallV, sCallS, sPop, sCopy, sCopyT, sObj, sSw, ent_0, ent_1, ent_2, ent_3, ent_4, ent_5, ent_6, va_up_self, va_up_ne, ne_eq, Nat.reduceEqDiff, not_false_eq_true, not_true_eq_false, si_1, si_2, si_g, sr_1, sr_2, cp_1, cp_2, List.length_cons, List.length_nil, Nat.reduceAdd, true_and, and_true, and_self, eq_self, true_implies, forall_const, Bool.false_eq_true, false_implies, or_true, true_or, Option.some.injEq, Prod.mk.injEq, exists_eq_left', exists_eq', exists_and_left, reduceIte, Int.reduceEq, Int.reduceNe]
  refine while_n (n := N) (fun r ρ M2 => M2 = M ∧ ∃ p : Nat, p + r = N ∧ ρ 0 = .inr (some 80) ∧ ρ 1 = .inl (sm (fun t => if on? h t = true then 1 else 0) p) ∧ ρ 2 = .inl (p : Int)) ?_ ⟨rfl, 0, by omega, rfl, rfl, rfl⟩
  rintro r W hW ρ M2 ⟨rfl, p, hr, h0, h1, h2⟩
  simp only [h0, h1, h2, m0, mA, mR, iC, iL, iF, iA, iAc, iLen, iT, iAdd, iSub, iMul, iDiv, iRem, iNeg, iCh, iAnd31, iQ, iMax, iMin, iAbs, iCallS, iCallV, aN, aI, aR, rL, rF, rA, cEq, cNe, cLt, cGe, cGt, cLe, cAnd, cOr, cNot, cNull, sSkip, sSeq, sLoc, sLocR, sInc, sPut, sPutR, sPutAdd, sPutSub, sAst, sCst, sRst, sAstAdd, sAstSub, sIf1, sIf, sRet, sRetV, sCallV, sCallS, sPop, sCopy, sCopyT, sObj, sSw, ent_0, ent_1, ent_2, ent_3, ent_4, ent_5, ent_6, va_up_self, va_up_ne, ne_eq, Nat.reduceEqDiff, not_false_eq_true, not_true_eq_false, si_1, si_2, si_g, sr_1, sr_2, cp_1, cp_2, List.length_cons, List.length_nil, Nat.reduceAdd, true_and, and_true, and_self, eq_self, true_implies, forall_const, Bool.false_eq_true, false_implies, or_true, true_or, Option.some.injEq, Prod.mk.injEq, exists_eq_left', exists_eq', exists_and_left, reduceIte, Int.reduceEq, Int.reduceNe]
  by_cases hp : p < N
  · rw [if_pos (by omega)]
    refine (e_isOnset7 hm2 H hg (by omega)).mpr ?_
    have s1 := sb p
    have e2 : sm (fun t => if on? h t = true then 1 else 0) (p + 1) = sm (fun t => if on? h t = true then 1 else 0) p + (if on? h p = true then 1 else 0) := rfl
    have r1 : inR (sm (fun t => if on? h t = true then 1 else 0) p + 1) := inR_s (by omega) (by omega)
    have r0 : inR (sm (fun t => if on? h t = true then 1 else 0) p + 0) := inR_s (by omega) (by omega)
    have r2 : inR ((p : Int) + 1) := inR_s (by omega) (by omega)
    by_cases hc : on? h p = true
    · rw [if_pos hc] at e2 ⊢
      simp only [r1, r2, h2, ent_0, ent_1, ent_2, ent_3, ent_4, ent_5, ent_6, va_up_self, va_up_ne, ne_eq, Nat.reduceEqDiff, not_false_eq_true, not_true_eq_false, si_1, si_2, si_g, sr_1, sr_2, cp_1, cp_2, List.length_cons, List.length_nil, Nat.reduceAdd, true_and, and_true, and_self, eq_self, true_implies, forall_const, Bool.false_eq_true, false_implies, or_true, true_or, Option.some.injEq, Prod.mk.injEq, exists_eq_left', exists_eq', exists_and_left, reduceIte, Int.reduceEq, Int.reduceNe]
      exact hW _ _ (by omega) ⟨rfl, p + 1, by omega, by simp [va_up, h0], by simp [va_up, e2], by simp [va_up]⟩
    · rw [if_neg hc] at e2 ⊢
      simp only [r0, r2, h2, ent_0, ent_1, ent_2, ent_3, ent_4, ent_5, ent_6, va_up_self, va_up_ne, ne_eq, Nat.reduceEqDiff, not_false_eq_true, not_true_eq_false, si_1, si_2, si_g, sr_1, sr_2, cp_1, cp_2, List.length_cons, List.length_nil, Nat.reduceAdd, true_and, and_true, and_self, eq_self, true_implies, forall_const, Bool.false_eq_true, false_implies, or_true, true_or, Option.some.injEq, Prod.mk.injEq, exists_eq_left', exists_eq', exists_and_left, reduceIte, Int.reduceEq, Int.reduceNe]
      exact hW _ _ (by omega) ⟨rfl, p + 1, by omega, by simp [va_up, h0], by simp [va_up, e2], by simp [va_up]⟩
  · rw [if_neg (by omega)]
    obtain rfl : p = N := by omega
    exact hK
theorem e_hearJudge {tt y : Int} {Q : Int → Mm → Prop} (hm : MR M n D st) (hG : MG M sg) (hg : VG sg) (hv : VD n D) (hst : VT st) (ht : -32 ≤ tt ∧ tt ≤ 32) (hy : -60 ≤ y ∧ y ≤ 60) (hh : VG h) (he : ∀ t, t < 600 → shF sg tt y t = h t) (hW : ∀ M2, M2.1 = M.1 → (∀ Kj : Int → Mm → Prop, (∀ M3, JS M M3 n D st h → Kj 0 M3) → m_X7_judge [.inr (some 80)] Kj M2) → Q 0 M2) : m_X7_hear [.inr (some 80), .inl tt, .inl y] Q M := by
  refine e_hear7 hm.1 hG hg ht hy ?_
  have H2 : HH (sa M 85 (fun t => if t < 600 then shF sg tt y t + 1 else M.2.1 85 t)) h := fun t ht => by
    rw [sa_g, if_pos rfl, if_pos ht, he t ht]
  have hm2 : MR (sa M 85 (fun t => if t < 600 then shF sg tt y t + 1 else M.2.1 85 t)) n D st := MR_fr hm rfl rfl (fun j _ => by rw [sa_g, if_neg (by omega)])
  refine hW _ rfl (fun Kj hKj => ?_)
  refine e_judge7 hm2 hv hst H2 hh (fun M3 h3 => hKj M3 ⟨⟨h3.1.1, h3.1.2.1, fun q j hq => ?_⟩, HH_fr H2 (fun j => h3.1.2.2 85 j (by omega)), h3.2⟩)
  rw [h3.1.2.2 q j (by omega), sa_g, if_neg (by omega)]
set_option maxRecDepth 20000 in
theorem e_judgeSong (hm : MR M n D st) (hG : MG M sg) (hg : VG sg) (hv : VD n D) (hst : VT st) (hK : ∀ M2, JS M M2 n D st sg → K 0 M2) : m_X7_judgeSong [.inr (some 80)] K M := by
  obtain ⟨m0, mA, mR⟩ := hm.1
  simp only [m_X7_judgeSong, mk0, B_X7_judgeSong, iC, iL, iF, iA, iAc, iLen, iT, iAdd, iSub, iMul, iDiv, iRem, iNeg, iCh, iAnd31, iQ, iMax, iMin, iAbs, iCallS, iCallV, aN, aI, aR, rL, rF, rA, cEq, cNe, cLt, cGe, cGt, cLe, cAnd, cOr, cNot, cNull, sSkip, sSeq, sLoc, sLocR, sInc, sPut, sPutR, sPutAdd, sPutSub, sAst, sCst, sRst, sAstAdd, sAstSub, sIf1, sIf, sRet, sRetV, sCallV, sCallS, sPop, sCopy, sCopyT, sObj, sSw, ent_0, ent_1, ent_2, ent_3, ent_4, ent_5, ent_6, va_up_self, va_up_ne, ne_eq, Nat.reduceEqDiff, not_false_eq_true, not_true_eq_false, si_1, si_2, si_g, sr_1, sr_2, cp_1, cp_2, List.length_cons, List.length_nil, Nat.reduceAdd, true_and, and_true, and_self, eq_self, true_implies, forall_const, Bool.false_eq_true, false_implies, or_true, true_or, Option.some.injEq, Prod.mk.injEq, exists_eq_left', exists_eq', exists_and_left, reduceIte, Int.reduceEq, Int.reduceNe, m0]
  refine e_hearJudge hm hG hg hv hst (by omega) (by omega) hg (fun t ht => sh_00 hg ht) (fun M2 h1 hJ => ⟨⟨0, by rw [h1]; exact m0⟩, hJ _ (fun M3 h3 => ⟨h3.1.1, hK M3 h3⟩)⟩)
set_option maxRecDepth 20000 in
theorem e_pointsShifted7 {tt y : Int} (hm : MR M n D st) (hG : MG M sg) (hg : VG sg) (hv : VD n D) (hst : VT st) (ht : -32 ≤ tt ∧ tt ≤ 32) (hy : -60 ≤ y ∧ y ≤ 60) (hK : ∀ M2, JS M M2 n D st (shF sg tt y) → K (sm (fun p => pP D (ptW D (shV D st (shF sg tt y)) (hlF D st (shF sg tt y)) (onF D st (shF sg tt y)) (rsV D st (shF sg tt y))) (p : Nat) n + exP n D (rsV D st (shF sg tt y)) (p : Nat)) (pcN n D)) M2) : m_X7_pointsShifted [.inr (some 80), .inl tt, .inl y] K M := by
  obtain ⟨m0, mA, mR⟩ := hm.1
  simp only [m_X7_pointsShifted, mk0, B_X7_pointsShifted, iC, iL, iF, iA, iAc, iLen, iT, iAdd, iSub, iMul, iDiv, iRem, iNeg, iCh, iAnd31, iQ, iMax, iMin, iAbs, iCallS, iCallV, aN, aI, aR, rL, rF, rA, cEq, cNe, cLt, cGe, cGt, cLe, cAnd, cOr, cNot, cNull, sSkip, sSeq, sLoc, sLocR, sInc, sPut, sPutR, sPutAdd, sPutSub, sAst, sCst, sRst, sAstAdd, sAstSub, sIf1, sIf, sRet, sRetV, sCallV, sCallS, sPop, sCopy, sCopyT, sObj, sSw, ent_0, ent_1, ent_2, ent_3, ent_4, ent_5, ent_6, va_up_self, va_up_ne, ne_eq, Nat.reduceEqDiff, not_false_eq_true, not_true_eq_false, si_1, si_2, si_g, sr_1, sr_2, cp_1, cp_2, List.length_cons, List.length_nil, Nat.reduceAdd, true_and, and_true, and_self, eq_self, true_implies, forall_const, Bool.false_eq_true, false_implies, or_true, true_or, Option.some.injEq, Prod.mk.injEq, exists_eq_left', exists_eq', exists_and_left, reduceIte, Int.reduceEq, Int.reduceNe, m0]
  refine e_hearJudge hm hG hg hv hst ht hy (VG_sh sg tt y) (fun t _ => rfl) (fun M2 h1 hJ => ⟨⟨0, by rw [h1]; exact m0⟩, hJ _ (fun M3 h3 => ⟨⟨0, by rw [h3.1.1]; exact m0⟩, ?_⟩)⟩)
  exact e_allPoints7 (h3.m hm) hv (h3.g hv) ⟨h3.1.1, hK M3 h3⟩
set_option maxRecDepth 20000 in
theorem e_syllableAt7 {t : Int} (hm : MR M n D st) (hv : VD n D) (hK : ∀ v : Int, ((v = -5 ∧ ∀ k, k < n → ¬ (D k 0 ≤ t ∧ t ≤ D k 0 + D k 1 - 1)) ∨ ∃ k : Nat, k < n ∧ v = k ∧ D k 0 ≤ t ∧ t ≤ D k 0 + D k 1 - 1) → K v M) : m_X7_syllableAt [.inr (some 80), .inl t] K M := by
  obtain ⟨m0, mA, mR⟩ := hm.1
  have hn := hm.2.1
  have e5 : Int.toNat 5 = 5 := rfl
  have d5 : (0 : Int) ≤ 5 ∧ (5 : Int) < (806 : Nat) := by decide
  simp only [m_X7_syllableAt, mk0, B_X7_syllableAt, iC, iL, iF, iA, iAc, iLen, iT, iAdd, iSub, iMul, iDiv, iRem, iNeg, iCh, iAnd31, iQ, iMax, iMin, iAbs, iCallS, iCallV, aN, aI, aR, rL, rF, rA, cEq, cNe, cLt, cGe, cGt, cLe, cAnd, cOr, cNot, cNull, sSkip, sSeq, sLoc, sLocR, sInc, sPut, sPutR, sPutAdd, sPutSub, sAst, sCst, sRst, sAstAdd, sAstSub, sIf1, sIf, sRet, sRetV, sCallV, sCallS, sPop, sCopy, sCopyT, sObj, sSw, ent_0, ent_1, ent_2, ent_3, ent_4, ent_5, ent_6, va_up_self, va_up_ne, ne_eq, Nat.reduceEqDiff, not_false_eq_true, not_true_eq_false, si_1, si_2, si_g, sr_1, sr_2, cp_1, cp_2, List.length_cons, List.length_nil, Nat.reduceAdd, true_and, and_true, and_self, eq_self, true_implies, forall_const, Bool.false_eq_true, false_implies, or_true, true_or, Option.some.injEq, Prod.mk.injEq, exists_eq_left', exists_eq', exists_and_left, reduceIte, Int.reduceEq, Int.reduceNe]
  refine while_n (n := n) (fun r ρ M2 => M2 = M ∧ ∃ p : Nat, p + r = n ∧ ρ 0 = .inr (some 80) ∧ ρ 1 = .inl t ∧ (∃ v, ρ 2 = .inl v ∧ ((v = -5 ∧ ∀ k, k < p → ¬ (D k 0 ≤ t ∧ t ≤ D k 0 + D k 1 - 1)) ∨ ∃ k : Nat, k < p ∧ v = k ∧ D k 0 ≤ t ∧ t ≤ D k 0 + D k 1 - 1)) ∧ ρ 3 = .inl (p : Int)) ?_ ⟨rfl, 0, by omega, rfl, rfl, ⟨-5, rfl, .inl ⟨rfl, fun k hk => absurd hk (Nat.not_lt_zero k)⟩⟩, rfl⟩
  rintro r W hW ρ M2 ⟨rfl, p, hr, h0, h1, ⟨v, h2, hv2⟩, h3⟩
  simp only [h0, h1, h2, h3, m0, mA, mR, e5, d5.1, d5.2, hm.2.2.1, iC, iL, iF, iA, iAc, iLen, iT, iAdd, iSub, iMul, iDiv, iRem, iNeg, iCh, iAnd31, iQ, iMax, iMin, iAbs, iCallS, iCallV, aN, aI, aR, rL, rF, rA, cEq, cNe, cLt, cGe, cGt, cLe, cAnd, cOr, cNot, cNull, sSkip, sSeq, sLoc, sLocR, sInc, sPut, sPutR, sPutAdd, sPutSub, sAst, sCst, sRst, sAstAdd, sAstSub, sIf1, sIf, sRet, sRetV, sCallV, sCallS, sPop, sCopy, sCopyT, sObj, sSw, ent_0, ent_1, ent_2, ent_3, ent_4, ent_5, ent_6, va_up_self, va_up_ne, ne_eq, Nat.reduceEqDiff, not_false_eq_true, not_true_eq_false, si_1, si_2, si_g, sr_1, sr_2, cp_1, cp_2, List.length_cons, List.length_nil, Nat.reduceAdd, true_and, and_true, and_self, eq_self, true_implies, forall_const, Bool.false_eq_true, false_implies, or_true, true_or, Option.some.injEq, Prod.mk.injEq, exists_eq_left', exists_eq', exists_and_left, reduceIte, Int.reduceEq, Int.reduceNe]
  by_cases hp : p < n
  · rw [if_pos (by omega)]
    have hd := hv.2.1 p hp
    have r1 : inR (D p 0 + D p 1 - 1) := inR_s (by omega) (by omega)
    have r2 : inR ((p : Int) + 1) := inR_s (by omega) (by omega)
    refine (e_of0 hm hp).mpr ?_
    refine ⟨⟨0, m0⟩, (e_behind hm hv hp).mpr ⟨r1, e_in.mpr ?_⟩⟩
    by_cases c : D p 0 ≤ t ∧ t ≤ D p 0 + D p 1 - 1
    · rw [if_pos c, if_pos (by decide)]
      refine ⟨r2, hW _ _ (by omega) ⟨rfl, p + 1, by omega, by simp [va_up, h0], by simp [va_up, h1], ⟨p, by simp [va_up], .inr ⟨p, by omega, rfl, c⟩⟩, by simp [va_up]⟩⟩
    · rw [if_neg c, if_neg (by decide)]
      refine ⟨r2, hW _ _ (by omega) ⟨rfl, p + 1, by omega, by simp [va_up, h0], by simp [va_up, h1], ⟨v, by simp [va_up], ?_⟩, by simp [va_up]⟩⟩
      rcases hv2 with ⟨hv3, hn2⟩ | ⟨k, hk, hv3⟩
      · refine .inl ⟨hv3, fun k hk => ?_⟩
        by_cases e : k = p
        · subst e; exact c
        · exact hn2 k (by omega)
      · exact .inr ⟨k, by omega, hv3⟩
  · rw [if_neg (by omega)]
    obtain rfl : p = n := by omega
    exact hK _ hv2
end MJ8
