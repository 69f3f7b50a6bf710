section LAW
variable {L : Nat} {xs : Nat → Int} {M : Mm} {A : Ab} {W : En → Mm → Prop} {Rt : Int → Mm → Prop} {ρ : En} {i : Nat}
theorem J_c {M M2 : Mm} {A A2 : Ab} (hm : MI M A) (n : CN M M2 A2) : MI M2 A := hm.fr n.1.fx (fun q j h1 _ => n.2.2 q j h1)
theorem J_d {M M2 : Mm} {A A2 : Ab} (hc : CI M A) (n : MN M M2 A2) : CI M2 A := hc.fr n.1.fx (fun k => by rw [n.2.2.1]) (fun q j h => n.2.2.2 q j (by omega))
/-- one call: the class answers, then the reference -/
theorem J_k {A2 : Ab} {v : Int} {mc md : (Int → Mm → Prop) → Mm → Prop} {Bad W3 : Mm → Prop} (hc : CI M A) (hm : MI M A) (h1 : ∀ K : Int → Mm → Prop, (∀ M2, CN M M2 A2 → K v M2) → mc K M) (h2 : ∀ (M2 : Mm) (K : Int → Mm → Prop), MI M2 A → (∀ M3, MN M2 M3 A2 → K v M3) → md K M2) (hW : ∀ M3, CI M3 A2 → MI M3 A2 → W3 M3) : mc (fun x M2 => (∃ w, M2.1[80]? = some (7, w)) ∧ md (fun y M3 => if ¬ x = y then Bad M3 else W3 M3) M2) M := by
  refine h1 _ (fun M2 n2 => ?_)
  have m2 := J_c hm n2
  refine ⟨⟨0, m2.fx.md.1⟩, h2 M2 _ m2 (fun M3 n3 => ?_)⟩
  rw [if_neg (fun x => x rfl)]
  have c3 : CI M3 A2 := (CI.fr n2.1 n3.1.fx (fun k => by rw [n3.2.2.1]) (fun q j h => n3.2.2.2 q j (by omega)))
  exact hW M3 c3 n3.1
def itm0 (L : Nat) (xs : Nat → Int) : ST := (sIf1 (cNe (iCallV 6 m_X6_add (rL 1) (aI (iSc L xs (iAdd (iL 3) (iC 1))) (aI (iSc L xs (iAdd (iL 3) (iC 2))) (aI (iSc L xs (iAdd (iL 3) (iC 3))) (aI (iSc L xs (iAdd (iL 3) (iC 4))) (aI (iQ (cNe (iSc L xs (iAdd (iL 3) (iC 5))) (iC 0)) (iC 1) (iC 0)) (aN))))))) (iCallV 7 m_X7_add (rL 2) (aI (iSc L xs (iAdd (iL 3) (iC 1))) (aI (iSc L xs (iAdd (iL 3) (iC 2))) (aI (iSc L xs (iAdd (iL 3) (iC 3))) (aI (iSc L xs (iAdd (iL 3) (iC 4))) (aI (iQ (cNe (iSc L xs (iAdd (iL 3) (iC 5))) (iC 0)) (iC 1) (iC 0)) (aN)))))))) (sRet true (iC 0)))
set_option maxRecDepth 20000 in
theorem l_add (hx : ∀ j, inR (xs j)) (hL : L ≤ 3072) (hi : i + 6 ≤ L) (g0 : ρ 0 = .inr (some 1000003)) (g1 : ρ 1 = .inr (some 0)) (g2 : ρ 2 = .inr (some 80)) (g3 : ρ 3 = .inl (i : Int)) (hc : CI M A) (hm : MI M A) (hV : A.V) (hW : ∀ A2 M3, CI M3 A2 → MI M3 A2 → A2.V → W ρ M3) : itm0 L xs W Rt ρ M := by
  have x0 := hc.fx.x0
  have r1 : inR ((i : Int) + 1) := inR_s (by omega) (by omega)
  have z1 : 0 ≤ (i : Int) + 1 := by omega
  have b1 : (i : Int) + 1 < L := by omega
  have r2 : inR ((i : Int) + 2) := inR_s (by omega) (by omega)
  have z2 : 0 ≤ (i : Int) + 2 := by omega
  have b2 : (i : Int) + 2 < L := by omega
  have r3 : inR ((i : Int) + 3) := inR_s (by omega) (by omega)
  have z3 : 0 ≤ (i : Int) + 3 := by omega
  have b3 : (i : Int) + 3 < L := by omega
  have r4 : inR ((i : Int) + 4) := inR_s (by omega) (by omega)
  have z4 : 0 ≤ (i : Int) + 4 := by omega
  have b4 : (i : Int) + 4 < L := by omega
  have r5 : inR ((i : Int) + 5) := inR_s (by omega) (by omega)
  have z5 : 0 ≤ (i : Int) + 5 := by omega
  have b5 : (i : Int) + 5 < L := by omega
  simp only [itm0, iSc, g0, g1, g2, g3, x0, r1, z1, b1, r2, z2, b2, r3, z3, b3, r4, z4, b4, r5, z5, b5, iC, iL, iF, iA, iAc, iLen, iT, iAdd, iSub, iMul, iDiv, iRem, iNeg, iCh, iAnd31, iQ, iMax, iMin, iAbs, iCallS, iCallV, aN, aI, aR, rL, rF, rA, cEq, cNe, cLt, cGe, cGt, cLe, cAnd, cOr, cNot, cNull, sSkip, sSeq, sLoc, sLocR, sInc, sPut, sPutR, sPutAdd, sPutSub, sAst, sCst, sRst, sAstAdd, sAstSub, sIf1, sIf, sRet, sRetV, sCallV, sCallS, sPop, sCopy, sCopyT, sObj, sSw, ent_0, ent_1, ent_2, ent_3, ent_4, ent_5, ent_6, va_up_self, va_up_ne, ne_eq, Nat.reduceEqDiff, not_false_eq_true, not_true_eq_false, si_1, si_2, si_g, sr_1, sr_2, cp_1, cp_2, List.length_cons, List.length_nil, Nat.reduceAdd, true_and, and_true, and_self, eq_self, true_implies, forall_const, Bool.false_eq_true, false_implies, or_true, true_or, Option.some.injEq, Prod.mk.injEq, exists_eq_left', exists_eq', exists_and_left, reduceIte, Int.reduceEq, Int.reduceNe]
  by_cases e : xs ((i : Int) + 5).toNat = 0
  · simp only [e, ent_0, ent_1, ent_2, ent_3, ent_4, ent_5, ent_6, va_up_self, va_up_ne, ne_eq, Nat.reduceEqDiff, not_false_eq_true, not_true_eq_false, si_1, si_2, si_g, sr_1, sr_2, cp_1, cp_2, List.length_cons, List.length_nil, Nat.reduceAdd, true_and, and_true, and_self, eq_self, true_implies, forall_const, Bool.false_eq_true, false_implies, or_true, true_or, Option.some.injEq, Prod.mk.injEq, exists_eq_left', exists_eq', exists_and_left, reduceIte, Int.reduceEq, Int.reduceNe]
    have hf : (0 : Int) = 0 ∨ (0 : Int) = 1 := .inl rfl
    exact J_k (A2 := (addR A (xs ((i : Int) + 1).toNat) (xs ((i : Int) + 2).toNat) (xs ((i : Int) + 3).toNat) (xs ((i : Int) + 4).toNat) 0).2) (v := (addR A (xs ((i : Int) + 1).toNat) (xs ((i : Int) + 2).toNat) (xs ((i : Int) + 3).toNat) (xs ((i : Int) + 4).toNat) 0).1) hc hm (fun K hK => c_add hc hV.nw hf hK) (fun M2 K m2 hK => d_add m2 hV hf hK) (fun M3 c3 m3 => hW _ M3 c3 m3 (addR_V hV hf))
  · simp only [e, ent_0, ent_1, ent_2, ent_3, ent_4, ent_5, ent_6, va_up_self, va_up_ne, ne_eq, Nat.reduceEqDiff, not_false_eq_true, not_true_eq_false, si_1, si_2, si_g, sr_1, sr_2, cp_1, cp_2, List.length_cons, List.length_nil, Nat.reduceAdd, true_and, and_true, and_self, eq_self, true_implies, forall_const, Bool.false_eq_true, false_implies, or_true, true_or, Option.some.injEq, Prod.mk.injEq, exists_eq_left', exists_eq', exists_and_left, reduceIte, Int.reduceEq, Int.reduceNe]
    have hf : (1 : Int) = 0 ∨ (1 : Int) = 1 := .inr rfl
    exact J_k (A2 := (addR A (xs ((i : Int) + 1).toNat) (xs ((i : Int) + 2).toNat) (xs ((i : Int) + 3).toNat) (xs ((i : Int) + 4).toNat) 1).2) (v := (addR A (xs ((i : Int) + 1).toNat) (xs ((i : Int) + 2).toNat) (xs ((i : Int) + 3).toNat) (xs ((i : Int) + 4).toNat) 1).1) hc hm (fun K hK => c_add hc hV.nw hf hK) (fun M2 K m2 hK => d_add m2 hV hf hK) (fun M3 c3 m3 => hW _ M3 c3 m3 (addR_V hV hf))
def itm1 (L : Nat) (xs : Nat → Int) : ST := (sIf1 (cNe (iCallV 6 m_X6_drop (rL 1) (aN)) (iCallV 7 m_X7_drop (rL 2) (aN))) (sRet true (iC 0)))
set_option maxRecDepth 20000 in
theorem l_drop (hx : ∀ j, inR (xs j)) (hL : L ≤ 3072) (hi : i + 6 ≤ L) (g0 : ρ 0 = .inr (some 1000003)) (g1 : ρ 1 = .inr (some 0)) (g2 : ρ 2 = .inr (some 80)) (g3 : ρ 3 = .inl (i : Int)) (hc : CI M A) (hm : MI M A) (hV : A.V) (hW : ∀ A2 M3, CI M3 A2 → MI M3 A2 → A2.V → W ρ M3) : itm1 L xs W Rt ρ M := by
  have x0 := hc.fx.x0
  simp only [itm1, iSc, g0, g1, g2, g3, x0, iC, iL, iF, iA, iAc, iLen, iT, iAdd, iSub, iMul, iDiv, iRem, iNeg, iCh, iAnd31, iQ, iMax, iMin, iAbs, iCallS, iCallV, aN, aI, aR, rL, rF, rA, cEq, cNe, cLt, cGe, cGt, cLe, cAnd, cOr, cNot, cNull, sSkip, sSeq, sLoc, sLocR, sInc, sPut, sPutR, sPutAdd, sPutSub, sAst, sCst, sRst, sAstAdd, sAstSub, sIf1, sIf, sRet, sRetV, sCallV, sCallS, sPop, sCopy, sCopyT, sObj, sSw, ent_0, ent_1, ent_2, ent_3, ent_4, ent_5, ent_6, va_up_self, va_up_ne, ne_eq, Nat.reduceEqDiff, not_false_eq_true, not_true_eq_false, si_1, si_2, si_g, sr_1, sr_2, cp_1, cp_2, List.length_cons, List.length_nil, Nat.reduceAdd, true_and, and_true, and_self, eq_self, true_implies, forall_const, Bool.false_eq_true, false_implies, or_true, true_or, Option.some.injEq, Prod.mk.injEq, exists_eq_left', exists_eq', exists_and_left, reduceIte, Int.reduceEq, Int.reduceNe]
  exact J_k (A2 := (dropR A).2) (v := (dropR A).1) hc hm (fun K hK => c_drop hc hK) (fun M2 K m2 hK => d_drop m2 hV hK) (fun M3 c3 m3 => hW _ M3 c3 m3 (dropR_V hV))
def itm2 (L : Nat) (xs : Nat → Int) : ST := (sIf1 (cNe (iCallV 6 m_X6_read (rL 1) (aN)) (iCallV 7 m_X7_read (rL 2) (aN))) (sRet true (iC 0)))
set_option maxRecDepth 20000 in
theorem l_read (hx : ∀ j, inR (xs j)) (hL : L ≤ 3072) (hi : i + 6 ≤ L) (g0 : ρ 0 = .inr (some 1000003)) (g1 : ρ 1 = .inr (some 0)) (g2 : ρ 2 = .inr (some 80)) (g3 : ρ 3 = .inl (i : Int)) (hc : CI M A) (hm : MI M A) (hV : A.V) (hW : ∀ A2 M3, CI M3 A2 → MI M3 A2 → A2.V → W ρ M3) : itm2 L xs W Rt ρ M := by
  have x0 := hc.fx.x0
  simp only [itm2, iSc, g0, g1, g2, g3, x0, iC, iL, iF, iA, iAc, iLen, iT, iAdd, iSub, iMul, iDiv, iRem, iNeg, iCh, iAnd31, iQ, iMax, iMin, iAbs, iCallS, iCallV, aN, aI, aR, rL, rF, rA, cEq, cNe, cLt, cGe, cGt, cLe, cAnd, cOr, cNot, cNull, sSkip, sSeq, sLoc, sLocR, sInc, sPut, sPutR, sPutAdd, sPutSub, sAst, sCst, sRst, sAstAdd, sAstSub, sIf1, sIf, sRet, sRetV, sCallV, sCallS, sPop, sCopy, sCopyT, sObj, sSw, ent_0, ent_1, ent_2, ent_3, ent_4, ent_5, ent_6, va_up_self, va_up_ne, ne_eq, Nat.reduceEqDiff, not_false_eq_true, not_true_eq_false, si_1, si_2, si_g, sr_1, sr_2, cp_1, cp_2, List.length_cons, List.length_nil, Nat.reduceAdd, true_and, and_true, and_self, eq_self, true_implies, forall_const, Bool.false_eq_true, false_implies, or_true, true_or, Option.some.injEq, Prod.mk.injEq, exists_eq_left', exists_eq', exists_and_left, reduceIte, Int.reduceEq, Int.reduceNe]
  exact J_k (A2 := (readR A).2) (v := (readR A).1) hc hm (fun K hK => c_read hc hV hK) (fun M2 K m2 hK => d_read m2 hV hK) (fun M3 c3 m3 => hW _ M3 c3 m3 (readR_V hV))
def itm3 (L : Nat) (xs : Nat → Int) : ST := (sIf1 (cNe (iCallV 6 m_X6_set (rL 1) (aI (iSc L xs (iAdd (iL 3) (iC 1))) (aI (iSc L xs (iAdd (iL 3) (iC 2))) (aN)))) (iCallV 7 m_X7_set (rL 2) (aI (iSc L xs (iAdd (iL 3) (iC 1))) (aI (iSc L xs (iAdd (iL 3) (iC 2))) (aN))))) (sRet true (iC 0)))
set_option maxRecDepth 20000 in
theorem l_set (hx : ∀ j, inR (xs j)) (hL : L ≤ 3072) (hi : i + 6 ≤ L) (g0 : ρ 0 = .inr (some 1000003)) (g1 : ρ 1 = .inr (some 0)) (g2 : ρ 2 = .inr (some 80)) (g3 : ρ 3 = .inl (i : Int)) (hc : CI M A) (hm : MI M A) (hV : A.V) (hW : ∀ A2 M3, CI M3 A2 → MI M3 A2 → A2.V → W ρ M3) : itm3 L xs W Rt ρ M := by
  have x0 := hc.fx.x0
  have r1 : inR ((i : Int) + 1) := inR_s (by omega) (by omega)
  have z1 : 0 ≤ (i : Int) + 1 := by omega
  have b1 : (i : Int) + 1 < L := by omega
  have r2 : inR ((i : Int) + 2) := inR_s (by omega) (by omega)
  have z2 : 0 ≤ (i : Int) + 2 := by omega
  have b2 : (i : Int) + 2 < L := by omega
  simp only [itm3, iSc, g0, g1, g2, g3, x0, r1, z1, b1, r2, z2, b2, iC, iL, iF, iA, iAc, iLen, iT, iAdd, iSub, iMul, iDiv, iRem, iNeg, iCh, iAnd31, iQ, iMax, iMin, iAbs, iCallS, iCallV, aN, aI, aR, rL, rF, rA, cEq, cNe, cLt, cGe, cGt, cLe, cAnd, cOr, cNot, cNull, sSkip, sSeq, sLoc, sLocR, sInc, sPut, sPutR, sPutAdd, sPutSub, sAst, sCst, sRst, sAstAdd, sAstSub, sIf1, sIf, sRet, sRetV, sCallV, sCallS, sPop, sCopy, sCopyT, sObj, sSw, ent_0, ent_1, ent_2, ent_3, ent_4, ent_5, ent_6, va_up_self, va_up_ne, ne_eq, Nat.reduceEqDiff, not_false_eq_true, not_true_eq_false, si_1, si_2, si_g, sr_1, sr_2, cp_1, cp_2, List.length_cons, List.length_nil, Nat.reduceAdd, true_and, and_true, and_self, eq_self, true_implies, forall_const, Bool.false_eq_true, false_implies, or_true, true_or, Option.some.injEq, Prod.mk.injEq, exists_eq_left', exists_eq', exists_and_left, reduceIte, Int.reduceEq, Int.reduceNe]
  exact J_k (A2 := (setR A (xs ((i : Int) + 1).toNat) (xs ((i : Int) + 2).toNat)).2) (v := (setR A (xs ((i : Int) + 1).toNat) (xs ((i : Int) + 2).toNat)).1) hc hm (fun K hK => c_set hc hK) (fun M2 K m2 hK => d_set m2 hV hK) (fun M3 c3 m3 => hW _ M3 c3 m3 (setR_V hV))
def itm4 (L : Nat) (xs : Nat → Int) : ST := (sIf1 (cNe (iCallV 6 m_X6_sing (rL 1) (aI (iSc L xs (iAdd (iL 3) (iC 1))) (aI (iSc L xs (iAdd (iL 3) (iC 2))) (aI (iSc L xs (iAdd (iL 3) (iC 3))) (aN))))) (iCallV 7 m_X7_sing (rL 2) (aI (iSc L xs (iAdd (iL 3) (iC 1))) (aI (iSc L xs (iAdd (iL 3) (iC 2))) (aI (iSc L xs (iAdd (iL 3) (iC 3))) (aN)))))) (sRet true (iC 0)))
set_option maxRecDepth 20000 in
theorem l_sing (hx : ∀ j, inR (xs j)) (hL : L ≤ 3072) (hi : i + 6 ≤ L) (g0 : ρ 0 = .inr (some 1000003)) (g1 : ρ 1 = .inr (some 0)) (g2 : ρ 2 = .inr (some 80)) (g3 : ρ 3 = .inl (i : Int)) (hc : CI M A) (hm : MI M A) (hV : A.V) (hW : ∀ A2 M3, CI M3 A2 → MI M3 A2 → A2.V → W ρ M3) : itm4 L xs W Rt ρ M := by
  have x0 := hc.fx.x0
  have r1 : inR ((i : Int) + 1) := inR_s (by omega) (by omega)
  have z1 : 0 ≤ (i : Int) + 1 := by omega
  have b1 : (i : Int) + 1 < L := by omega
  have r2 : inR ((i : Int) + 2) := inR_s (by omega) (by omega)
  have z2 : 0 ≤ (i : Int) + 2 := by omega
  have b2 : (i : Int) + 2 < L := by omega
  have r3 : inR ((i : Int) + 3) := inR_s (by omega) (by omega)
  have z3 : 0 ≤ (i : Int) + 3 := by omega
  have b3 : (i : Int) + 3 < L := by omega
  simp only [itm4, iSc, g0, g1, g2, g3, x0, r1, z1, b1, r2, z2, b2, r3, z3, b3, iC, iL, iF, iA, iAc, iLen, iT, iAdd, iSub, iMul, iDiv, iRem, iNeg, iCh, iAnd31, iQ, iMax, iMin, iAbs, iCallS, iCallV, aN, aI, aR, rL, rF, rA, cEq, cNe, cLt, cGe, cGt, cLe, cAnd, cOr, cNot, cNull, sSkip, sSeq, sLoc, sLocR, sInc, sPut, sPutR, sPutAdd, sPutSub, sAst, sCst, sRst, sAstAdd, sAstSub, sIf1, sIf, sRet, sRetV, sCallV, sCallS, sPop, sCopy, sCopyT, sObj, sSw, ent_0, ent_1, ent_2, ent_3, ent_4, ent_5, ent_6, va_up_self, va_up_ne, ne_eq, Nat.reduceEqDiff, not_false_eq_true, not_true_eq_false, si_1, si_2, si_g, sr_1, sr_2, cp_1, cp_2, List.length_cons, List.length_nil, Nat.reduceAdd, true_and, and_true, and_self, eq_self, true_implies, forall_const, Bool.false_eq_true, false_implies, or_true, true_or, Option.some.injEq, Prod.mk.injEq, exists_eq_left', exists_eq', exists_and_left, reduceIte, Int.reduceEq, Int.reduceNe]
  exact J_k (A2 := (singR A (xs ((i : Int) + 1).toNat) (xs ((i : Int) + 2).toNat) (xs ((i : Int) + 3).toNat)).2) (v := (singR A (xs ((i : Int) + 1).toNat) (xs ((i : Int) + 2).toNat) (xs ((i : Int) + 3).toNat)).1) hc hm (fun K hK => c_sing hc hV.nw hK) (fun M2 K m2 hK => d_sing m2 hV hK) (fun M3 c3 m3 => hW _ M3 c3 m3 (singR_V hV))
def itm5 (L : Nat) (xs : Nat → Int) : ST := (sIf1 (cNe (iCallV 6 m_X6_silence (rL 1) (aI (iSc L xs (iAdd (iL 3) (iC 1))) (aI (iSc L xs (iAdd (iL 3) (iC 2))) (aN)))) (iCallV 7 m_X7_silence (rL 2) (aI (iSc L xs (iAdd (iL 3) (iC 1))) (aI (iSc L xs (iAdd (iL 3) (iC 2))) (aN))))) (sRet true (iC 0)))
set_option maxRecDepth 20000 in
theorem l_silence (hx : ∀ j, inR (xs j)) (hL : L ≤ 3072) (hi : i + 6 ≤ L) (g0 : ρ 0 = .inr (some 1000003)) (g1 : ρ 1 = .inr (some 0)) (g2 : ρ 2 = .inr (some 80)) (g3 : ρ 3 = .inl (i : Int)) (hc : CI M A) (hm : MI M A) (hV : A.V) (hW : ∀ A2 M3, CI M3 A2 → MI M3 A2 → A2.V → W ρ M3) : itm5 L xs W Rt ρ M := by
  have x0 := hc.fx.x0
  have r1 : inR ((i : Int) + 1) := inR_s (by omega) (by omega)
  have z1 : 0 ≤ (i : Int) + 1 := by omega
  have b1 : (i : Int) + 1 < L := by omega
  have r2 : inR ((i : Int) + 2) := inR_s (by omega) (by omega)
  have z2 : 0 ≤ (i : Int) + 2 := by omega
  have b2 : (i : Int) + 2 < L := by omega
  simp only [itm5, iSc, g0, g1, g2, g3, x0, r1, z1, b1, r2, z2, b2, iC, iL, iF, iA, iAc, iLen, iT, iAdd, iSub, iMul, iDiv, iRem, iNeg, iCh, iAnd31, iQ, iMax, iMin, iAbs, iCallS, iCallV, aN, aI, aR, rL, rF, rA, cEq, cNe, cLt, cGe, cGt, cLe, cAnd, cOr, cNot, cNull, sSkip, sSeq, sLoc, sLocR, sInc, sPut, sPutR, sPutAdd, sPutSub, sAst, sCst, sRst, sAstAdd, sAstSub, sIf1, sIf, sRet, sRetV, sCallV, sCallS, sPop, sCopy, sCopyT, sObj, sSw, ent_0, ent_1, ent_2, ent_3, ent_4, ent_5, ent_6, va_up_self, va_up_ne, ne_eq, Nat.reduceEqDiff, not_false_eq_true, not_true_eq_false, si_1, si_2, si_g, sr_1, sr_2, cp_1, cp_2, List.length_cons, List.length_nil, Nat.reduceAdd, true_and, and_true, and_self, eq_self, true_implies, forall_const, Bool.false_eq_true, false_implies, or_true, true_or, Option.some.injEq, Prod.mk.injEq, exists_eq_left', exists_eq', exists_and_left, reduceIte, Int.reduceEq, Int.reduceNe]
  exact J_k (A2 := (silR A (xs ((i : Int) + 1).toNat) (xs ((i : Int) + 2).toNat)).2) (v := (silR A (xs ((i : Int) + 1).toNat) (xs ((i : Int) + 2).toNat)).1) hc hm (fun K hK => c_silence hc hV.nw hK) (fun M2 K m2 hK => d_silence m2 hV hK) (fun M3 c3 m3 => hW _ M3 c3 m3 (silR_V hV))
def itm6 (L : Nat) (xs : Nat → Int) : ST := (sIf1 (cNe (iCallV 6 m_X6_singAlong (rL 1) (aI (iSc L xs (iAdd (iL 3) (iC 1))) (aI (iSc L xs (iAdd (iL 3) (iC 2))) (aI (iSc L xs (iAdd (iL 3) (iC 3))) (aN))))) (iCallV 7 m_X7_singAlong (rL 2) (aI (iSc L xs (iAdd (iL 3) (iC 1))) (aI (iSc L xs (iAdd (iL 3) (iC 2))) (aI (iSc L xs (iAdd (iL 3) (iC 3))) (aN)))))) (sRet true (iC 0)))
set_option maxRecDepth 20000 in
theorem l_singAlong (hx : ∀ j, inR (xs j)) (hL : L ≤ 3072) (hi : i + 6 ≤ L) (g0 : ρ 0 = .inr (some 1000003)) (g1 : ρ 1 = .inr (some 0)) (g2 : ρ 2 = .inr (some 80)) (g3 : ρ 3 = .inl (i : Int)) (hc : CI M A) (hm : MI M A) (hV : A.V) (hW : ∀ A2 M3, CI M3 A2 → MI M3 A2 → A2.V → W ρ M3) : itm6 L xs W Rt ρ M := by
  have x0 := hc.fx.x0
  have r1 : inR ((i : Int) + 1) := inR_s (by omega) (by omega)
  have z1 : 0 ≤ (i : Int) + 1 := by omega
  have b1 : (i : Int) + 1 < L := by omega
  have r2 : inR ((i : Int) + 2) := inR_s (by omega) (by omega)
  have z2 : 0 ≤ (i : Int) + 2 := by omega
  have b2 : (i : Int) + 2 < L := by omega
  have r3 : inR ((i : Int) + 3) := inR_s (by omega) (by omega)
  have z3 : 0 ≤ (i : Int) + 3 := by omega
  have b3 : (i : Int) + 3 < L := by omega
  simp only [itm6, iSc, g0, g1, g2, g3, x0, r1, z1, b1, r2, z2, b2, r3, z3, b3, iC, iL, iF, iA, iAc, iLen, iT, iAdd, iSub, iMul, iDiv, iRem, iNeg, iCh, iAnd31, iQ, iMax, iMin, iAbs, iCallS, iCallV, aN, aI, aR, rL, rF, rA, cEq, cNe, cLt, cGe, cGt, cLe, cAnd, cOr, cNot, cNull, sSkip, sSeq, sLoc, sLocR, sInc, sPut, sPutR, sPutAdd, sPutSub, sAst, sCst, sRst, sAstAdd, sAstSub, sIf1, sIf, sRet, sRetV, sCallV, sCallS, sPop, sCopy, sCopyT, sObj, sSw, ent_0, ent_1, ent_2, ent_3, ent_4, ent_5, ent_6, va_up_self, va_up_ne, ne_eq, Nat.reduceEqDiff, not_false_eq_true, not_true_eq_false, si_1, si_2, si_g, sr_1, sr_2, cp_1, cp_2, List.length_cons, List.length_nil, Nat.reduceAdd, true_and, and_true, and_self, eq_self, true_implies, forall_const, Bool.false_eq_true, false_implies, or_true, true_or, Option.some.injEq, Prod.mk.injEq, exists_eq_left', exists_eq', exists_and_left, reduceIte, Int.reduceEq, Int.reduceNe]
  exact J_k (A2 := (salR A (xs ((i : Int) + 1).toNat) (xs ((i : Int) + 2).toNat) (xs ((i : Int) + 3).toNat)).2) (v := (salR A (xs ((i : Int) + 1).toNat) (xs ((i : Int) + 2).toNat) (xs ((i : Int) + 3).toNat)).1) hc hm (fun K hK => c_singAlong hc hV.nw hK) (fun M2 K m2 hK => d_singAlong m2 hV hK) (fun M3 c3 m3 => hW _ M3 c3 m3 (salR_V hV))
def itm7 (L : Nat) (xs : Nat → Int) : ST := (sIf1 (cNe (iCallV 6 m_X6_type (rL 1) (aI (iCh (iSc L xs (iAdd (iL 3) (iC 1)))) (aN))) (iCallV 7 m_X7_type (rL 2) (aI (iCh (iSc L xs (iAdd (iL 3) (iC 1)))) (aN)))) (sRet true (iC 0)))
set_option maxRecDepth 20000 in
theorem l_type (hx : ∀ j, inR (xs j)) (hL : L ≤ 3072) (hi : i + 6 ≤ L) (g0 : ρ 0 = .inr (some 1000003)) (g1 : ρ 1 = .inr (some 0)) (g2 : ρ 2 = .inr (some 80)) (g3 : ρ 3 = .inl (i : Int)) (hc : CI M A) (hm : MI M A) (hV : A.V) (hW : ∀ A2 M3, CI M3 A2 → MI M3 A2 → A2.V → W ρ M3) : itm7 L xs W Rt ρ M := by
  have x0 := hc.fx.x0
  have r1 : inR ((i : Int) + 1) := inR_s (by omega) (by omega)
  have z1 : 0 ≤ (i : Int) + 1 := by omega
  have b1 : (i : Int) + 1 < L := by omega
  have hch : 0 ≤ xs ((i : Int) + 1).toNat % 65536 ∧ xs ((i : Int) + 1).toNat % 65536 < 65536 := by omega
  simp only [itm7, iSc, g0, g1, g2, g3, x0, r1, z1, b1, iC, iL, iF, iA, iAc, iLen, iT, iAdd, iSub, iMul, iDiv, iRem, iNeg, iCh, iAnd31, iQ, iMax, iMin, iAbs, iCallS, iCallV, aN, aI, aR, rL, rF, rA, cEq, cNe, cLt, cGe, cGt, cLe, cAnd, cOr, cNot, cNull, sSkip, sSeq, sLoc, sLocR, sInc, sPut, sPutR, sPutAdd, sPutSub, sAst, sCst, sRst, sAstAdd, sAstSub, sIf1, sIf, sRet, sRetV, sCallV, sCallS, sPop, sCopy, sCopyT, sObj, sSw, ent_0, ent_1, ent_2, ent_3, ent_4, ent_5, ent_6, va_up_self, va_up_ne, ne_eq, Nat.reduceEqDiff, not_false_eq_true, not_true_eq_false, si_1, si_2, si_g, sr_1, sr_2, cp_1, cp_2, List.length_cons, List.length_nil, Nat.reduceAdd, true_and, and_true, and_self, eq_self, true_implies, forall_const, Bool.false_eq_true, false_implies, or_true, true_or, Option.some.injEq, Prod.mk.injEq, exists_eq_left', exists_eq', exists_and_left, reduceIte, Int.reduceEq, Int.reduceNe]
  exact J_k (A2 := (typR A (xs ((i : Int) + 1).toNat % 65536)).2) (v := (typR A (xs ((i : Int) + 1).toNat % 65536)).1) hc hm (fun K hK => c_type hc hV.tl hch hK) (fun M2 K m2 hK => d_type m2 hV hch hK) (fun M3 c3 m3 => hW _ M3 c3 m3 (typR_V hV hch))
def itm8 (L : Nat) (xs : Nat → Int) : ST := (sIf1 (cNe (iCallV 6 m_X6_clearText (rL 1) (aN)) (iCallV 7 m_X7_clearText (rL 2) (aN))) (sRet true (iC 0)))
set_option maxRecDepth 20000 in
theorem l_clearText (hx : ∀ j, inR (xs j)) (hL : L ≤ 3072) (hi : i + 6 ≤ L) (g0 : ρ 0 = .inr (some 1000003)) (g1 : ρ 1 = .inr (some 0)) (g2 : ρ 2 = .inr (some 80)) (g3 : ρ 3 = .inl (i : Int)) (hc : CI M A) (hm : MI M A) (hV : A.V) (hW : ∀ A2 M3, CI M3 A2 → MI M3 A2 → A2.V → W ρ M3) : itm8 L xs W Rt ρ M := by
  have x0 := hc.fx.x0
  simp only [itm8, iSc, g0, g1, g2, g3, x0, iC, iL, iF, iA, iAc, iLen, iT, iAdd, iSub, iMul, iDiv, iRem, iNeg, iCh, iAnd31, iQ, iMax, iMin, iAbs, iCallS, iCallV, aN, aI, aR, rL, rF, rA, cEq, cNe, cLt, cGe, cGt, cLe, cAnd, cOr, cNot, cNull, sSkip, sSeq, sLoc, sLocR, sInc, sPut, sPutR, sPutAdd, sPutSub, sAst, sCst, sRst, sAstAdd, sAstSub, sIf1, sIf, sRet, sRetV, sCallV, sCallS, sPop, sCopy, sCopyT, sObj, sSw, ent_0, ent_1, ent_2, ent_3, ent_4, ent_5, ent_6, va_up_self, va_up_ne, ne_eq, Nat.reduceEqDiff, not_false_eq_true, not_true_eq_false, si_1, si_2, si_g, sr_1, sr_2, cp_1, cp_2, List.length_cons, List.length_nil, Nat.reduceAdd, true_and, and_true, and_self, eq_self, true_implies, forall_const, Bool.false_eq_true, false_implies, or_true, true_or, Option.some.injEq, Prod.mk.injEq, exists_eq_left', exists_eq', exists_and_left, reduceIte, Int.reduceEq, Int.reduceNe]
  exact J_k (A2 := (clrR A).2) (v := (clrR A).1) hc hm (fun K hK => c_clearText hc hK) (fun M2 K m2 hK => d_clearText m2 hK) (fun M3 c3 m3 => hW _ M3 c3 m3 (clrR_V hV))
def itm9 (L : Nat) (xs : Nat → Int) : ST := (sIf1 (cNe (iCallV 6 m_X6_undo (rL 1) (aN)) (iCallV 7 m_X7_undo (rL 2) (aN))) (sRet true (iC 0)))
set_option maxRecDepth 20000 in
theorem l_undo (hx : ∀ j, inR (xs j)) (hL : L ≤ 3072) (hi : i + 6 ≤ L) (g0 : ρ 0 = .inr (some 1000003)) (g1 : ρ 1 = .inr (some 0)) (g2 : ρ 2 = .inr (some 80)) (g3 : ρ 3 = .inl (i : Int)) (hc : CI M A) (hm : MI M A) (hV : A.V) (hW : ∀ A2 M3, CI M3 A2 → MI M3 A2 → A2.V → W ρ M3) : itm9 L xs W Rt ρ M := by
  have x0 := hc.fx.x0
  simp only [itm9, iSc, g0, g1, g2, g3, x0, iC, iL, iF, iA, iAc, iLen, iT, iAdd, iSub, iMul, iDiv, iRem, iNeg, iCh, iAnd31, iQ, iMax, iMin, iAbs, iCallS, iCallV, aN, aI, aR, rL, rF, rA, cEq, cNe, cLt, cGe, cGt, cLe, cAnd, cOr, cNot, cNull, sSkip, sSeq, sLoc, sLocR, sInc, sPut, sPutR, sPutAdd, sPutSub, sAst, sCst, sRst, sAstAdd, sAstSub, sIf1, sIf, sRet, sRetV, sCallV, sCallS, sPop, sCopy, sCopyT, sObj, sSw, ent_0, ent_1, ent_2, ent_3, ent_4, ent_5, ent_6, va_up_self, va_up_ne, ne_eq, Nat.reduceEqDiff, not_false_eq_true, not_true_eq_false, si_1, si_2, si_g, sr_1, sr_2, cp_1, cp_2, List.length_cons, List.length_nil, Nat.reduceAdd, true_and, and_true, and_self, eq_self, true_implies, forall_const, Bool.false_eq_true, false_implies, or_true, true_or, Option.some.injEq, Prod.mk.injEq, exists_eq_left', exists_eq', exists_and_left, reduceIte, Int.reduceEq, Int.reduceNe]
  exact J_k (A2 := (undR A).2) (v := (undR A).1) hc hm (fun K hK => c_undo hc hK) (fun M2 K m2 hK => d_undo m2 hV hK) (fun M3 c3 m3 => hW _ M3 c3 m3 (undR_V hV))
def itm10 (L : Nat) (xs : Nat → Int) : ST := (sIf1 (cNe (iCallV 6 m_X6_keep (rL 1) (aN)) (iCallV 7 m_X7_keep (rL 2) (aN))) (sRet true (iC 0)))
set_option maxRecDepth 20000 in
theorem l_keep (hx : ∀ j, inR (xs j)) (hL : L ≤ 3072) (hi : i + 6 ≤ L) (g0 : ρ 0 = .inr (some 1000003)) (g1 : ρ 1 = .inr (some 0)) (g2 : ρ 2 = .inr (some 80)) (g3 : ρ 3 = .inl (i : Int)) (hc : CI M A) (hm : MI M A) (hV : A.V) (hW : ∀ A2 M3, CI M3 A2 → MI M3 A2 → A2.V → W ρ M3) : itm10 L xs W Rt ρ M := by
  have x0 := hc.fx.x0
  simp only [itm10, iSc, g0, g1, g2, g3, x0, iC, iL, iF, iA, iAc, iLen, iT, iAdd, iSub, iMul, iDiv, iRem, iNeg, iCh, iAnd31, iQ, iMax, iMin, iAbs, iCallS, iCallV, aN, aI, aR, rL, rF, rA, cEq, cNe, cLt, cGe, cGt, cLe, cAnd, cOr, cNot, cNull, sSkip, sSeq, sLoc, sLocR, sInc, sPut, sPutR, sPutAdd, sPutSub, sAst, sCst, sRst, sAstAdd, sAstSub, sIf1, sIf, sRet, sRetV, sCallV, sCallS, sPop, sCopy, sCopyT, sObj, sSw, ent_0, ent_1, ent_2, ent_3, ent_4, ent_5, ent_6, va_up_self, va_up_ne, ne_eq, Nat.reduceEqDiff, not_false_eq_true, not_true_eq_false, si_1, si_2, si_g, sr_1, sr_2, cp_1, cp_2, List.length_cons, List.length_nil, Nat.reduceAdd, true_and, and_true, and_self, eq_self, true_implies, forall_const, Bool.false_eq_true, false_implies, or_true, true_or, Option.some.injEq, Prod.mk.injEq, exists_eq_left', exists_eq', exists_and_left, reduceIte, Int.reduceEq, Int.reduceNe]
  exact J_k (A2 := (keeR A).2) (v := (keeR A).1) hc hm (fun K hK => c_keep hc hK) (fun M2 K m2 hK => d_keep m2 hK) (fun M3 c3 m3 => hW _ M3 c3 m3 (keeR_V hV))
def itm11 (L : Nat) (xs : Nat → Int) : ST := (sIf1 (cNe (iCallV 6 m_X6_restore (rL 1) (aN)) (iCallV 7 m_X7_restore (rL 2) (aN))) (sRet true (iC 0)))
set_option maxRecDepth 20000 in
theorem l_restore (hx : ∀ j, inR (xs j)) (hL : L ≤ 3072) (hi : i + 6 ≤ L) (g0 : ρ 0 = .inr (some 1000003)) (g1 : ρ 1 = .inr (some 0)) (g2 : ρ 2 = .inr (some 80)) (g3 : ρ 3 = .inl (i : Int)) (hc : CI M A) (hm : MI M A) (hV : A.V) (hW : ∀ A2 M3, CI M3 A2 → MI M3 A2 → A2.V → W ρ M3) : itm11 L xs W Rt ρ M := by
  have x0 := hc.fx.x0
  simp only [itm11, iSc, g0, g1, g2, g3, x0, iC, iL, iF, iA, iAc, iLen, iT, iAdd, iSub, iMul, iDiv, iRem, iNeg, iCh, iAnd31, iQ, iMax, iMin, iAbs, iCallS, iCallV, aN, aI, aR, rL, rF, rA, cEq, cNe, cLt, cGe, cGt, cLe, cAnd, cOr, cNot, cNull, sSkip, sSeq, sLoc, sLocR, sInc, sPut, sPutR, sPutAdd, sPutSub, sAst, sCst, sRst, sAstAdd, sAstSub, sIf1, sIf, sRet, sRetV, sCallV, sCallS, sPop, sCopy, sCopyT, sObj, sSw, ent_0, ent_1, ent_2, ent_3, ent_4, ent_5, ent_6, va_up_self, va_up_ne, ne_eq, Nat.reduceEqDiff, not_false_eq_true, not_true_eq_false, si_1, si_2, si_g, sr_1, sr_2, cp_1, cp_2, List.length_cons, List.length_nil, Nat.reduceAdd, true_and, and_true, and_self, eq_self, true_implies, forall_const, Bool.false_eq_true, false_implies, or_true, true_or, Option.some.injEq, Prod.mk.injEq, exists_eq_left', exists_eq', exists_and_left, reduceIte, Int.reduceEq, Int.reduceNe]
  exact J_k (A2 := (resR A).2) (v := (resR A).1) hc hm (fun K hK => c_restore hc hV.f2 hK) (fun M2 K m2 hK => d_restore m2 hV hK) (fun M3 c3 m3 => hW _ M3 c3 m3 (resR_V hV))
def itm12 (L : Nat) (xs : Nat → Int) : ST := (sIf1 (cNe (iCallV 6 m_X6_syllable (rL 1) (aI (iSc L xs (iAdd (iL 3) (iC 1))) (aI (iSc L xs (iAdd (iL 3) (iC 2))) (aN)))) (iCallV 7 m_X7_syllable (rL 2) (aI (iSc L xs (iAdd (iL 3) (iC 1))) (aI (iSc L xs (iAdd (iL 3) (iC 2))) (aN))))) (sRet true (iC 0)))
set_option maxRecDepth 20000 in
theorem l_syllable (hx : ∀ j, inR (xs j)) (hL : L ≤ 3072) (hi : i + 6 ≤ L) (g0 : ρ 0 = .inr (some 1000003)) (g1 : ρ 1 = .inr (some 0)) (g2 : ρ 2 = .inr (some 80)) (g3 : ρ 3 = .inl (i : Int)) (hc : CI M A) (hm : MI M A) (hV : A.V) (hW : ∀ A2 M3, CI M3 A2 → MI M3 A2 → A2.V → W ρ M3) : itm12 L xs W Rt ρ M := by
  have x0 := hc.fx.x0
  have r1 : inR ((i : Int) + 1) := inR_s (by omega) (by omega)
  have z1 : 0 ≤ (i : Int) + 1 := by omega
  have b1 : (i : Int) + 1 < L := by omega
  have r2 : inR ((i : Int) + 2) := inR_s (by omega) (by omega)
  have z2 : 0 ≤ (i : Int) + 2 := by omega
  have b2 : (i : Int) + 2 < L := by omega
  simp only [itm12, iSc, g0, g1, g2, g3, x0, r1, z1, b1, r2, z2, b2, iC, iL, iF, iA, iAc, iLen, iT, iAdd, iSub, iMul, iDiv, iRem, iNeg, iCh, iAnd31, iQ, iMax, iMin, iAbs, iCallS, iCallV, aN, aI, aR, rL, rF, rA, cEq, cNe, cLt, cGe, cGt, cLe, cAnd, cOr, cNot, cNull, sSkip, sSeq, sLoc, sLocR, sInc, sPut, sPutR, sPutAdd, sPutSub, sAst, sCst, sRst, sAstAdd, sAstSub, sIf1, sIf, sRet, sRetV, sCallV, sCallS, sPop, sCopy, sCopyT, sObj, sSw, ent_0, ent_1, ent_2, ent_3, ent_4, ent_5, ent_6, va_up_self, va_up_ne, ne_eq, Nat.reduceEqDiff, not_false_eq_true, not_true_eq_false, si_1, si_2, si_g, sr_1, sr_2, cp_1, cp_2, List.length_cons, List.length_nil, Nat.reduceAdd, true_and, and_true, and_self, eq_self, true_implies, forall_const, Bool.false_eq_true, false_implies, or_true, true_or, Option.some.injEq, Prod.mk.injEq, exists_eq_left', exists_eq', exists_and_left, reduceIte, Int.reduceEq, Int.reduceNe]
  exact J_k (A2 := A) (v := (sylV A.now (xs ((i : Int) + 1).toNat) (xs ((i : Int) + 2).toNat))) hc hm (fun K hK => c_syllable hc hV.nw hK) (fun M2 K m2 hK => d_syllable m2 hV.nw hK) (fun M3 c3 m3 => hW _ M3 c3 m3 (hV))
def itm13 (L : Nat) (xs : Nat → Int) : ST := (sIf1 (cNe (iCallV 6 m_X6_wanted (rL 1) (aI (iSc L xs (iAdd (iL 3) (iC 1))) (aN))) (iCallV 7 m_X7_wanted (rL 2) (aI (iSc L xs (iAdd (iL 3) (iC 1))) (aN)))) (sRet true (iC 0)))
set_option maxRecDepth 20000 in
theorem l_wanted (hx : ∀ j, inR (xs j)) (hL : L ≤ 3072) (hi : i + 6 ≤ L) (g0 : ρ 0 = .inr (some 1000003)) (g1 : ρ 1 = .inr (some 0)) (g2 : ρ 2 = .inr (some 80)) (g3 : ρ 3 = .inl (i : Int)) (hc : CI M A) (hm : MI M A) (hV : A.V) (hW : ∀ A2 M3, CI M3 A2 → MI M3 A2 → A2.V → W ρ M3) : itm13 L xs W Rt ρ M := by
  have x0 := hc.fx.x0
  have r1 : inR ((i : Int) + 1) := inR_s (by omega) (by omega)
  have z1 : 0 ≤ (i : Int) + 1 := by omega
  have b1 : (i : Int) + 1 < L := by omega
  simp only [itm13, iSc, g0, g1, g2, g3, x0, r1, z1, b1, iC, iL, iF, iA, iAc, iLen, iT, iAdd, iSub, iMul, iDiv, iRem, iNeg, iCh, iAnd31, iQ, iMax, iMin, iAbs, iCallS, iCallV, aN, aI, aR, rL, rF, rA, cEq, cNe, cLt, cGe, cGt, cLe, cAnd, cOr, cNot, cNull, sSkip, sSeq, sLoc, sLocR, sInc, sPut, sPutR, sPutAdd, sPutSub, sAst, sCst, sRst, sAstAdd, sAstSub, sIf1, sIf, sRet, sRetV, sCallV, sCallS, sPop, sCopy, sCopyT, sObj, sSw, ent_0, ent_1, ent_2, ent_3, ent_4, ent_5, ent_6, va_up_self, va_up_ne, ne_eq, Nat.reduceEqDiff, not_false_eq_true, not_true_eq_false, si_1, si_2, si_g, sr_1, sr_2, cp_1, cp_2, List.length_cons, List.length_nil, Nat.reduceAdd, true_and, and_true, and_self, eq_self, true_implies, forall_const, Bool.false_eq_true, false_implies, or_true, true_or, Option.some.injEq, Prod.mk.injEq, exists_eq_left', exists_eq', exists_and_left, reduceIte, Int.reduceEq, Int.reduceNe]
  exact J_k (A2 := A) (v := (wanV A.now (xs ((i : Int) + 1).toNat))) hc hm (fun K hK => c_wanted hc hV.nw hK) (fun M2 K m2 hK => d_wanted m2 hV.nw hK) (fun M3 c3 m3 => hW _ M3 c3 m3 (hV))
def itm14 (L : Nat) (xs : Nat → Int) : ST := (sIf1 (cNe (iCallV 6 m_X6_sung (rL 1) (aI (iSc L xs (iAdd (iL 3) (iC 1))) (aN))) (iCallV 7 m_X7_sung (rL 2) (aI (iSc L xs (iAdd (iL 3) (iC 1))) (aN)))) (sRet true (iC 0)))
set_option maxRecDepth 20000 in
theorem l_sung (hx : ∀ j, inR (xs j)) (hL : L ≤ 3072) (hi : i + 6 ≤ L) (g0 : ρ 0 = .inr (some 1000003)) (g1 : ρ 1 = .inr (some 0)) (g2 : ρ 2 = .inr (some 80)) (g3 : ρ 3 = .inl (i : Int)) (hc : CI M A) (hm : MI M A) (hV : A.V) (hW : ∀ A2 M3, CI M3 A2 → MI M3 A2 → A2.V → W ρ M3) : itm14 L xs W Rt ρ M := by
  have x0 := hc.fx.x0
  have r1 : inR ((i : Int) + 1) := inR_s (by omega) (by omega)
  have z1 : 0 ≤ (i : Int) + 1 := by omega
  have b1 : (i : Int) + 1 < L := by omega
  simp only [itm14, iSc, g0, g1, g2, g3, x0, r1, z1, b1, iC, iL, iF, iA, iAc, iLen, iT, iAdd, iSub, iMul, iDiv, iRem, iNeg, iCh, iAnd31, iQ, iMax, iMin, iAbs, iCallS, iCallV, aN, aI, aR, rL, rF, rA, cEq, cNe, cLt, cGe, cGt, cLe, cAnd, cOr, cNot, cNull, sSkip, sSeq, sLoc, sLocR, sInc, sPut, sPutR, sPutAdd, sPutSub, sAst, sCst, sRst, sAstAdd, sAstSub, sIf1, sIf, sRet, sRetV, sCallV, sCallS, sPop, sCopy, sCopyT, sObj, sSw, ent_0, ent_1, ent_2, ent_3, ent_4, ent_5, ent_6, va_up_self, va_up_ne, ne_eq, Nat.reduceEqDiff, not_false_eq_true, not_true_eq_false, si_1, si_2, si_g, sr_1, sr_2, cp_1, cp_2, List.length_cons, List.length_nil, Nat.reduceAdd, true_and, and_true, and_self, eq_self, true_implies, forall_const, Bool.false_eq_true, false_implies, or_true, true_or, Option.some.injEq, Prod.mk.injEq, exists_eq_left', exists_eq', exists_and_left, reduceIte, Int.reduceEq, Int.reduceNe]
  exact J_k (A2 := A) (v := (sunV A.now (xs ((i : Int) + 1).toNat))) hc hm (fun K hK => c_sung hc hK) (fun M2 K m2 hK => d_sung m2 hV.nw hK) (fun M3 c3 m3 => hW _ M3 c3 m3 (hV))
def itm15 (L : Nat) (xs : Nat → Int) : ST := (sIf1 (cNe (iCallV 6 m_X6_lit (rL 1) (aI (iSc L xs (iAdd (iL 3) (iC 1))) (aI (iSc L xs (iAdd (iL 3) (iC 2))) (aN)))) (iCallV 7 m_X7_lit (rL 2) (aI (iSc L xs (iAdd (iL 3) (iC 1))) (aI (iSc L xs (iAdd (iL 3) (iC 2))) (aN))))) (sRet true (iC 0)))
set_option maxRecDepth 20000 in
theorem l_lit (hx : ∀ j, inR (xs j)) (hL : L ≤ 3072) (hi : i + 6 ≤ L) (g0 : ρ 0 = .inr (some 1000003)) (g1 : ρ 1 = .inr (some 0)) (g2 : ρ 2 = .inr (some 80)) (g3 : ρ 3 = .inl (i : Int)) (hc : CI M A) (hm : MI M A) (hV : A.V) (hW : ∀ A2 M3, CI M3 A2 → MI M3 A2 → A2.V → W ρ M3) : itm15 L xs W Rt ρ M := by
  have x0 := hc.fx.x0
  have r1 : inR ((i : Int) + 1) := inR_s (by omega) (by omega)
  have z1 : 0 ≤ (i : Int) + 1 := by omega
  have b1 : (i : Int) + 1 < L := by omega
  have r2 : inR ((i : Int) + 2) := inR_s (by omega) (by omega)
  have z2 : 0 ≤ (i : Int) + 2 := by omega
  have b2 : (i : Int) + 2 < L := by omega
  simp only [itm15, iSc, g0, g1, g2, g3, x0, r1, z1, b1, r2, z2, b2, iC, iL, iF, iA, iAc, iLen, iT, iAdd, iSub, iMul, iDiv, iRem, iNeg, iCh, iAnd31, iQ, iMax, iMin, iAbs, iCallS, iCallV, aN, aI, aR, rL, rF, rA, cEq, cNe, cLt, cGe, cGt, cLe, cAnd, cOr, cNot, cNull, sSkip, sSeq, sLoc, sLocR, sInc, sPut, sPutR, sPutAdd, sPutSub, sAst, sCst, sRst, sAstAdd, sAstSub, sIf1, sIf, sRet, sRetV, sCallV, sCallS, sPop, sCopy, sCopyT, sObj, sSw, ent_0, ent_1, ent_2, ent_3, ent_4, ent_5, ent_6, va_up_self, va_up_ne, ne_eq, Nat.reduceEqDiff, not_false_eq_true, not_true_eq_false, si_1, si_2, si_g, sr_1, sr_2, cp_1, cp_2, List.length_cons, List.length_nil, Nat.reduceAdd, true_and, and_true, and_self, eq_self, true_implies, forall_const, Bool.false_eq_true, false_implies, or_true, true_or, Option.some.injEq, Prod.mk.injEq, exists_eq_left', exists_eq', exists_and_left, reduceIte, Int.reduceEq, Int.reduceNe]
  exact J_k (A2 := A) (v := (litV A.now (xs ((i : Int) + 1).toNat) (xs ((i : Int) + 2).toNat))) hc hm (fun K hK => c_lit hc hV.nw hK) (fun M2 K m2 hK => d_lit m2 hV.nw hK) (fun M3 c3 m3 => hW _ M3 c3 m3 (hV))
def itm16 (L : Nat) (xs : Nat → Int) : ST := (sIf1 (cNe (iCallV 6 m_X6_phrase (rL 1) (aI (iSc L xs (iAdd (iL 3) (iC 1))) (aI (iSc L xs (iAdd (iL 3) (iC 2))) (aN)))) (iCallV 7 m_X7_phrase (rL 2) (aI (iSc L xs (iAdd (iL 3) (iC 1))) (aI (iSc L xs (iAdd (iL 3) (iC 2))) (aN))))) (sRet true (iC 0)))
set_option maxRecDepth 20000 in
theorem l_phrase (hx : ∀ j, inR (xs j)) (hL : L ≤ 3072) (hi : i + 6 ≤ L) (g0 : ρ 0 = .inr (some 1000003)) (g1 : ρ 1 = .inr (some 0)) (g2 : ρ 2 = .inr (some 80)) (g3 : ρ 3 = .inl (i : Int)) (hc : CI M A) (hm : MI M A) (hV : A.V) (hW : ∀ A2 M3, CI M3 A2 → MI M3 A2 → A2.V → W ρ M3) : itm16 L xs W Rt ρ M := by
  have x0 := hc.fx.x0
  have r1 : inR ((i : Int) + 1) := inR_s (by omega) (by omega)
  have z1 : 0 ≤ (i : Int) + 1 := by omega
  have b1 : (i : Int) + 1 < L := by omega
  have r2 : inR ((i : Int) + 2) := inR_s (by omega) (by omega)
  have z2 : 0 ≤ (i : Int) + 2 := by omega
  have b2 : (i : Int) + 2 < L := by omega
  simp only [itm16, iSc, g0, g1, g2, g3, x0, r1, z1, b1, r2, z2, b2, iC, iL, iF, iA, iAc, iLen, iT, iAdd, iSub, iMul, iDiv, iRem, iNeg, iCh, iAnd31, iQ, iMax, iMin, iAbs, iCallS, iCallV, aN, aI, aR, rL, rF, rA, cEq, cNe, cLt, cGe, cGt, cLe, cAnd, cOr, cNot, cNull, sSkip, sSeq, sLoc, sLocR, sInc, sPut, sPutR, sPutAdd, sPutSub, sAst, sCst, sRst, sAstAdd, sAstSub, sIf1, sIf, sRet, sRetV, sCallV, sCallS, sPop, sCopy, sCopyT, sObj, sSw, ent_0, ent_1, ent_2, ent_3, ent_4, ent_5, ent_6, va_up_self, va_up_ne, ne_eq, Nat.reduceEqDiff, not_false_eq_true, not_true_eq_false, si_1, si_2, si_g, sr_1, sr_2, cp_1, cp_2, List.length_cons, List.length_nil, Nat.reduceAdd, true_and, and_true, and_self, eq_self, true_implies, forall_const, Bool.false_eq_true, false_implies, or_true, true_or, Option.some.injEq, Prod.mk.injEq, exists_eq_left', exists_eq', exists_and_left, reduceIte, Int.reduceEq, Int.reduceNe]
  exact J_k (A2 := A) (v := (phrV A.now (xs ((i : Int) + 1).toNat) (xs ((i : Int) + 2).toNat))) hc hm (fun K hK => c_phrase hc hV.nw hK) (fun M2 K m2 hK => d_phrase m2 hV.nw hK) (fun M3 c3 m3 => hW _ M3 c3 m3 (hV))
def itm17 (L : Nat) (xs : Nat → Int) : ST := (sIf1 (cNe (iCallV 6 m_X6_total (rL 1) (aI (iSc L xs (iAdd (iL 3) (iC 1))) (aN))) (iCallV 7 m_X7_total (rL 2) (aI (iSc L xs (iAdd (iL 3) (iC 1))) (aN)))) (sRet true (iC 0)))
set_option maxRecDepth 20000 in
theorem l_total (hx : ∀ j, inR (xs j)) (hL : L ≤ 3072) (hi : i + 6 ≤ L) (g0 : ρ 0 = .inr (some 1000003)) (g1 : ρ 1 = .inr (some 0)) (g2 : ρ 2 = .inr (some 80)) (g3 : ρ 3 = .inl (i : Int)) (hc : CI M A) (hm : MI M A) (hV : A.V) (hW : ∀ A2 M3, CI M3 A2 → MI M3 A2 → A2.V → W ρ M3) : itm17 L xs W Rt ρ M := by
  have x0 := hc.fx.x0
  have r1 : inR ((i : Int) + 1) := inR_s (by omega) (by omega)
  have z1 : 0 ≤ (i : Int) + 1 := by omega
  have b1 : (i : Int) + 1 < L := by omega
  simp only [itm17, iSc, g0, g1, g2, g3, x0, r1, z1, b1, iC, iL, iF, iA, iAc, iLen, iT, iAdd, iSub, iMul, iDiv, iRem, iNeg, iCh, iAnd31, iQ, iMax, iMin, iAbs, iCallS, iCallV, aN, aI, aR, rL, rF, rA, cEq, cNe, cLt, cGe, cGt, cLe, cAnd, cOr, cNot, cNull, sSkip, sSeq, sLoc, sLocR, sInc, sPut, sPutR, sPutAdd, sPutSub, sAst, sCst, sRst, sAstAdd, sAstSub, sIf1, sIf, sRet, sRetV, sCallV, sCallS, sPop, sCopy, sCopyT, sObj, sSw, ent_0, ent_1, ent_2, ent_3, ent_4, ent_5, ent_6, va_up_self, va_up_ne, ne_eq, Nat.reduceEqDiff, not_false_eq_true, not_true_eq_false, si_1, si_2, si_g, sr_1, sr_2, cp_1, cp_2, List.length_cons, List.length_nil, Nat.reduceAdd, true_and, and_true, and_self, eq_self, true_implies, forall_const, Bool.false_eq_true, false_implies, or_true, true_or, Option.some.injEq, Prod.mk.injEq, exists_eq_left', exists_eq', exists_and_left, reduceIte, Int.reduceEq, Int.reduceNe]
  exact J_k (A2 := A) (v := (totV A (xs ((i : Int) + 1).toNat))) hc hm (fun K hK => c_total hc hV.nw hK) (fun M2 K m2 hK => d_total m2 hV.nw hK) (fun M3 c3 m3 => hW _ M3 c3 m3 (hV))
def itm18 (L : Nat) (xs : Nat → Int) : ST := (sIf1 (cNe (iCallV 6 m_X6_ifShifted (rL 1) (aI (iSc L xs (iAdd (iL 3) (iC 1))) (aI (iSc L xs (iAdd (iL 3) (iC 2))) (aN)))) (iCallV 7 m_X7_ifShifted (rL 2) (aI (iSc L xs (iAdd (iL 3) (iC 1))) (aI (iSc L xs (iAdd (iL 3) (iC 2))) (aN))))) (sRet true (iC 0)))
set_option maxRecDepth 20000 in
theorem l_ifShifted (hx : ∀ j, inR (xs j)) (hL : L ≤ 3072) (hi : i + 6 ≤ L) (g0 : ρ 0 = .inr (some 1000003)) (g1 : ρ 1 = .inr (some 0)) (g2 : ρ 2 = .inr (some 80)) (g3 : ρ 3 = .inl (i : Int)) (hc : CI M A) (hm : MI M A) (hV : A.V) (hW : ∀ A2 M3, CI M3 A2 → MI M3 A2 → A2.V → W ρ M3) : itm18 L xs W Rt ρ M := by
  have x0 := hc.fx.x0
  have r1 : inR ((i : Int) + 1) := inR_s (by omega) (by omega)
  have z1 : 0 ≤ (i : Int) + 1 := by omega
  have b1 : (i : Int) + 1 < L := by omega
  have r2 : inR ((i : Int) + 2) := inR_s (by omega) (by omega)
  have z2 : 0 ≤ (i : Int) + 2 := by omega
  have b2 : (i : Int) + 2 < L := by omega
  simp only [itm18, iSc, g0, g1, g2, g3, x0, r1, z1, b1, r2, z2, b2, iC, iL, iF, iA, iAc, iLen, iT, iAdd, iSub, iMul, iDiv, iRem, iNeg, iCh, iAnd31, iQ, iMax, iMin, iAbs, iCallS, iCallV, aN, aI, aR, rL, rF, rA, cEq, cNe, cLt, cGe, cGt, cLe, cAnd, cOr, cNot, cNull, sSkip, sSeq, sLoc, sLocR, sInc, sPut, sPutR, sPutAdd, sPutSub, sAst, sCst, sRst, sAstAdd, sAstSub, sIf1, sIf, sRet, sRetV, sCallV, sCallS, sPop, sCopy, sCopyT, sObj, sSw, ent_0, ent_1, ent_2, ent_3, ent_4, ent_5, ent_6, va_up_self, va_up_ne, ne_eq, Nat.reduceEqDiff, not_false_eq_true, not_true_eq_false, si_1, si_2, si_g, sr_1, sr_2, cp_1, cp_2, List.length_cons, List.length_nil, Nat.reduceAdd, true_and, and_true, and_self, eq_self, true_implies, forall_const, Bool.false_eq_true, false_implies, or_true, true_or, Option.some.injEq, Prod.mk.injEq, exists_eq_left', exists_eq', exists_and_left, reduceIte, Int.reduceEq, Int.reduceNe]
  exact J_k (A2 := A) (v := (ifhV A.now (xs ((i : Int) + 1).toNat) (xs ((i : Int) + 2).toNat))) hc hm (fun K hK => c_ifShifted hc hV.nw hK) (fun M2 K m2 hK => d_ifShifted m2 hV.nw hK) (fun M3 c3 m3 => hW _ M3 c3 m3 (hV))
def itm19 (L : Nat) (xs : Nat → Int) : ST := (sIf1 (cNe (iCallV 6 m_X6_bestShift (rL 1) (aN)) (iCallV 7 m_X7_bestShift (rL 2) (aN))) (sRet true (iC 0)))
set_option maxRecDepth 20000 in
theorem l_bestShift (hx : ∀ j, inR (xs j)) (hL : L ≤ 3072) (hi : i + 6 ≤ L) (g0 : ρ 0 = .inr (some 1000003)) (g1 : ρ 1 = .inr (some 0)) (g2 : ρ 2 = .inr (some 80)) (g3 : ρ 3 = .inl (i : Int)) (hc : CI M A) (hm : MI M A) (hV : A.V) (hW : ∀ A2 M3, CI M3 A2 → MI M3 A2 → A2.V → W ρ M3) : itm19 L xs W Rt ρ M := by
  have x0 := hc.fx.x0
  simp only [itm19, iSc, g0, g1, g2, g3, x0, iC, iL, iF, iA, iAc, iLen, iT, iAdd, iSub, iMul, iDiv, iRem, iNeg, iCh, iAnd31, iQ, iMax, iMin, iAbs, iCallS, iCallV, aN, aI, aR, rL, rF, rA, cEq, cNe, cLt, cGe, cGt, cLe, cAnd, cOr, cNot, cNull, sSkip, sSeq, sLoc, sLocR, sInc, sPut, sPutR, sPutAdd, sPutSub, sAst, sCst, sRst, sAstAdd, sAstSub, sIf1, sIf, sRet, sRetV, sCallV, sCallS, sPop, sCopy, sCopyT, sObj, sSw, ent_0, ent_1, ent_2, ent_3, ent_4, ent_5, ent_6, va_up_self, va_up_ne, ne_eq, Nat.reduceEqDiff, not_false_eq_true, not_true_eq_false, si_1, si_2, si_g, sr_1, sr_2, cp_1, cp_2, List.length_cons, List.length_nil, Nat.reduceAdd, true_and, and_true, and_self, eq_self, true_implies, forall_const, Bool.false_eq_true, false_implies, or_true, true_or, Option.some.injEq, Prod.mk.injEq, exists_eq_left', exists_eq', exists_and_left, reduceIte, Int.reduceEq, Int.reduceNe]
  exact J_k (A2 := A) (v := (besV A.now)) hc hm (fun K hK => c_bestShift hc hV.nw hK) (fun M2 K m2 hK => d_bestShift m2 hV.nw hK) (fun M3 c3 m3 => hW _ M3 c3 m3 (hV))
def itm20 (L : Nat) (xs : Nat → Int) : ST := (sIf1 (cNe (iCallV 6 m_X6_ifSet (rL 1) (aI (iSc L xs (iAdd (iL 3) (iC 1))) (aI (iSc L xs (iAdd (iL 3) (iC 2))) (aN)))) (iCallV 7 m_X7_ifSet (rL 2) (aI (iSc L xs (iAdd (iL 3) (iC 1))) (aI (iSc L xs (iAdd (iL 3) (iC 2))) (aN))))) (sRet true (iC 0)))
set_option maxRecDepth 20000 in
theorem l_ifSet (hx : ∀ j, inR (xs j)) (hL : L ≤ 3072) (hi : i + 6 ≤ L) (g0 : ρ 0 = .inr (some 1000003)) (g1 : ρ 1 = .inr (some 0)) (g2 : ρ 2 = .inr (some 80)) (g3 : ρ 3 = .inl (i : Int)) (hc : CI M A) (hm : MI M A) (hV : A.V) (hW : ∀ A2 M3, CI M3 A2 → MI M3 A2 → A2.V → W ρ M3) : itm20 L xs W Rt ρ M := by
  have x0 := hc.fx.x0
  have r1 : inR ((i : Int) + 1) := inR_s (by omega) (by omega)
  have z1 : 0 ≤ (i : Int) + 1 := by omega
  have b1 : (i : Int) + 1 < L := by omega
  have r2 : inR ((i : Int) + 2) := inR_s (by omega) (by omega)
  have z2 : 0 ≤ (i : Int) + 2 := by omega
  have b2 : (i : Int) + 2 < L := by omega
  simp only [itm20, iSc, g0, g1, g2, g3, x0, r1, z1, b1, r2, z2, b2, iC, iL, iF, iA, iAc, iLen, iT, iAdd, iSub, iMul, iDiv, iRem, iNeg, iCh, iAnd31, iQ, iMax, iMin, iAbs, iCallS, iCallV, aN, aI, aR, rL, rF, rA, cEq, cNe, cLt, cGe, cGt, cLe, cAnd, cOr, cNot, cNull, sSkip, sSeq, sLoc, sLocR, sInc, sPut, sPutR, sPutAdd, sPutSub, sAst, sCst, sRst, sAstAdd, sAstSub, sIf1, sIf, sRet, sRetV, sCallV, sCallS, sPop, sCopy, sCopyT, sObj, sSw, ent_0, ent_1, ent_2, ent_3, ent_4, ent_5, ent_6, va_up_self, va_up_ne, ne_eq, Nat.reduceEqDiff, not_false_eq_true, not_true_eq_false, si_1, si_2, si_g, sr_1, sr_2, cp_1, cp_2, List.length_cons, List.length_nil, Nat.reduceAdd, true_and, and_true, and_self, eq_self, true_implies, forall_const, Bool.false_eq_true, false_implies, or_true, true_or, Option.some.injEq, Prod.mk.injEq, exists_eq_left', exists_eq', exists_and_left, reduceIte, Int.reduceEq, Int.reduceNe]
  exact J_k (A2 := A) (v := (ifsV A.now (xs ((i : Int) + 1).toNat) (xs ((i : Int) + 2).toNat))) hc hm (fun K hK => c_ifSet hc hV.nw hK) (fun M2 K m2 hK => d_ifSet m2 hV.nw hK) (fun M3 c3 m3 => hW _ M3 c3 m3 (hV))
def itm21 (L : Nat) (xs : Nat → Int) : ST := (sIf1 (cNe (iCallV 6 m_X6_worst (rL 1) (aN)) (iCallV 7 m_X7_worst (rL 2) (aN))) (sRet true (iC 0)))
set_option maxRecDepth 20000 in
theorem l_worst (hx : ∀ j, inR (xs j)) (hL : L ≤ 3072) (hi : i + 6 ≤ L) (g0 : ρ 0 = .inr (some 1000003)) (g1 : ρ 1 = .inr (some 0)) (g2 : ρ 2 = .inr (some 80)) (g3 : ρ 3 = .inl (i : Int)) (hc : CI M A) (hm : MI M A) (hV : A.V) (hW : ∀ A2 M3, CI M3 A2 → MI M3 A2 → A2.V → W ρ M3) : itm21 L xs W Rt ρ M := by
  have x0 := hc.fx.x0
  simp only [itm21, iSc, g0, g1, g2, g3, x0, iC, iL, iF, iA, iAc, iLen, iT, iAdd, iSub, iMul, iDiv, iRem, iNeg, iCh, iAnd31, iQ, iMax, iMin, iAbs, iCallS, iCallV, aN, aI, aR, rL, rF, rA, cEq, cNe, cLt, cGe, cGt, cLe, cAnd, cOr, cNot, cNull, sSkip, sSeq, sLoc, sLocR, sInc, sPut, sPutR, sPutAdd, sPutSub, sAst, sCst, sRst, sAstAdd, sAstSub, sIf1, sIf, sRet, sRetV, sCallV, sCallS, sPop, sCopy, sCopyT, sObj, sSw, ent_0, ent_1, ent_2, ent_3, ent_4, ent_5, ent_6, va_up_self, va_up_ne, ne_eq, Nat.reduceEqDiff, not_false_eq_true, not_true_eq_false, si_1, si_2, si_g, sr_1, sr_2, cp_1, cp_2, List.length_cons, List.length_nil, Nat.reduceAdd, true_and, and_true, and_self, eq_self, true_implies, forall_const, Bool.false_eq_true, false_implies, or_true, true_or, Option.some.injEq, Prod.mk.injEq, exists_eq_left', exists_eq', exists_and_left, reduceIte, Int.reduceEq, Int.reduceNe]
  exact J_k (A2 := A) (v := (worV A.now)) hc hm (fun K hK => c_worst hc hV.nw hK) (fun M2 K m2 hK => d_worst m2 hV.nw hK) (fun M3 c3 m3 => hW _ M3 c3 m3 (hV))
end LAW
