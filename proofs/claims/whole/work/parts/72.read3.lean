def rsA : ST := (sSeq (sLoc 5 (iCallV 2 m_X2_readNumber (rL 0) (aR (rL 2) (aI (iC 0) (aI (iC 60) (aN)))))) (sSeq (sIf1 (cEq (iL 5) (iC (-1))) (sRet true (iC 0))) (sSeq (sLoc 6 (iQ (cNe (iCallV 2 m_X2_skip (rL 0) (aR (rL 2) (aI (iC 45) (aN)))) (iC 0)) (iCallV 2 m_X2_readNumber (rL 0) (aR (rL 2) (aI (iC 0) (aI (iC 60) (aN))))) (iL 5))) (sSeq (sIf1 (cOr (cEq (iL 6) (iC (-1))) (cNot (cNe (iCallV 2 m_X2_skip (rL 0) (aR (rL 2) (aI (iC 58) (aN)))) (iC 0)))) (sRet true (iC 0))) (sSeq (sLoc 7 (iCallV 2 m_X2_readNumber (rL 0) (aR (rL 2) (aI (iC 1) (aI (iC 32) (aN)))))) (sSeq (sIf1 (cEq (iL 7) (iC (-1))) (sRet true (iC 0))) (sSeq (sIf (cNe (iCallV 3 m_X3_hasRoomFor (rL 1) (aI (iL 4) (aI (iL 7) (aN)))) (iC 0)) (sPop (iCallV 3 m_X3_append (rL 1) (aI (iL 4) (aI (iL 5) (aI (iL 6) (aI (iL 7) (aI (iL 3) (aN)))))))) (sPut true 2 2 (rL 0) (iC 1))) (sRet true (iC 1)))))))))
def rsA2 : ST := (sSeq (sIf1 (cEq (iL 5) (iC (-1))) (sRet true (iC 0))) (sSeq (sLoc 6 (iQ (cNe (iCallV 2 m_X2_skip (rL 0) (aR (rL 2) (aI (iC 45) (aN)))) (iC 0)) (iCallV 2 m_X2_readNumber (rL 0) (aR (rL 2) (aI (iC 0) (aI (iC 60) (aN))))) (iL 5))) (sSeq (sIf1 (cOr (cEq (iL 6) (iC (-1))) (cNot (cNe (iCallV 2 m_X2_skip (rL 0) (aR (rL 2) (aI (iC 58) (aN)))) (iC 0)))) (sRet true (iC 0))) (sSeq (sLoc 7 (iCallV 2 m_X2_readNumber (rL 0) (aR (rL 2) (aI (iC 1) (aI (iC 32) (aN)))))) (sSeq (sIf1 (cEq (iL 7) (iC (-1))) (sRet true (iC 0))) (sSeq (sIf (cNe (iCallV 3 m_X3_hasRoomFor (rL 1) (aI (iL 4) (aI (iL 7) (aN)))) (iC 0)) (sPop (iCallV 3 m_X3_append (rL 1) (aI (iL 4) (aI (iL 5) (aI (iL 6) (aI (iL 7) (aI (iL 3) (aN)))))))) (sPut true 2 2 (rL 0) (iC 1))) (sRet true (iC 1))))))))
def rsB : ST := (sSeq (sLoc 6 (iQ (cNe (iCallV 2 m_X2_skip (rL 0) (aR (rL 2) (aI (iC 45) (aN)))) (iC 0)) (iCallV 2 m_X2_readNumber (rL 0) (aR (rL 2) (aI (iC 0) (aI (iC 60) (aN))))) (iL 5))) (sSeq (sIf1 (cOr (cEq (iL 6) (iC (-1))) (cNot (cNe (iCallV 2 m_X2_skip (rL 0) (aR (rL 2) (aI (iC 58) (aN)))) (iC 0)))) (sRet true (iC 0))) (sSeq (sLoc 7 (iCallV 2 m_X2_readNumber (rL 0) (aR (rL 2) (aI (iC 1) (aI (iC 32) (aN)))))) (sSeq (sIf1 (cEq (iL 7) (iC (-1))) (sRet true (iC 0))) (sSeq (sIf (cNe (iCallV 3 m_X3_hasRoomFor (rL 1) (aI (iL 4) (aI (iL 7) (aN)))) (iC 0)) (sPop (iCallV 3 m_X3_append (rL 1) (aI (iL 4) (aI (iL 5) (aI (iL 6) (aI (iL 7) (aI (iL 3) (aN)))))))) (sPut true 2 2 (rL 0) (iC 1))) (sRet true (iC 1)))))))
def rsB2 : ST := (sSeq (sIf1 (cOr (cEq (iL 6) (iC (-1))) (cNot (cNe (iCallV 2 m_X2_skip (rL 0) (aR (rL 2) (aI (iC 58) (aN)))) (iC 0)))) (sRet true (iC 0))) (sSeq (sLoc 7 (iCallV 2 m_X2_readNumber (rL 0) (aR (rL 2) (aI (iC 1) (aI (iC 32) (aN)))))) (sSeq (sIf1 (cEq (iL 7) (iC (-1))) (sRet true (iC 0))) (sSeq (sIf (cNe (iCallV 3 m_X3_hasRoomFor (rL 1) (aI (iL 4) (aI (iL 7) (aN)))) (iC 0)) (sPop (iCallV 3 m_X3_append (rL 1) (aI (iL 4) (aI (iL 5) (aI (iL 6) (aI (iL 7) (aI (iL 3) (aN)))))))) (sPut true 2 2 (rL 0) (iC 1))) (sRet true (iC 1))))))
def rsC : ST := (sSeq (sLoc 7 (iCallV 2 m_X2_readNumber (rL 0) (aR (rL 2) (aI (iC 1) (aI (iC 32) (aN)))))) (sSeq (sIf1 (cEq (iL 7) (iC (-1))) (sRet true (iC 0))) (sSeq (sIf (cNe (iCallV 3 m_X3_hasRoomFor (rL 1) (aI (iL 4) (aI (iL 7) (aN)))) (iC 0)) (sPop (iCallV 3 m_X3_append (rL 1) (aI (iL 4) (aI (iL 5) (aI (iL 6) (aI (iL 7) (aI (iL 3) (aN)))))))) (sPut true 2 2 (rL 0) (iC 1))) (sRet true (iC 1)))))
def rs1 : ST := (sSeq (sIf1 (cEq (iL 4) (iC (-1))) (sRet true (iC 0))) (sSeq (sLoc 5 (iCallV 2 m_X2_readNumber (rL 0) (aR (rL 2) (aI (iC 0) (aI (iC 60) (aN)))))) (sSeq (sIf1 (cEq (iL 5) (iC (-1))) (sRet true (iC 0))) (sSeq (sLoc 6 (iQ (cNe (iCallV 2 m_X2_skip (rL 0) (aR (rL 2) (aI (iC 45) (aN)))) (iC 0)) (iCallV 2 m_X2_readNumber (rL 0) (aR (rL 2) (aI (iC 0) (aI (iC 60) (aN))))) (iL 5))) (sSeq (sIf1 (cOr (cEq (iL 6) (iC (-1))) (cNot (cNe (iCallV 2 m_X2_skip (rL 0) (aR (rL 2) (aI (iC 58) (aN)))) (iC 0)))) (sRet true (iC 0))) (sSeq (sLoc 7 (iCallV 2 m_X2_readNumber (rL 0) (aR (rL 2) (aI (iC 1) (aI (iC 32) (aN)))))) (sSeq (sIf1 (cEq (iL 7) (iC (-1))) (sRet true (iC 0))) (sSeq (sIf (cNe (iCallV 3 m_X3_hasRoomFor (rL 1) (aI (iL 4) (aI (iL 7) (aN)))) (iC 0)) (sPop (iCallV 3 m_X3_append (rL 1) (aI (iL 4) (aI (iL 5) (aI (iL 6) (aI (iL 7) (aI (iL 3) (aN)))))))) (sPut true 2 2 (rL 0) (iC 1))) (sRet true (iC 1))))))))))
theorem B_rs : B_X2_readSyllable = sSeq (sLoc 4 (iQ (cNe (iCallV 2 m_X2_skip (rL 0) (aR (rL 2) (aI (iC 46) (aN)))) (iC 0)) (iCallV 2 m_X2_readNumber (rL 0) (aR (rL 2) (aI (iC 1) (aI (iC 32) (aN))))) (iC 0))) rs1 := rfl
theorem rs1_e : rs1 = sSeq (sIf1 (cEq (iL 4) (iC (-1))) (sRet true (iC 0))) rsA := rfl
theorem rsA_e : rsA = sSeq (sLoc 5 (iCallV 2 m_X2_readNumber (rL 0) (aR (rL 2) (aI (iC 0) (aI (iC 60) (aN)))))) rsA2 := rfl
theorem rsA2_e : rsA2 = sSeq (sIf1 (cEq (iL 5) (iC (-1))) (sRet true (iC 0))) rsB := rfl
theorem rsB_e : rsB = sSeq (sLoc 6 (iQ (cNe (iCallV 2 m_X2_skip (rL 0) (aR (rL 2) (aI (iC 45) (aN)))) (iC 0)) (iCallV 2 m_X2_readNumber (rL 0) (aR (rL 2) (aI (iC 0) (aI (iC 60) (aN))))) (iL 5))) rsB2 := rfl
theorem rsB2_e : rsB2 = sSeq (sIf1 (cOr (cEq (iL 6) (iC (-1))) (cNot (cNe (iCallV 2 m_X2_skip (rL 0) (aR (rL 2) (aI (iC 58) (aN)))) (iC 0)))) (sRet true (iC 0))) rsC := rfl
/-- what becomes of a good syllable -/
def rsK (Rt : Int → Mm → Prop) (M : Mm) (n : Nat) (D : Nat → Nat → Int) (r a e l f : Int) : Prop := (n < 40 ∧ tk n D + r + l ≤ 600 → Rt 1 (app M 11 n (tk n D + r) l a e (cnt1 D n + (if n = 0 then 1 else f) - 1))) ∧ (¬ (n < 40 ∧ tk n D + r + l ≤ 600) → Rt 1 (si M 68 2 1))
section RD3
variable {K : Int → Mm → Prop} {M : Mm} {tl : Nat} {tc : Nat → Int} {n : Nat} {D : Nat → Nat → Int} {W : En → Mm → Prop} {Rt : Int → Mm → Prop} {ρ : En}
theorem CS.si68 {k j : Nat} {z : Int} (h : CS M k n D) (hk : k + 5 < 68) : CS (si M 68 j z) k n D := CS_fr h rfl rfl (fun q i h1 h2 => by rw [si_g, if_neg (by omega)])
set_option maxRecDepth 20000 in
theorem e_rsC {p : Nat} {r a e f : Int} (h : TX M tl tc) (hc : CS M 11 n D) (hv : VD n D) (hp : p ≤ 900) (h68 : M.2.1 68 0 = p) (g0 : ρ 0 = .inr (some 68)) (g1 : ρ 1 = .inr (some 11)) (g2 : ρ 2 = .inr (some 66)) (g3 : ρ 3 = .inl f) (g4 : ρ 4 = .inl r) (g5 : ρ 5 = .inl a) (g6 : ρ 6 = .inl e) (hr : 0 ≤ r ∧ r ≤ 32) (hf : f = 0 ∨ f = 1) (h0 : (num tl tc p 1 32).1 = -1 → Rt 0 (si M 68 0 (num tl tc p 1 32).2)) (h1 : (num tl tc p 1 32).1 ≠ -1 → rsK Rt (si M 68 0 (num tl tc p 1 32).2) n D r a e (num tl tc p 1 32).1 f) : rsC W Rt ρ M := by
  have hs := hc.1.1
  have nb := num_b tl tc p (lo := 1) (hi := 32) (.inr rfl) (by decide)
  simp only [rsC, g0, g1, g2, g3, g4, g5, g6, h.2.2.2.1, iC, iL, iF, iA, iAc, iLen, iT, iAdd, iSub, iMul, iDiv, iRem, iNeg, iCh, iAnd31, iQ, iMax, iMin, iAbs, iCallS, iCallV, aN, aI, aR, rL, rF, rA, cEq, cNe, cLt, cGe, cGt, cLe, cAnd, cOr, cNot, cNull, sSkip, sSeq, sLoc, sLocR, sInc, sPut, sPutR, sPutAdd, sPutSub, sAst, sCst, sRst, sAstAdd, sAstSub, sIf1, sIf, sRet, sRetV, sCallV, sCallS, sPop, sCopy, sCopyT, sObj, sSw, ent_0, ent_1, ent_2, ent_3, ent_4, ent_5, ent_6, va_up_self, va_up_ne, ne_eq, Nat.reduceEqDiff, not_false_eq_true, not_true_eq_false, si_1, si_2, si_g, sr_1, sr_2, cp_1, cp_2, List.length_cons, List.length_nil, Nat.reduceAdd, true_and, and_true, and_self, eq_self, true_implies, forall_const, Bool.false_eq_true, false_implies, or_true, true_or, Option.some.injEq, Prod.mk.injEq, exists_eq_left', exists_eq', exists_and_left, reduceIte, Int.reduceEq, Int.reduceNe]
  refine e_readNumber h hp (.inr rfl) (by decide) h68 ?_
  have hc2 : CS (si M 68 0 ((num tl tc p 1 32).2 : Nat)) 11 n D := hc.si68 (by decide)
  have hs2 : (si M 68 0 ((num tl tc p 1 32).2 : Nat)).1 = M.1 := rfl
  generalize si M 68 0 ((num tl tc p 1 32).2 : Nat) = M2 at hc2 h0 h1 hs2 ⊢
  by_cases c : (num tl tc p 1 32).1 = -1
  · rw [if_pos c]
    exact h0 c
  · rw [if_neg c]
    have h1 := h1 c
    generalize (num tl tc p 1 32).1 = l at nb c h1 ⊢
    have hl : 1 ≤ l ∧ l ≤ 32 := by omega
    rw [hs2]
    refine ⟨⟨0, hs⟩, (e_hasRoomFor hc2 hv hr (by omega)).mpr ?_⟩
    by_cases cr : n < 40 ∧ tk n D + r + l ≤ 600
    · rw [if_pos cr, if_pos (by decide)]
      exact ⟨⟨0, hs2 ▸ hs⟩, e_append hc2 hv cr.1 hr hf (h1.1 cr)⟩
    · rw [if_neg cr, if_neg (by decide)]
      exact ⟨⟨0, by rw [hs2]; exact h.2.2.2.1⟩, h1.2 cr⟩
def s2f (tl : Nat) (tc : Nat → Int) (a : Int) (q : Nat) : Int × Nat := if q < tl ∧ tc q = 45 then num tl tc (q + 1) 0 60 else (a, q)
def s3f (tl : Nat) (tc : Nat → Int) (q : Nat) : Int × Nat := if q < tl ∧ tc q = 58 then num tl tc (q + 1) 1 32 else (-1, q)
theorem s68 (M : Mm) (x : Nat) : (si M 68 0 (x : Int)).2.1 68 0 = x := by rw [si_g, if_pos ⟨rfl, rfl⟩]
set_option maxRecDepth 20000 in
theorem e_rsB2 {p : Nat} {r a e f : Int} (h : TX M tl tc) (hc : CS M 11 n D) (hv : VD n D) (hp : p ≤ 800) (h68 : M.2.1 68 0 = p) (g0 : ρ 0 = .inr (some 68)) (g1 : ρ 1 = .inr (some 11)) (g2 : ρ 2 = .inr (some 66)) (g3 : ρ 3 = .inl f) (g4 : ρ 4 = .inl r) (g5 : ρ 5 = .inl a) (g6 : ρ 6 = .inl e) (hr : 0 ≤ r ∧ r ≤ 32) (hf : f = 0 ∨ f = 1) (h0 : e = -1 → Rt 0 M) (h1 : e ≠ -1 → (s3f tl tc p).1 = -1 → Rt 0 (si M 68 0 (s3f tl tc p).2)) (h2 : e ≠ -1 → (s3f tl tc p).1 ≠ -1 → rsK Rt (si M 68 0 (s3f tl tc p).2) n D r a e (s3f tl tc p).1 f) : rsB2 W Rt ρ M := by
  simp only [rsB2_e, g0, g1, g2, g3, g4, g5, g6, h.2.2.2.1, iC, iL, iF, iA, iAc, iLen, iT, iAdd, iSub, iMul, iDiv, iRem, iNeg, iCh, iAnd31, iQ, iMax, iMin, iAbs, iCallS, iCallV, aN, aI, aR, rL, rF, rA, cEq, cNe, cLt, cGe, cGt, cLe, cAnd, cOr, cNot, cNull, sSkip, sSeq, sLoc, sLocR, sInc, sPut, sPutR, sPutAdd, sPutSub, sAst, sCst, sRst, sAstAdd, sAstSub, sIf1, sIf, sRet, sRetV, sCallV, sCallS, sPop, sCopy, sCopyT, sObj, sSw, ent_0, ent_1, ent_2, ent_3, ent_4, ent_5, ent_6, va_up_self, va_up_ne, ne_eq, Nat.reduceEqDiff, not_false_eq_true, not_true_eq_false, si_1, si_2, si_g, sr_1, sr_2, cp_1, cp_2, List.length_cons, List.length_nil, Nat.reduceAdd, true_and, and_true, and_self, eq_self, true_implies, forall_const, Bool.false_eq_true, false_implies, or_true, true_or, Option.some.injEq, Prod.mk.injEq, exists_eq_left', exists_eq', exists_and_left, reduceIte, Int.reduceEq, Int.reduceNe]
  by_cases c : e = -1
  · rw [if_pos c]
    exact h0 c
  · rw [if_neg c]
    have h1 := h1 c
    have h2 := h2 c
    refine (e_skip h (by omega) h68).mpr ?_
    unfold s3f at h1 h2
    by_cases c58 : p < tl ∧ tc p = 58
    · rw [if_pos c58] at h1 h2
      rw [if_pos c58, if_pos (by decide)]
      exact e_rsC h.si68 (hc.si68 (by decide)) hv (by omega) (s68 M (p + 1)) g0 g1 g2 g3 g4 g5 g6 hr hf (fun x => by rw [si_si]; exact h1 x) (fun x => by rw [si_si]; exact h2 x)
    · rw [if_neg c58] at h1 h2
      rw [if_neg c58, if_neg (by decide)]
      have := h1 rfl
      rw [si_self h68] at this
      exact this
set_option maxRecDepth 20000 in
theorem e_rsB {p : Nat} {r a f : Int} (h : TX M tl tc) (hc : CS M 11 n D) (hv : VD n D) (hp : p ≤ 700) (h68 : M.2.1 68 0 = p) (g0 : ρ 0 = .inr (some 68)) (g1 : ρ 1 = .inr (some 11)) (g2 : ρ 2 = .inr (some 66)) (g3 : ρ 3 = .inl f) (g4 : ρ 4 = .inl r) (g5 : ρ 5 = .inl a) (hr : 0 ≤ r ∧ r ≤ 32) (hf : f = 0 ∨ f = 1) (h0 : (s2f tl tc a p).1 = -1 → Rt 0 (si M 68 0 (s2f tl tc a p).2)) (h1 : (s2f tl tc a p).1 ≠ -1 → (s3f tl tc (s2f tl tc a p).2).1 = -1 → Rt 0 (si M 68 0 (s3f tl tc (s2f tl tc a p).2).2)) (h2 : (s2f tl tc a p).1 ≠ -1 → (s3f tl tc (s2f tl tc a p).2).1 ≠ -1 → rsK Rt (si M 68 0 (s3f tl tc (s2f tl tc a p).2).2) n D r a (s2f tl tc a p).1 (s3f tl tc (s2f tl tc a p).2).1 f) : rsB W Rt ρ M := by
  simp only [rsB_e, g0, g1, g2, g3, g4, g5, h.2.2.2.1, iC, iL, iF, iA, iAc, iLen, iT, iAdd, iSub, iMul, iDiv, iRem, iNeg, iCh, iAnd31, iQ, iMax, iMin, iAbs, iCallS, iCallV, aN, aI, aR, rL, rF, rA, cEq, cNe, cLt, cGe, cGt, cLe, cAnd, cOr, cNot, cNull, sSkip, sSeq, sLoc, sLocR, sInc, sPut, sPutR, sPutAdd, sPutSub, sAst, sCst, sRst, sAstAdd, sAstSub, sIf1, sIf, sRet, sRetV, sCallV, sCallS, sPop, sCopy, sCopyT, sObj, sSw, ent_0, ent_1, ent_2, ent_3, ent_4, ent_5, ent_6, va_up_self, va_up_ne, ne_eq, Nat.reduceEqDiff, not_false_eq_true, not_true_eq_false, si_1, si_2, si_g, sr_1, sr_2, cp_1, cp_2, List.length_cons, List.length_nil, Nat.reduceAdd, true_and, and_true, and_self, eq_self, true_implies, forall_const, Bool.false_eq_true, false_implies, or_true, true_or, Option.some.injEq, Prod.mk.injEq, exists_eq_left', exists_eq', exists_and_left, reduceIte, Int.reduceEq, Int.reduceNe]
  refine (e_skip h (by omega) h68).mpr ?_
  by_cases c : p < tl ∧ tc p = 45
  · rw [if_pos c, if_pos (by decide)]
    have hs2 : s2f tl tc a p = num tl tc (p + 1) 0 60 := if_pos c
    have nb := num_b tl tc (p + 1) (lo := 0) (hi := 60) (.inl rfl) (by decide)
    rw [hs2] at h0 h1 h2
    refine ⟨⟨0, h.2.2.2.1⟩, e_readNumber h.si68 (by omega) (.inl rfl) (by decide) (s68 M (p + 1)) ?_⟩
    rw [si_si]
    exact e_rsB2 (a := a) (e := (num tl tc (p + 1) 0 60).1) (p := (num tl tc (p + 1) 0 60).2) h.si68 (hc.si68 (by decide)) hv (by omega) (s68 M _) (by simp [va_up, g0]) (by simp [va_up, g1]) (by simp [va_up, g2]) (by simp [va_up, g3]) (by simp [va_up, g4]) (by simp [va_up, g5]) (by simp [va_up]) hr hf h0 (fun x y => by rw [si_si]; exact h1 x y) (fun x y => by rw [si_si]; exact h2 x y)
  · rw [if_neg c, if_neg (by decide)]
    have hs2 : s2f tl tc a p = (a, p) := if_neg c
    rw [hs2] at h0 h1 h2
    simp only at h0 h1 h2
    rw [si_self h68] at h0
    exact e_rsB2 (a := a) (e := a) (p := p) h hc hv (by omega) h68 (by simp [va_up, g0]) (by simp [va_up, g1]) (by simp [va_up, g2]) (by simp [va_up, g3]) (by simp [va_up, g4]) (by simp [va_up, g5]) (by simp [va_up]) hr hf h0 h1 h2
set_option maxRecDepth 20000 in
theorem e_rsA {p : Nat} {r f : Int} (h : TX M tl tc) (hc : CS M 11 n D) (hv : VD n D) (hp : p ≤ 600) (h68 : M.2.1 68 0 = p) (g0 : ρ 0 = .inr (some 68)) (g1 : ρ 1 = .inr (some 11)) (g2 : ρ 2 = .inr (some 66)) (g3 : ρ 3 = .inl f) (g4 : ρ 4 = .inl r) (hr : 0 ≤ r ∧ r ≤ 32) (hf : f = 0 ∨ f = 1) {a : Int} {q : Nat} (ha : num tl tc p 0 60 = (a, q)) (h0 : a = -1 → Rt 0 (si M 68 0 q)) (h1 : a ≠ -1 → (s2f tl tc a q).1 = -1 → Rt 0 (si M 68 0 (s2f tl tc a q).2)) (h2 : a ≠ -1 → (s2f tl tc a q).1 ≠ -1 → (s3f tl tc (s2f tl tc a q).2).1 = -1 → Rt 0 (si M 68 0 (s3f tl tc (s2f tl tc a q).2).2)) (h3 : a ≠ -1 → (s2f tl tc a q).1 ≠ -1 → (s3f tl tc (s2f tl tc a q).2).1 ≠ -1 → rsK Rt (si M 68 0 (s3f tl tc (s2f tl tc a q).2).2) n D r a (s2f tl tc a q).1 (s3f tl tc (s2f tl tc a q).2).1 f) : rsA W Rt ρ M := by
  have nb := num_b tl tc p (lo := 0) (hi := 60) (.inl rfl) (by decide)
  rw [ha] at nb
  simp only [rsA_e, rsA2_e, g0, g1, g2, g3, g4, h.2.2.2.1, iC, iL, iF, iA, iAc, iLen, iT, iAdd, iSub, iMul, iDiv, iRem, iNeg, iCh, iAnd31, iQ, iMax, iMin, iAbs, iCallS, iCallV, aN, aI, aR, rL, rF, rA, cEq, cNe, cLt, cGe, cGt, cLe, cAnd, cOr, cNot, cNull, sSkip, sSeq, sLoc, sLocR, sInc, sPut, sPutR, sPutAdd, sPutSub, sAst, sCst, sRst, sAstAdd, sAstSub, sIf1, sIf, sRet, sRetV, sCallV, sCallS, sPop, sCopy, sCopyT, sObj, sSw, ent_0, ent_1, ent_2, ent_3, ent_4, ent_5, ent_6, va_up_self, va_up_ne, ne_eq, Nat.reduceEqDiff, not_false_eq_true, not_true_eq_false, si_1, si_2, si_g, sr_1, sr_2, cp_1, cp_2, List.length_cons, List.length_nil, Nat.reduceAdd, true_and, and_true, and_self, eq_self, true_implies, forall_const, Bool.false_eq_true, false_implies, or_true, true_or, Option.some.injEq, Prod.mk.injEq, exists_eq_left', exists_eq', exists_and_left, reduceIte, Int.reduceEq, Int.reduceNe]
  refine e_readNumber h (by omega) (.inl rfl) (by decide) h68 ?_
  rw [ha]
  by_cases c : a = -1
  · rw [if_pos c]
    exact h0 c
  · rw [if_neg c]
    have h1 := h1 c
    have h2 := h2 c
    have h3 := h3 c
    simp only at nb
    exact e_rsB (a := a) (p := q) h.si68 (hc.si68 (by decide)) hv (by omega) (s68 M _) (by simp [va_up, g0]) (by simp [va_up, g1]) (by simp [va_up, g2]) (by simp [va_up, g3]) (by simp [va_up, g4]) (by simp [va_up]) hr hf (fun x => by rw [si_si]; exact h1 x) (fun x y => by rw [si_si]; exact h2 x y) (fun x y => by rw [si_si]; exact h3 x y)
theorem rsK_m {M0 : Mm} {r a e l f : Int} (h : rsK K M n D r a e l f) (h1 : M.1 = M0.1) : rsK (fun r M2 => M2.1 = M0.1 ∧ K r M2) M n D r a e l f := ⟨fun c => ⟨h1, h.1 c⟩, fun c => ⟨h1, h.2 c⟩⟩
set_option maxRecDepth 20000 in
theorem e_rs1 {p : Nat} {f : Int} (h : TX M tl tc) (hc : CS M 11 n D) (hv : VD n D) (hp : p ≤ 100) (h68 : M.2.1 68 0 = (sy0 tl tc p).2) (g0 : ρ 0 = .inr (some 68)) (g1 : ρ 1 = .inr (some 11)) (g2 : ρ 2 = .inr (some 66)) (g3 : ρ 3 = .inl f) (g4 : ρ 4 = .inl (sy0 tl tc p).1) (hf : f = 0 ∨ f = 1) (hb : (sy0 tl tc p).1 = -1 ∨ (0 ≤ (sy0 tl tc p).1 ∧ (sy0 tl tc p).1 ≤ 32)) (hb2 : (sy0 tl tc p).2 ≤ 500) (h0 : (sy tl tc p).1 ≠ 1 → Rt 0 (si M 68 0 (sy tl tc p).2)) (h1 : (sy tl tc p).1 = 1 → rsK Rt (si M 68 0 (sy tl tc p).2) n D (sy0 tl tc p).1 (sy1 tl tc p).1 (sy2 tl tc p).1 (sy3 tl tc p).1 f) : rs1 W Rt ρ M := by
  simp only [rs1_e, g0, g1, g2, g3, g4, iC, iL, iF, iA, iAc, iLen, iT, iAdd, iSub, iMul, iDiv, iRem, iNeg, iCh, iAnd31, iQ, iMax, iMin, iAbs, iCallS, iCallV, aN, aI, aR, rL, rF, rA, cEq, cNe, cLt, cGe, cGt, cLe, cAnd, cOr, cNot, cNull, sSkip, sSeq, sLoc, sLocR, sInc, sPut, sPutR, sPutAdd, sPutSub, sAst, sCst, sRst, sAstAdd, sAstSub, sIf1, sIf, sRet, sRetV, sCallV, sCallS, sPop, sCopy, sCopyT, sObj, sSw, ent_0, ent_1, ent_2, ent_3, ent_4, ent_5, ent_6, va_up_self, va_up_ne, ne_eq, Nat.reduceEqDiff, not_false_eq_true, not_true_eq_false, si_1, si_2, si_g, sr_1, sr_2, cp_1, cp_2, List.length_cons, List.length_nil, Nat.reduceAdd, true_and, and_true, and_self, eq_self, true_implies, forall_const, Bool.false_eq_true, false_implies, or_true, true_or, Option.some.injEq, Prod.mk.injEq, exists_eq_left', exists_eq', exists_and_left, reduceIte, Int.reduceEq, Int.reduceNe]
  unfold sy at h0 h1
  by_cases c0 : (sy0 tl tc p).1 = -1
  · rw [if_pos c0]
    rw [if_pos c0] at h0
    have := h0 (show ¬ ((0 : Int) = 1) by decide)
    rw [si_self h68] at this
    exact this
  · rw [if_neg c0]
    rw [if_neg c0] at h0 h1
    refine e_rsA (a := (sy1 tl tc p).1) (q := (sy1 tl tc p).2) h hc hv (by omega) h68 g0 g1 g2 g3 g4 (by omega) hf rfl (fun c1 => ?_) (fun c1 c2 => ?_) (fun c1 c2 c3 => ?_) (fun c1 c2 c3 => ?_)
    · rw [if_pos c1] at h0
      exact h0 (show ¬ ((0 : Int) = 1) by decide)
    · have c2' : (sy2 tl tc p).1 = -1 := c2
      rw [if_neg c1, if_pos c2'] at h0
      exact h0 (show ¬ ((0 : Int) = 1) by decide)
    · have c2' : ¬ (sy2 tl tc p).1 = -1 := c2
      have c3' : (sy3 tl tc p).1 = -1 := c3
      rw [if_neg c1, if_neg c2', if_pos c3'] at h0
      exact h0 (show ¬ ((0 : Int) = 1) by decide)
    · have c2' : ¬ (sy2 tl tc p).1 = -1 := c2
      have c3' : ¬ (sy3 tl tc p).1 = -1 := c3
      rw [if_neg c1, if_neg c2', if_neg c3'] at h1
      exact h1 rfl
set_option maxRecDepth 20000 in
theorem e_readSyllable {p : Nat} {f : Int} (h : TX M tl tc) (hc : CS M 11 n D) (hv : VD n D) (hp : p ≤ 100) (h68 : M.2.1 68 0 = p) (hf : f = 0 ∨ f = 1) (h0 : (sy tl tc p).1 ≠ 1 → K 0 (si M 68 0 (sy tl tc p).2)) (h1 : (sy tl tc p).1 = 1 → rsK K (si M 68 0 (sy tl tc p).2) n D (sy0 tl tc p).1 (sy1 tl tc p).1 (sy2 tl tc p).1 (sy3 tl tc p).1 f) : m_X2_readSyllable [.inr (some 68), .inr (some 11), .inr (some 66), .inl f] K M := by
  have hb := h.2.2.2.2.1
  simp only [m_X2_readSyllable, mk0, B_rs, h.2.2.2.1, iC, iL, iF, iA, iAc, iLen, iT, iAdd, iSub, iMul, iDiv, iRem, iNeg, iCh, iAnd31, iQ, iMax, iMin, iAbs, iCallS, iCallV, aN, aI, aR, rL, rF, rA, cEq, cNe, cLt, cGe, cGt, cLe, cAnd, cOr, cNot, cNull, sSkip, sSeq, sLoc, sLocR, sInc, sPut, sPutR, sPutAdd, sPutSub, sAst, sCst, sRst, sAstAdd, sAstSub, sIf1, sIf, sRet, sRetV, sCallV, sCallS, sPop, sCopy, sCopyT, sObj, sSw, ent_0, ent_1, ent_2, ent_3, ent_4, ent_5, ent_6, va_up_self, va_up_ne, ne_eq, Nat.reduceEqDiff, not_false_eq_true, not_true_eq_false, si_1, si_2, si_g, sr_1, sr_2, cp_1, cp_2, List.length_cons, List.length_nil, Nat.reduceAdd, true_and, and_true, and_self, eq_self, true_implies, forall_const, Bool.false_eq_true, false_implies, or_true, true_or, Option.some.injEq, Prod.mk.injEq, exists_eq_left', exists_eq', exists_and_left, reduceIte, Int.reduceEq, Int.reduceNe]
  refine (e_skip h (by omega) h68).mpr ?_
  have fin : ∀ (M1 : Mm) (r : Int), M1 = si M 68 0 (sy0 tl tc p).2 → r = (sy0 tl tc p).1 → ((sy0 tl tc p).1 = -1 ∨ (0 ≤ (sy0 tl tc p).1 ∧ (sy0 tl tc p).1 ≤ 32)) → (sy0 tl tc p).2 ≤ 500 → rs1 (fun _ _ => False) (fun r M2 => M2.1 = M.1 ∧ K r M2) (va_up (ent [.inr (some 68), .inr (some 11), .inr (some 66), .inl f] 0 0) 4 (.inl r)) M1 := by
    intro M1 r e1 e2 b1 b2
    subst e1
    exact e_rs1 (p := p) (f := f) h.si68 (hc.si68 (by decide)) hv hp (s68 M _) rfl rfl rfl rfl (by rw [e2]; rfl) hf b1 b2 (fun c => by rw [si_si]; exact ⟨rfl, h0 c⟩) (fun c => by rw [si_si]; exact rsK_m (h1 c) rfl)
  by_cases c : p < tl ∧ tc p = 46
  · have e0 : sy0 tl tc p = num tl tc (p + 1) 1 32 := if_pos c
    have nb := num_b tl tc (p + 1) (lo := 1) (hi := 32) (.inr rfl) (by decide)
    rw [if_pos c, if_pos (by decide)]
    refine ⟨⟨0, h.2.2.2.1⟩, e_readNumber h.si68 (by omega) (.inr rfl) (by decide) (s68 M (p + 1)) ?_⟩
    rw [si_si]
    exact fin _ _ (by rw [e0]) (by rw [e0]) (by rw [e0]; omega) (by rw [e0]; omega)
  · have e0 : sy0 tl tc p = (0, p) := if_neg c
    rw [if_neg c, if_neg (by decide)]
    exact fin _ _ (by rw [e0]; exact (si_self h68).symm) (by rw [e0]) (by rw [e0]; exact .inr ⟨Int.le_refl 0, show (0 : Int) ≤ 32 by decide⟩) (by rw [e0]; show p ≤ 500; omega)
end RD3
