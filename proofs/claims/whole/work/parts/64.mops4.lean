theorem MN_sung {M : Mm} {A : Ab} {S : Sg} {G g2 : Nat → Int} (h : MI M A) (hS : A.now = S) (h1 : ∀ j, j < 206 → G j = M.2.1 81 j) (h2 : ∀ t, t < 600 → G (206 + t) = g2 t + 1) : MN M (sa M 81 G) (setN A (S.n, S.D, S.st, g2)) := by
  subst hS
  have hr := h.nw
  refine ⟨MI_setN h (h.fx.fr' rfl rfl) (fun q j h1 h2 h3 => by rw [sa_g, if_neg (by omega)]) ⟨hr.1, ?_, fun k hk w hw => ?_, fun i hi => ?_, fun t ht => ?_⟩, rfl, rfl, fun q j hq => by rw [sa_g, if_neg (by omega)]⟩
  · rw [sa_g, if_pos rfl, h1 _ (by omega)]; exact hr.2.1
  · have hk2 : k < A.now.n := hk
    have := hr.1
    rw [sa_g, if_pos rfl, h1 _ (by omega)]; exact hr.2.2.1 k hk w hw
  · rw [sa_g, if_pos rfl, h1 _ (by omega)]; exact hr.2.2.2.1 i hi
  · rw [sa_g, if_pos rfl, Nat.zero_add]; exact h2 t ht
section MOPS4
variable {K : Int → Mm → Prop} {M : Mm} {A : Ab} {n : Nat} {D : Nat → Nat → Int} {st sg : Nat → Int}
theorem e_hitsM {Q : Int → Mm → Prop} (h : MI M A) (hV : A.now.V) (hK : ∀ M2, MN M M2 A → Q (hitsA A.now) M2) : m_X7_judgeSong [.inr (some 80)] (fun _ M2 => (∃ w, M2.1[80]? = some (7, w)) ∧ m_X7_hits [.inr (some 80)] Q M2) M := by
  obtain ⟨hm, hG⟩ := h.r
  refine e_judgeSong hm hG hV.2.2 hV.1 hV.2.1 (fun M2 j => ?_)
  have hf2 := h.fx.fr' j.1.1 j.1.2.1
  have n2 : MN M M2 A := ⟨h.fr hf2 (fun q i h1 h2 => j.1.2.2 q i (by omega)), j.1.1, j.1.2.1, fun q i hq => j.1.2.2 q i (by omega)⟩
  exact ⟨⟨0, hf2.md.1⟩, e_hits7 (j.m hm) (fun i hi => (j.2.2 i hi).2.2.1) (hK M2 n2)⟩
def singTl : ST := (sSeq (sCallV 7 m_X7_judgeSong (rL 0) (aN)) (sRet false (iCallV 7 m_X7_hits (rL 0) (aN))))
theorem B_sing7 : B_X7_sing = sSeq (sIf1 (cOr (cOr (cOr (cNot (cNe (iCallS m_X7_isTick (aI (iL 1) (aN))) (iC 0))) (cNot (cNe (iCallS m_X7_in (aI (iL 2) (aI (iC 1) (aI (iC 64) (aN))))) (iC 0)))) (cGt (iAdd (iL 1) (iL 2)) (iC 600))) (cNot (cNe (iCallS m_X7_isPitch (aI (iL 3) (aN))) (iC 0)))) (sRet false (iC (-2)))) (sSeq (sCallV 7 m_X7_record (rL 0) (aN)) (sSeq (sSeq (sLoc 4 (iL 1)) (sWhile (cLt (iL 4) (iAdd (iL 1) (iL 2))) (sSeq (sAst (rF 7 0 (rL 0)) (iAdd (iC 206) (iL 4)) (iAdd (iL 3) (iC 1))) (sInc 4 1)))) singTl)) := rfl
set_option maxRecDepth 20000 in
theorem d_sing {t c p : Int} (h : MI M A) (hV : A.V) (hK : ∀ M2, MN M M2 (singR A t c p).2 → K (singR A t c p).1 M2) : m_X7_sing [.inr (some 80), .inl t, .inl c, .inl p] K M := by
  obtain ⟨m0, mA, mR⟩ := h.fx.md
  unfold singR at hK
  simp only [m0, e_isTick, e_in, e_isPitch, m_X7_sing, mk0, B_sing7, iC, iL, iF, iA, iAc, iLen, iT, iAdd, iSub, iMul, iDiv, iRem, iNeg, iCh, iAnd31, iQ, iMax, iMin, iAbs, iCallS, iCallV, aN, aI, aR, rL, rF, rA, cEq, cNe, cLt, cGe, cGt, cLe, cAnd, cOr, cNot, cNull, sSkip, sSeq, sLoc, sLocR, sInc, sPut, sPutR, sPutAdd, sPutSub, sAst, sCst, sRst, sAstAdd, sAstSub, sIf1, sIf, sRet, sRetV, sCallV, sCallS, sPop, sCopy, sCopyT, sObj, sSw, ent_0, ent_1, ent_2, ent_3, ent_4, ent_5, ent_6, va_up_self, va_up_ne, ne_eq, Nat.reduceEqDiff, not_false_eq_true, not_true_eq_false, si_1, si_2, si_g, sr_1, sr_2, cp_1, cp_2, List.length_cons, List.length_nil, Nat.reduceAdd, true_and, and_true, and_self, eq_self, true_implies, forall_const, Bool.false_eq_true, false_implies, or_true, true_or, Option.some.injEq, Prod.mk.injEq, exists_eq_left', exists_eq', exists_and_left, reduceIte, Int.reduceEq, Int.reduceNe]
  by_cases c1 : 0 ≤ t ∧ t ≤ 599
  · by_cases c2 : 1 ≤ c ∧ c ≤ 64
    · have r1 : inR (t + c) := inR_s (by omega) (by omega)
      by_cases c3 : t + c ≤ 600
      · have c3' : ¬ 600 < t + c := by omega
        by_cases c4 : 0 ≤ p ∧ p ≤ 60
        · simp only [c1, c2, c3, c3', c4, r1, m0, and_self, if_true, if_false, ent_0, ent_1, ent_2, ent_3, ent_4, ent_5, ent_6, va_up_self, va_up_ne, ne_eq, Nat.reduceEqDiff, not_false_eq_true, not_true_eq_false, si_1, si_2, si_g, sr_1, sr_2, cp_1, cp_2, List.length_cons, List.length_nil, Nat.reduceAdd, true_and, and_true, and_self, eq_self, true_implies, forall_const, Bool.false_eq_true, false_implies, or_true, true_or, Option.some.injEq, Prod.mk.injEq, exists_eq_left', exists_eq', exists_and_left, reduceIte, Int.reduceEq, Int.reduceNe] at hK ⊢
          refine e_record7 h hV.c4 (fun M2 n2 => ?_)
          obtain ⟨k0, kA, kR⟩ := n2.1.fx.md
          have hr2 := n2.1.nw
          refine while_n (n := c.toNat) (fun r ρ M3 => ∃ k : Nat, k + r = c.toNat ∧ ρ 0 = .inr (some 80) ∧ ρ 1 = .inl t ∧ ρ 2 = .inl c ∧ ρ 3 = .inl p ∧ ρ 4 = .inl (t + k) ∧ M3 = sa M2 81 (fun j => if 206 + t.toNat ≤ j ∧ j < 206 + t.toNat + k then p + 1 else M2.2.1 81 j)) ?_ ⟨0, by omega, by simp [va_up, ent_0], by simp [va_up, ent_1], by simp [va_up, ent_2], by simp [va_up, ent_3], by simp [va_up], (sa_self (fun b => if_neg (by omega))).symm⟩
          rintro r W hW ρ M3 ⟨k, hr, h0, h1, h2, h3, h4, rfl⟩
          simp only [h0, h1, h2, h3, h4, k0, kA, kR, sa_1, sa_2, r1, iC, iL, iF, iA, iAc, iLen, iT, iAdd, iSub, iMul, iDiv, iRem, iNeg, iCh, iAnd31, iQ, iMax, iMin, iAbs, iCallS, iCallV, aN, aI, aR, rL, rF, rA, cEq, cNe, cLt, cGe, cGt, cLe, cAnd, cOr, cNot, cNull, sSkip, sSeq, sLoc, sLocR, sInc, sPut, sPutR, sPutAdd, sPutSub, sAst, sCst, sRst, sAstAdd, sAstSub, sIf1, sIf, sRet, sRetV, sCallV, sCallS, sPop, sCopy, sCopyT, sObj, sSw, ent_0, ent_1, ent_2, ent_3, ent_4, ent_5, ent_6, va_up_self, va_up_ne, ne_eq, Nat.reduceEqDiff, not_false_eq_true, not_true_eq_false, si_1, si_2, si_g, sr_1, sr_2, cp_1, cp_2, List.length_cons, List.length_nil, Nat.reduceAdd, true_and, and_true, and_self, eq_self, true_implies, forall_const, Bool.false_eq_true, false_implies, or_true, true_or, Option.some.injEq, Prod.mk.injEq, exists_eq_left', exists_eq', exists_and_left, reduceIte, Int.reduceEq, Int.reduceNe]
          by_cases hk : k < c.toNat
          · rw [if_pos (by omega)]
            have r2 : inR (206 + (t + (k : Int))) := inR_s (by omega) (by omega)
            have r3 : inR (p + 1) := inR_s (by omega) (by omega)
            have r4 : inR (t + (k : Int) + 1) := inR_s (by omega) (by omega)
            have e1 : (206 + (t + (k : Int))).toNat = 206 + t.toNat + k := by omega
            refine ⟨r2, r3, by omega, by omega, r4, hW _ _ (by omega) ⟨k + 1, by omega, by simp [va_up, h0], by simp [va_up, h1], by simp [va_up, h2], by simp [va_up, h3], by simp [va_up]; omega, ?_⟩⟩
            rw [e1, si_sa]
            refine sa_cong (fun j => ?_)
            by_cases hj : j = 206 + t.toNat + k
            · rw [if_pos hj, if_pos (by omega)]
            · rw [if_neg hj]
              by_cases hj2 : 206 + t.toNat ≤ j ∧ j < 206 + t.toNat + k
              · rw [if_pos hj2, if_pos (by omega)]
              · rw [if_neg hj2, if_neg (by omega)]
          · rw [if_neg (by omega)]
            have ek : k = c.toNat := by omega
            have n3 : MN M2 (sa M2 81 (fun j => if 206 + t.toNat ≤ j ∧ j < 206 + t.toNat + k then p + 1 else M2.2.1 81 j)) (setN (recA A) (vcS A.now t c p)) := MN_sung n2.1 (show (recA A).now = A.now from rfl) (fun j hj => if_neg (by omega)) (fun u hu => by
              have ec : clp p = p := by unfold clp; rw [if_pos c4]
              show (if 206 + t.toNat ≤ 206 + u ∧ 206 + u < 206 + t.toNat + k then p + 1 else M2.2.1 81 (206 + u)) = (if t ≤ (u : Int) ∧ (u : Int) < t + c then clp p else A.now.sg u) + 1
              rw [ec]
              by_cases hu2 : t ≤ (u : Int) ∧ (u : Int) < t + c
              · rw [if_pos hu2, if_pos (by omega)]
              · rw [if_neg hu2, if_neg (by omega)]
                have := hr2.2.2.2.2 u hu
                rw [Nat.zero_add] at this
                exact this)
            generalize sa M2 81 (fun j => if 206 + t.toNat ≤ j ∧ j < 206 + t.toNat + k then p + 1 else M2.2.1 81 j) = M3 at n3 ⊢
            have n4 := n2.tr n3
            obtain ⟨j0, jA, jR⟩ := n3.1.fx.md
            simp only [singTl, h0, j0, iC, iL, iF, iA, iAc, iLen, iT, iAdd, iSub, iMul, iDiv, iRem, iNeg, iCh, iAnd31, iQ, iMax, iMin, iAbs, iCallS, iCallV, aN, aI, aR, rL, rF, rA, cEq, cNe, cLt, cGe, cGt, cLe, cAnd, cOr, cNot, cNull, sSkip, sSeq, sLoc, sLocR, sInc, sPut, sPutR, sPutAdd, sPutSub, sAst, sCst, sRst, sAstAdd, sAstSub, sIf1, sIf, sRet, sRetV, sCallV, sCallS, sPop, sCopy, sCopyT, sObj, sSw, ent_0, ent_1, ent_2, ent_3, ent_4, ent_5, ent_6, va_up_self, va_up_ne, ne_eq, Nat.reduceEqDiff, not_false_eq_true, not_true_eq_false, si_1, si_2, si_g, sr_1, sr_2, cp_1, cp_2, List.length_cons, List.length_nil, Nat.reduceAdd, true_and, and_true, and_self, eq_self, true_implies, forall_const, Bool.false_eq_true, false_implies, or_true, true_or, Option.some.injEq, Prod.mk.injEq, exists_eq_left', exists_eq', exists_and_left, reduceIte, Int.reduceEq, Int.reduceNe]
            exact e_hitsM n3.1 (vcS_V hV.nw t c p) (fun M5 n5 => ⟨(n4.tr n5).2.1, hK M5 (n4.tr n5)⟩)
        · simp only [c1, c2, c3, c3', c4, r1, and_self, and_false, if_true, if_false, ent_0, ent_1, ent_2, ent_3, ent_4, ent_5, ent_6, va_up_self, va_up_ne, ne_eq, Nat.reduceEqDiff, not_false_eq_true, not_true_eq_false, si_1, si_2, si_g, sr_1, sr_2, cp_1, cp_2, List.length_cons, List.length_nil, Nat.reduceAdd, true_and, and_true, and_self, eq_self, true_implies, forall_const, Bool.false_eq_true, false_implies, or_true, true_or, Option.some.injEq, Prod.mk.injEq, exists_eq_left', exists_eq', exists_and_left, reduceIte, Int.reduceEq, Int.reduceNe] at hK ⊢
          exact hK M h.rf
      · have c3' : 600 < t + c := by omega
        simp only [c1, c2, c3, c3', r1, and_self, and_false, false_and, if_true, if_false, ent_0, ent_1, ent_2, ent_3, ent_4, ent_5, ent_6, va_up_self, va_up_ne, ne_eq, Nat.reduceEqDiff, not_false_eq_true, not_true_eq_false, si_1, si_2, si_g, sr_1, sr_2, cp_1, cp_2, List.length_cons, List.length_nil, Nat.reduceAdd, true_and, and_true, and_self, eq_self, true_implies, forall_const, Bool.false_eq_true, false_implies, or_true, true_or, Option.some.injEq, Prod.mk.injEq, exists_eq_left', exists_eq', exists_and_left, reduceIte, Int.reduceEq, Int.reduceNe] at hK ⊢
        exact hK M h.rf
    · simp only [c1, c2, and_false, false_and, if_true, if_false, ent_0, ent_1, ent_2, ent_3, ent_4, ent_5, ent_6, va_up_self, va_up_ne, ne_eq, Nat.reduceEqDiff, not_false_eq_true, not_true_eq_false, si_1, si_2, si_g, sr_1, sr_2, cp_1, cp_2, List.length_cons, List.length_nil, Nat.reduceAdd, true_and, and_true, and_self, eq_self, true_implies, forall_const, Bool.false_eq_true, false_implies, or_true, true_or, Option.some.injEq, Prod.mk.injEq, exists_eq_left', exists_eq', exists_and_left, reduceIte, Int.reduceEq, Int.reduceNe] at hK ⊢
      exact hK M h.rf
  · simp only [c1, false_and, if_true, if_false, ent_0, ent_1, ent_2, ent_3, ent_4, ent_5, ent_6, va_up_self, va_up_ne, ne_eq, Nat.reduceEqDiff, not_false_eq_true, not_true_eq_false, si_1, si_2, si_g, sr_1, sr_2, cp_1, cp_2, List.length_cons, List.length_nil, Nat.reduceAdd, true_and, and_true, and_self, eq_self, true_implies, forall_const, Bool.false_eq_true, false_implies, or_true, true_or, Option.some.injEq, Prod.mk.injEq, exists_eq_left', exists_eq', exists_and_left, reduceIte, Int.reduceEq, Int.reduceNe] at hK ⊢
    exact hK M h.rf
end MOPS4
