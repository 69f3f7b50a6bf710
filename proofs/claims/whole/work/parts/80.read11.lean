section RD11
variable {K : Int → Mm → Prop} {M : Mm} {tl : Nat} {tc : Nat → Int} {W : En → Mm → Prop} {Rt : Int → Mm → Prop} {ρ : En}
theorem rst_1 {tl : Nat} {tc : Nat → Int} {q : RS} {p : Nat} {f : Int} (h : (sy tl tc p).1 ≠ 1) : rst tl tc q p f = (2, (sy tl tc p).2, q.n, q.D, q.T) := if_neg h
set_option maxRecDepth 20000 in
theorem e_txC {d : Int} {S : Sg} {k : Nat} (h : TM M tl tc) (g0 : ρ 0 = .inr (some 80)) (g1 : ρ 1 = .inl d) (hC : GoC M d S tl tc k)
    (hend : (rd tl tc k).s = 0 → ¬ ((rd tl tc k).p < tl) → Rt 1 M)
    (hgo : k ≤ 14 → ∀ (ρ2 : En) (M2 : Mm), FrT M M2 → ρ2 0 = .inr (some 80) → ρ2 1 = .inl d → ((ρ2 3 = .inl 0 ∧ (rd tl tc (k + 1)).s = 2 ∧ M2.2.1 80 13 = ((rd tl tc (k + 1)).p : Nat) ∧ (d = 0 → RW M2 81 0 S)) ∨ (ρ2 3 = .inl 1 ∧ ∃ q0 p f, ρ2 2 = .inl f ∧ GoB M2 d S tl tc (k + 1) q0 p f)) → W ρ2 M2) : txC W Rt ρ M := by
  have htl := h.2.1
  have hI := rd_I htl (tc := tc) k
  have hp80 := rd_p htl (tc := tc) k
  obtain ⟨c1, c2, c3, c4, c5⟩ := hC
  obtain ⟨i1, i2, i3⟩ := hI.2.1 c1
  simp only [txC_e, g0, g1, h.1.1, c2, h.2.2.1, iC, iL, iF, iA, iAc, iLen, iT, iAdd, iSub, iMul, iDiv, iRem, iNeg, iCh, iAnd31, iQ, iMax, iMin, iAbs, iCallS, iCallV, aN, aI, aR, rL, rF, rA, cEq, cNe, cLt, cGe, cGt, cLe, cAnd, cOr, cNot, cNull, sSkip, sSeq, sLoc, sLocR, sInc, sPut, sPutR, sPutAdd, sPutSub, sAst, sCst, sRst, sAstAdd, sAstSub, sIf1, sIf, sRet, sRetV, sCallV, sCallS, sPop, sCopy, sCopyT, sObj, sSw, ent_0, ent_1, ent_2, ent_3, ent_4, ent_5, ent_6, va_up_self, va_up_ne, ne_eq, Nat.reduceEqDiff, not_false_eq_true, not_true_eq_false, si_1, si_2, si_g, sr_1, sr_2, cp_1, cp_2, List.length_cons, List.length_nil, Nat.reduceAdd, true_and, and_true, and_self, eq_self, true_implies, forall_const, Bool.false_eq_true, false_implies, or_true, true_or, Option.some.injEq, Prod.mk.injEq, exists_eq_left', exists_eq', exists_and_left, reduceIte, Int.reduceEq, Int.reduceNe]
  by_cases e : (rd tl tc k).p = tl
  · rw [if_pos (by omega)]
    exact hend c1 (by omega)
  · rw [if_neg (by omega)]
    have hlt : (rd tl tc k).p < tl := by omega
    have hn := rd_go k ⟨c1, hlt⟩
    have hk : k ≤ 14 := by have := hI.2.2.1; omega
    have er : rd tl tc (k + 1) = if tc (rd tl tc k).p = 47 then rst tl tc (rd tl tc k) ((rd tl tc k).p + 1) 1 else if tc (rd tl tc k).p = 44 then rst tl tc (rd tl tc k) ((rd tl tc k).p + 1) 0 else (2, (rd tl tc k).p, (rd tl tc k).n, (rd tl tc k).D, (rd tl tc k).T) := if_pos ⟨c1, hlt⟩
    refine e_txD (P := (rd tl tc k).p) h c2 (by omega) hlt g0 (fun f M2 hf f2 p2 t2 => ?_) (fun e47 e44 => ?_)
    · have er2 : rd tl tc (k + 1) = rst tl tc (rd tl tc k) ((rd tl tc k).p + 1) f := by
        rcases hf with ⟨a, rfl⟩ | ⟨a, rfl⟩
        · rw [er, if_pos a]
        · rw [er, if_neg (by omega), if_pos a]
      have o81 : ∀ j, M2.2.1 81 j = M.2.1 81 j := fun j => f2.2.2 _ _ (by omega) (by decide)
      refine hgo hk _ M2 f2.t (by simp [va_up, g0]) (by simp [va_up, g1]) ?_
      rcases sy_01 tl tc ((rd tl tc k).p + 1) with es | es
      · have er3 := er2.trans (rst_1 (by omega))
        refine .inl ⟨by rw [es]; simp [va_up], by rw [er3]; rfl, by rw [er3]; exact p2, fun x => (c5.1 x).fr o81⟩
      · refine .inr ⟨by rw [es]; simp [va_up], rd tl tc k, (rd tl tc k).p + 1, f, by simp [va_up], by omega, es, er2, p2, t2 es, by rw [f2.2.2 _ _ (by decide) (by decide)]; exact c3, ⟨hI.2.2.2.1, by omega⟩, hI.2.2.1, hI.2.2.2.2, c5.fr o81⟩
    · refine hgo hk _ M ⟨rfl, rfl, fun _ _ _ _ _ => rfl⟩ (by simp [va_up, g0]) (by simp [va_up, g1]) (.inl ⟨by simp [va_up], ?_, ?_, c5.1⟩)
      · rw [er, if_neg e47, if_neg e44]; rfl
      · rw [er, if_neg e47, if_neg e44]; exact c2
set_option maxRecDepth 20000 in
theorem e_readText {d : Int} {S : Sg} (h : TM M tl tc) (hr : RW M 81 0 S) (hd : d = 0 ∨ d = 1) (hd1 : d = 1 → S.n = 0 ∧ (rd tl tc 59).s = 0 ∧ (rd tl tc 59).T ≤ 600)
    (hK : ∀ M2, FrT M M2 → M2.2.1 80 13 = ((rd tl tc 59).p : Nat) → ((rd tl tc 59).s = 0 → M2.2.1 80 15 = (rd tl tc 59).T) → (d = 0 → RW M2 81 0 S) → (d = 1 → RW M2 81 0 ((rd tl tc 59).n, (rd tl tc 59).D, S.st, S.sg)) → K (if (rd tl tc 59).s = 0 then 1 else 0) M2) : m_X7_readText [.inr (some 80), .inl d] K M := by
  have htl := h.2.1
  have m0 := h.1.1
  simp only [m_X7_readText, mk0, B_tx, m0, iC, iL, iF, iA, iAc, iLen, iT, iAdd, iSub, iMul, iDiv, iRem, iNeg, iCh, iAnd31, iQ, iMax, iMin, iAbs, iCallS, iCallV, aN, aI, aR, rL, rF, rA, cEq, cNe, cLt, cGe, cGt, cLe, cAnd, cOr, cNot, cNull, sSkip, sSeq, sLoc, sLocR, sInc, sPut, sPutR, sPutAdd, sPutSub, sAst, sCst, sRst, sAstAdd, sAstSub, sIf1, sIf, sRet, sRetV, sCallV, sCallS, sPop, sCopy, sCopyT, sObj, sSw, ent_0, ent_1, ent_2, ent_3, ent_4, ent_5, ent_6, va_up_self, va_up_ne, ne_eq, Nat.reduceEqDiff, not_false_eq_true, not_true_eq_false, si_1, si_2, si_g, sr_1, sr_2, cp_1, cp_2, List.length_cons, List.length_nil, Nat.reduceAdd, true_and, and_true, and_self, eq_self, true_implies, forall_const, Bool.false_eq_true, false_implies, or_true, true_or, Option.some.injEq, Prod.mk.injEq, exists_eq_left', exists_eq', exists_and_left, reduceIte, Int.reduceEq, Int.reduceNe]
  have e0 : rd tl tc 0 = rst tl tc (0, 0, 0, (fun _ _ => 0), 0) 0 1 := rfl
  have h1 : TM (si (si M 80 13 0) 80 15 0) tl tc := by
    refine ⟨h.1, htl, ?_, fun i hi => ?_⟩
    · simp only [si_g, ent_0, ent_1, ent_2, ent_3, ent_4, ent_5, ent_6, va_up_self, va_up_ne, ne_eq, Nat.reduceEqDiff, not_false_eq_true, not_true_eq_false, si_1, si_2, si_g, sr_1, sr_2, cp_1, cp_2, List.length_cons, List.length_nil, Nat.reduceAdd, true_and, and_true, and_self, eq_self, true_implies, forall_const, Bool.false_eq_true, false_implies, or_true, true_or, Option.some.injEq, Prod.mk.injEq, exists_eq_left', exists_eq', exists_and_left, reduceIte, Int.reduceEq, Int.reduceNe]; exact h.2.2.1
    · rw [si_g, if_neg (by omega), si_g, if_neg (by omega)]; exact h.2.2.2 i hi
  have o81 : ∀ j, (si (si M 80 13 0) 80 15 0).2.1 81 j = M.2.1 81 j := fun j => by rw [si_g, if_neg (by omega), si_g, if_neg (by omega)]
  have fr1 : FrT M (si (si M 80 13 0) 80 15 0) := ⟨rfl, rfl, fun q j h1 _ _ => by rw [si_g, if_neg (fun e => h1 ⟨e.1, .inr e.2⟩), si_g, if_neg (fun e => h1 ⟨e.1, .inl e.2⟩)]⟩
  refine e_readSyl7 (p := 0) h1 (by simp only [si_g, ent_0, ent_1, ent_2, ent_3, ent_4, ent_5, ent_6, va_up_self, va_up_ne, ne_eq, Nat.reduceEqDiff, not_false_eq_true, not_true_eq_false, si_1, si_2, si_g, sr_1, sr_2, cp_1, cp_2, List.length_cons, List.length_nil, Nat.reduceAdd, true_and, and_true, and_self, eq_self, true_implies, forall_const, Bool.false_eq_true, false_implies, or_true, true_or, Option.some.injEq, Prod.mk.injEq, exists_eq_left', exists_eq', exists_and_left, reduceIte, Int.reduceEq, Int.reduceNe]; rfl) (by decide) (fun M2 f2 p2 t2 => ?_)
  have u15 : M2.2.1 80 15 = 0 := by rw [f2.2.2 _ _ (by decide) (by decide)]; exact s_self _ _ _ _
  have o81b : ∀ j, M2.2.1 81 j = M.2.1 81 j := fun j => (f2.2.2 _ _ (by omega) (by decide)).trans (o81 j)
  have fr2 : FrT M M2 := fr1.tr f2.t
  simp only [txW, iC, iL, iF, iA, iAc, iLen, iT, iAdd, iSub, iMul, iDiv, iRem, iNeg, iCh, iAnd31, iQ, iMax, iMin, iAbs, iCallS, iCallV, aN, aI, aR, rL, rF, rA, cEq, cNe, cLt, cGe, cGt, cLe, cAnd, cOr, cNot, cNull, sSkip, sSeq, sLoc, sLocR, sInc, sPut, sPutR, sPutAdd, sPutSub, sAst, sCst, sRst, sAstAdd, sAstSub, sIf1, sIf, sRet, sRetV, sCallV, sCallS, sPop, sCopy, sCopyT, sObj, sSw, ent_0, ent_1, ent_2, ent_3, ent_4, ent_5, ent_6, va_up_self, va_up_ne, ne_eq, Nat.reduceEqDiff, not_false_eq_true, not_true_eq_false, si_1, si_2, si_g, sr_1, sr_2, cp_1, cp_2, List.length_cons, List.length_nil, Nat.reduceAdd, true_and, and_true, and_self, eq_self, true_implies, forall_const, Bool.false_eq_true, false_implies, or_true, true_or, Option.some.injEq, Prod.mk.injEq, exists_eq_left', exists_eq', exists_and_left, reduceIte, Int.reduceEq, Int.reduceNe]
  refine while_n (n := 60) (fun r ρ M2 => ∃ k, k + r = 60 ∧ ρ 0 = .inr (some 80) ∧ ρ 1 = .inl d ∧ FrT M M2 ∧ ((ρ 3 = .inl 0 ∧ (rd tl tc k).s = 2 ∧ M2.2.1 80 13 = ((rd tl tc k).p : Nat) ∧ (d = 0 → RW M2 81 0 S)) ∨ (ρ 3 = .inl 1 ∧ ∃ q0 p f, ρ 2 = .inl f ∧ GoB M2 d S tl tc k q0 p f))) ?_ ⟨0, rfl, rfl, rfl, fr2, ?_⟩
  · rintro r W hW ρ M3 ⟨k, hk, g0, g1, fr3, hs⟩
    rcases hs with ⟨g3, s2, p3, R0⟩ | ⟨g3, q0, p, f, g2, hB⟩
    · simp only [g3, iC, iL, iF, iA, iAc, iLen, iT, iAdd, iSub, iMul, iDiv, iRem, iNeg, iCh, iAnd31, iQ, iMax, iMin, iAbs, iCallS, iCallV, aN, aI, aR, rL, rF, rA, cEq, cNe, cLt, cGe, cGt, cLe, cAnd, cOr, cNot, cNull, sSkip, sSeq, sLoc, sLocR, sInc, sPut, sPutR, sPutAdd, sPutSub, sAst, sCst, sRst, sAstAdd, sAstSub, sIf1, sIf, sRet, sRetV, sCallV, sCallS, sPop, sCopy, sCopyT, sObj, sSw, ent_0, ent_1, ent_2, ent_3, ent_4, ent_5, ent_6, va_up_self, va_up_ne, ne_eq, Nat.reduceEqDiff, not_false_eq_true, not_true_eq_false, si_1, si_2, si_g, sr_1, sr_2, cp_1, cp_2, List.length_cons, List.length_nil, Nat.reduceAdd, true_and, and_true, and_self, eq_self, true_implies, forall_const, Bool.false_eq_true, false_implies, or_true, true_or, Option.some.injEq, Prod.mk.injEq, exists_eq_left', exists_eq', exists_and_left, reduceIte, Int.reduceEq, Int.reduceNe]
      have hng : ¬ ((rd tl tc k).s = 0 ∧ (rd tl tc k).p < tl) := fun x => by omega
      have e59 := rd_end htl hng
      rw [e59] at s2 p3
      have := hK M3 fr3 p3 (fun x => absurd x (by omega)) R0 (fun x => absurd (hd1 x).2.1 (by omega))
      rw [if_neg (by omega)] at this
      exact ⟨fr3.1, this⟩
    · simp only [g3, iC, iL, iF, iA, iAc, iLen, iT, iAdd, iSub, iMul, iDiv, iRem, iNeg, iCh, iAnd31, iQ, iMax, iMin, iAbs, iCallS, iCallV, aN, aI, aR, rL, rF, rA, cEq, cNe, cLt, cGe, cGt, cLe, cAnd, cOr, cNot, cNull, sSkip, sSeq, sLoc, sLocR, sInc, sPut, sPutR, sPutAdd, sPutSub, sAst, sCst, sRst, sAstAdd, sAstSub, sIf1, sIf, sRet, sRetV, sCallV, sCallS, sPop, sCopy, sCopyT, sObj, sSw, ent_0, ent_1, ent_2, ent_3, ent_4, ent_5, ent_6, va_up_self, va_up_ne, ne_eq, Nat.reduceEqDiff, not_false_eq_true, not_true_eq_false, si_1, si_2, si_g, sr_1, sr_2, cp_1, cp_2, List.length_cons, List.length_nil, Nat.reduceAdd, true_and, and_true, and_self, eq_self, true_implies, forall_const, Bool.false_eq_true, false_implies, or_true, true_or, Option.some.injEq, Prod.mk.injEq, exists_eq_left', exists_eq', exists_and_left, reduceIte, Int.reduceEq, Int.reduceNe]
      refine e_txA (k := k) (fr3.tm h) (by omega) hd (fun x => ?_) g0 g1 g2 hB (fun M4 fr4 hC => ?_)
      · by_cases k59 : k ≤ 59
        · have := rd_T tl tc k (59 - k)
          rw [show k + (59 - k) = 59 by omega] at this
          exact Int.le_trans this (hd1 x).2.2
        · have := rd_I htl (tc := tc) 59
          have h59 : ¬ ((rd tl tc 59).s = 0 ∧ (rd tl tc 59).p < tl) := fun h2 => by
            have h3 := rd_go 59 h2
            have h4 := this.2.2.1
            omega
          have := rd_fix h59 (k - 59)
          rw [show 59 + (k - 59) = k by omega] at this
          rw [this]
          exact (hd1 x).2.2
      · have fr5 := fr3.tr fr4
        refine e_txC (fr5.tm h) g0 g1 hC (fun s0 pn => ?_) (fun k14 ρ2 M5 fr6 x0 x1 hs2 => hW ρ2 M5 (by omega) ⟨k + 1, by omega, x0, x1, fr5.tr fr6, hs2⟩)
        have e59 := rd_end htl (k := k) (fun x => pn x.2)
        obtain ⟨c1, c2, c3, c4, c5⟩ := hC
        rw [e59] at c1 c2 c3 c5
        have := hK M4 fr5 c2 (fun _ => c3) c5.1 c5.2
        rw [if_pos c1] at this
        exact ⟨fr5.1, this⟩
  · rcases sy_01 tl tc 0 with es | es
    · have er := e0.trans (rst_1 (by omega))
      exact .inl ⟨by rw [es]; simp [va_up], by rw [er]; rfl, by rw [er]; exact p2, fun _ => hr.fr o81b⟩
    · refine .inr ⟨by rw [es]; simp [va_up], _, 0, 1, by simp [va_up], .inr rfl, es, e0, p2, t2 es, u15, ⟨Int.le_refl 0, Int.le_refl 0⟩, Nat.zero_le 15, fun _ => ⟨VD_0 _, rfl⟩, fun _ => hr.fr o81b, fun x => ?_⟩
      have := hr.fr o81b
      refine ⟨Nat.zero_le 40, ?_, fun k hk => absurd hk (Nat.not_lt_zero k), this.2.2.2.1, this.2.2.2.2⟩
      rw [this.2.1, (hd1 x).1]
      rfl
end RD11
