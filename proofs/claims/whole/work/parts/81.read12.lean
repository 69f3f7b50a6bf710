theorem MI.tm {M : Mm} {A : Ab} (h : MI M A) (hV : A.V) : TM M A.tl A.tc := ⟨h.fx.md, hV.tl, h.tl, fun i hi => ⟨h.tc i hi, hV.tc i hi⟩⟩
theorem MI.t {M M2 : Mm} {A : Ab} {S : Sg} (h : MI M A) (f : FrT M M2) (hr : RW M2 81 0 S) : MN M M2 (setN A S) := by
  have o : ∀ q j, q ≠ 80 → q ≠ 81 → q ≠ 91 → M2.2.1 q j = M.2.1 q j := fun q j h1 h2 h3 => f.2.2 q j (fun e => h1 e.1) h3 h2
  have o80 : ∀ j, j < 13 → M2.2.1 80 j = M.2.1 80 j := fun j h1 => f.2.2 80 j (by omega) (by decide) (by decide)
  refine ⟨?_, f.1, f.2.1, fun q j hq => o q j (by omega) (by omega) (by omega)⟩
  apply MI.mk
  case fx => exact h.fx.fr' f.1 f.2.1
  case nw => exact hr
  case cn => rw [o80 _ (by decide)]; exact h.cn
  case hs => exact fun i hi => (h.hs i hi).fr (fun j => o _ _ (by decide) (by decide) (by decide))
  case fl => rw [o80 _ (by decide)]; exact h.fl
  case sn => exact fun e => (h.sn e).fr (fun j => o _ _ (by decide) (by decide) (by decide))
  case tl => rw [o80 _ (by decide)]; exact h.tl
  case tc => exact fun i hi => by rw [o _ _ (by decide) (by decide) (by decide)]; exact h.tc i hi
section RD12
variable {K : Int → Mm → Prop} {M : Mm} {A : Ab}
set_option maxRecDepth 20000 in
theorem d_read (h : MI M A) (hV : A.V) (hK : ∀ M2, MN M M2 (readR A).2 → K (readR A).1 M2) : m_X7_read [.inr (some 80)] K M := by
  obtain ⟨m0, mA, mR⟩ := h.fx.md
  have hI := rd_I hV.tl (tc := A.tc) 59
  have hp := rd_p hV.tl (tc := A.tc) 59
  have e5 : Int.toNat 5 = 5 := rfl
  unfold readR at hK
  simp only [m0, mA, mR, m_X7_read, mk0, B_X7_read, iC, iL, iF, iA, iAc, iLen, iT, iAdd, iSub, iMul, iDiv, iRem, iNeg, iCh, iAnd31, iQ, iMax, iMin, iAbs, iCallS, iCallV, aN, aI, aR, rL, rF, rA, cEq, cNe, cLt, cGe, cGt, cLe, cAnd, cOr, cNot, cNull, sSkip, sSeq, sLoc, sLocR, sInc, sPut, sPutR, sPutAdd, sPutSub, sAst, sCst, sRst, sAstAdd, sAstSub, sIf1, sIf, sRet, sRetV, sCallV, sCallS, sPop, sCopy, sCopyT, sObj, sSw, ent_0, ent_1, ent_2, ent_3, ent_4, ent_5, ent_6, va_up_self, va_up_ne, ne_eq, Nat.reduceEqDiff, not_false_eq_true, not_true_eq_false, si_1, si_2, si_g, sr_1, sr_2, cp_1, cp_2, List.length_cons, List.length_nil, Nat.reduceAdd, true_and, and_true, and_self, eq_self, true_implies, forall_const, Bool.false_eq_true, false_implies, or_true, true_or, Option.some.injEq, Prod.mk.injEq, exists_eq_left', exists_eq', exists_and_left, reduceIte, Int.reduceEq, Int.reduceNe]
  refine e_readText (d := 0) (h.tm hV) h.nw (.inl rfl) (fun e => absurd e (by decide)) (fun M2 f2 p2 u2 R0 _ => ?_)
  have n2 : MN M M2 A := h.t f2 (R0 rfl)
  obtain ⟨k0, kA, kR⟩ := n2.1.fx.md
  by_cases cs : (rd A.tl A.tc 59).s = 0
  · rw [if_pos cs] at hK ⊢
    rw [if_pos (by decide)]
    simp only [k0, kA, kR, u2 cs, ent_0, ent_1, ent_2, ent_3, ent_4, ent_5, ent_6, va_up_self, va_up_ne, ne_eq, Nat.reduceEqDiff, not_false_eq_true, not_true_eq_false, si_1, si_2, si_g, sr_1, sr_2, cp_1, cp_2, List.length_cons, List.length_nil, Nat.reduceAdd, true_and, and_true, and_self, eq_self, true_implies, forall_const, Bool.false_eq_true, false_implies, or_true, true_or, Option.some.injEq, Prod.mk.injEq, exists_eq_left', exists_eq', exists_and_left, reduceIte, Int.reduceEq, Int.reduceNe]
    by_cases ct : (rd A.tl A.tc 59).T ≤ 600
    · rw [if_pos ct] at hK
      rw [if_neg (by omega)]
      refine e_record7 n2.1 hV.c4 (fun M3 n3 => ?_)
      obtain ⟨l0, lA, lR⟩ := n3.1.fx.md
      simp only [l0, lA, lR, e5, ent_0, ent_1, ent_2, ent_3, ent_4, ent_5, ent_6, va_up_self, va_up_ne, ne_eq, Nat.reduceEqDiff, not_false_eq_true, not_true_eq_false, si_1, si_2, si_g, sr_1, sr_2, cp_1, cp_2, List.length_cons, List.length_nil, Nat.reduceAdd, true_and, and_true, and_self, eq_self, true_implies, forall_const, Bool.false_eq_true, false_implies, or_true, true_or, Option.some.injEq, Prod.mk.injEq, exists_eq_left', exists_eq', exists_and_left, reduceIte, Int.reduceEq, Int.reduceNe]
      refine ⟨by decide, by decide, ?_⟩
      have nw3 : RW M3 81 0 A.now := n3.1.nw
      have tm3 : TM M3 A.tl A.tc := n3.1.tm (recA_V hV)
      have fr4 : FrT M3 (si M3 81 5 0) := ⟨rfl, rfl, fun q j _ _ h3 => by rw [si_g, if_neg (fun e => h3 e.1)]⟩
      have rw4 : RW (si M3 81 5 0) 81 0 (0, A.now.D, A.now.st, A.now.sg) := by
        refine ⟨Nat.zero_le 40, s_self _ _ _ _, fun k hk => absurd hk (Nat.not_lt_zero k), fun j hj => ?_, fun t ht => ?_⟩
        · rw [si_g, if_neg (by omega)]; exact nw3.2.2.2.1 j hj
        · rw [si_g, if_neg (by omega)]; exact nw3.2.2.2.2 t ht
      refine e_readText (d := 1) (fr4.tm tm3) rw4 (.inr rfl) (fun _ => ⟨rfl, cs, ct⟩) (fun M5 f5 p5 u5 _ R1 => ?_)
      have n5 := n3.1.t (fr4.tr f5) (R1 rfl)
      have n6 := (n2.tr n3).tr n5
      obtain ⟨j0, jA, jR⟩ := n6.1.fx.md
      rw [if_pos cs, if_pos (by decide)]
      simp only [j0, jA, jR, e5, ent_0, ent_1, ent_2, ent_3, ent_4, ent_5, ent_6, va_up_self, va_up_ne, ne_eq, Nat.reduceEqDiff, not_false_eq_true, not_true_eq_false, si_1, si_2, si_g, sr_1, sr_2, cp_1, cp_2, List.length_cons, List.length_nil, Nat.reduceAdd, true_and, and_true, and_self, eq_self, true_implies, forall_const, Bool.false_eq_true, false_implies, or_true, true_or, Option.some.injEq, Prod.mk.injEq, exists_eq_left', exists_eq', exists_and_left, reduceIte, Int.reduceEq, Int.reduceNe]
      have e6 : M5.2.1 81 5 = ((rd A.tl A.tc 59).n : Nat) := (R1 rfl).2.1
      rw [e6]
      exact ⟨by decide, by decide, n6.2.1, hK M5 n6⟩
    · rw [if_neg ct] at hK
      rw [if_pos (by omega)]
      exact ⟨n2.2.1, hK M2 n2⟩
  · rw [if_neg cs] at hK ⊢
    rw [if_neg (by decide)]
    simp only [k0, kA, kR, p2, ent_0, ent_1, ent_2, ent_3, ent_4, ent_5, ent_6, va_up_self, va_up_ne, ne_eq, Nat.reduceEqDiff, not_false_eq_true, not_true_eq_false, si_1, si_2, si_g, sr_1, sr_2, cp_1, cp_2, List.length_cons, List.length_nil, Nat.reduceAdd, true_and, and_true, and_self, eq_self, true_implies, forall_const, Bool.false_eq_true, false_implies, or_true, true_or, Option.some.injEq, Prod.mk.injEq, exists_eq_left', exists_eq', exists_and_left, reduceIte, Int.reduceEq, Int.reduceNe]
    exact ⟨inR_s (by omega) (by omega), n2.2.1, hK M2 n2⟩
end RD12
