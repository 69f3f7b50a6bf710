theorem num_p (tl : Nat) (tc : Nat → Int) (p : Nat) (lo hi : Int) : (num tl tc p lo hi).2 ≤ p + 2 := by
  unfold num
  split
  · show p ≤ p + 2
    omega
  · split
    · show p + 1 ≤ p + 2
      omega
    · show p + 2 ≤ p + 2
      omega
theorem sy_p (tl : Nat) (tc : Nat → Int) (p : Nat) : (sy tl tc p).2 ≤ p + 12 := by
  have h0 : (sy0 tl tc p).2 ≤ p + 3 := by
    unfold sy0
    split
    · have := num_p tl tc (p + 1) 1 32
      omega
    · show p ≤ p + 3
      omega
  have h1 : (sy1 tl tc p).2 ≤ p + 5 := by
    have := num_p tl tc (sy0 tl tc p).2 0 60
    unfold sy1
    omega
  have h2 : (sy2 tl tc p).2 ≤ p + 8 := by
    unfold sy2
    split
    · have := num_p tl tc ((sy1 tl tc p).2 + 1) 0 60
      omega
    · omega
  have h3 : (sy3 tl tc p).2 ≤ p + 11 := by
    unfold sy3
    split
    · have := num_p tl tc ((sy2 tl tc p).2 + 1) 1 32
      omega
    · show (sy2 tl tc p).2 ≤ p + 11
      omega
  unfold sy
  split
  · show (sy0 tl tc p).2 ≤ p + 12
    omega
  · split
    · show (sy1 tl tc p).2 ≤ p + 12
      omega
    · split
      · show (sy2 tl tc p).2 ≤ p + 12
        omega
      · split
        · show (sy3 tl tc p).2 ≤ p + 12
          omega
        · show (sy3 tl tc p).2 ≤ p + 12
          omega
theorem rst_p (tl : Nat) (tc : Nat → Int) (q : RS) (p : Nat) (f : Int) : (rst tl tc q p f).p = (sy tl tc p).2 := by
  unfold rst
  split <;> rfl
theorem rd_p {tl : Nat} {tc : Nat → Int} (htl : tl ≤ 60) : ∀ k, (rd tl tc k).p ≤ 80
  | 0 => by
    show (rst tl tc (0, 0, 0, (fun _ _ => 0), 0) 0 1).p ≤ 80
    rw [rst_p]
    have := sy_p tl tc 0
    omega
  | k + 1 => by
    have ih := rd_p htl (tc := tc) k
    show (rdn tl tc (rd tl tc k)).p ≤ 80
    generalize rd tl tc k = q at ih ⊢
    unfold rdn
    by_cases c : q.s = 0 ∧ q.p < tl
    · rw [if_pos c]
      have := sy_p tl tc (q.p + 1)
      by_cases c1 : tc q.p = 47
      · rw [if_pos c1, rst_p]
        omega
      · rw [if_neg c1]
        by_cases c2 : tc q.p = 44
        · rw [if_pos c2, rst_p]
          omega
        · rw [if_neg c2]
          exact ih
    · rw [if_neg c]
      exact ih
section RD7
variable {K : Int → Mm → Prop} {M : Mm} {A : Ab}
theorem CI.tx {M : Mm} {A : Ab} (h : CI M A) (hV : A.V) : TX M A.tl A.tc := ⟨h.fx.x66, h.fx.r66, h.fx.x67, h.fx.x68, hV.tl, h.tl, fun i hi => ⟨h.tc i hi, hV.tc i hi⟩⟩
set_option maxRecDepth 20000 in
theorem c_read (h : CI M A) (hV : A.V) (hK : ∀ M2, CN M M2 (readR A).2 → K (readR A).1 M2) : m_X6_read [.inr (some 0)] K M := by
  have hf := h.fx
  have hI := rd_I hV.tl (tc := A.tc) 59
  unfold readR at hK
  simp only [hf.x0, hf.r0, hf.r1, hf.r2, hf.r4, hf.r5, hf.r6, hf.r7, hf.s1.1, hf.s1.2.1, hf.s1.2.2.2.2.2.2.1, hf.s10.1, hf.s10.2.1, hf.s10.2.2.2.2.2.2.1, hf.s19.1, hf.x28, hf.x66, hf.r66, hf.x67, hf.x68, hf.jd.1, m_X6_read, mk0, B_X6_read, iC, iL, iF, iA, iAc, iLen, iT, iAdd, iSub, iMul, iDiv, iRem, iNeg, iCh, iAnd31, iQ, iMax, iMin, iAbs, iCallS, iCallV, aN, aI, aR, rL, rF, rA, cEq, cNe, cLt, cGe, cGt, cLe, cAnd, cOr, cNot, cNull, sSkip, sSeq, sLoc, sLocR, sInc, sPut, sPutR, sPutAdd, sPutSub, sAst, sCst, sRst, sAstAdd, sAstSub, sIf1, sIf, sRet, sRetV, sCallV, sCallS, sPop, sCopy, sCopyT, sObj, sSw, ent_0, ent_1, ent_2, ent_3, ent_4, ent_5, ent_6, va_up_self, va_up_ne, ne_eq, Nat.reduceEqDiff, not_false_eq_true, not_true_eq_false, si_1, si_2, si_g, sr_1, sr_2, cp_1, cp_2, List.length_cons, List.length_nil, Nat.reduceAdd, true_and, and_true, and_self, eq_self, true_implies, forall_const, Bool.false_eq_true, false_implies, or_true, true_or, Option.some.injEq, Prod.mk.injEq, exists_eq_left', exists_eq', exists_and_left, reduceIte, Int.reduceEq, Int.reduceNe]
  refine e_readInto (h.tx hV) hf.s10.2.2.2.2.2.2 (fun M2 F P Q C => ?_)
  have hf2 : Fx M2 := hf.fr' F.1 F.2.1
  have n2 : CN M M2 A := ⟨h.fr hf2 (fun k => by rw [F.2.1]) (fun q j hq => F.2.2 q j (by omega)), F.1, fun q j hq => F.2.2 q j (by omega)⟩
  simp only [hf2.x0, hf2.r0, hf2.r1, hf2.r2, hf2.r4, hf2.r5, hf2.r6, hf2.r7, hf2.s1.1, hf2.s1.2.1, hf2.s1.2.2.2.2.2.2.1, hf2.s10.1, hf2.s10.2.1, hf2.s10.2.2.2.2.2.2.1, hf2.s19.1, hf2.x28, hf2.x66, hf2.r66, hf2.x67, hf2.x68, hf2.jd.1, P, Q, ent_0, ent_1, ent_2, ent_3, ent_4, ent_5, ent_6, va_up_self, va_up_ne, ne_eq, Nat.reduceEqDiff, not_false_eq_true, not_true_eq_false, si_1, si_2, si_g, sr_1, sr_2, cp_1, cp_2, List.length_cons, List.length_nil, Nat.reduceAdd, true_and, and_true, and_self, eq_self, true_implies, forall_const, Bool.false_eq_true, false_implies, or_true, true_or, Option.some.injEq, Prod.mk.injEq, exists_eq_left', exists_eq', exists_and_left, reduceIte, Int.reduceEq, Int.reduceNe]
  have hp := rd_p hV.tl (tc := A.tc) 59
  have r1 : inR (-100 - ((rd A.tl A.tc 59).p : Int)) := inR_s (by omega) (by omega)
  by_cases cs : (rd A.tl A.tc 59).s = 0
  · rw [if_pos cs] at hK
    have ef : flt (rd A.tl A.tc 59) = 0 := if_pos cs
    rw [if_neg (by omega)]
    by_cases ct : (rd A.tl A.tc 59).T ≤ 600
    · rw [if_pos ct] at hK
      simp only at hK
      obtain ⟨c1, c2⟩ := C.1 ct
      rw [if_neg (by omega)]
      refine e_recordX n2.1 (fun M3 h3 e3 u3 v3 => ?_)
      have hf3 := h3.fx
      have n3 : CN M M3 (recA A) := n2.tr ⟨h3, e3, u3⟩
      have c3 : CS M3 11 (rd A.tl A.tc 59).n (rd A.tl A.tc 59).D := ⟨hf3.s10.2.2.2.2.2.2, c2.2.1, by rw [v3 _ _ (by decide)]; exact c2.2.2.1, fun i hi => by
        rw [v3 _ _ (by decide), v3 _ _ (by decide), v3 _ _ (by decide), v3 _ _ (by decide), v3 _ _ (by decide)]
        exact c2.2.2.2 i hi⟩
      simp only [hf3.x0, hf3.r0, hf3.r1, hf3.r2, hf3.r4, hf3.r5, hf3.r6, hf3.r7, hf3.s1.1, hf3.s1.2.1, hf3.s1.2.2.2.2.2.2.1, hf3.s10.1, hf3.s10.2.1, hf3.s10.2.2.2.2.2.2.1, hf3.s19.1, hf3.x28, hf3.x66, hf3.r66, hf3.x67, hf3.x68, hf3.jd.1, ent_0, ent_1, ent_2, ent_3, ent_4, ent_5, ent_6, va_up_self, va_up_ne, ne_eq, Nat.reduceEqDiff, not_false_eq_true, not_true_eq_false, si_1, si_2, si_g, sr_1, sr_2, cp_1, cp_2, List.length_cons, List.length_nil, Nat.reduceAdd, true_and, and_true, and_self, eq_self, true_implies, forall_const, Bool.false_eq_true, false_implies, or_true, true_or, Option.some.injEq, Prod.mk.injEq, exists_eq_left', exists_eq', exists_and_left, reduceIte, Int.reduceEq, Int.reduceNe]
      refine e_copySong hf3.s1.2.2.2.2.2.2 hf3.s10.2.2.2.2.2.2 (by decide) ?_
      have c4 := CS_cpS (k := 2) c3 hf3.s1.2.2.2.2.2.2 (by decide)
      have n4 := n3.tr (h3.song (M2 := cpS M3 2 11) rfl rfl (fun q j hq => cpS_o (by omega)) c4)
      generalize cpS M3 2 11 = M4 at c4 n4 ⊢
      have hf4 := n4.1.fx
      simp only [hf4.x0, hf4.r0, hf4.r1, hf4.r2, hf4.r4, hf4.r5, hf4.r6, hf4.r7, hf4.s1.1, hf4.s1.2.1, hf4.s1.2.2.2.2.2.2.1, hf4.s10.1, hf4.s10.2.1, hf4.s10.2.2.2.2.2.2.1, hf4.s19.1, hf4.x28, hf4.x66, hf4.r66, hf4.x67, hf4.x68, hf4.jd.1, e_size c4, ent_0, ent_1, ent_2, ent_3, ent_4, ent_5, ent_6, va_up_self, va_up_ne, ne_eq, Nat.reduceEqDiff, not_false_eq_true, not_true_eq_false, si_1, si_2, si_g, sr_1, sr_2, cp_1, cp_2, List.length_cons, List.length_nil, Nat.reduceAdd, true_and, and_true, and_self, eq_self, true_implies, forall_const, Bool.false_eq_true, false_implies, or_true, true_or, Option.some.injEq, Prod.mk.injEq, exists_eq_left', exists_eq', exists_and_left, reduceIte, Int.reduceEq, Int.reduceNe]
      exact ⟨n4.2.1, hK _ n4⟩
    · rw [if_neg ct] at hK
      obtain ⟨c1, _⟩ := C.2 (by omega)
      rw [if_pos (by omega)]
      exact ⟨n2.2.1, hK _ n2⟩
  · rw [if_neg cs] at hK
    have ef : flt (rd A.tl A.tc 59) = 1 := if_neg cs
    rw [if_pos (by omega)]
    exact ⟨r1, n2.2.1, hK _ n2⟩
end RD7
