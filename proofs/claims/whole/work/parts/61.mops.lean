theorem MI_setN {M M2 : Mm} {A : Ab} {S : Sg} (h : MI M A) (hf : Fx M2) (h1 : ∀ q j, 80 ≤ q → q < 85 → q ≠ 81 → M2.2.1 q j = M.2.1 q j) (hs : RW M2 81 0 S) : MI M2 (setN A S) := by
  apply MI.mk
  case fx => exact hf
  case nw => exact hs
  case cn => rw [h1 _ _ (by decide) (by decide) (by decide)]; exact h.cn
  case hs => exact fun i hi => (h.hs i hi).fr (fun j => h1 _ _ (by decide) (by decide) (by decide))
  case fl => rw [h1 _ _ (by decide) (by decide) (by decide)]; exact h.fl
  case sn => exact fun e => (h.sn e).fr (fun j => h1 _ _ (by decide) (by decide) (by decide))
  case tl => rw [h1 _ _ (by decide) (by decide) (by decide)]; exact h.tl
  case tc => exact fun i hi => by rw [h1 _ _ (by decide) (by decide) (by decide)]; exact h.tc i hi
def dA (M : Mm) (n : Nat) (b l a e f : Int) : Mm := si (si (si (si (si (si M 81 (6 + 5 * n + 0) b) 81 (6 + 5 * n + 1) l) 81 (6 + 5 * n + 2) a) 81 (6 + 5 * n + 3) e) 81 (6 + 5 * n + 4) f) 81 5 ((n : Int) + 1)
theorem dA_o {M : Mm} {n : Nat} {b l a e f : Int} {q j : Nat} (h : q ≠ 81 ∨ (j ≠ 5 ∧ (j < 6 + 5 * n ∨ 6 + 5 * n + 4 < j))) : (dA M n b l a e f).2.1 q j = M.2.1 q j := by
  unfold dA
  rw [si_g, if_neg (by omega), si_g, if_neg (by omega), si_g, if_neg (by omega), si_g, if_neg (by omega), si_g, if_neg (by omega), si_g, if_neg (by omega)]
theorem RW_dA {M : Mm} {S : Sg} {b l a e f : Int} (h : RW M 81 0 S) (hn : S.n < 40) : RW (dA M S.n b l a e f) 81 0 (S.n + 1, addD S.n S.D b l a e f, S.st, S.sg) := by
  refine ⟨hn, ?_, fun k hk w hw => ?_, fun j hj => ?_, fun t ht => ?_⟩
  · unfold dA
    rw [si_g, if_pos ⟨rfl, rfl⟩]
    rfl
  · have hk2 : k < S.n + 1 := hk
    show _ = if k = S.n then (if w = 0 then b else if w = 1 then l else if w = 2 then a else if w = 3 then e else f) else S.D k w
    by_cases ek : k = S.n
    · subst ek
      rw [if_pos rfl]
      have hw2 : w = 0 ∨ w = 1 ∨ w = 2 ∨ w = 3 ∨ w = 4 := by omega
      unfold dA
      simp only [si_g, Nat.zero_add]
      rcases hw2 with rfl | rfl | rfl | rfl | rfl
      · show _ = b
        rw [if_neg (by omega), if_neg (by omega), if_neg (by omega), if_neg (by omega), if_neg (by omega)]
        exact if_pos ⟨trivial, rfl⟩
      · show _ = l
        rw [if_neg (by omega), if_neg (by omega), if_neg (by omega), if_neg (by omega)]
        exact if_pos ⟨trivial, rfl⟩
      · show _ = a
        rw [if_neg (by omega), if_neg (by omega), if_neg (by omega)]
        exact if_pos ⟨trivial, rfl⟩
      · show _ = e
        rw [if_neg (by omega), if_neg (by omega)]
        exact if_pos ⟨trivial, rfl⟩
      · show _ = f
        rw [if_neg (by omega)]
        exact if_pos ⟨trivial, rfl⟩
    · rw [if_neg ek, dA_o (by omega)]
      exact h.2.2.1 k (by omega) w hw
  · rw [dA_o (by omega)]; exact h.2.2.2.1 j hj
  · rw [dA_o (by omega)]; exact h.2.2.2.2 t ht
theorem dA_1 (M : Mm) (n : Nat) (b l a e f : Int) : (dA M n b l a e f).1 = M.1 := rfl
theorem dA_2 (M : Mm) (n : Nat) (b l a e f : Int) : (dA M n b l a e f).2.2 = M.2.2 := rfl
theorem MN_dA {M : Mm} {A : Ab} {S : Sg} {b l a e f : Int} (h : MI M A) (hS : A.now = S) (hn : S.n < 40) : MN M (dA M S.n b l a e f) (setN A (S.n + 1, addD S.n S.D b l a e f, S.st, S.sg)) := by
  subst hS
  have hf2 : Fx (dA M A.now.n b l a e f) := h.fx.fr' (dA_1 _ _ _ _ _ _ _) (dA_2 _ _ _ _ _ _ _)
  have hr := RW_dA (b := b) (l := l) (a := a) (e := e) (f := f) h.nw hn
  exact ⟨MI_setN h hf2 (fun q j h1 h2 h3 => dA_o (.inl h3)) hr, dA_1 _ _ _ _ _ _ _, dA_2 _ _ _ _ _ _ _, fun q j hq => dA_o (.inl (by omega))⟩
section MOPS
variable {K : Int → Mm → Prop} {M : Mm} {A : Ab} {n : Nat} {D : Nat → Nat → Int} {st sg : Nat → Int}
theorem e_lay {k w : Nat} {v : Int} (hm : MdP M) (hk : k < 40) (hw : w < 5) : m_X7_lay [.inr (some 80), .inl (k : Int), .inl (w : Int), .inl v] K M ↔ K 0 (si M 81 (6 + 5 * k + w) v) := by
  obtain ⟨m0, mA, mR⟩ := hm
  have r1 : inR (5 * (k : Int)) := inR_s (by omega) (by omega)
  have r2 : inR (6 + 5 * (k : Int)) := inR_s (by omega) (by omega)
  have r3 : inR (6 + 5 * (k : Int) + w) := inR_s (by omega) (by omega)
  have c1 : 0 ≤ 6 + 5 * (k : Int) + w := by omega
  have c2 : 6 + 5 * (k : Int) + w < (806 : Nat) := by omega
  have e1 : (6 + 5 * (k : Int) + w).toNat = 6 + 5 * k + w := by omega
  simp only [m_X7_lay, mk0, B_X7_lay, iC, iL, iF, iA, iAc, iLen, iT, iAdd, iSub, iMul, iDiv, iRem, iNeg, iCh, iAnd31, iQ, iMax, iMin, iAbs, iCallS, iCallV, aN, aI, aR, rL, rF, rA, cEq, cNe, cLt, cGe, cGt, cLe, cAnd, cOr, cNot, cNull, sSkip, sSeq, sLoc, sLocR, sInc, sPut, sPutR, sPutAdd, sPutSub, sAst, sCst, sRst, sAstAdd, sAstSub, sIf1, sIf, sRet, sRetV, sCallV, sCallS, sPop, sCopy, sCopyT, sObj, sSw, ent_0, ent_1, ent_2, ent_3, ent_4, ent_5, ent_6, va_up_self, va_up_ne, ne_eq, Nat.reduceEqDiff, not_false_eq_true, not_true_eq_false, si_1, si_2, si_g, sr_1, sr_2, cp_1, cp_2, List.length_cons, List.length_nil, Nat.reduceAdd, true_and, and_true, and_self, eq_self, true_implies, forall_const, Bool.false_eq_true, false_implies, or_true, true_or, Option.some.injEq, Prod.mk.injEq, exists_eq_left', exists_eq', exists_and_left, reduceIte, Int.reduceEq, Int.reduceNe, m0, mA, mR, r1, r2, r3, c1, c2, e1]
theorem e_layW {k j : Nat} {w v : Int} (hj : w = j) (hm : MdP M) (hk : k < 40) (hw : j < 5) : m_X7_lay [.inr (some 80), .inl (k : Int), .inl w, .inl v] K M ↔ K 0 (si M 81 (6 + 5 * k + j) v) := by
  subst hj
  exact e_lay hm hk hw
theorem MdP_si {q j : Nat} {z : Int} (hm : MdP M) : MdP (si M q j z) := hm
set_option maxRecDepth 20000 in
theorem e_doAdd {r a e l f : Int} (hm : MR M n D st) (hv : VD n D) (hn : n < 40) (hr : 0 ≤ r ∧ r ≤ 32) (hK : K (tk n D + r) (dA M n (tk n D + r) l a e (if n = 0 then 1 else f))) : m_X7_doAdd [.inr (some 80), .inl r, .inl a, .inl e, .inl l, .inl f] K M := by
  obtain ⟨m0, mA, mR⟩ := hm.1
  have hm1 := hm.1
  have e5 : Int.toNat 5 = 5 := rfl
  have d5 : (0 : Int) ≤ 5 ∧ (5 : Int) < (806 : Nat) := by decide
  have htk := tk_b hv
  have r1 : inR (tk n D + r) := inR_s (by omega) (by omega)
  simp only [m0, mA, mR, e5, d5.1, d5.2, hm.2.2.1, m_X7_doAdd, mk0, B_X7_doAdd, iC, iL, iF, iA, iAc, iLen, iT, iAdd, iSub, iMul, iDiv, iRem, iNeg, iCh, iAnd31, iQ, iMax, iMin, iAbs, iCallS, iCallV, aN, aI, aR, rL, rF, rA, cEq, cNe, cLt, cGe, cGt, cLe, cAnd, cOr, cNot, cNull, sSkip, sSeq, sLoc, sLocR, sInc, sPut, sPutR, sPutAdd, sPutSub, sAst, sCst, sRst, sAstAdd, sAstSub, sIf1, sIf, sRet, sRetV, sCallV, sCallS, sPop, sCopy, sCopyT, sObj, sSw, ent_0, ent_1, ent_2, ent_3, ent_4, ent_5, ent_6, va_up_self, va_up_ne, ne_eq, Nat.reduceEqDiff, not_false_eq_true, not_true_eq_false, si_1, si_2, si_g, sr_1, sr_2, cp_1, cp_2, List.length_cons, List.length_nil, Nat.reduceAdd, true_and, and_true, and_self, eq_self, true_implies, forall_const, Bool.false_eq_true, false_implies, or_true, true_or, Option.some.injEq, Prod.mk.injEq, exists_eq_left', exists_eq', exists_and_left, reduceIte, Int.reduceEq, Int.reduceNe]
  refine (e_endOfSong hm hv).mpr ⟨r1, ⟨0, m0⟩, ?_⟩
  refine (e_layW (j := 0) rfl hm1 hn (by decide)).mpr ⟨⟨0, m0⟩, (e_layW (j := 1) rfl (MdP_si hm1) hn (by decide)).mpr ⟨⟨0, m0⟩, (e_layW (j := 2) rfl (MdP_si (MdP_si hm1)) hn (by decide)).mpr ⟨⟨0, m0⟩, (e_layW (j := 3) rfl (MdP_si (MdP_si (MdP_si hm1))) hn (by decide)).mpr ?_⟩⟩⟩
  have fin : ∀ f2 : Int, (if n = 0 then 1 else f) = f2 → m_X7_lay [.inr (some 80), .inl (n : Int), .inl 4, .inl f2] (fun x M2 =>
          (∃ w, M2.1[80]? = some (7, w)) ∧
            match M2.2.2 80 0 with
            | some q =>
              ∃ n_1 : Nat,
                M2.1[q]? = some (20, n_1) ∧
                  (5 : Int) < n_1 ∧
                    ∃ n2 : Nat,
                      M2.1[q]? = some (20, n2) ∧
                        (5 : Int) < n2 ∧
                          inR (M2.2.1 q 5 + 1) ∧
                            (∃ w, M2.1[80]? = some (7, w)) ∧
                              m_X7_of [Sum.inr (some 80), Sum.inl (n : Int), Sum.inl 0]
                                (fun x M_1 => M_1.1 = M.1 ∧ K x M_1) (si M2 q 5 (M2.2.1 q 5 + 1))
            | none => False) (si (si (si (si M 81 (6 + 5 * n + 0) (tk n D + r)) 81 (6 + 5 * n + 1) l) 81 (6 + 5 * n + 2) a) 81 (6 + 5 * n + 3) e) := by
    intro f2 hf2
    refine (e_layW (j := 4) rfl (MdP_si (MdP_si (MdP_si (MdP_si hm1)))) hn (by decide)).mpr ⟨⟨0, m0⟩, ?_⟩
    have e9 : (si (si (si (si (si M 81 (6 + 5 * n + 0) (tk n D + r)) 81 (6 + 5 * n + 1) l) 81 (6 + 5 * n + 2) a) 81 (6 + 5 * n + 3) e) 81 (6 + 5 * n + 4) f2).2.1 81 5 = n := by
      rw [si_g, if_neg (by omega), si_g, if_neg (by omega), si_g, if_neg (by omega), si_g, if_neg (by omega), si_g, if_neg (by omega)]
      exact hm.2.2.1
    simp only [mR, mA, m0, e9, ent_0, ent_1, ent_2, ent_3, ent_4, ent_5, ent_6, va_up_self, va_up_ne, ne_eq, Nat.reduceEqDiff, not_false_eq_true, not_true_eq_false, si_1, si_2, si_g, sr_1, sr_2, cp_1, cp_2, List.length_cons, List.length_nil, Nat.reduceAdd, true_and, and_true, and_self, eq_self, true_implies, forall_const, Bool.false_eq_true, false_implies, or_true, true_or, Option.some.injEq, Prod.mk.injEq, exists_eq_left', exists_eq', exists_and_left, reduceIte, Int.reduceEq, Int.reduceNe]
    rw [← hf2]
    refine ⟨by decide, by decide, inR_s (by omega) (by omega), ?_⟩
    refine (e_ofM (k := n) (w := 0) (M := dA M n (tk n D + r) l a e (if n = 0 then 1 else f)) hm1 hn (by decide)).mpr ⟨rfl, ?_⟩
    have e8 : (dA M n (tk n D + r) l a e (if n = 0 then 1 else f)).2.1 81 (6 + 5 * n + 0) = tk n D + r := by
      unfold dA
      rw [si_g, if_neg (by omega), si_g, if_neg (by omega), si_g, if_neg (by omega), si_g, if_neg (by omega), si_g, if_neg (by omega), si_g]
      exact if_pos ⟨rfl, rfl⟩
    rw [e8]
    exact hK
  by_cases c : n = 0
  · rw [if_pos (by omega)]
    exact ⟨⟨0, m0⟩, fin 1 (if_pos c)⟩
  · rw [if_neg (by omega)]
    exact ⟨⟨0, m0⟩, fin f (if_neg c)⟩
end MOPS
