def sm (f : Nat → Int) : Nat → Int
  | 0 => 0
  | n + 1 => sm f n + f n
theorem sm_b {f : Nat → Int} {a b : Int} : ∀ {n : Nat}, (∀ i, i < n → a ≤ f i ∧ f i ≤ b) → n * a ≤ sm f n ∧ sm f n ≤ n * b
  | 0, _ => by simp [sm]
  | n + 1, h => by
    have h1 := sm_b (n := n) (fun i hi => h i (by omega))
    have h2 := h n (Nat.lt_succ_self n)
    have e1 : ((n + 1 : Nat) : Int) * a = n * a + a := by rw [Int.natCast_add, Int.add_mul]; simp
    have e2 : ((n + 1 : Nat) : Int) * b = n * b + b := by rw [Int.natCast_add, Int.add_mul]; simp
    rw [e1, e2]
    show _ ≤ sm f n + f n ∧ sm f n + f n ≤ _
    omega
theorem sm_01 {f : Nat → Int} {n : Nat} (h : ∀ i, i < n → 0 ≤ f i ∧ f i ≤ 1) : 0 ≤ sm f n ∧ sm f n ≤ n := by
  have := sm_b h
  omega
theorem sm_cong {f g : Nat → Int} : ∀ {n : Nat}, (∀ i, i < n → f i = g i) → sm f n = sm g n
  | 0, _ => rfl
  | n + 1, h => by
    show sm f n + f n = sm g n + g n
    rw [sm_cong (fun i hi => h i (by omega)), h n (by omega)]
/-- how many syllables a phrase has, among the first i -/
def szP (D : Nat → Nat → Int) (p : Int) (i : Nat) : Int := sm (fun j => if ph D j = p then 1 else 0) i
theorem szP_b (D : Nat → Nat → Int) (p : Int) (i : Nat) : 0 ≤ szP D p i ∧ szP D p i ≤ i := sm_01 (fun j _ => by split <;> omega)
/-- the first syllable of a phrase -/
def fsP (D : Nat → Nat → Int) (p : Int) : Nat → Int
  | 0 => -5
  | n + 1 => if fsP D p n = -5 ∧ ph D n = p then n else fsP D p n
theorem fsP_stay {D : Nat → Nat → Int} {p : Int} {i : Nat} (h : fsP D p i = -5) (hp : ph D i = p) : ∀ n, i < n → fsP D p n = i := by
  intro n hn
  induction n with
  | zero => omega
  | succ n ih =>
    show (if fsP D p n = -5 ∧ ph D n = p then (n : Int) else fsP D p n) = i
    by_cases h1 : i = n
    · subst h1
      rw [if_pos ⟨h, hp⟩]
    · have h2 := ih (by omega)
      rw [if_neg (by rw [h2]; omega), h2]
section SONG3
variable {K : Int → Mm → Prop} {M : Mm} {k n : Nat} {D : Nat → Nat → Int}
theorem e_sizeOfPhrase {p : Int} (h : CS M k n D) (hK : K (szP D p n) M) : m_X3_sizeOfPhrase [.inr (some k), .inl p] K M := by
  have h40 := h.2.1
  simp only [m_X3_sizeOfPhrase, mk0, B_X3_sizeOfPhrase, iC, iL, iF, iA, iAc, iLen, iT, iAdd, iSub, iMul, iDiv, iRem, iNeg, iCh, iAnd31, iQ, iMax, iMin, iAbs, iCallS, iCallV, aN, aI, aR, rL, rF, rA, cEq, cNe, cLt, cGe, cGt, cLe, cAnd, cOr, cNot, cNull, sSkip, sSeq, sLoc, sLocR, sInc, sPut, sPutR, sPutAdd, sPutSub, sAst, sCst, sRst, sAstAdd, sAstSub, sIf1, sIf, sRet, sRetV, sCallV, sCallS, sPop, sCopy, sCopyT, sObj, sSw, iAddW, iMulW, iAndM, iShr, cQ, ent_0, ent_1, ent_2, ent_3, ent_4, ent_5, ent_6, va_up_self, va_up_ne, ne_eq, Nat.reduceEqDiff, not_false_eq_true, not_true_eq_false, si_1, si_2, si_g, sr_1, sr_2, cp_1, cp_2, List.length_cons, List.length_nil, Nat.reduceAdd, true_and, and_true, and_self, eq_self, true_implies, forall_const, Bool.false_eq_true, false_implies, or_true, true_or, Option.some.injEq, Prod.mk.injEq, exists_eq_left', exists_eq', exists_and_left, reduceIte, Int.reduceEq, Int.reduceNe]
  refine while_n (n := n) (fun r ρ M2 => M2 = M ∧ ∃ i : Nat, i + r = n ∧ ρ 0 = .inr (some k) ∧ ρ 1 = .inl p ∧ ρ 2 = .inl (szP D p i) ∧ ρ 3 = .inl (i : Int)) ?_ ⟨rfl, 0, by omega, rfl, rfl, rfl, rfl⟩
  rintro r W hW ρ M2 ⟨rfl, i, hr, h0, h1, h2, h3⟩
  simp only [h0, h1, h2, h3, h.1.o, h.2.2.1, e_phraseOf h, iC, iL, iF, iA, iAc, iLen, iT, iAdd, iSub, iMul, iDiv, iRem, iNeg, iCh, iAnd31, iQ, iMax, iMin, iAbs, iCallS, iCallV, aN, aI, aR, rL, rF, rA, cEq, cNe, cLt, cGe, cGt, cLe, cAnd, cOr, cNot, cNull, sSkip, sSeq, sLoc, sLocR, sInc, sPut, sPutR, sPutAdd, sPutSub, sAst, sCst, sRst, sAstAdd, sAstSub, sIf1, sIf, sRet, sRetV, sCallV, sCallS, sPop, sCopy, sCopyT, sObj, sSw, iAddW, iMulW, iAndM, iShr, cQ, ent_0, ent_1, ent_2, ent_3, ent_4, ent_5, ent_6, va_up_self, va_up_ne, ne_eq, Nat.reduceEqDiff, not_false_eq_true, not_true_eq_false, si_1, si_2, si_g, sr_1, sr_2, cp_1, cp_2, List.length_cons, List.length_nil, Nat.reduceAdd, true_and, and_true, and_self, eq_self, true_implies, forall_const, Bool.false_eq_true, false_implies, or_true, true_or, Option.some.injEq, Prod.mk.injEq, exists_eq_left', exists_eq', exists_and_left, reduceIte, Int.reduceEq, Int.reduceNe]
  have hb := szP_b D p i
  have r1 : inR (szP D p i + 1) := inR_s (by omega) (by omega)
  have r2 : inR ((i : Int) + 1) := inR_s (by omega) (by omega)
  by_cases hi : i < n
  · have e1 : szP D p (i + 1) = szP D p i + (if ph D i = p then 1 else 0) := rfl
    rw [if_pos (by omega), phA_in hi]
    by_cases hp : ph D i = p
    · rw [if_pos hp] at e1 ⊢
      refine ⟨r1, r2, hW _ _ (by omega) ⟨rfl, i + 1, by omega, ?_⟩⟩
      simp [va_up, h0, h1, h2, h3, e1]
    · rw [if_neg hp] at e1 ⊢
      refine ⟨r2, hW _ _ (by omega) ⟨rfl, i + 1, by omega, ?_⟩⟩
      simp [va_up, h0, h1, h2, h3, e1]
  · rw [if_neg (by omega)]
    obtain rfl : i = n := by omega
    exact hK
theorem e_firstOfPhrase {p : Int} (h : CS M k n D) (hK : K (fsP D p n) M) : m_X3_firstOfPhrase [.inr (some k), .inl p] K M := by
  have h40 := h.2.1
  simp only [m_X3_firstOfPhrase, mk0, B_X3_firstOfPhrase, iC, iL, iF, iA, iAc, iLen, iT, iAdd, iSub, iMul, iDiv, iRem, iNeg, iCh, iAnd31, iQ, iMax, iMin, iAbs, iCallS, iCallV, aN, aI, aR, rL, rF, rA, cEq, cNe, cLt, cGe, cGt, cLe, cAnd, cOr, cNot, cNull, sSkip, sSeq, sLoc, sLocR, sInc, sPut, sPutR, sPutAdd, sPutSub, sAst, sCst, sRst, sAstAdd, sAstSub, sIf1, sIf, sRet, sRetV, sCallV, sCallS, sPop, sCopy, sCopyT, sObj, sSw, iAddW, iMulW, iAndM, iShr, cQ, ent_0, ent_1, ent_2, ent_3, ent_4, ent_5, ent_6, va_up_self, va_up_ne, ne_eq, Nat.reduceEqDiff, not_false_eq_true, not_true_eq_false, si_1, si_2, si_g, sr_1, sr_2, cp_1, cp_2, List.length_cons, List.length_nil, Nat.reduceAdd, true_and, and_true, and_self, eq_self, true_implies, forall_const, Bool.false_eq_true, false_implies, or_true, true_or, Option.some.injEq, Prod.mk.injEq, exists_eq_left', exists_eq', exists_and_left, reduceIte, Int.reduceEq, Int.reduceNe]
  refine while_n (n := n) (fun r ρ M2 => M2 = M ∧ ∃ i : Nat, i + r = n ∧ ρ 0 = .inr (some k) ∧ ρ 1 = .inl p ∧ fsP D p i = -5 ∧ ρ 2 = .inl (i : Int)) ?_ ⟨rfl, 0, by omega, rfl, rfl, rfl, rfl⟩
  rintro r W hW ρ M2 ⟨rfl, i, hr, h0, h1, h2, h3⟩
  simp only [h0, h1, h3, h.1.o, h.2.2.1, e_phraseOf h, iC, iL, iF, iA, iAc, iLen, iT, iAdd, iSub, iMul, iDiv, iRem, iNeg, iCh, iAnd31, iQ, iMax, iMin, iAbs, iCallS, iCallV, aN, aI, aR, rL, rF, rA, cEq, cNe, cLt, cGe, cGt, cLe, cAnd, cOr, cNot, cNull, sSkip, sSeq, sLoc, sLocR, sInc, sPut, sPutR, sPutAdd, sPutSub, sAst, sCst, sRst, sAstAdd, sAstSub, sIf1, sIf, sRet, sRetV, sCallV, sCallS, sPop, sCopy, sCopyT, sObj, sSw, iAddW, iMulW, iAndM, iShr, cQ, ent_0, ent_1, ent_2, ent_3, ent_4, ent_5, ent_6, va_up_self, va_up_ne, ne_eq, Nat.reduceEqDiff, not_false_eq_true, not_true_eq_false, si_1, si_2, si_g, sr_1, sr_2, cp_1, cp_2, List.length_cons, List.length_nil, Nat.reduceAdd, true_and, and_true, and_self, eq_self, true_implies, forall_const, Bool.false_eq_true, false_implies, or_true, true_or, Option.some.injEq, Prod.mk.injEq, exists_eq_left', exists_eq', exists_and_left, reduceIte, Int.reduceEq, Int.reduceNe]
  have r2 : inR ((i : Int) + 1) := inR_s (by omega) (by omega)
  by_cases hi : i < n
  · rw [if_pos (by omega), phA_in hi]
    by_cases hp : ph D i = p
    · rw [if_pos hp]
      rw [fsP_stay h2 hp n hi] at hK
      exact hK
    · rw [if_neg hp]
      have e1 : fsP D p (i + 1) = -5 := by
        show (if fsP D p i = -5 ∧ ph D i = p then (i : Int) else fsP D p i) = -5
        rw [if_neg (fun q => hp q.2), h2]
      refine ⟨r2, hW _ _ (by omega) ⟨rfl, i + 1, by omega, ?_⟩⟩
      simp [va_up, h0, h1, h3, e1]
  · rw [if_neg (by omega)]
    obtain rfl : i = n := by omega
    rw [h2] at hK
    exact hK
end SONG3
/-- a syllable comes -/
def addD (n : Nat) (D : Nat → Nat → Int) (b l a e f : Int) : Nat → Nat → Int := fun k w => if k = n then (if w = 0 then b else if w = 1 then l else if w = 2 then a else if w = 3 then e else f) else D k w
def app (M : Mm) (k n : Nat) (b l a e p : Int) : Mm := si (si (si (si (si (si M (k + 1) n b) (k + 2) n l) (k + 3) n a) (k + 4) n e) (k + 5) n p) k 5 (n + 1)
theorem addD_lt {n : Nat} {D : Nat → Nat → Int} {b l a e f : Int} {k w : Nat} (h : k < n) : addD n D b l a e f k w = D k w := by
  unfold addD
  rw [if_neg (by omega)]
theorem cnt1_cong {D E : Nat → Nat → Int} : ∀ {n : Nat}, (∀ k, k < n → D k 4 = E k 4) → cnt1 D n = cnt1 E n
  | 0, _ => rfl
  | n + 1, h => by
    show cnt1 D n + D n 4 = cnt1 E n + E n 4
    rw [cnt1_cong (fun k hk => h k (by omega)), h n (by omega)]
theorem ph_cong {D E : Nat → Nat → Int} {n : Nat} (h : ∀ k, k ≤ n → D k 4 = E k 4) : ph D n = ph E n := by
  unfold ph
  rw [cnt1_cong (fun k hk => h k (by omega))]
theorem ph_addD {n : Nat} {D : Nat → Nat → Int} {b l a e f : Int} : ph (addD n D b l a e f) n = cnt1 D n + f - 1 := by
  have h1 : cnt1 (addD n D b l a e f) n = cnt1 D n := cnt1_cong (fun k hk => addD_lt hk)
  show cnt1 (addD n D b l a e f) n + addD n D b l a e f n 4 - 1 = _
  rw [h1]
  unfold addD
  simp
theorem CS_app {M : Mm} {k n : Nat} {D : Nat → Nat → Int} {b l a e f p : Int} (h : CS M k n D) (hn : n < 40) (hp : p = cnt1 D n + f - 1) : CS (app M k n b l a e p) k (n + 1) (addD n D b l a e f) := by
  refine ⟨h.1, by omega, ?_, fun i hi => ?_⟩
  · simp [app, si]
  · by_cases hin : i = n
    · subst hin
      have hn5 : i = i := rfl
      refine ⟨?_, ?_, ?_, ?_, ?_⟩
      · simp [app, si, addD]
      · simp [app, si, addD]
      · simp [app, si, addD]
      · simp [app, si, addD]
      · rw [ph_addD, ← hp]
        simp [app, si]
    · have hi2 : i < n := by omega
      obtain ⟨h1, h2, h3, h4, h5⟩ := h.2.2.2 i hi2
      refine ⟨?_, ?_, ?_, ?_, ?_⟩
      · simp [app, si, addD, hin, h1]
      · simp [app, si, addD, hin, h2]
      · simp [app, si, addD, hin, h3]
      · simp [app, si, addD, hin, h4]
      · rw [ph_cong (E := D) (fun j hj => addD_lt (by omega)), ← h5]
        simp [app, si, hin]
theorem app_o {M : Mm} {k n : Nat} {b l a e p : Int} {q j : Nat} (hq : q < k ∨ k + 5 < q) : (app M k n b l a e p).2.1 q j = M.2.1 q j := by
  simp only [app, si_g]
  rw [if_neg (by omega), if_neg (by omega), if_neg (by omega), if_neg (by omega), if_neg (by omega), if_neg (by omega)]
