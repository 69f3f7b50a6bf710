def rT (M : Mm) (g : Nat → Option Nat) : Mm := (M.1, M.2.1, fun q k => if q = 29 then g k else M.2.2 q k)
theorem rT_1 (M : Mm) (g : Nat → Option Nat) : (rT M g).1 = M.1 := rfl
theorem rT_2 (M : Mm) (g : Nat → Option Nat) : (rT M g).2.1 = M.2.1 := rfl
theorem rT_g (M : Mm) (g : Nat → Option Nat) (q k : Nat) : (rT M g).2.2 q k = if q = 29 then g k else M.2.2 q k := rfl
theorem rT_self {M : Mm} {g : Nat → Option Nat} (h : ∀ k, g k = M.2.2 29 k) : rT M g = M := by
  obtain ⟨a, b, c⟩ := M
  show (a, b, fun q k => if q = 29 then g k else c q k) = (a, b, c)
  congr 2
  funext q k
  split
  · next e => subst e; exact h k
  · rfl
theorem sr_rT {M : Mm} {g : Nat → Option Nat} {k : Nat} {r : Option Nat} : sr (rT M g) 29 k r = rT M (fun j => if j = k then r else g j) := by
  unfold sr rT
  congr 2
  funext q j
  show (if q = 29 ∧ j = k then r else if q = 29 then g j else M.2.2 q j) = if q = 29 then (if j = k then r else g j) else M.2.2 q j
  by_cases a : q = 29 <;> by_cases b : j = k <;> simp [a, b]
theorem rT_cong {M : Mm} {g g2 : Nat → Option Nat} (h : ∀ j, g j = g2 j) : rT M g = rT M g2 := by
  have : g = g2 := funext h
  rw [this]
theorem e_dropOldest {K : Int → Mm → Prop} {M : Mm} {b : Nat → Nat} (hf : Fx M) (hb : Bk b) (h29 : ∀ i, i < 4 → M.2.2 29 i = some (b i)) (hK : K 0 (si (rT M (fun i => if i = 3 then some (b 0) else if i < 3 then some (b (i + 1)) else M.2.2 29 i)) 28 1 3)) : m_X0_dropOldest [.inr (some 28)] K M := by
  have n0 : Int.toNat 0 = 0 := rfl
  have n3 : Int.toNat 3 = 3 := rfl
  have d0 : (0 : Int) < (4 : Nat) := by decide
  have d3 : (3 : Int) < (4 : Nat) := by decide
  have d4 : (0 : Int) ≤ 3 := by decide
  have hb4 : ∀ i, i < 4 → ∃ w, M.1[b i]? = some (4, w) := fun i hi => ⟨0, (hf.b hb hi).1.1⟩
  simp only [hf.x28, hf.r28, hf.x29, n0, d0, h29 0 (by decide), Int.le_refl, m_X0_dropOldest, mk0, B_X0_dropOldest, iC, iL, iF, iA, iAc, iLen, iT, iAdd, iSub, iMul, iDiv, iRem, iNeg, iCh, iAnd31, iQ, iMax, iMin, iAbs, iCallS, iCallV, aN, aI, aR, rL, rF, rA, cEq, cNe, cLt, cGe, cGt, cLe, cAnd, cOr, cNot, cNull, sSkip, sSeq, sLoc, sLocR, sInc, sPut, sPutR, sPutAdd, sPutSub, sAst, sCst, sRst, sAstAdd, sAstSub, sIf1, sIf, sRet, sRetV, sCallV, sCallS, sPop, sCopy, sCopyT, sObj, sSw, iAddW, iMulW, iAndM, iShr, cQ, ent_0, ent_1, ent_2, ent_3, ent_4, ent_5, ent_6, va_up_self, va_up_ne, ne_eq, Nat.reduceEqDiff, not_false_eq_true, not_true_eq_false, si_1, si_2, si_g, sr_1, sr_2, cp_1, cp_2, List.length_cons, List.length_nil, Nat.reduceAdd, true_and, and_true, and_self, eq_self, true_implies, forall_const, Bool.false_eq_true, false_implies, or_true, true_or, Option.some.injEq, Prod.mk.injEq, exists_eq_left', exists_eq', exists_and_left, reduceIte, Int.reduceEq, Int.reduceNe]
  refine while_n (n := 3) (fun r ρ M2 => ∃ j : Nat, j + r = 4 ∧ 1 ≤ j ∧ ρ 0 = .inr (some 28) ∧ ρ 1 = .inr (some (b 0)) ∧ ρ 2 = .inl (j : Int) ∧ M2 = rT M (fun i => if i + 1 < j then some (b (i + 1)) else M.2.2 29 i)) ?_ ⟨1, by omega, by omega, rfl, rfl, rfl, (rT_self (fun k => if_neg (by omega))).symm⟩
  rintro r W hW ρ M2 ⟨j, hr, hj1, h0, h1, h2, rfl⟩
  simp only [h0, h1, h2, hf.x28, hf.r28, hf.x29, rT_1, rT_2, rT_g, iC, iL, iF, iA, iAc, iLen, iT, iAdd, iSub, iMul, iDiv, iRem, iNeg, iCh, iAnd31, iQ, iMax, iMin, iAbs, iCallS, iCallV, aN, aI, aR, rL, rF, rA, cEq, cNe, cLt, cGe, cGt, cLe, cAnd, cOr, cNot, cNull, sSkip, sSeq, sLoc, sLocR, sInc, sPut, sPutR, sPutAdd, sPutSub, sAst, sCst, sRst, sAstAdd, sAstSub, sIf1, sIf, sRet, sRetV, sCallV, sCallS, sPop, sCopy, sCopyT, sObj, sSw, iAddW, iMulW, iAndM, iShr, cQ, ent_0, ent_1, ent_2, ent_3, ent_4, ent_5, ent_6, va_up_self, va_up_ne, ne_eq, Nat.reduceEqDiff, not_false_eq_true, not_true_eq_false, si_1, si_2, si_g, sr_1, sr_2, cp_1, cp_2, List.length_cons, List.length_nil, Nat.reduceAdd, true_and, and_true, and_self, eq_self, true_implies, forall_const, Bool.false_eq_true, false_implies, or_true, true_or, Option.some.injEq, Prod.mk.injEq, exists_eq_left', exists_eq', exists_and_left, reduceIte, Int.reduceEq, Int.reduceNe]
  by_cases hj : j < 4
  · rw [if_pos (by omega)]
    obtain ⟨w, hw⟩ := hb4 j hj
    have e1 : (if (j : Int).toNat + 1 < j then some (b ((j : Int).toNat + 1)) else M.2.2 29 (j : Int).toNat) = some (b j) := by
      rw [if_neg (by omega), Int.toNat_natCast]
      exact h29 j hj
    refine ⟨inR_s (by omega) (by omega), by omega, by omega, ?_⟩
    rw [e1]
    refine ⟨w, hw, by omega, by omega, inR_s (by omega) (by omega), hW _ _ (by omega) ⟨j + 1, by omega, by omega, by simp [va_up, h0], by simp [va_up, h1], by simp [va_up], ?_⟩⟩
    rw [sr_rT]
    refine rT_cong (fun k => ?_)
    by_cases hk : k = ((j : Int) - 1).toNat
    · rw [if_pos hk, if_pos (by omega)]
      congr 2
      omega
    · rw [if_neg hk]
      by_cases hk2 : k + 1 < j
      · rw [if_pos hk2, if_pos (by omega)]
      · rw [if_neg hk2, if_neg (by omega)]
  · rw [if_neg (by omega)]
    obtain rfl : j = 4 := by omega
    obtain ⟨w, hw⟩ := hb4 0 (by decide)
    refine ⟨w, hw, d4, d3, ?_⟩
    rw [sr_rT, n3]
    rw [show rT M (fun j => if j = 3 then some (b 0) else if j + 1 < 4 then some (b (j + 1)) else M.2.2 29 j) = rT M (fun i => if i = 3 then some (b 0) else if i < 3 then some (b (i + 1)) else M.2.2 29 i) from rT_cong (fun k => by
      by_cases a : k = 3
      · rw [if_pos a, if_pos a]
      · rw [if_neg a, if_neg a]
        by_cases c : k < 3
        · rw [if_pos c, if_pos (by omega)]
        · rw [if_neg c, if_neg (by omega)])]
    exact hK
def recA (A : Ab) : Ab := (A.now, (if A.c = 4 then 4 else A.c + 1), (fun i => if A.c = 4 then (if i = 3 then A.now else A.hs (i + 1)) else if i = A.c then A.now else A.hs i), A.f, A.sn, A.tl, A.tc)
theorem recA_V {A : Ab} (h : A.V) : (recA A).V := by
  refine Ab.V.mk h.nw ?_ ?_ h.f2 h.sn h.tl h.tc
  · have := h.c4
    show (if A.c = 4 then 4 else A.c + 1) ≤ 4
    split <;> omega
  · intro i hi
    have h4 := h.c4
    have hi2 : i < (if A.c = 4 then 4 else A.c + 1) := hi
    show Sg.V (if A.c = 4 then (if i = 3 then A.now else A.hs (i + 1)) else if i = A.c then A.now else A.hs i)
    by_cases a : A.c = 4
    · rw [if_pos a]
      by_cases c : i = 3
      · rw [if_pos c]; exact h.nw
      · rw [if_neg c]; exact h.hs _ (by rw [if_pos a] at hi2; omega)
    · rw [if_neg a]
      by_cases c : i = A.c
      · rw [if_pos c]; exact h.nw
      · rw [if_neg c]; exact h.hs _ (by rw [if_neg a] at hi2; omega)
/-- copy now over the place of the count, count one more -/
theorem CI_push {M : Mm} {A : Ab} (h : CI M A) (hc : A.c < 4) {b : Nat → Nat} (hb : Bk b) (h29 : ∀ i, i < 4 → M.2.2 29 i = some (b i)) (hs : ∀ i, i < A.c → SSg M (b i) (A.hs i)) : CI (si (cpT M (b A.c) 1) 28 1 ((A.c : Int) + 1)) (recA A) := by
  have hne : ¬ A.c = 4 := by omega
  obtain ⟨p1, p2⟩ := h.fx.b hb hc
  have hfx : Fx (si (cpT M (b A.c) 1) 28 1 ((A.c : Int) + 1)) := h.fx.fr' rfl rfl
  have o : ∀ q j, (q ≤ b A.c ∨ b A.c + 8 < q) → ¬ (q = 28 ∧ j = 1) → (si (cpT M (b A.c) 1) 28 1 ((A.c : Int) + 1)).2.1 q j = M.2.1 q j := fun q j hq hq2 => by
    rw [si_g, if_neg hq2]
    exact cpT_o hq
  apply CI.mk
  case fx => exact hfx
  case c4 =>
    show (if A.c = 4 then 4 else A.c + 1) ≤ 4
    rw [if_neg hne]
    omega
  case nw => exact SSg_fr h.nw hfx.s1 (fun q j _ _ => o q j (by omega) (by omega))
  case cn =>
    show _ = (((if A.c = 4 then 4 else A.c + 1) : Nat) : Int)
    rw [if_neg hne, si_g, if_pos ⟨rfl, rfl⟩]
    rfl
  case hs =>
    refine ⟨b, hb, fun i hi => h29 i hi, fun i hi => ?_⟩
    have hi2 : i < (if A.c = 4 then 4 else A.c + 1) := hi
    rw [if_neg hne] at hi2
    show SSg _ (b i) (if A.c = 4 then _ else if i = A.c then A.now else A.hs i)
    rw [if_neg hne]
    by_cases e : i = A.c
    · rw [if_pos e, e]
      have h1 : SSg (cpT M (b A.c) 1) (b A.c) A.now := SS_cpT p1 h.nw (by omega)
      exact SSg_fr h1 (hfx.b hb hc).1 (fun q j h1 h2 => by rw [si_g, if_neg (by omega)])
    · rw [if_neg e]
      have hne2 : b i ≠ b A.c := fun e2 => e (hb.2 i A.c (by omega) hc e2)
      have h5 := hb.1 i (by omega)
      have h6 := hb.1 A.c hc
      exact SSg_fr (hs i (by omega)) (hfx.b hb (by omega)).1 (fun q j h1 h2 => o q j (by omega) (by omega))
  case fl => rw [o _ _ (by omega) (by omega)]; exact h.fl
  case sn => exact fun e => SSg_fr (h.sn e) hfx.s19 (fun q j _ _ => o q j (by omega) (by omega))
  case tl => rw [o _ _ (by omega) (by omega)]; exact h.tl
  case tc => exact fun i hi => by rw [o _ _ (by omega) (by omega)]; exact h.tc i hi
def Ux (M M2 : Mm) : Prop := ∀ q j, 80 ≤ q → M2.2.1 q j = M.2.1 q j
theorem Ux.tr {M M2 M3 : Mm} (h : Ux M M2) (h2 : Ux M2 M3) : Ux M M3 := fun q j hq => by rw [h2 q j hq, h q j hq]
def recTail : ST := sIf1 (cAnd (cNe (iCallS m_X6_isWithin (aI (iF 0 1 (rL 0)) (aI (iC 0) (aI (iC 3) (aN))))) (iC 0)) (cNot (cNull (rA (rF 0 0 (rL 0)) (iF 0 1 (rL 0)))))) (sSeq (sCallV 4 m_X4_copyFrom (rA (rF 0 0 (rL 0)) (iF 0 1 (rL 0))) (aR (rL 1) (aN))) (sPutAdd 0 1 (rL 0) (iC 1)))
set_option maxRecDepth 20000 in
theorem e_recTl {W : En → Mm → Prop} {Rt : Int → Mm → Prop} {ρ : En} {M : Mm} {A : Ab} (h0 : ρ 0 = .inr (some 28)) (h1 : ρ 1 = .inr (some 1)) (h : CI M A) (hc : A.c < 4) (hK : ∀ M2, CI M2 (recA A) → M2.1 = M.1 → Ux M M2 → (∀ q j, q ≤ 27 → M2.2.1 q j = M.2.1 q j) → W ρ M2) : recTail W Rt ρ M := by
  have hf := h.fx
  obtain ⟨b, hb, h29, hs⟩ := h.hs
  have c0 : (0 : Int) ≤ A.c := by omega
  have c1 : (0 : Int) ≤ A.c ∧ (A.c : Int) ≤ 3 := by omega
  have c2 : (A.c : Int) < (4 : Nat) := by omega
  have r1 : inR ((A.c : Int) + 1) := inR_s (by omega) (by omega)
  obtain ⟨p1, p2⟩ := hf.b hb hc
  simp only [recTail, h0, h1, hf.x28, hf.r28, hf.x29, h.cn, e_isWithin, c0, c1.2, c2, Int.toNat_natCast, h29 A.c hc, p1.1, iC, iL, iF, iA, iAc, iLen, iT, iAdd, iSub, iMul, iDiv, iRem, iNeg, iCh, iAnd31, iQ, iMax, iMin, iAbs, iCallS, iCallV, aN, aI, aR, rL, rF, rA, cEq, cNe, cLt, cGe, cGt, cLe, cAnd, cOr, cNot, cNull, sSkip, sSeq, sLoc, sLocR, sInc, sPut, sPutR, sPutAdd, sPutSub, sAst, sCst, sRst, sAstAdd, sAstSub, sIf1, sIf, sRet, sRetV, sCallV, sCallS, sPop, sCopy, sCopyT, sObj, sSw, iAddW, iMulW, iAndM, iShr, cQ, ent_0, ent_1, ent_2, ent_3, ent_4, ent_5, ent_6, va_up_self, va_up_ne, ne_eq, Nat.reduceEqDiff, not_false_eq_true, not_true_eq_false, si_1, si_2, si_g, sr_1, sr_2, cp_1, cp_2, List.length_cons, List.length_nil, Nat.reduceAdd, true_and, and_true, and_self, eq_self, true_implies, forall_const, Bool.false_eq_true, false_implies, or_true, true_or, Option.some.injEq, Prod.mk.injEq, exists_eq_left', exists_eq', exists_and_left, reduceIte, Int.reduceEq, Int.reduceNe]
  refine e_copyState p1 hf.s1 (by omega) ?_
  have e1 : (cpT M (b A.c) 1).2.1 28 1 = A.c := by rw [cpT_o (by omega)]; exact h.cn
  have e2 : (cpT M (b A.c) 1).1 = M.1 := rfl
  simp only [e1, e2, hf.x28, r1, ent_0, ent_1, ent_2, ent_3, ent_4, ent_5, ent_6, va_up_self, va_up_ne, ne_eq, Nat.reduceEqDiff, not_false_eq_true, not_true_eq_false, si_1, si_2, si_g, sr_1, sr_2, cp_1, cp_2, List.length_cons, List.length_nil, Nat.reduceAdd, true_and, and_true, and_self, eq_self, true_implies, forall_const, Bool.false_eq_true, false_implies, or_true, true_or, Option.some.injEq, Prod.mk.injEq, exists_eq_left', exists_eq', exists_and_left, reduceIte, Int.reduceEq, Int.reduceNe]
  refine hK _ (CI_push h hc hb h29 hs) rfl (fun q j hq => ?_) (fun q j hq => ?_)
  · rw [si_g, if_neg (by omega)]
    exact cpT_o (by omega)
  · rw [si_g, if_neg (by omega)]
    exact cpT_o (by omega)
def dropA (A : Ab) : Ab := (A.now, 3, (fun i => A.hs (i + 1)), A.f, A.sn, A.tl, A.tc)
theorem rec_drop {A : Ab} (hc : A.c = 4) : recA (dropA A) = recA A := by
  unfold recA dropA Ab.now Ab.c Ab.hs Ab.f Ab.sn Ab.tl Ab.tc
  have hc2 : A.2.1 = 4 := hc
  simp only [hc2, if_true]
  rfl
theorem CI_drop {M : Mm} {A : Ab} (h : CI M A) (hc : A.c = 4) {b : Nat → Nat} (hb : Bk b) (h29 : ∀ i, i < 4 → M.2.2 29 i = some (b i)) (hs : ∀ i, i < A.c → SSg M (b i) (A.hs i)) : CI (si (rT M (fun i => if i = 3 then some (b 0) else if i < 3 then some (b (i + 1)) else M.2.2 29 i)) 28 1 3) (dropA A) := by
  have hfx : Fx (si (rT M (fun i => if i = 3 then some (b 0) else if i < 3 then some (b (i + 1)) else M.2.2 29 i)) 28 1 3) := h.fx.fr rfl (fun q k hq => by rw [si_2, rT_g, if_neg hq])
  generalize hM2 : si (rT M (fun i => if i = 3 then some (b 0) else if i < 3 then some (b (i + 1)) else M.2.2 29 i)) 28 1 3 = M2 at hfx
  have o : ∀ q j, ¬ (q = 28 ∧ j = 1) → M2.2.1 q j = M.2.1 q j := fun q j hq => by
    rw [← hM2, si_g, if_neg hq, rT_2]
  apply CI.mk
  case fx => exact hfx
  case c4 => exact (show 3 ≤ 4 by decide)
  case nw => exact SSg_fr h.nw hfx.s1 (fun q j _ _ => o q j (by omega))
  case cn => rw [← hM2, si_g, if_pos ⟨rfl, rfl⟩]; rfl
  case hs =>
    refine ⟨fun i => if i = 3 then b 0 else b (i + 1), ⟨fun i hi => ?_, fun i j hi hj e => ?_⟩, fun i hi => ?_, fun i hi => ?_⟩
    · show (if i = 3 then b 0 else b (i + 1)) = 30 ∨ _
      by_cases a : i = 3
      · simp only [a, if_true]; exact hb.1 0 (by decide)
      · simp only [a, if_false]; exact hb.1 (i + 1) (by omega)
    · have e' : (if i = 3 then b 0 else b (i + 1)) = (if j = 3 then b 0 else b (j + 1)) := e
      by_cases a : i = 3 <;> by_cases c : j = 3 <;> simp only [a, c, if_true, if_false] at e' ⊢
      · have := hb.2 _ _ (by decide) (by omega) e'; omega
      · have := hb.2 _ _ (by omega) (by decide) e'; omega
      · have := hb.2 _ _ (by omega) (by omega) e'; omega
    · rw [← hM2, si_2, rT_g, if_pos rfl]
      by_cases a : i = 3
      · simp only [a, if_true]
      · rw [if_neg a, if_pos (by omega)]
        exact congrArg some (if_neg a).symm
    · have hi2 : i < 3 := hi
      show SSg M2 (if i = 3 then b 0 else b (i + 1)) (A.hs (i + 1))
      rw [if_neg (by omega)]
      have h6 := hb.1 (i + 1) (by omega)
      exact SSg_fr (hs (i + 1) (by omega)) (hfx.b hb (by omega)).1 (fun q j h1 h2 => o q j (by omega))
  case fl => rw [o _ _ (by omega)]; exact h.fl
  case sn => exact fun e => SSg_fr (h.sn e) hfx.s19 (fun q j _ _ => o q j (by omega))
  case tl => rw [o _ _ (by omega)]; exact h.tl
  case tc => exact fun i hi => by rw [o _ _ (by omega)]; exact h.tc i hi
set_option maxRecDepth 20000 in
theorem e_recordX {K : Int → Mm → Prop} {M : Mm} {A : Ab} (h : CI M A) (hK : ∀ M2, CI M2 (recA A) → M2.1 = M.1 → Ux M M2 → (∀ q j, q ≤ 27 → M2.2.1 q j = M.2.1 q j) → K 0 M2) : m_X0_record [.inr (some 28), .inr (some 1)] K M := by
  have hf := h.fx
  have h4 := h.c4
  show 2 = 2 ∧ sIf1 (cGe (iF 0 1 (rL 0)) (iC 4)) (sCallV 0 m_X0_dropOldest (rL 0) (aN)) (fun ρ2 M1 => recTail (fun ρ3 M3 => sRetV (fun _ _ => False) (fun r M2 => M2.1 = M.1 ∧ K r M2) ρ3 M3) (fun r M2 => M2.1 = M.1 ∧ K r M2) ρ2 M1) (fun r M2 => M2.1 = M.1 ∧ K r M2) (ent [.inr (some 28), .inr (some 1)] 0 0) M
  refine ⟨rfl, ?_⟩
  simp only [hf.x28, h.cn, iC, iL, iF, iA, iAc, iLen, iT, iAdd, iSub, iMul, iDiv, iRem, iNeg, iCh, iAnd31, iQ, iMax, iMin, iAbs, iCallS, iCallV, aN, aI, aR, rL, rF, rA, cEq, cNe, cLt, cGe, cGt, cLe, cAnd, cOr, cNot, cNull, sSkip, sSeq, sLoc, sLocR, sInc, sPut, sPutR, sPutAdd, sPutSub, sAst, sCst, sRst, sAstAdd, sAstSub, sIf1, sIf, sRet, sRetV, sCallV, sCallS, sPop, sCopy, sCopyT, sObj, sSw, iAddW, iMulW, iAndM, iShr, cQ, ent_0, ent_1, ent_2, ent_3, ent_4, ent_5, ent_6, va_up_self, va_up_ne, ne_eq, Nat.reduceEqDiff, not_false_eq_true, not_true_eq_false, si_1, si_2, si_g, sr_1, sr_2, cp_1, cp_2, List.length_cons, List.length_nil, Nat.reduceAdd, true_and, and_true, and_self, eq_self, true_implies, forall_const, Bool.false_eq_true, false_implies, or_true, true_or, Option.some.injEq, Prod.mk.injEq, exists_eq_left', exists_eq', exists_and_left, reduceIte, Int.reduceEq, Int.reduceNe]
  by_cases hc : A.c = 4
  · rw [if_pos (by omega)]
    obtain ⟨b, hb, h29, hs⟩ := h.hs
    refine e_dropOldest hf hb h29 ?_
    refine e_recTl rfl rfl (CI_drop h hc hb h29 hs) (show 3 < 4 by decide) (fun M2 h2 e u v => ⟨e, hK M2 (by rw [rec_drop hc] at h2; exact h2) e (fun q j hq => ?_) (fun q j hq => ?_)⟩)
    · rw [u q j hq, si_g, if_neg (by omega), rT_2]
    · rw [v q j hq, si_g, if_neg (by omega), rT_2]
  · rw [if_neg (by omega)]
    exact e_recTl rfl rfl h (by omega) (fun M2 h2 e u v => ⟨e, hK M2 h2 e u v⟩)
theorem e_record {K : Int → Mm → Prop} {M : Mm} {A : Ab} (h : CI M A) (hK : ∀ M2, CI M2 (recA A) → M2.1 = M.1 → Ux M M2 → K 0 M2) : m_X0_record [.inr (some 28), .inr (some 1)] K M := e_recordX h (fun M2 a b c _ => hK M2 a b c)
