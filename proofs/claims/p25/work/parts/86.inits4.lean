def XP0 : List (Nat × Nat) := [(6, 0)]
def XP1 : List (Nat × Nat) := XP0 ++ stL
def XP2 : List (Nat × Nat) := XP1 ++ stL
def XP3 : List (Nat × Nat) := XP2 ++ stL
def XP4 : List (Nat × Nat) := XP3 ++ (0, 0) :: al_X0_init
def XP5 : List (Nat × Nat) := XP4 ++ (5, 0) :: al_X5_init
def XP6 : List (Nat × Nat) := XP5 ++ [(2, 0)]
def XP7 : List (Nat × Nat) := XP6 ++ (1, 0) :: al_X1_init
theorem XP7_e : XP7 = (6, 0) :: al_X6_init := rfl
/-- all that the class's constructor makes -/
def X6P (M : Mm) : Prop := (M.2.2 0 0 = some 1 ∧ M.2.2 0 1 = some 10 ∧ M.2.2 0 2 = some 19 ∧ M.2.2 0 4 = some 28 ∧ M.2.2 0 5 = some 66 ∧ M.2.2 0 6 = some 68 ∧ M.2.2 0 7 = some 69 ∧ M.2.1 0 3 = 0) ∧ (StR M 1 ∧ StI M 1) ∧ (StR M 10 ∧ StI M 10) ∧ (StR M 19 ∧ StI M 19) ∧ (M.2.2 28 0 = some 29 ∧ M.2.1 28 1 = 0 ∧ ∀ i, i < 4 → M.2.2 29 i = some (28 + 2 + 9 * i) ∧ StR M (28 + 2 + 9 * i) ∧ StI M (28 + 2 + 9 * i)) ∧ (M.2.2 66 0 = some 67 ∧ M.2.1 66 1 = 0) ∧ ∀ j, j < 10 → M.2.2 69 j = some (69 + 1 + j)
theorem e_rNew {M : Mm} {ρ : En} {P : List (Nat × Nat)} {s ci mc ms : Nat} {Me : Mt} {K : Option Nat → Mm → Prop} (hP : M.1 = P) (hs : P.length = s) (h1 : s + 1 + mc ≤ limC ρ) (h2 : ssum P + ssz (ci, 0) + ms ≤ limS ρ) (h3 : s < 1000000) (hM : ∀ M2, M2.1 = P ++ [(ci, 0)] → M2.2 = M.2 → Me [.inr (some s)] (fun _ M3 => K (some s) M3) M2) : rNew ci mc ms Me aN K ρ M := by
  subst hP
  subst hs
  refine ⟨⟨by omega, by omega, by omega⟩, ⟨?_, ?_⟩, hM (pu M (ci, 0)) rfl rfl⟩
  · show (M.1 ++ [(ci, 0)]).length + mc ≤ _
    rw [List.length_append]
    show M.1.length + 1 + mc ≤ _
    omega
  · show ssum (M.1 ++ [(ci, 0)]) + ms ≤ _
    rw [ssum_app]
    show ssum M.1 + (ssz (ci, 0) + 0) + ms ≤ _
    omega
section INI5
variable {K : Int → Mm → Prop} {M : Mm}
set_option maxRecDepth 20000 in
theorem e_X6_init (hP : M.1 = XP0) (hK : ∀ M2, M2.1 = XP7 → X6P M2 → (∀ q j, 80 ≤ q → M2.2.1 q j = M.2.1 q j ∧ M2.2.2 q j = M.2.2 q j) → K 0 M2) : m_X6_init [.inr (some 0)] K M := by
  have hC : (al_X6_init).length = 79 := rfl
  have hS : ssum al_X6_init = 6181 := rfl
  have hl : XP0.length = 1 := rfl
  have hs : ssum XP0 = 8 := rfl
  have hX : XP0 ++ al_X6_init = XP7 := rfl
  simp only [m_X6_init, mkM, B_X6_init, hP, hC, hS, hl, hs, hX, iC, iL, iF, iA, iAc, iLen, iT, iAdd, iSub, iMul, iDiv, iRem, iNeg, iCh, iAnd31, iQ, iMax, iMin, iAbs, iCallS, iCallV, aN, aI, aR, rL, rF, rA, cEq, cNe, cLt, cGe, cGt, cLe, cAnd, cOr, cNot, cNull, sSkip, sSeq, sLoc, sLocR, sInc, sPut, sPutR, sPutAdd, sPutSub, sAst, sCst, sRst, sAstAdd, sAstSub, sIf1, sIf, sRet, sRetV, sCallV, sCallS, sPop, sCopy, sCopyT, sObj, sSw, iAddW, iMulW, iAndM, iShr, cQ, ent_0, ent_1, ent_2, ent_3, ent_4, ent_5, ent_6, va_up_self, va_up_ne, ne_eq, Nat.reduceEqDiff, not_false_eq_true, not_true_eq_false, si_1, si_2, si_g, sr_1, sr_2, cp_1, cp_2, List.length_cons, List.length_nil, Nat.reduceAdd, true_and, and_true, and_self, eq_self, true_implies, forall_const, Bool.false_eq_true, false_implies, or_true, true_or, Option.some.injEq, Prod.mk.injEq, exists_eq_left', exists_eq', exists_and_left, reduceIte, Int.reduceEq, Int.reduceNe]
  refine e_newSt (s := 1) hP rfl (by decide) (by decide) (by decide) (fun M1 a1 a2 a3 a4 => ?_)
  refine ⟨⟨0, by rw [a1]; rfl⟩, by rw [a1]; decide, ?_⟩
  refine e_newSt (s := 10) (P := XP1) a1 rfl (by decide) (by decide) (by decide) (fun M2 b1 b2 b3 b4 => ?_)
  refine ⟨⟨0, by rw [b1]; rfl⟩, by rw [b1]; decide, ?_⟩
  refine e_newSt (s := 19) (P := XP2) b1 rfl (by decide) (by decide) (by decide) (fun M3 c1 c2 c3 c4 => ?_)
  refine ⟨⟨0, by rw [c1]; rfl⟩, by rw [c1]; decide, ⟨0, by rw [c1]; rfl⟩, ?_⟩
  refine e_rNew (P := XP3) (s := 28) c1 rfl (by decide) (by decide) (by decide) (fun N4 d0 d00 => e_X0_init d0 rfl (by decide) (fun M4 d1 d2 d3 d4 d5 => ?_))
  refine ⟨⟨0, by rw [d1]; rfl⟩, by rw [d1]; decide, ?_⟩
  refine e_rNew (P := XP4) (s := 66) d1 rfl (by decide) (by decide) (by decide) (fun N5 e0 e00 => e_X5_init e0 rfl (by decide) (fun M5 e1 e2 e3 e4 => ?_))
  refine ⟨⟨0, by rw [e1]; rfl⟩, by rw [e1]; decide, ?_⟩
  refine e_rNew (P := XP5) (s := 68) e1 rfl (by decide) (by decide) (by decide) (fun N6 f0 f00 => e_X2_init f0 rfl (fun M6 f1 f2 f3 => ?_))
  refine ⟨⟨0, by rw [f1, f0]; rfl⟩, by rw [f1, f0]; decide, ?_⟩
  refine e_rNew (P := XP6) (s := 69) (f1.trans f0) rfl (by decide) (by decide) (by decide) (fun N7 g0 g00 => e_X1_init g0 rfl (by decide) (fun M7 g1 g2 g3 => ?_))
  refine ⟨⟨0, by rw [g1]; rfl⟩, by rw [g1]; decide, g1, ?_⟩
  have i1 : ∀ q j, q < 1 ∨ 9 < q → M1.2.1 q j = M.2.1 q j := fun q j h => (a4 q j h).1
  have i2 : ∀ q j, q < 10 ∨ 18 < q → M2.2.1 q j = M1.2.1 q j := fun q j h => (b4 q j h).1
  have i3 : ∀ q j, q < 19 ∨ 27 < q → M3.2.1 q j = M2.2.1 q j := fun q j h => (c4 q j h).1
  have i4 : ∀ q j, q < 28 ∨ 65 < q → M4.2.1 q j = if q = 0 ∧ j = 3 then 0 else M3.2.1 q j := fun q j h => by rw [(d5 q j h).1, d00]; rfl
  have i5 : ∀ q j, q ≠ 66 → M5.2.1 q j = M4.2.1 q j := fun q j h => by rw [(e4 q j h).1, e00]; rfl
  have i6 : ∀ q j, q ≠ 68 → M6.2.1 q j = M5.2.1 q j := fun q j h => by rw [f3 q j h, f00]; rfl
  have i7 : ∀ q j, q ≠ 69 → M7.2.1 q j = M6.2.1 q j := fun q j h => by rw [(g3 q j h).1, g00]; rfl
  have r1 : ∀ q j, q < 1 ∨ 9 < q → M1.2.2 q j = M.2.2 q j := fun q j h => (a4 q j h).2
  have r2 : ∀ q j, q < 10 ∨ 18 < q → M2.2.2 q j = if q = 0 ∧ j = 0 then some 1 else M1.2.2 q j := fun q j h => (b4 q j h).2
  have r3 : ∀ q j, q < 19 ∨ 27 < q → M3.2.2 q j = if q = 0 ∧ j = 1 then some 10 else M2.2.2 q j := fun q j h => (c4 q j h).2
  have r4 : ∀ q j, q < 28 ∨ 65 < q → M4.2.2 q j = if q = 0 ∧ j = 2 then some 19 else M3.2.2 q j := fun q j h => by rw [(d5 q j h).2, d00]; rfl
  have r5 : ∀ q j, q ≠ 66 → M5.2.2 q j = if q = 0 ∧ j = 4 then some 28 else M4.2.2 q j := fun q j h => by rw [(e4 q j h).2, e00]; rfl
  have r6 : ∀ q j, M6.2.2 q j = if q = 0 ∧ j = 5 then some 66 else M5.2.2 q j := fun q j => by rw [f2, f00]; rfl
  have r7 : ∀ q j, q ≠ 69 → M7.2.2 q j = if q = 0 ∧ j = 6 then some 68 else M6.2.2 q j := fun q j h => by rw [(g3 q j h).2, g00]; rfl
  have r8 : ∀ q j, (sr M7 0 7 (some 69)).2.2 q j = if q = 0 ∧ j = 7 then some 69 else M7.2.2 q j := fun q j => rfl
  have i8 : ∀ q j, (sr M7 0 7 (some 69)).2.1 q j = M7.2.1 q j := fun q j => rfl
  have g1' : (sr M7 0 7 (some 69)).1 = XP7 := g1
  generalize sr M7 0 7 (some 69) = F at r8 i8 g1' ⊢
  refine hK F g1' ⟨⟨?_, ?_, ?_, ?_, ?_, ?_, ?_, ?_⟩, ⟨a2.fr (fun q j h1 h2 => ?_), a3.fr (fun q j h1 h2 => ?_)⟩, ⟨b2.fr (fun q j h1 h2 => ?_), b3.fr (fun q j h1 h2 => ?_)⟩, ⟨c2.fr (fun q j h1 h2 => ?_), c3.fr (fun q j h1 h2 => ?_)⟩, ⟨?_, ?_, fun i hi => ⟨?_, (d4 i hi).2.1.fr (fun q j h1 h2 => ?_), (d4 i hi).2.2.fr (fun q j h1 h2 => ?_)⟩⟩, ⟨?_, ?_⟩, fun j hj => ?_⟩ (fun q j hq => ⟨?_, ?_⟩)
  · rw [r8, if_neg (by omega), r7 _ _ (by omega), if_neg (by omega), r6, if_neg (by omega), r5 _ _ (by omega), if_neg (by omega), r4 _ _ (by omega), if_neg (by omega), r3 _ _ (by omega), if_neg (by omega), r2 _ _ (by omega), if_pos ⟨rfl, rfl⟩]
  · rw [r8, if_neg (by omega), r7 _ _ (by omega), if_neg (by omega), r6, if_neg (by omega), r5 _ _ (by omega), if_neg (by omega), r4 _ _ (by omega), if_neg (by omega), r3 _ _ (by omega), if_pos ⟨rfl, rfl⟩]
  · rw [r8, if_neg (by omega), r7 _ _ (by omega), if_neg (by omega), r6, if_neg (by omega), r5 _ _ (by omega), if_neg (by omega), r4 _ _ (by omega), if_pos ⟨rfl, rfl⟩]
  · rw [r8, if_neg (by omega), r7 _ _ (by omega), if_neg (by omega), r6, if_neg (by omega), r5 _ _ (by omega), if_pos ⟨rfl, rfl⟩]
  · rw [r8, if_neg (by omega), r7 _ _ (by omega), if_neg (by omega), r6, if_pos ⟨rfl, rfl⟩]
  · rw [r8, if_neg (by omega), r7 _ _ (by omega), if_pos ⟨rfl, rfl⟩]
  · rw [r8, if_pos ⟨rfl, rfl⟩]
  · rw [i8, i7 _ _ (by omega), i6 _ _ (by omega), i5 _ _ (by omega), i4 _ _ (by omega), if_pos ⟨rfl, rfl⟩]
  · rw [r8, if_neg (by omega), r7 _ _ (by omega), if_neg (by omega), r6, if_neg (by omega), r5 _ _ (by omega), if_neg (by omega), r4 _ _ (by omega), if_neg (by omega), r3 _ _ (by omega), if_neg (by omega), r2 _ _ (by omega), if_neg (by omega)]
  · rw [i8, i7 _ _ (by omega), i6 _ _ (by omega), i5 _ _ (by omega), i4 _ _ (by omega), if_neg (by omega), i3 _ _ (by omega), i2 _ _ (by omega)]
  · rw [r8, if_neg (by omega), r7 _ _ (by omega), if_neg (by omega), r6, if_neg (by omega), r5 _ _ (by omega), if_neg (by omega), r4 _ _ (by omega), if_neg (by omega), r3 _ _ (by omega), if_neg (by omega)]
  · rw [i8, i7 _ _ (by omega), i6 _ _ (by omega), i5 _ _ (by omega), i4 _ _ (by omega), if_neg (by omega), i3 _ _ (by omega)]
  · rw [r8, if_neg (by omega), r7 _ _ (by omega), if_neg (by omega), r6, if_neg (by omega), r5 _ _ (by omega), if_neg (by omega), r4 _ _ (by omega), if_neg (by omega)]
  · rw [i8, i7 _ _ (by omega), i6 _ _ (by omega), i5 _ _ (by omega), i4 _ _ (by omega), if_neg (by omega)]
  · rw [r8, if_neg (by omega), r7 _ _ (by omega), if_neg (by omega), r6, if_neg (by omega), r5 _ _ (by omega), if_neg (by omega)]; exact d2
  · rw [i8, i7 _ _ (by omega), i6 _ _ (by omega), i5 _ _ (by omega)]; exact d3
  · rw [r8, if_neg (by omega), r7 _ _ (by omega), if_neg (by omega), r6, if_neg (by omega), r5 _ _ (by omega), if_neg (by omega)]; exact (d4 i hi).1
  · rw [r8, if_neg (by omega), r7 _ _ (by omega), if_neg (by omega), r6, if_neg (by omega), r5 _ _ (by omega), if_neg (by omega)]
  · rw [i8, i7 _ _ (by omega), i6 _ _ (by omega), i5 _ _ (by omega)]
  · rw [r8, if_neg (by omega), r7 _ _ (by omega), if_neg (by omega), r6, if_neg (by omega)]; exact e2
  · rw [i8, i7 _ _ (by omega), i6 _ _ (by omega)]; exact e3
  · rw [r8, if_neg (by omega)]; exact g2 j hj
  · rw [i8, i7 _ _ (by omega), i6 _ _ (by omega), i5 _ _ (by omega), i4 _ _ (by omega), if_neg (by omega), i3 _ _ (by omega), i2 _ _ (by omega), i1 _ _ (by omega)]
  · rw [r8, if_neg (by omega), r7 _ _ (by omega), if_neg (by omega), r6, if_neg (by omega), r5 _ _ (by omega), if_neg (by omega), r4 _ _ (by omega), if_neg (by omega), r3 _ _ (by omega), if_neg (by omega), r2 _ _ (by omega), if_neg (by omega), r1 _ _ (by omega)]
end INI5
