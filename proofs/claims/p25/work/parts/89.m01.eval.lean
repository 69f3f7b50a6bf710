/-! ===== what expressions answer over the class's state ===== -/
def Ev (E : IE) (ρ : En) (A : Ab) (v : Int) (A2 : Ab) : Prop := ∀ (K : Int → Mm → Prop) (M : Mm), CI M A → (∀ M2, CN M M2 A2 → K v M2) → E K ρ M
def Ec (C : CE) (ρ : En) (A : Ab) (b : Prop) (A2 : Ab) : Prop := ∀ (KT KF : Mm → Prop) (M : Mm), CI M A → (b → ∀ M2, CN M M2 A2 → KT M2) → (¬ b → ∀ M2, CN M M2 A2 → KF M2) → C KT KF ρ M
section EV
variable {ρ : En} {A A1 A2 : Ab} {a b : IE} {c d e : CE} {x y v : Int} {p q : Prop}
theorem Ev.cg (h : Ev a ρ A x A2) (e : x = y) : Ev a ρ A y A2 := by subst e; exact h
theorem Ec.iff (h : Ec c ρ A p A2) (e : p ↔ q) : Ec c ρ A q A2 := fun KT KF M hc hT hF => h KT KF M hc (fun hp => hT (e.mp hp)) (fun hp => hF (fun hq => hp (e.mpr hq)))
theorem Ec.T (h : Ec c ρ A p A2) (hp : p) : Ec c ρ A True A2 := h.iff (iff_true_intro hp)
theorem Ec.F (h : Ec c ρ A p A2) (hp : ¬ p) : Ec c ρ A False A2 := h.iff (iff_false_intro hp)
theorem Ev_c {z : Int} : Ev (iC z) ρ A z A := fun K M hc hK => hK M hc.rf
theorem Ev_l {i : Nat} {z : Int} (h : ρ i = .inl z) : Ev (iL i) ρ A z A := fun K M hc hK => by
  show (match ρ i with
    | .inl z => K z M
    | _ => False)
  rw [h]
  exact hK M hc.rf
theorem Ev_add (ha : Ev a ρ A x A1) (hb : Ev b ρ A1 y A2) (hr : inR (x + y)) : Ev (iAdd a b) ρ A (x + y) A2 := fun K M hc hK => ha _ M hc (fun M2 n2 => hb _ M2 n2.1 (fun M3 n3 => ⟨hr, hK M3 (n2.tr n3)⟩))
theorem Ev_sub (ha : Ev a ρ A x A1) (hb : Ev b ρ A1 y A2) (hr : inR (x - y)) : Ev (iSub a b) ρ A (x - y) A2 := fun K M hc hK => ha _ M hc (fun M2 n2 => hb _ M2 n2.1 (fun M3 n3 => ⟨hr, hK M3 (n2.tr n3)⟩))
theorem Ev_mul (ha : Ev a ρ A x A1) (hb : Ev b ρ A1 y A2) (hr : inR (x * y)) : Ev (iMul a b) ρ A (x * y) A2 := fun K M hc hK => ha _ M hc (fun M2 n2 => hb _ M2 n2.1 (fun M3 n3 => ⟨hr, hK M3 (n2.tr n3)⟩))
theorem Ev_div (ha : Ev a ρ A x A1) (hb : Ev b ρ A1 y A2) (hy : y ≠ 0) (hr : inR (x.tdiv y)) : Ev (iDiv a b) ρ A (x.tdiv y) A2 := fun K M hc hK => ha _ M hc (fun M2 n2 => hb _ M2 n2.1 (fun M3 n3 => ⟨hy, hr, hK M3 (n2.tr n3)⟩))
theorem Ev_rem (ha : Ev a ρ A x A1) (hb : Ev b ρ A1 y A2) (hy : y ≠ 0) (hr : inR (x.tmod y)) : Ev (iRem a b) ρ A (x.tmod y) A2 := fun K M hc hK => ha _ M hc (fun M2 n2 => hb _ M2 n2.1 (fun M3 n3 => ⟨hy, hr, hK M3 (n2.tr n3)⟩))
theorem Ev_neg (ha : Ev a ρ A x A1) (hr : inR (-x)) : Ev (iNeg a) ρ A (-x) A1 := fun K M hc hK => ha _ M hc (fun M2 n2 => ⟨hr, hK M2 n2⟩)
theorem Ev_andM {m : Int} (ha : Ev a ρ A x A1) : Ev (iAndM m a) ρ A (x % m) A1 := fun K M hc hK => ha _ M hc hK
theorem Ev_shr {m : Int} (ha : Ev a ρ A x A1) : Ev (iShr m a) ρ A (x / m) A1 := fun K M hc hK => ha _ M hc hK
theorem Ev_q (hc : Ec c ρ A p A1) (ha : p → Ev a ρ A1 x A2) (hb : ¬ p → Ev b ρ A1 x A2) : Ev (iQ c a b) ρ A x A2 := fun K M h hK => hc _ _ M h (fun hp M2 n2 => ha hp _ M2 n2.1 (fun M3 n3 => hK M3 (n2.tr n3))) (fun hp M2 n2 => hb hp _ M2 n2.1 (fun M3 n3 => hK M3 (n2.tr n3)))
theorem Ev_qI [Decidable p] (hc : Ec c ρ A p A1) (ha : p → Ev a ρ A1 x A2) (hb : ¬ p → Ev b ρ A1 y A2) : Ev (iQ c a b) ρ A (if p then x else y) A2 := Ev_q hc (fun hp => (ha hp).cg (if_pos hp).symm) (fun hp => (hb hp).cg (if_neg hp).symm)
theorem Ev_qT (hc : Ec c ρ A True A1) (ha : Ev a ρ A1 x A2) : Ev (iQ c a b) ρ A x A2 := Ev_q hc (fun _ => ha) (fun h => absurd trivial h)
theorem Ev_qF (hc : Ec c ρ A False A1) (hb : Ev b ρ A1 x A2) : Ev (iQ c a b) ρ A x A2 := Ev_q hc (fun h => h.elim) (fun _ => hb)
theorem Ec_eq (ha : Ev a ρ A x A1) (hb : Ev b ρ A1 y A2) : Ec (cEq a b) ρ A (x = y) A2 := fun KT KF M hc hT hF => ha _ M hc (fun M2 n2 => hb _ M2 n2.1 (fun M3 n3 => by
  by_cases h : x = y
  · rw [if_pos h]; exact hT h M3 (n2.tr n3)
  · rw [if_neg h]; exact hF h M3 (n2.tr n3)))
theorem Ec_ne (ha : Ev a ρ A x A1) (hb : Ev b ρ A1 y A2) : Ec (cNe a b) ρ A (x ≠ y) A2 := fun KT KF M hc hT hF => ha _ M hc (fun M2 n2 => hb _ M2 n2.1 (fun M3 n3 => by
  by_cases h : x ≠ y
  · rw [if_pos h]; exact hT h M3 (n2.tr n3)
  · rw [if_neg h]; exact hF h M3 (n2.tr n3)))
theorem Ec_lt (ha : Ev a ρ A x A1) (hb : Ev b ρ A1 y A2) : Ec (cLt a b) ρ A (x < y) A2 := fun KT KF M hc hT hF => ha _ M hc (fun M2 n2 => hb _ M2 n2.1 (fun M3 n3 => by
  by_cases h : x < y
  · rw [if_pos h]; exact hT h M3 (n2.tr n3)
  · rw [if_neg h]; exact hF h M3 (n2.tr n3)))
theorem Ec_ge (ha : Ev a ρ A x A1) (hb : Ev b ρ A1 y A2) : Ec (cGe a b) ρ A (y ≤ x) A2 := fun KT KF M hc hT hF => ha _ M hc (fun M2 n2 => hb _ M2 n2.1 (fun M3 n3 => by
  by_cases h : y ≤ x
  · rw [if_pos h]; exact hT h M3 (n2.tr n3)
  · rw [if_neg h]; exact hF h M3 (n2.tr n3)))
theorem Ec_gt (ha : Ev a ρ A x A1) (hb : Ev b ρ A1 y A2) : Ec (cGt a b) ρ A (y < x) A2 := fun KT KF M hc hT hF => ha _ M hc (fun M2 n2 => hb _ M2 n2.1 (fun M3 n3 => by
  by_cases h : y < x
  · rw [if_pos h]; exact hT h M3 (n2.tr n3)
  · rw [if_neg h]; exact hF h M3 (n2.tr n3)))
theorem Ec_le (ha : Ev a ρ A x A1) (hb : Ev b ρ A1 y A2) : Ec (cLe a b) ρ A (x ≤ y) A2 := fun KT KF M hc hT hF => ha _ M hc (fun M2 n2 => hb _ M2 n2.1 (fun M3 n3 => by
  by_cases h : x ≤ y
  · rw [if_pos h]; exact hT h M3 (n2.tr n3)
  · rw [if_neg h]; exact hF h M3 (n2.tr n3)))
theorem Ec_and (ha : Ec c ρ A p A1) (hb : p → Ec d ρ A1 q A1) : Ec (cAnd c d) ρ A (p ∧ q) A1 := fun KT KF M h hT hF => ha _ _ M h (fun hp M2 n2 => hb hp _ _ M2 n2.1 (fun hq M3 n3 => hT ⟨hp, hq⟩ M3 (n2.tr n3)) (fun hq M3 n3 => hF (fun h => hq h.2) M3 (n2.tr n3))) (fun hp M2 n2 => hF (fun h => hp h.1) M2 n2)
theorem Ec_or (ha : Ec c ρ A p A1) (hb : ¬ p → Ec d ρ A1 q A1) : Ec (cOr c d) ρ A (p ∨ q) A1 := fun KT KF M h hT hF => ha _ _ M h (fun hp M2 n2 => hT (.inl hp) M2 n2) (fun hp M2 n2 => hb hp _ _ M2 n2.1 (fun hq M3 n3 => hT (.inr hq) M3 (n2.tr n3)) (fun hq M3 n3 => hF (fun h => h.elim hp hq) M3 (n2.tr n3)))
theorem Ec_andT (ha : Ec c ρ A True A1) (hb : Ec d ρ A1 q A2) : Ec (cAnd c d) ρ A q A2 := fun KT KF M h hT hF => ha _ _ M h (fun _ M2 n2 => hb _ _ M2 n2.1 (fun hq M3 n3 => hT hq M3 (n2.tr n3)) (fun hq M3 n3 => hF hq M3 (n2.tr n3))) (fun hp _ _ => absurd trivial hp)
theorem Ec_orF (ha : Ec c ρ A False A1) (hb : Ec d ρ A1 q A2) : Ec (cOr c d) ρ A q A2 := fun KT KF M h hT hF => ha _ _ M h (fun hp _ _ => hp.elim) (fun _ M2 n2 => hb _ _ M2 n2.1 (fun hq M3 n3 => hT hq M3 (n2.tr n3)) (fun hq M3 n3 => hF hq M3 (n2.tr n3)))
theorem Ec_orT (ha : Ec c ρ A True A1) : Ec (cOr c d) ρ A True A1 := fun KT KF M h hT hF => ha _ _ M h (fun hp M2 n2 => hT hp M2 n2) (fun hp _ _ => absurd trivial hp)
theorem Ec_andF (ha : Ec c ρ A False A1) : Ec (cAnd c d) ρ A False A1 := fun KT KF M h hT hF => ha _ _ M h (fun hp _ _ => hp.elim) (fun hp M2 n2 => hF hp M2 n2)
theorem Ec_not (ha : Ec c ρ A p A1) : Ec (cNot c) ρ A (¬ p) A1 := fun KT KF M h hT hF => ha _ _ M h (fun hp M2 n2 => hF (fun h => h hp) M2 n2) (fun hp M2 n2 => hT hp M2 n2)
theorem Ec_Q (hc : Ec c ρ A p A1) (ha : p → Ec d ρ A1 q A2) (hb : ¬ p → Ec e ρ A1 q A2) : Ec (cQ c d e) ρ A q A2 := fun KT KF M h hT hF => hc _ _ M h (fun hp M2 n2 => ha hp _ _ M2 n2.1 (fun hq M3 n3 => hT hq M3 (n2.tr n3)) (fun hq M3 n3 => hF hq M3 (n2.tr n3))) (fun hp M2 n2 => hb hp _ _ M2 n2.1 (fun hq M3 n3 => hT hq M3 (n2.tr n3)) (fun hq M3 n3 => hF hq M3 (n2.tr n3)))
end EV
section EVCALL
variable {ρ : En} {A : Ab} {r : Nat}
theorem Ek_add (h0 : ρ r = .inr (some 0)) {e0 : IE} {x0 : Int} {e1 : IE} {x1 : Int} {e2 : IE} {x2 : Int} {e3 : IE} {x3 : Int} {e4 : IE} {x4 : Int} (h1 : Ev e0 ρ A x0 A) (h2 : Ev e1 ρ A x1 A) (h3 : Ev e2 ρ A x2 A) (h4 : Ev e3 ρ A x3 A) (h5 : Ev e4 ρ A x4 A) (hV : A.now.V) (hf : x4 = 0 ∨ x4 = 1) : Ev (iCallV 6 m_X6_add (rL r) (aI e0 (aI e1 (aI e2 (aI e3 (aI e4 (aN))))))) ρ A ((addR A x0 x1 x2 x3 x4).1) ((addR A x0 x1 x2 x3 x4).2) := fun K M hc hK => by
  show (match ρ r with
    | .inr (some q) => _
    | _ => False)
  rw [h0]
  exact h1 _ _ hc (fun M2 n2 => h2 _ _ n2.1 (fun M3 n3 => h3 _ _ n3.1 (fun M4 n4 => h4 _ _ n4.1 (fun M5 n5 => h5 _ _ n5.1 (fun M6 n6 => ⟨⟨0, n6.1.fx.x0⟩, c_add n6.1 hV hf (fun M9 n9 => hK M9 ((((((hc.rf.tr n2).tr n3).tr n4).tr n5).tr n6).tr n9))⟩)))))
theorem Ek_drop (h0 : ρ r = .inr (some 0)) : Ev (iCallV 6 m_X6_drop (rL r) (aN)) ρ A ((dropR A).1) ((dropR A).2) := fun K M hc hK => by
  show (match ρ r with
    | .inr (some q) => _
    | _ => False)
  rw [h0]
  exact ⟨⟨0, hc.fx.x0⟩, c_drop hc (fun M9 n9 => hK M9 (hc.rf.tr n9))⟩
theorem Ek_set (h0 : ρ r = .inr (some 0)) {e0 : IE} {x0 : Int} {e1 : IE} {x1 : Int} (h1 : Ev e0 ρ A x0 A) (h2 : Ev e1 ρ A x1 A) : Ev (iCallV 6 m_X6_set (rL r) (aI e0 (aI e1 (aN)))) ρ A ((setR A x0 x1).1) ((setR A x0 x1).2) := fun K M hc hK => by
  show (match ρ r with
    | .inr (some q) => _
    | _ => False)
  rw [h0]
  exact h1 _ _ hc (fun M2 n2 => h2 _ _ n2.1 (fun M3 n3 => ⟨⟨0, n3.1.fx.x0⟩, c_set n3.1 (fun M9 n9 => hK M9 (((hc.rf.tr n2).tr n3).tr n9))⟩))
theorem Ek_sing (h0 : ρ r = .inr (some 0)) {e0 : IE} {x0 : Int} {e1 : IE} {x1 : Int} {e2 : IE} {x2 : Int} (h1 : Ev e0 ρ A x0 A) (h2 : Ev e1 ρ A x1 A) (h3 : Ev e2 ρ A x2 A) (hV : A.now.V) : Ev (iCallV 6 m_X6_sing (rL r) (aI e0 (aI e1 (aI e2 (aN))))) ρ A ((singR A x0 x1 x2).1) ((singR A x0 x1 x2).2) := fun K M hc hK => by
  show (match ρ r with
    | .inr (some q) => _
    | _ => False)
  rw [h0]
  exact h1 _ _ hc (fun M2 n2 => h2 _ _ n2.1 (fun M3 n3 => h3 _ _ n3.1 (fun M4 n4 => ⟨⟨0, n4.1.fx.x0⟩, c_sing n4.1 hV (fun M9 n9 => hK M9 ((((hc.rf.tr n2).tr n3).tr n4).tr n9))⟩)))
theorem Ek_silence (h0 : ρ r = .inr (some 0)) {e0 : IE} {x0 : Int} {e1 : IE} {x1 : Int} (h1 : Ev e0 ρ A x0 A) (h2 : Ev e1 ρ A x1 A) (hV : A.now.V) : Ev (iCallV 6 m_X6_silence (rL r) (aI e0 (aI e1 (aN)))) ρ A ((silR A x0 x1).1) ((silR A x0 x1).2) := fun K M hc hK => by
  show (match ρ r with
    | .inr (some q) => _
    | _ => False)
  rw [h0]
  exact h1 _ _ hc (fun M2 n2 => h2 _ _ n2.1 (fun M3 n3 => ⟨⟨0, n3.1.fx.x0⟩, c_silence n3.1 hV (fun M9 n9 => hK M9 (((hc.rf.tr n2).tr n3).tr n9))⟩))
theorem Ek_singAlong (h0 : ρ r = .inr (some 0)) {e0 : IE} {x0 : Int} {e1 : IE} {x1 : Int} {e2 : IE} {x2 : Int} (h1 : Ev e0 ρ A x0 A) (h2 : Ev e1 ρ A x1 A) (h3 : Ev e2 ρ A x2 A) (hV : A.now.V) : Ev (iCallV 6 m_X6_singAlong (rL r) (aI e0 (aI e1 (aI e2 (aN))))) ρ A ((salR A x0 x1 x2).1) ((salR A x0 x1 x2).2) := fun K M hc hK => by
  show (match ρ r with
    | .inr (some q) => _
    | _ => False)
  rw [h0]
  exact h1 _ _ hc (fun M2 n2 => h2 _ _ n2.1 (fun M3 n3 => h3 _ _ n3.1 (fun M4 n4 => ⟨⟨0, n4.1.fx.x0⟩, c_singAlong n4.1 hV (fun M9 n9 => hK M9 ((((hc.rf.tr n2).tr n3).tr n4).tr n9))⟩)))
theorem Ek_undo (h0 : ρ r = .inr (some 0)) : Ev (iCallV 6 m_X6_undo (rL r) (aN)) ρ A ((undR A).1) ((undR A).2) := fun K M hc hK => by
  show (match ρ r with
    | .inr (some q) => _
    | _ => False)
  rw [h0]
  exact ⟨⟨0, hc.fx.x0⟩, c_undo hc (fun M9 n9 => hK M9 (hc.rf.tr n9))⟩
theorem Ek_syllable (h0 : ρ r = .inr (some 0)) {e0 : IE} {x0 : Int} {e1 : IE} {x1 : Int} (h1 : Ev e0 ρ A x0 A) (h2 : Ev e1 ρ A x1 A) (hV : A.now.V) : Ev (iCallV 6 m_X6_syllable (rL r) (aI e0 (aI e1 (aN)))) ρ A (sylV A.now x0 x1) (A) := fun K M hc hK => by
  show (match ρ r with
    | .inr (some q) => _
    | _ => False)
  rw [h0]
  exact h1 _ _ hc (fun M2 n2 => h2 _ _ n2.1 (fun M3 n3 => ⟨⟨0, n3.1.fx.x0⟩, c_syllable n3.1 hV (fun M9 n9 => hK M9 (((hc.rf.tr n2).tr n3).tr n9))⟩))
theorem Ek_wanted (h0 : ρ r = .inr (some 0)) {e0 : IE} {x0 : Int} (h1 : Ev e0 ρ A x0 A) (hV : A.now.V) : Ev (iCallV 6 m_X6_wanted (rL r) (aI e0 (aN))) ρ A (wanV A.now x0) (A) := fun K M hc hK => by
  show (match ρ r with
    | .inr (some q) => _
    | _ => False)
  rw [h0]
  exact h1 _ _ hc (fun M2 n2 => ⟨⟨0, n2.1.fx.x0⟩, c_wanted n2.1 hV (fun M9 n9 => hK M9 ((hc.rf.tr n2).tr n9))⟩)
theorem Ek_sung (h0 : ρ r = .inr (some 0)) {e0 : IE} {x0 : Int} (h1 : Ev e0 ρ A x0 A) : Ev (iCallV 6 m_X6_sung (rL r) (aI e0 (aN))) ρ A (sunV A.now x0) (A) := fun K M hc hK => by
  show (match ρ r with
    | .inr (some q) => _
    | _ => False)
  rw [h0]
  exact h1 _ _ hc (fun M2 n2 => ⟨⟨0, n2.1.fx.x0⟩, c_sung n2.1 (fun M9 n9 => hK M9 ((hc.rf.tr n2).tr n9))⟩)
theorem Ek_lit (h0 : ρ r = .inr (some 0)) {e0 : IE} {x0 : Int} {e1 : IE} {x1 : Int} (h1 : Ev e0 ρ A x0 A) (h2 : Ev e1 ρ A x1 A) (hV : A.now.V) : Ev (iCallV 6 m_X6_lit (rL r) (aI e0 (aI e1 (aN)))) ρ A (litV A.now x0 x1) (A) := fun K M hc hK => by
  show (match ρ r with
    | .inr (some q) => _
    | _ => False)
  rw [h0]
  exact h1 _ _ hc (fun M2 n2 => h2 _ _ n2.1 (fun M3 n3 => ⟨⟨0, n3.1.fx.x0⟩, c_lit n3.1 hV (fun M9 n9 => hK M9 (((hc.rf.tr n2).tr n3).tr n9))⟩))
theorem Ek_phrase (h0 : ρ r = .inr (some 0)) {e0 : IE} {x0 : Int} {e1 : IE} {x1 : Int} (h1 : Ev e0 ρ A x0 A) (h2 : Ev e1 ρ A x1 A) (hV : A.now.V) : Ev (iCallV 6 m_X6_phrase (rL r) (aI e0 (aI e1 (aN)))) ρ A (phrV A.now x0 x1) (A) := fun K M hc hK => by
  show (match ρ r with
    | .inr (some q) => _
    | _ => False)
  rw [h0]
  exact h1 _ _ hc (fun M2 n2 => h2 _ _ n2.1 (fun M3 n3 => ⟨⟨0, n3.1.fx.x0⟩, c_phrase n3.1 hV (fun M9 n9 => hK M9 (((hc.rf.tr n2).tr n3).tr n9))⟩))
theorem Ek_total (h0 : ρ r = .inr (some 0)) {e0 : IE} {x0 : Int} (h1 : Ev e0 ρ A x0 A) (hV : A.now.V) : Ev (iCallV 6 m_X6_total (rL r) (aI e0 (aN))) ρ A (totV A x0) (A) := fun K M hc hK => by
  show (match ρ r with
    | .inr (some q) => _
    | _ => False)
  rw [h0]
  exact h1 _ _ hc (fun M2 n2 => ⟨⟨0, n2.1.fx.x0⟩, c_total n2.1 hV (fun M9 n9 => hK M9 ((hc.rf.tr n2).tr n9))⟩)
theorem Ek_ifShifted (h0 : ρ r = .inr (some 0)) {e0 : IE} {x0 : Int} {e1 : IE} {x1 : Int} (h1 : Ev e0 ρ A x0 A) (h2 : Ev e1 ρ A x1 A) (hV : A.now.V) : Ev (iCallV 6 m_X6_ifShifted (rL r) (aI e0 (aI e1 (aN)))) ρ A (ifhV A.now x0 x1) (A) := fun K M hc hK => by
  show (match ρ r with
    | .inr (some q) => _
    | _ => False)
  rw [h0]
  exact h1 _ _ hc (fun M2 n2 => h2 _ _ n2.1 (fun M3 n3 => ⟨⟨0, n3.1.fx.x0⟩, c_ifShifted n3.1 hV (fun M9 n9 => hK M9 (((hc.rf.tr n2).tr n3).tr n9))⟩))
theorem Ek_bestShift (h0 : ρ r = .inr (some 0)) (hV : A.now.V) : Ev (iCallV 6 m_X6_bestShift (rL r) (aN)) ρ A (besV A.now) (A) := fun K M hc hK => by
  show (match ρ r with
    | .inr (some q) => _
    | _ => False)
  rw [h0]
  exact ⟨⟨0, hc.fx.x0⟩, c_bestShift hc hV (fun M9 n9 => hK M9 (hc.rf.tr n9))⟩
theorem Ek_ifSet (h0 : ρ r = .inr (some 0)) {e0 : IE} {x0 : Int} {e1 : IE} {x1 : Int} (h1 : Ev e0 ρ A x0 A) (h2 : Ev e1 ρ A x1 A) (hV : A.now.V) : Ev (iCallV 6 m_X6_ifSet (rL r) (aI e0 (aI e1 (aN)))) ρ A (ifsV A.now x0 x1) (A) := fun K M hc hK => by
  show (match ρ r with
    | .inr (some q) => _
    | _ => False)
  rw [h0]
  exact h1 _ _ hc (fun M2 n2 => h2 _ _ n2.1 (fun M3 n3 => ⟨⟨0, n3.1.fx.x0⟩, c_ifSet n3.1 hV (fun M9 n9 => hK M9 (((hc.rf.tr n2).tr n3).tr n9))⟩))
theorem Ek_worst (h0 : ρ r = .inr (some 0)) (hV : A.now.V) : Ev (iCallV 6 m_X6_worst (rL r) (aN)) ρ A (worV A.now) (A) := fun K M hc hK => by
  show (match ρ r with
    | .inr (some q) => _
    | _ => False)
  rw [h0]
  exact ⟨⟨0, hc.fx.x0⟩, c_worst hc hV (fun M9 n9 => hK M9 (hc.rf.tr n9))⟩
end EVCALL
section EVST
variable {W : En → Mm → Prop} {Rt : Int → Mm → Prop} {ρ : En} {M0 M : Mm} {A A2 : Ab} {s : ST}
theorem sq_loc {i : Nat} {e : IE} {v : Int} (n : CN M0 M A) (h : Ev e ρ A v A2) (k : ∀ M2, CN M0 M2 A2 → s W Rt (va_up ρ i (.inl v)) M2) : sSeq (sLoc i e) s W Rt ρ M := h _ M n.1 (fun M2 n2 => k M2 (n.tr n2))
theorem st_loc {i : Nat} {e : IE} {v : Int} (n : CN M0 M A) (h : Ev e ρ A v A2) (k : ∀ M2, CN M0 M2 A2 → W (va_up ρ i (.inl v)) M2) : sLoc i e W Rt ρ M := h _ M n.1 (fun M2 n2 => k M2 (n.tr n2))
theorem st_inc {i : Nat} {m z : Int} (h : ρ i = .inl z) (hr : inR (z + m)) (k : W (va_up ρ i (.inl (z + m))) M) : sInc i m W Rt ρ M := by
  show (match ρ i with
    | .inl z => inR (z + m) ∧ W (va_up ρ i (.inl (z + m))) M
    | _ => False)
  rw [h]
  exact ⟨hr, k⟩
theorem st_retB {e : IE} (n : CN M0 M A) (h : Ev e ρ A 1 A2) (k : ∀ M2, CN M0 M2 A2 → Rt 1 M2) : sRet true e W Rt ρ M := h _ M n.1 (fun M2 n2 => ⟨fun _ => .inr rfl, k M2 (n.tr n2)⟩)
theorem st_ifF {c : CE} {t : ST} (n : CN M0 M A) (h : Ec c ρ A False A2) (k : ∀ M2, CN M0 M2 A2 → s W Rt ρ M2) : sSeq (sIf1 c t) s W Rt ρ M := h _ _ M n.1 (fun h => h.elim) (fun _ M2 n2 => k M2 (n.tr n2))
theorem st_ifT {c : CE} {t : ST} (n : CN M0 M A) (h : Ec c ρ A True A2) (k : ∀ M2, CN M0 M2 A2 → t (fun ρ M => s W Rt ρ M) Rt ρ M2) : sSeq (sIf1 c t) s W Rt ρ M := h _ _ M n.1 (fun _ M2 n2 => k M2 (n.tr n2)) (fun h => absurd trivial h)
theorem st_if {c : CE} {t : ST} {p : Prop} (n : CN M0 M A) (h : Ec c ρ A p A2) (kT : p → ∀ M2, CN M0 M2 A2 → t (fun ρ M => s W Rt ρ M) Rt ρ M2) (kF : ¬ p → ∀ M2, CN M0 M2 A2 → s W Rt ρ M2) : sSeq (sIf1 c t) s W Rt ρ M := h _ _ M n.1 (fun hp M2 n2 => kT hp M2 (n.tr n2)) (fun hp M2 n2 => kF hp M2 (n.tr n2))
theorem sq_a {a b : ST} (h : a (fun ρ M => b (fun ρ M => s W Rt ρ M) Rt ρ M) Rt ρ M) : sSeq (sSeq a b) s W Rt ρ M := h
end EVST
