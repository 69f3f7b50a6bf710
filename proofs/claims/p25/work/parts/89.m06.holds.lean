section HOLA
variable {W : En → Mm → Prop} {Rt : Int → Mm → Prop} {ρ : En} {M0 M : Mm} {A A2 : Ab} {k r : Nat} {e : IE}
theorem st_ifF0 {c : CE} {t : ST} (n : CN M0 M A) (h : Ec c ρ A False A2) (k : ∀ M2, CN M0 M2 A2 → W ρ M2) : sIf1 c t W Rt ρ M := h _ _ M n.1 (fun h => h.elim) (fun _ M2 n2 => k M2 (n.tr n2))
theorem Ek_isy (h0 : ρ r = .inr (some 0)) (h1 : Ev e ρ A (k : Int) A) (hV : A.now.V) (hk : k < A.now.n) : Ev (iCallS m_L_isSyllable (aR (rL r) (aI e (aN)))) ρ A 1 A := fun K M hc hK => by
  show (match ρ r with
    | .inr (some q) => _
    | _ => False)
  rw [h0]
  exact h1 _ M hc (fun M2 n2 => l_isSyllable n2.1 hV hk (fun M3 n3 => hK M3 (n2.tr n3)))
theorem em1 {i : Nat} (h : ρ i = .inl ((k + 1 : Nat) : Int)) (hk : k < 1000000) : Ev (iSub (iL i) (iC 1)) ρ A (k : Int) A := Ev.cg (Ev_sub (Ev_l h) Ev_c (inR_s (by omega) (by omega))) (by omega)
end HOLA
section HOL1
variable {W : En → Mm → Prop} {Rt : Int → Mm → Prop} {ρ : En} {M0 M : Mm} {A : Ab}
theorem hol_1 (hV : A.now.V) (g0 : ρ 0 = .inr (some 0)) (g1 : ρ 1 = .inl (A.now.n : Int)) (g2 : ρ 2 = .inl 0) (g3 : ρ 3 = .inl 0) (g6 : ρ 6 = .inl 0) (n0 : CN M0 M A) (hW : ∀ ρ2 M2, CN M0 M2 A → (∀ i, i < 2 ∨ i = 4 ∨ i = 5 → ρ2 i = ρ i) → ρ2 2 = .inl (tk A.now.n A.now.D) → ρ2 3 = .inl (hitsA A.now) → W ρ2 M2) : (sWhile (cLt (iL 6) (iL 1)) (sSeq (sSeq (sIf1 (cOr (cLt (iCallV 6 m_X6_syllable (rL 0) (aI (iL 6) (aI (iC 0) (aN)))) (iL 2)) (cNot (cNe (iCallS m_L_isSyllable (aR (rL 0) (aI (iL 6) (aN)))) (iC 0)))) (sRet true (iC 0))) (sSeq (sLoc 2 (iAdd (iCallV 6 m_X6_syllable (rL 0) (aI (iL 6) (aI (iC 0) (aN)))) (iCallV 6 m_X6_syllable (rL 0) (aI (iL 6) (aI (iC 1) (aN)))))) (sSeq (sLoc 3 (iAdd (iL 3) (iQ (cEq (iCallV 6 m_X6_syllable (rL 0) (aI (iL 6) (aI (iC 9) (aN)))) (iC 0)) (iC 1) (iC 0)))) (sSeq (sLoc 7 (iQ (cOr (cEq (iL 6) (iC 0)) (cNe (iCallV 6 m_X6_syllable (rL 0) (aI (iL 6) (aI (iC 4) (aN)))) (iCallV 6 m_X6_syllable (rL 0) (aI (iSub (iL 6) (iC 1)) (aI (iC 4) (aN)))))) (iC 1) (iC 0))) (sSeq (sLoc 8 (iQ (cOr (cNe (iL 7) (iC 0)) (cGt (iCallV 6 m_X6_syllable (rL 0) (aI (iSub (iL 6) (iC 1)) (aI (iC 9) (aN)))) (iC 0))) (iC 0) (iAdd (iCallV 6 m_X6_syllable (rL 0) (aI (iSub (iL 6) (iC 1)) (aI (iC 11) (aN)))) (iC 1)))) (sIf1 (cOr (cNe (iCallV 6 m_X6_syllable (rL 0) (aI (iL 6) (aI (iC 11) (aN)))) (iQ (cGt (iL 8) (iC 10)) (iC 10) (iL 8))) (cNe (iCallV 6 m_X6_syllable (rL 0) (aI (iL 6) (aI (iC 4) (aN)))) (iQ (cEq (iL 6) (iC 0)) (iC 0) (iAdd (iCallV 6 m_X6_syllable (rL 0) (aI (iSub (iL 6) (iC 1)) (aI (iC 4) (aN)))) (iQ (cNe (iL 7) (iC 0)) (iC 1) (iC 0)))))) (sRet true (iC 0)))))))) (sInc 6 1))) W Rt ρ M := by
  have hn := hV.1.1
  refine while_n (n := A.now.n) (fun r ρ2 M2 => ∃ k : Nat, k + r = A.now.n ∧ (∀ i, i < 2 ∨ i = 4 ∨ i = 5 → ρ2 i = ρ i) ∧ ρ2 2 = .inl (tk k A.now.D) ∧ ρ2 3 = .inl (sm (fun j => if rsS A.now j = 0 then 1 else 0) k) ∧ ρ2 6 = .inl (k : Int) ∧ CN M0 M2 A) ?_ ⟨0, by omega, fun _ _ => rfl, g2, g3, g6, n0⟩
  rintro r V hVV ρ2 M2 ⟨k, hr, hI, h2, h3, h6, n2⟩
  have h0 : ρ2 0 = .inr (some 0) := (hI 0 (by decide)).trans g0
  have h1 := (hI 1 (by decide)).trans g1
  refine (Ec_lt (Ev_l h6) (Ev_l h1)) _ _ M2 n2.1 (fun hp M3 n3 => ?_) (fun hp M3 n3 => ?_)
  · have n3 := n2.tr n3
    have hk : k < A.now.n := by omega
    have hb := hV.1.2.1 k hk
    have htk := tk_le hV.1 hk
    have hsm := sm_01 (f := fun j => if rsS A.now j = 0 then 1 else 0) (n := k) (fun j _ => by split <;> omega)
    refine sq_a (st_ifF n3 (Ec_orF (Ec.F (Ec_lt (Ev.cg (Ek_syllable h0 (Ev_l h6) Ev_c hV) (sy0 hk)) (Ev_l h2)) ?_) (Ec.F (Ec_not (Ec_ne (Ek_isy h0 (Ev_l h6) hV hk) Ev_c)) ?_)) (fun M4 n4 => ?_))
    · omega
    · simp
    refine sq_loc n4 (Ev.cg (Ev_add (Ev.cg (Ek_syllable h0 (Ev_l h6) Ev_c hV) (sy0 hk)) (Ev.cg (Ek_syllable h0 (Ev_l h6) Ev_c hV) (sy1 hk)) (by first | exact inR_s (by omega) (by omega) | exact ⟨by omega, by omega⟩)) (tk_s A.now.D k).symm) (fun M5 n5 => ?_)
    have r3 : inR (sm (fun j => if rsS A.now j = 0 then 1 else 0) k + (if rsS A.now k = 0 then 1 else 0)) := by split <;> exact inR_s (by omega) (by omega)
    refine sq_loc (v := sm (fun j => if rsS A.now j = 0 then 1 else 0) (k + 1)) n5 (Ev_add (Ev_l h3) (Ev_qI (Ec_eq (Ev.cg (Ek_syllable h0 (Ev_l h6) Ev_c hV) (sy9 hk)) Ev_c) (fun q => Ev_c) (fun q => Ev_c)) r3) (fun M6 n6 => ?_)
    have fin : ∀ (ρ3 : En) (M9 : Mm), CN M0 M9 A → (∀ i, i ≠ 7 ∧ i ≠ 8 → ρ3 i = (va_up (va_up ρ2 2 (.inl (tk (k + 1) A.now.D))) 3 (.inl (sm (fun j => if rsS A.now j = 0 then 1 else 0) (k + 1)))) i) → sInc 6 1 V Rt ρ3 M9 := by
      intro ρ3 M9 n9 hI3
      have e6 : ρ3 6 = .inl (k : Int) := (hI3 6 (by decide)).trans h6
      refine st_inc e6 (inR_s (by omega) (by omega)) (hVV _ _ (by omega) ⟨k + 1, by omega, fun i hi => ?_, ?_, ?_, rfl, n9⟩)
      · rw [va_up_ne _ _ (by omega), hI3 i (by omega), va_up_ne _ _ (by omega), va_up_ne _ _ (by omega)]
        exact hI i hi
      · rw [va_up_ne _ _ (by decide), hI3 2 (by decide)]
        rfl
      · rw [va_up_ne _ _ (by decide), hI3 3 (by decide)]
        rfl
    cases k with
    | zero =>
      refine sq_loc (v := 1) n6 (Ev_qT (Ec_orT (Ec.T (Ec_eq (Ev_l h6) Ev_c) rfl)) Ev_c) (fun M7 n7 => ?_)
      refine sq_loc (v := 0) n7 (Ev_qT (Ec_orT (Ec.T (Ec_ne (Ev_l rfl) Ev_c) (by decide))) Ev_c) (fun M8 n8 => ?_)
      refine st_ifF0 n8 (Ec_orF (Ec.F (Ec_ne (Ev.cg (Ek_syllable h0 (Ev_l h6) Ev_c hV) (sy11 hk)) (Ev_qI (Ec_gt (Ev_l rfl) Ev_c) (fun q => Ev_c) (fun q => (Ev_l rfl)))) ?_) (Ec.F (Ec_ne (Ev.cg (Ek_syllable h0 (Ev_l h6) Ev_c hV) (sy4 hk)) (Ev_qT (Ec.T (Ec_eq (Ev_l h6) Ev_c) rfl) Ev_c)) ?_)) (fun M9 n9 => fin _ M9 n9 (fun i hi => ?_))
      · rw [rw_0 hV.1 hk]
        decide
      · rw [ph_0 hV.1 hk]
        decide
      · rw [va_up_ne _ _ hi.2, va_up_ne _ _ hi.1]
    | succ j =>
      have hj : j < A.now.n := by omega
      have hrj := rs_b (S := A.now) j
      have hphj := ph_b hV.1 hj
      have hmj := mn10_b (rwA_b A.now.D (rsS A.now) j).1
      have nz : ¬ (((j + 1 : Nat) : Int) = 0) := by omega
      obtain ⟨f, hf⟩ : ∃ f : Int, f = if ph A.now.D (j + 1) ≠ ph A.now.D j then 1 else 0 := ⟨_, rfl⟩
      refine sq_loc (v := f) n6 (Ev.cg (Ev_qI (Ec_orF (Ec.F (Ec_eq (Ev_l h6) Ev_c) nz) (Ec_ne (Ev.cg (Ek_syllable h0 (Ev_l h6) Ev_c hV) (sy4 hk)) (Ev.cg (Ek_syllable h0 (em1 h6 (by omega)) Ev_c hV) (sy4 hj)))) (fun _ => Ev_c) (fun _ => Ev_c)) hf.symm) (fun M7 n7 => ?_)
      obtain ⟨row, hrow⟩ : ∃ row : Int, row = if f ≠ 0 ∨ 0 < rsS A.now j then 0 else mn10 (rwA A.now.D (rsS A.now) j) + 1 := ⟨_, rfl⟩
      refine sq_loc (v := row) n7 (Ev.cg (Ev_qI (Ec_or (Ec_ne (Ev_l rfl) Ev_c) (fun q => (Ec_gt (Ev.cg (Ek_syllable h0 (em1 h6 (by omega)) Ev_c hV) (sy9 hj)) Ev_c))) (fun q => Ev_c) (fun q => (Ev_add (Ev.cg (Ek_syllable h0 (em1 h6 (by omega)) Ev_c hV) (sy11 hj)) Ev_c (by first | exact inR_s (by omega) (by omega) | exact ⟨by omega, by omega⟩)))) hrow.symm) (fun M8 n8 => ?_)
      have hf01 : f = 0 ∨ f = 1 := by rw [hf]; split <;> simp
      refine st_ifF0 n8 (Ec_orF (Ec.F (Ec_ne (Ev.cg (Ek_syllable h0 (Ev_l h6) Ev_c hV) (sy11 hk)) (Ev_qI (Ec_gt (Ev_l rfl) Ev_c) (fun q => Ev_c) (fun q => (Ev_l rfl)))) ?_) (Ec.F (Ec_ne (Ev.cg (Ek_syllable h0 (Ev_l h6) Ev_c hV) (sy4 hk)) (Ev_qF (Ec.F (Ec_eq (Ev_l h6) Ev_c) nz) (Ev_add (Ev.cg (Ek_syllable h0 (em1 h6 (by omega)) Ev_c hV) (sy4 hj)) (Ev_qI (Ec_ne (Ev_l rfl) Ev_c) (fun q => Ev_c) (fun q => Ev_c)) (by split <;> exact inR_s (by omega) (by omega))))) ?_)) (fun M9 n9 => fin _ M9 n9 (fun i hi => ?_))
      · have h := m_row (rs := rsS A.now) hV.1 hk hf
        rw [← hrow] at h
        rcases h with h | h
        · exact fun q => q h
        · omega
      · have h := m_ph hV.1 hk hf
        exact fun q => q h
      · rw [va_up_ne _ _ hi.2, va_up_ne _ _ hi.1]
  · have hk : k = A.now.n := by omega
    subst hk
    exact hW ρ2 M3 (n2.tr n3) hI h2 h3
/-- the ticks -/
theorem hol_2 (hV : A.now.V) (g0 : ρ 0 = .inr (some 0)) (g4 : ρ 4 = .inl 0) (g5 : ρ 5 = .inl 0) (g6 : ρ 6 = .inl 0) (n0 : CN M0 M A) (hW : ∀ ρ2 M2, CN M0 M2 A → (∀ i, i < 4 → ρ2 i = ρ i) → ρ2 4 = .inl (sndT A.now.sg) → ρ2 5 = .inl (onsT A.now.sg) → W ρ2 M2) : (sWhile (cLt (iL 6) (iC 600)) (sSeq (sSeq (sLoc 4 (iAdd (iL 4) (iQ (cLt (iCallV 6 m_X6_sung (rL 0) (aI (iL 6) (aN))) (iC 0)) (iC 0) (iC 1)))) (sLoc 5 (iAdd (iL 5) (iQ (cAnd (cGe (iCallV 6 m_X6_sung (rL 0) (aI (iL 6) (aN))) (iC 0)) (cOr (cEq (iL 6) (iC 0)) (cNe (iCallV 6 m_X6_sung (rL 0) (aI (iSub (iL 6) (iC 1)) (aN))) (iCallV 6 m_X6_sung (rL 0) (aI (iL 6) (aN)))))) (iC 1) (iC 0))))) (sInc 6 1))) W Rt ρ M := by
  obtain ⟨N, hN⟩ : ∃ N : Nat, N = 600 := ⟨600, rfl⟩
  refine while_n (n := N) (fun r ρ2 M2 => ∃ t : Nat, t + r = N ∧ (∀ i, i < 4 → ρ2 i = ρ i) ∧ ρ2 4 = .inl (sm (fun t => if A.now.sg t = -1 then 0 else 1) t) ∧ ρ2 5 = .inl (sm (fun t => if on? A.now.sg t = true then 1 else 0) t) ∧ ρ2 6 = .inl (t : Int) ∧ CN M0 M2 A) ?_ ⟨0, by omega, fun _ _ => rfl, g4, g5, g6, n0⟩
  rintro r V hVV ρ2 M2 ⟨t, hr, hI, h4, h5, h6, n2⟩
  have h0 : ρ2 0 = .inr (some 0) := (hI 0 (by decide)).trans g0
  refine (Ec_lt (Ev_l h6) Ev_c) _ _ M2 n2.1 (fun hp M3 n3 => ?_) (fun hp M3 n3 => ?_)
  · have n3 := n2.tr n3
    have ht : 0 ≤ (t : Int) ∧ (t : Int) < 600 := by omega
    have hsm1 := sm_01 (f := fun t => if A.now.sg t = -1 then 0 else 1) (n := t) (fun j _ => by split <;> omega)
    have hsm2 := sm_01 (f := fun t => if on? A.now.sg t = true then 1 else 0) (n := t) (fun j _ => by split <;> omega)
    have hg := hV.2.2 t (by omega)
    have es : sgA A.now.sg (t : Int) = A.now.sg t := by unfold sgA; rw [if_pos ht, Int.toNat_natCast]
    have e4 : sm (fun t => if A.now.sg t = -1 then 0 else 1) t + (if sunV A.now t < 0 then 0 else 1) = sm (fun t => if A.now.sg t = -1 then 0 else 1) (t + 1) := by
      have e : (if sunV A.now t < 0 then (0 : Int) else 1) = (if A.now.sg t = -1 then 0 else 1) := by
        rw [sun_at ht, es]
        (repeat' split) <;> omega
      rw [e]
      rfl
    have e5 : sm (fun t => if on? A.now.sg t = true then 1 else 0) t + (if 0 ≤ sunV A.now t ∧ ((t : Int) = 0 ∨ sunV A.now ((t : Int) - 1) ≠ sunV A.now t) then 1 else 0) = sm (fun t => if on? A.now.sg t = true then 1 else 0) (t + 1) := by
      show _ = sm (fun t => if on? A.now.sg t = true then 1 else 0) t + (if on? A.now.sg t = true then 1 else 0)
      simp only [m_on hV ht]
    refine sq_a (sq_loc n3 (Ev.cg (Ev_add (Ev_l h4) (Ev_qI (Ec_lt (Ek_sung h0 (Ev_l h6)) Ev_c) (fun q => Ev_c) (fun q => Ev_c)) (by split <;> exact inR_s (by omega) (by omega))) e4) (fun M4 n4 => ?_))
    refine st_loc n4 (Ev.cg (Ev_add (Ev_l h5) (Ev_qI (Ec_and (Ec_ge (Ek_sung h0 (Ev_l h6)) Ev_c) (fun q => (Ec_or (Ec_eq (Ev_l h6) Ev_c) (fun q => (Ec_ne (Ek_sung h0 (Ev_sub (Ev_l h6) Ev_c (by first | exact inR_s (by omega) (by omega) | (split <;> exact inR_s (by omega) (by omega))))) (Ek_sung h0 (Ev_l h6))))))) (fun q => Ev_c) (fun q => Ev_c)) (by first | exact inR_s (by omega) (by omega) | (split <;> exact inR_s (by omega) (by omega)))) e5) (fun M5 n5 => ?_)
    refine st_inc (z := (t : Int)) h6 (inR_s (by omega) (by omega)) (hVV _ _ (by omega) ⟨t + 1, by omega, fun i hi => ?_, rfl, rfl, rfl, n5⟩)
    simp only [va_up]
    rw [if_neg (by omega), if_neg (by omega), if_neg (by omega)]
    exact hI i hi
  · have ht : t = N := by omega
    subst ht
    rw [hN] at h4 h5
    exact hW ρ2 M3 (n2.tr n3) hI h4 h5
end HOL1
