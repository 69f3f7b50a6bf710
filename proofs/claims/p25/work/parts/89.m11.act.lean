section ACTM
variable {S : Sg} {A : Ab}
/-- a syllable is added -/
theorem add_in {r a e l f : Int} (hr : 0 ≤ r ∧ r ≤ 32) (hl : 1 ≤ l ∧ l ≤ 32) (ha : 0 ≤ a ∧ a ≤ 60) (he : 0 ≤ e ∧ e ≤ 60) : addR A r a e l f = if A.now.n < 40 ∧ tk A.now.n A.now.D + r + l ≤ 600 then (tk A.now.n A.now.D + r, setN (recA A) (addS A.now r a e l f)) else (-3, A) := if_pos ⟨hr, hl, ha, he⟩
theorem add_D (S : Sg) (r a e l f : Int) : (addS S r a e l f).n = S.n + 1 ∧ (addS S r a e l f).D S.n 1 = l ∧ (addS S r a e l f).D S.n 2 = a ∧ (addS S r a e l f).D S.n 3 = e ∧ (addS S r a e l f).D S.n 4 = if S.n = 0 then 1 else f := by
  have h : ∀ w, (addS S r a e l f).D S.n w = if w = 0 then tk S.n S.D + r else if w = 1 then l else if w = 2 then a else if w = 3 then e else if S.n = 0 then 1 else f := fun w => if_pos rfl
  exact ⟨rfl, h 1, h 2, h 3, h 4⟩
theorem phr_ph (hV : S.V) {k : Nat} (hk : k < S.n) : phrV S (ph S.D k) 0 = fsP S.D (ph S.D k) S.n := by
  have h1 := ph_b hV.1 hk
  have h2 := pcN_b hV.1
  have h3 := ph_lt hV.1 hk (Nat.le_refl _)
  have e : ph S.D k = (((ph S.D k).toNat : Nat) : Int) := by omega
  rw [e]
  exact pr0 hV (by omega)
theorem fsP_new {n : Nat} {D : Nat → Nat → Int} (hv : VD (n + 1) D) (h : D n 4 = 1) : fsP D (ph D n) (n + 1) = n := by
  have h3 : fsP D (ph D n) n = -5 := fsP_none n (fun j hj => by
    have h1 := ph_lt hv hj (by omega : n ≤ n + 1)
    have h2 : ph D n = cnt1 D n + D n 4 - 1 := rfl
    omega)
  show (if fsP D (ph D n) n = -5 ∧ ph D n = ph D n then (n : Int) else fsP D (ph D n) n) = n
  rw [if_pos ⟨h3, rfl⟩]
theorem drop_in (h : 0 < A.now.n) : dropR A = ((A.now.n : Int) - 1, setN (recA A) (A.now.n - 1, A.now.D, A.now.st, A.now.sg)) := if_neg (by omega)
theorem syl_no {k : Int} {w : Int} (h : ¬ (0 ≤ k ∧ k < S.n)) : sylV S k w = -1 := if_neg h
theorem sng_in {t c p : Int} (ht : 0 ≤ t ∧ t ≤ 599) (hc : 1 ≤ c ∧ c ≤ 64) (htc : t + c ≤ 600) (hp : 0 ≤ p ∧ p ≤ 60) : singR A t c p = (hitsA (vcS A.now t c p), setN (recA A) (vcS A.now t c p)) := if_pos ⟨⟨ht, hc, htc⟩, hp⟩
theorem sng_no {t c p : Int} (htc : ¬ t + c ≤ 600) : singR A t c p = (-2, A) := if_neg (fun q => htc q.1.2.2)
theorem sil_in {t c : Int} (ht : 0 ≤ t ∧ t ≤ 599) (hc : 1 ≤ c ∧ c ≤ 600) (htc : t + c ≤ 600) : silR A t c = (sndT A.now.sg - sndT (vcS A.now t c (-1)).sg, setN (recA A) (vcS A.now t c (-1))) := if_pos ⟨ht, hc, htc⟩
theorem sil_no {t c : Int} (htc : ¬ t + c ≤ 600) : silR A t c = (-2, A) := if_neg (fun q => htc q.2.2)
theorem sun_vc {t c p u : Int} (hu : 0 ≤ u ∧ u < 600) (h : t ≤ u ∧ u < t + c) (hp : 0 ≤ p ∧ p ≤ 60) : sunV (vcS S t c p) u = p := by
  have e : (vcS S t c p).sg u.toNat = p := by
    show (if t ≤ ((u.toNat : Nat) : Int) ∧ ((u.toNat : Nat) : Int) < t + c then clp p else S.sg u.toNat) = p
    rw [if_pos (by omega)]
    exact if_pos hp
  unfold sunV
  rw [if_pos (by omega), e, if_neg (by omega)]
theorem sun_vw (hV : S.V) {f y : Int} {l : Nat} (hf : 0 ≤ f ∧ f ≤ l) (hl : l < S.n) : sunV (vwS S f l y) (S.D l 0) = if S.D l 2 + y < 0 ∨ 60 < S.D l 2 + y then -5 else S.D l 2 + y := by
  have hb := hV.1.2.1 l hl
  obtain ⟨j, hj⟩ : ∃ j, ((l : Int) - f + 1).toNat = j + 1 := ⟨((l : Int) - f).toNat, by omega⟩
  have hfj : f.toNat + j = l := by omega
  have e : (vwS S f l y).sg (S.D l 0).toNat = clp (S.D l 2 + y) := by
    show vwL S.D y S.sg f.toNat ((l : Int) - f + 1).toNat (S.D l 0).toNat = _
    rw [hj]
    show (if S.D (f.toNat + j) 0 ≤ (((S.D l 0).toNat : Nat) : Int) ∧ (((S.D l 0).toNat : Nat) : Int) < S.D (f.toNat + j) 0 + ((S.D (f.toNat + j) 1).toNat : Nat) then clp (wn S.D (f.toNat + j) ((((S.D l 0).toNat : Nat) : Int) - S.D (f.toNat + j) 0) + y) else _) = _
    rw [hfj]
    have e1 : (((S.D l 0).toNat : Nat) : Int) = S.D l 0 := by omega
    have e2 : S.D l 0 - S.D l 0 = 0 := by omega
    rw [e1, if_pos (by omega), e2, wn_0]
  unfold sunV
  rw [if_pos (by omega), e]
  unfold clp
  (repeat' split) <;> omega
end ACTM
theorem em2 {ρ : En} {A : Ab} {n i : Nat} (h : ρ i = .inl (n : Int)) (hn : 0 < n) (h2 : n < 1000000) : Ev (iSub (iL i) (iC 1)) ρ A ((n - 1 : Nat) : Int) A := Ev.cg (Ev_sub (Ev_l h) Ev_c (inR_s (by omega) (by omega))) (by omega)
section ACT
variable {W : En → Mm → Prop} {Rt : Int → Mm → Prop} {ρ : En} {M0 M : Mm} {A A2 : Ab} {K : Int → Mm → Prop} {v w : Int}
theorem act_add1 {r a e l f : Int} (hV : A.V) (hr : 0 ≤ r ∧ r ≤ 32) (hl : 1 ≤ l ∧ l ≤ 32) (ha : 0 ≤ a ∧ a ≤ 60) (he : 0 ≤ e ∧ e ≤ 60) (hf : f = 0 ∨ f = 1) (h0 : ρ 0 = .inr (some 0)) (h3 : ρ 3 = .inl (A.now.n : Int)) (h6 : ρ 6 = .inl a) (h7 : ρ 7 = .inl e) (h8 : ρ 8 = .inl l) (h9 : ρ 9 = .inl f) (h10 : ρ 10 = .inl (tk A.now.n A.now.D + r)) (h11 : ρ 11 = .inl (addR A r a e l f).1) : Ev (iQ (cOr (cEq (iL 3) (iC 40)) (cGt (iAdd (iL 10) (iL 8)) (iC 600))) (iQ (cEq (iL 11) (iC (-3))) (iC 1) (iC 0)) (iQ (cAnd (cAnd (cAnd (cAnd (cEq (iL 11) (iL 10)) (cEq (iCallV 6 m_X6_syllable (rL 0) (aI (iL 3) (aI (iC 1) (aN)))) (iL 8))) (cEq (iCallV 6 m_X6_syllable (rL 0) (aI (iL 3) (aI (iC 2) (aN)))) (iL 6))) (cEq (iCallV 6 m_X6_syllable (rL 0) (aI (iL 3) (aI (iC 3) (aN)))) (iL 7))) (cEq (iCallV 6 m_X6_phrase (rL 0) (aI (iCallV 6 m_X6_syllable (rL 0) (aI (iL 3) (aI (iC 4) (aN)))) (aI (iC 0) (aN)))) (iQ (cOr (cEq (iL 3) (iC 0)) (cNe (iL 9) (iC 0))) (iL 3) (iCallV 6 m_X6_phrase (rL 0) (aI (iCallV 6 m_X6_syllable (rL 0) (aI (iSub (iL 3) (iC 1)) (aI (iC 4) (aN)))) (aI (iC 0) (aN))))))) (iC 1) (iC 0))) ρ (addR A r a e l f).2 1 (addR A r a e l f).2 := by
  have hn := hV.nw.1.1
  have htk := tk_b hV.nw.1
  have eR := add_in (A := A) (f := f) hr hl ha he
  by_cases c : A.now.n < 40 ∧ tk A.now.n A.now.D + r + l ≤ 600
  · rw [if_pos c] at eR
    rw [eR] at h11 ⊢
    obtain ⟨d0, d1, d2, d3, d4⟩ := add_D A.now r a e l f
    have hV2 : (addS A.now r a e l f).V := addS_V hV.nw c.1 hr hl ha he hf c.2
    obtain ⟨A2, hA2⟩ : ∃ A2, A2 = setN (recA A) (addS A.now r a e l f) := ⟨_, rfl⟩
    have eN : A2.now = addS A.now r a e l f := by rw [hA2]; rfl
    rw [← hA2]
    rw [← eN] at hV2 d0 d1 d2 d3 d4
    have hk : A.now.n < A2.now.n := by omega
    refine Ev_qF (Ec.F (Ec_or (Ec_eq (Ev_l h3) Ev_c) (fun q => (Ec_gt (Ev_add (Ev_l h10) (Ev_l h8) (by first | exact inR_s (by omega) (by omega) | exact ⟨by omega, by omega⟩)) Ev_c))) ?_) ?_
    · rintro (q | q) <;> omega
    have hk1 : A.now.n - 1 < A2.now.n := by omega
    show Ev _ ρ A2 1 A2
    have e5 : phrV A2.now (ph A2.now.D A.now.n) 0 = fsP A2.now.D (ph A2.now.D A.now.n) A2.now.n := phr_ph hV2 hk
    refine Ev_qT (Ec_andT (Ec_andT (Ec_andT (Ec_andT (Ec.T (Ec_eq (Ev_l h11) (Ev_l h10)) ?_) (Ec.T (Ec_eq (Ev.cg (Ek_syllable h0 (Ev_l h3) Ev_c hV2) (sy1 hk)) (Ev_l h8)) ?_)) (Ec.T (Ec_eq (Ev.cg (Ek_syllable h0 (Ev_l h3) Ev_c hV2) (sy2 hk)) (Ev_l h6)) ?_)) (Ec.T (Ec_eq (Ev.cg (Ek_syllable h0 (Ev_l h3) Ev_c hV2) (sy3 hk)) (Ev_l h7)) ?_)) (Ec.T (Ec_eq (Ev.cg (Ek_phrase h0 (Ev.cg (Ek_syllable h0 (Ev_l h3) Ev_c hV2) (sy4 hk)) Ev_c hV2) e5) (Ev_q (Ec_or (Ec_eq (Ev_l h3) Ev_c) (fun q => (Ec_ne (Ev_l h9) Ev_c))) (fun q => Ev.cg (Ev_l h3) ?_) (fun q => Ev.cg (Ek_phrase h0 (Ev.cg (Ek_syllable h0 (em2 h3 (by omega) (by omega)) Ev_c hV2) (sy4 hk1)) Ev_c hV2) ?_))) rfl)) Ev_c
    · rfl
    · exact d1
    · exact d2
    · exact d3
    · have hD4 : A2.now.D A.now.n 4 = 1 := by
        rw [d4]
        split
        · rfl
        · rcases q with q | q <;> omega
      have hv1 := hV2.1
      rw [d0] at hv1 ⊢
      exact (fsP_new hv1 hD4).symm
    · have hn0 : 0 < A.now.n := by omega
      have hf0 : f = 0 := by
        rcases hf with h | h
        · exact h
        · exact absurd (.inr (by omega)) q
      have hD4 : A2.now.D A.now.n 4 = 0 := by
        rw [d4, if_neg (by omega), hf0]
      have hp := ph_s (D := A2.now.D) (A.now.n - 1)
      have e6 : A.now.n - 1 + 1 = A.now.n := by omega
      rw [e6, hD4] at hp
      have e7 : ph A2.now.D (A.now.n - 1) = ph A2.now.D A.now.n := by omega
      rw [e7]
      exact e5
  · rw [if_neg c] at eR
    rw [eR] at h11 ⊢
    exact Ev_qT (Ec.T (Ec_or (Ec_eq (Ev_l h3) Ev_c) (fun q => (Ec_gt (Ev_add (Ev_l h10) (Ev_l h8) (by first | exact inR_s (by omega) (by omega) | exact ⟨by omega, by omega⟩)) Ev_c))) (by omega)) (Ev_qT (Ec.T (Ec_eq (Ev_l h11) Ev_c) rfl) Ev_c)
theorem act_add2 {r a e l f : Int} (hV : A.V) (hr : 0 ≤ r ∧ r ≤ 32) (hl : 1 ≤ l ∧ l ≤ 32) (ha : 0 ≤ a ∧ a ≤ 60) (he : 0 ≤ e ∧ e ≤ 60) (hf : f = 0 ∨ f = 1) (n0 : CN M0 M A) (h0 : ρ 0 = .inr (some 0)) (h3 : ρ 3 = .inl (A.now.n : Int)) (h5 : ρ 5 = .inl r) (h6 : ρ 6 = .inl a) (h7 : ρ 7 = .inl e) (h8 : ρ 8 = .inl l) (h9 : ρ 9 = .inl f) (h10 : ρ 10 = .inl (tk A.now.n A.now.D + r)) (hK : ∀ A2 M2, CN M0 M2 A2 → A2.V → Rt 1 M2) : (sSeq (sLoc 11 (iCallV 6 m_X6_add (rL 0) (aI (iL 5) (aI (iL 6) (aI (iL 7) (aI (iL 8) (aI (iL 9) (aN)))))))) (sRet true (iQ (cOr (cEq (iL 3) (iC 40)) (cGt (iAdd (iL 10) (iL 8)) (iC 600))) (iQ (cEq (iL 11) (iC (-3))) (iC 1) (iC 0)) (iQ (cAnd (cAnd (cAnd (cAnd (cEq (iL 11) (iL 10)) (cEq (iCallV 6 m_X6_syllable (rL 0) (aI (iL 3) (aI (iC 1) (aN)))) (iL 8))) (cEq (iCallV 6 m_X6_syllable (rL 0) (aI (iL 3) (aI (iC 2) (aN)))) (iL 6))) (cEq (iCallV 6 m_X6_syllable (rL 0) (aI (iL 3) (aI (iC 3) (aN)))) (iL 7))) (cEq (iCallV 6 m_X6_phrase (rL 0) (aI (iCallV 6 m_X6_syllable (rL 0) (aI (iL 3) (aI (iC 4) (aN)))) (aI (iC 0) (aN)))) (iQ (cOr (cEq (iL 3) (iC 0)) (cNe (iL 9) (iC 0))) (iL 3) (iCallV 6 m_X6_phrase (rL 0) (aI (iCallV 6 m_X6_syllable (rL 0) (aI (iSub (iL 3) (iC 1)) (aI (iC 4) (aN)))) (aI (iC 0) (aN))))))) (iC 1) (iC 0))))) W Rt ρ M := by
  refine sq_loc n0 (Ek_add h0 (Ev_l h5) (Ev_l h6) (Ev_l h7) (Ev_l h8) (Ev_l h9) hV.nw hf) (fun M8 n8 => ?_)
  exact st_retB n8 (act_add1 hV hr hl ha he hf h0 h3 h6 h7 h8 h9 h10 rfl) (fun M9 n9 => hK _ M9 n9 (addR_V hV hf))
theorem act_add (hV : A.V) (n0 : CN M0 M A) (h0 : ρ 0 = .inr (some 0)) (h1 : ρ 1 = .inl v) (h2 : ρ 2 = .inl w) (h3 : ρ 3 = .inl (A.now.n : Int)) (hK : ∀ A2 M2, CN M0 M2 A2 → A2.V → Rt 1 M2) : (sSeq (sLoc 5 (iQ (cEq (iCallS m_L_low (aI (iShr 64 (iL 1)) (aI (iC 3) (aN)))) (iC 0)) (iCallS m_L_low (aI (iShr 512 (iL 1)) (aI (iC 33) (aN)))) (iC 0))) (sSeq (sLoc 6 (iCallS m_L_low (aI (iL 2) (aI (iC 61) (aN))))) (sSeq (sLoc 7 (iQ (cEq (iCallS m_L_low (aI (iShr 64 (iL 2)) (aI (iC 3) (aN)))) (iC 0)) (iCallS m_L_low (aI (iShr 256 (iL 2)) (aI (iC 61) (aN)))) (iL 6))) (sSeq (sLoc 8 (iAdd (iC 1) (iCallS m_L_low (aI (iShr 8192 (iL 2)) (aI (iQ (cEq (iCallS m_L_low (aI (iShr 524288 (iL 2)) (aI (iC 2) (aN)))) (iC 0)) (iC 32) (iC 6)) (aN)))))) (sSeq (sLoc 9 (iQ (cEq (iCallS m_L_low (aI (iShr 32768 (iL 1)) (aI (iC 4) (aN)))) (iC 0)) (iC 1) (iC 0))) (sSeq (sLoc 10 (iAdd (iCallV 6 m_X6_total (rL 0) (aI (iC 7) (aN))) (iL 5))) (sSeq (sLoc 11 (iCallV 6 m_X6_add (rL 0) (aI (iL 5) (aI (iL 6) (aI (iL 7) (aI (iL 8) (aI (iL 9) (aN)))))))) (sRet true (iQ (cOr (cEq (iL 3) (iC 40)) (cGt (iAdd (iL 10) (iL 8)) (iC 600))) (iQ (cEq (iL 11) (iC (-3))) (iC 1) (iC 0)) (iQ (cAnd (cAnd (cAnd (cAnd (cEq (iL 11) (iL 10)) (cEq (iCallV 6 m_X6_syllable (rL 0) (aI (iL 3) (aI (iC 1) (aN)))) (iL 8))) (cEq (iCallV 6 m_X6_syllable (rL 0) (aI (iL 3) (aI (iC 2) (aN)))) (iL 6))) (cEq (iCallV 6 m_X6_syllable (rL 0) (aI (iL 3) (aI (iC 3) (aN)))) (iL 7))) (cEq (iCallV 6 m_X6_phrase (rL 0) (aI (iCallV 6 m_X6_syllable (rL 0) (aI (iL 3) (aI (iC 4) (aN)))) (aI (iC 0) (aN)))) (iQ (cOr (cEq (iL 3) (iC 0)) (cNe (iL 9) (iC 0))) (iL 3) (iCallV 6 m_X6_phrase (rL 0) (aI (iCallV 6 m_X6_syllable (rL 0) (aI (iSub (iL 3) (iC 1)) (aI (iC 4) (aN)))) (aI (iC 0) (aN))))))) (iC 1) (iC 0))))))))))) W Rt ρ M := by
  have hn := hV.nw.1.1
  have htk := tk_b hV.nw.1
  have hV1 := hV.nw
  have b1 := lowV_b (v := v / 512) (n := 33) (by decide)
  have b2 := lowV_b (v := w) (n := 61) (by decide)
  have b3 := lowV_b (v := w / 256) (n := 61) (by decide)
  have b4 := lowV_b (v := w / 8192) (n := if lowV (w / 524288) 2 = 0 then 32 else 6) (by split <;> omega)
  obtain ⟨r, hr⟩ : ∃ r, r = if lowV (v / 64) 3 = 0 then lowV (v / 512) 33 else 0 := ⟨_, rfl⟩
  obtain ⟨a, ha⟩ : ∃ a, a = lowV w 61 := ⟨_, rfl⟩
  obtain ⟨e, he⟩ : ∃ e, e = if lowV (w / 64) 3 = 0 then lowV (w / 256) 61 else a := ⟨_, rfl⟩
  obtain ⟨x, hx⟩ : ∃ x, x = lowV (w / 8192) (if lowV (w / 524288) 2 = 0 then 32 else 6) := ⟨_, rfl⟩
  obtain ⟨l, hl⟩ : ∃ l, l = 1 + x := ⟨_, rfl⟩
  obtain ⟨f, hf⟩ : ∃ f : Int, f = if lowV (v / 32768) 4 = 0 then 1 else 0 := ⟨_, rfl⟩
  have qr : 0 ≤ r ∧ r ≤ 32 := by rw [hr]; split <;> omega
  have qa : 0 ≤ a ∧ a ≤ 60 := by rw [ha]; omega
  have qe : 0 ≤ e ∧ e ≤ 60 := by rw [he]; split <;> omega
  have qx : 0 ≤ x ∧ x < 32 := by
    rw [← hx] at b4
    have : (if lowV (w / 524288) 2 = 0 then (32 : Int) else 6) ≤ 32 := by split <;> omega
    omega
  have ql : 1 ≤ l ∧ l ≤ 32 := by omega
  have qf : f = 0 ∨ f = 1 := by rw [hf]; split <;> simp
  refine sq_loc n0 (Ev.cg (Ev_qI (Ec_eq (Ek_low (Ev_shr (Ev_l h1)) Ev_c (by first | omega | (split <;> omega))) Ev_c) (fun q => (Ek_low (Ev_shr (Ev_l h1)) Ev_c (by first | omega | (split <;> omega)))) (fun q => Ev_c)) hr.symm) (fun M2 n2 => ?_)
  refine sq_loc n2 (Ev.cg (Ek_low (Ev_l h2) Ev_c (by first | omega | (split <;> omega))) ha.symm) (fun M3 n3 => ?_)
  refine sq_loc n3 (Ev.cg (Ev_qI (Ec_eq (Ek_low (Ev_shr (Ev_l h2)) Ev_c (by first | omega | (split <;> omega))) Ev_c) (fun q => (Ek_low (Ev_shr (Ev_l h2)) Ev_c (by first | omega | (split <;> omega)))) (fun q => (Ev_l rfl))) he.symm) (fun M4 n4 => ?_)
  refine sq_loc (v := l) n4 (Ev.cg (Ev_add Ev_c (Ev.cg (Ek_low (Ev_shr (Ev_l h2)) (Ev_qI (Ec_eq (Ek_low (Ev_shr (Ev_l h2)) Ev_c (by first | omega | (split <;> omega))) Ev_c) (fun q => Ev_c) (fun q => Ev_c)) (by first | omega | (split <;> omega))) hx.symm) (inR_s (by omega) (by omega))) hl.symm) (fun M5 n5 => ?_)
  refine sq_loc n5 (Ev.cg (Ev_qI (Ec_eq (Ek_low (Ev_shr (Ev_l h1)) Ev_c (by first | omega | (split <;> omega))) Ev_c) (fun q => Ev_c) (fun q => Ev_c)) hf.symm) (fun M6 n6 => ?_)
  refine sq_loc (v := tk A.now.n A.now.D + r) n6 (Ev_add (Ev.cg (Ek_total h0 Ev_c hV1) to7) (Ev_l rfl) (inR_s (by omega) (by omega))) (fun M7 n7 => ?_)
  exact act_add2 hV qr ql qa qe qf n7 h0 h3 rfl rfl rfl rfl rfl rfl hK
theorem act_drop (hV : A.V) (hn0 : 0 < A.now.n) (n0 : CN M0 M A) (h0 : ρ 0 = .inr (some 0)) (h3 : ρ 3 = .inl (A.now.n : Int)) (hK : ∀ A2 M2, CN M0 M2 A2 → A2.V → Rt 1 M2) : (sRet true (iQ (cAnd (cEq (iCallV 6 m_X6_drop (rL 0) (aN)) (iSub (iL 3) (iC 1))) (cEq (iCallV 6 m_X6_syllable (rL 0) (aI (iSub (iL 3) (iC 1)) (aI (iC 0) (aN)))) (iC (-1)))) (iC 1) (iC 0))) W Rt ρ M := by
  have hn := hV.nw.1.1
  have v2 := dropR_V hV
  have hd := Ek_drop (A := A) h0
  rw [drop_in hn0] at v2 hd
  refine st_retB n0 (Ev_qT (Ec_andT (Ec.T (Ec_eq hd (em2 h3 hn0 (by omega))) (by show (A.now.n : Int) - 1 = _; omega)) (Ec.T (Ec_eq (Ek_syllable h0 (em2 h3 hn0 (by omega)) Ev_c v2.nw) Ev_c) (syl_no ?_))) Ev_c) (fun M9 n9 => hK _ M9 n9 v2)
  show ¬ (0 ≤ ((A.now.n - 1 : Nat) : Int) ∧ ((A.now.n - 1 : Nat) : Int) < ((A.now.n - 1 : Nat) : Int))
  omega
theorem act_along1 {k l : Nat} {y : Int} (hV : A.V) (hkl : k ≤ l) (hl : l < A.now.n) (hy : -60 ≤ y ∧ y ≤ 60) (h0 : ρ 0 = .inr (some 0)) (h5 : ρ 5 = .inl (k : Int)) (h6 : ρ 6 = .inl (l : Int)) (h7 : ρ 7 = .inl y) (h8 : ρ 8 = .inl (A.now.D l 2 + y)) : Ev (iQ (cAnd (cEq (iCallV 6 m_X6_singAlong (rL 0) (aI (iL 5) (aI (iL 6) (aI (iL 7) (aN))))) (iCallV 6 m_X6_total (rL 0) (aI (iC 10) (aN)))) (cEq (iCallV 6 m_X6_sung (rL 0) (aI (iCallV 6 m_X6_syllable (rL 0) (aI (iL 6) (aI (iC 0) (aN)))) (aN))) (iQ (cOr (cLt (iL 8) (iC 0)) (cGt (iL 8) (iC 60))) (iC (-5)) (iL 8)))) (iC 1) (iC 0)) ρ A 1 (setN (recA A) (vwS A.now k l y)) := by
  have v2 := setN_V (recA_V hV) (vwS_V hV.nw k l y)
  obtain ⟨A2, hA2⟩ : ∃ A2, A2 = setN (recA A) (vwS A.now k l y) := ⟨_, rfl⟩
  have eN : A2.now = vwS A.now k l y := by rw [hA2]; rfl
  have hs := Ek_sal (A := A) (f := k) (l := l) (y := y) h0 (Ev_l h5) (Ev_l h6) (Ev_l h7) hV.nw (by omega) (by omega) (by omega) hy
  rw [← hA2] at hs v2 ⊢
  rw [← eN] at hs
  have hV2 := v2.nw
  have hl2 : l < A2.now.n := by rw [eN]; exact hl
  have eD : A2.now.D = A.now.D := by rw [eN]; rfl
  refine Ev_qT (Ec_andT (Ec.T (Ec_eq hs (Ev.cg (Ek_total h0 Ev_c hV2) to10)) rfl) (Ec.T (Ec_eq (Ek_sung h0 (Ev.cg (Ek_syllable h0 (Ev_l h6) Ev_c hV2) (sy0 hl2))) (Ev_qI (Ec_or (Ec_lt (Ev_l h8) Ev_c) (fun q => (Ec_gt (Ev_l h8) Ev_c))) (fun q => Ev_c) (fun q => (Ev_l h8)))) ?_)) Ev_c
  rw [eD, eN]
  exact sun_vw hV.nw ⟨by omega, by omega⟩ hl
theorem act_along {k : Nat} (hV : A.V) (hk : k < A.now.n) (n0 : CN M0 M A) (h0 : ρ 0 = .inr (some 0)) (h1 : ρ 1 = .inl v) (h2 : ρ 2 = .inl w) (h3 : ρ 3 = .inl (A.now.n : Int)) (h5 : ρ 5 = .inl (k : Int)) (hK : ∀ A2 M2, CN M0 M2 A2 → A2.V → Rt 1 M2) : (sSeq (sLoc 6 (iQ (cEq (iCallS m_L_low (aI (iShr 512 (iL 2)) (aI (iC 2) (aN)))) (iC 0)) (iL 5) (iAdd (iL 5) (iCallS m_L_low (aI (iShr 1024 (iL 2)) (aI (iSub (iL 3) (iL 5)) (aN))))))) (sSeq (sLoc 7 (iQ (cGt (iCallS m_L_low (aI (iShr 64 (iL 1)) (aI (iC 3) (aN)))) (iC 0)) (iC 0) (iQ (cEq (iCallS m_L_low (aI (iShr 256 (iL 1)) (aI (iC 2) (aN)))) (iC 0)) (iSub (iCallS m_L_low (aI (iShr 512 (iL 1)) (aI (iC 3) (aN)))) (iC 1)) (iSub (iCallS m_L_low (aI (iShr 512 (iL 1)) (aI (iC 121) (aN)))) (iC 60))))) (sSeq (sLoc 8 (iAdd (iCallV 6 m_X6_wanted (rL 0) (aI (iCallV 6 m_X6_syllable (rL 0) (aI (iL 6) (aI (iC 0) (aN)))) (aN))) (iL 7))) (sRet true (iQ (cAnd (cEq (iCallV 6 m_X6_singAlong (rL 0) (aI (iL 5) (aI (iL 6) (aI (iL 7) (aN))))) (iCallV 6 m_X6_total (rL 0) (aI (iC 10) (aN)))) (cEq (iCallV 6 m_X6_sung (rL 0) (aI (iCallV 6 m_X6_syllable (rL 0) (aI (iL 6) (aI (iC 0) (aN)))) (aN))) (iQ (cOr (cLt (iL 8) (iC 0)) (cGt (iL 8) (iC 60))) (iC (-5)) (iL 8)))) (iC 1) (iC 0)))))) W Rt ρ M := by
  have hn := hV.nw.1.1
  have hV1 := hV.nw
  have b1 := lowV_b (v := w / 1024) (n := (A.now.n : Int) - k) (by omega)
  have b2 := lowV_b (v := v / 512) (n := 3) (by decide)
  have b3 := lowV_b (v := v / 512) (n := 121) (by decide)
  obtain ⟨l, hl⟩ : ∃ l : Nat, (l : Int) = if lowV (w / 512) 2 = 0 then (k : Int) else k + lowV (w / 1024) ((A.now.n : Int) - k) := by
    split
    · exact ⟨k, rfl⟩
    · exact ⟨(k + lowV (w / 1024) ((A.now.n : Int) - k)).toNat, by omega⟩
  have ql : k ≤ l ∧ l < A.now.n := by
    split at hl <;> omega
  obtain ⟨y, hy⟩ : ∃ y, y = if 0 < lowV (v / 64) 3 then 0 else if lowV (v / 256) 2 = 0 then lowV (v / 512) 3 - 1 else lowV (v / 512) 121 - 60 := ⟨_, rfl⟩
  have qy : -60 ≤ y ∧ y ≤ 60 := by
    rw [hy]
    (repeat' split) <;> omega
  have hb := hV.nw.1.2.1 l ql.2
  refine sq_loc (v := (l : Int)) n0 (Ev.cg (Ev_qI (Ec_eq (Ek_low (Ev_shr (Ev_l h2)) Ev_c (by first | omega | (split <;> omega))) Ev_c) (fun q => (Ev_l h5)) (fun q => (Ev_add (Ev_l h5) (Ek_low (Ev_shr (Ev_l h2)) (Ev_sub (Ev_l h3) (Ev_l h5) (by first | exact inR_s (by omega) (by omega) | exact ⟨by omega, by omega⟩)) (by first | omega | (split <;> omega))) (by first | exact inR_s (by omega) (by omega) | exact ⟨by omega, by omega⟩)))) hl.symm) (fun M2 n2 => ?_)
  refine sq_loc n2 (Ev.cg (Ev_qI (Ec_gt (Ek_low (Ev_shr (Ev_l h1)) Ev_c (by first | omega | (split <;> omega))) Ev_c) (fun q => Ev_c) (fun q => (Ev_qI (Ec_eq (Ek_low (Ev_shr (Ev_l h1)) Ev_c (by first | omega | (split <;> omega))) Ev_c) (fun q => (Ev_sub (Ek_low (Ev_shr (Ev_l h1)) Ev_c (by first | omega | (split <;> omega))) Ev_c (by first | exact inR_s (by omega) (by omega) | exact ⟨by omega, by omega⟩))) (fun q => (Ev_sub (Ek_low (Ev_shr (Ev_l h1)) Ev_c (by first | omega | (split <;> omega))) Ev_c (by first | exact inR_s (by omega) (by omega) | exact ⟨by omega, by omega⟩)))))) hy.symm) (fun M3 n3 => ?_)
  have hl2 := ql.2
  have u0 : va_up (va_up ρ 6 (.inl (l : Int))) 7 (.inl y) 0 = .inr (some 0) := h0
  have u6 : va_up (va_up ρ 6 (.inl (l : Int))) 7 (.inl y) 6 = .inl (l : Int) := rfl
  have u7 : va_up (va_up ρ 6 (.inl (l : Int))) 7 (.inl y) 7 = .inl y := rfl
  refine sq_loc (v := A.now.D l 2 + y) n3 (Ev_add (Ev.cg (Ek_wanted u0 (Ev.cg (Ek_syllable u0 (Ev_l u6) Ev_c hV1) (sy0 hl2)) hV1) (m_wan0 hV1 hl2)) (Ev_l u7) (inR_s (by omega) (by omega))) (fun M4 n4 => ?_)
  exact st_retB n4 (act_along1 hV ql.1 ql.2 qy h0 h5 rfl rfl rfl) (fun M9 n9 => hK _ M9 n9 (setN_V (recA_V hV) (vwS_V hV.nw k l y)))
theorem Ek_sng {e1 e2 e3 : IE} {t c p : Int} {r : Nat} (h0 : ρ r = .inr (some 0)) (h1 : Ev e1 ρ A t A) (h2 : Ev e2 ρ A c A) (h3 : Ev e3 ρ A p A) (hV : A.now.V) (ht : 0 ≤ t ∧ t ≤ 599) (hc : 1 ≤ c ∧ c ≤ 64) (htc : t + c ≤ 600) (hp : 0 ≤ p ∧ p ≤ 60) : Ev (iCallV 6 m_X6_sing (rL r) (aI e1 (aI e2 (aI e3 (aN))))) ρ A (hitsA (vcS A.now t c p)) (setN (recA A) (vcS A.now t c p)) := by
  have h := Ek_sing (A := A) h0 h1 h2 h3 hV
  rw [sng_in ht hc htc hp] at h
  exact h
theorem act_sing1 {t c p : Int} (hV : A.V) (ht : 0 ≤ t ∧ t ≤ 599) (hc : 1 ≤ c ∧ c ≤ 64) (hp : 0 ≤ p ∧ p ≤ 60) (n0 : CN M0 M A) (h0 : ρ 0 = .inr (some 0)) (h6 : ρ 6 = .inl t) (h7 : ρ 7 = .inl c) (h8 : ρ 8 = .inl p) (hK : ∀ A2 M2, CN M0 M2 A2 → A2.V → Rt 1 M2) : (sSeq (sIf1 (cGt (iAdd (iL 6) (iL 7)) (iC 600)) (sRet true (iQ (cAnd (cEq (iCallV 6 m_X6_sing (rL 0) (aI (iL 6) (aI (iL 7) (aI (iL 8) (aN))))) (iC (-2))) (cEq (iCallV 6 m_X6_silence (rL 0) (aI (iL 6) (aI (iL 7) (aN)))) (iC (-2)))) (iC 1) (iC 0)))) (sRet true (iQ (cAnd (cAnd (cEq (iCallV 6 m_X6_sing (rL 0) (aI (iL 6) (aI (iL 7) (aI (iL 8) (aN))))) (iCallV 6 m_X6_total (rL 0) (aI (iC 10) (aN)))) (cEq (iCallV 6 m_X6_sung (rL 0) (aI (iL 6) (aN))) (iL 8))) (cEq (iCallV 6 m_X6_sung (rL 0) (aI (iSub (iAdd (iL 6) (iL 7)) (iC 1)) (aN))) (iL 8))) (iC 1) (iC 0)))) W Rt ρ M := by
  refine st_if n0 (Ec_gt (Ev_add (Ev_l h6) (Ev_l h7) (by first | exact inR_s (by omega) (by omega) | exact ⟨by omega, by omega⟩)) Ev_c) (fun q M2 n2 => ?_) (fun q M2 n2 => ?_)
  · have hs := Ek_sing (A := A) h0 (Ev_l h6) (Ev_l h7) (Ev_l h8) hV.nw
    have hi := Ek_silence (A := A) h0 (Ev_l h6) (Ev_l h7) hV.nw
    rw [sng_no (by omega)] at hs
    rw [sil_no (by omega)] at hi
    exact st_retB n2 (Ev_qT (Ec_andT (Ec.T (Ec_eq hs Ev_c) rfl) (Ec.T (Ec_eq hi Ev_c) rfl)) Ev_c) (fun M9 n9 => hK A M9 n9 hV)
  · have v2 := setN_V (recA_V hV) (vcS_V hV.nw t c p)
    obtain ⟨A2, hA2⟩ : ∃ A2, A2 = setN (recA A) (vcS A.now t c p) := ⟨_, rfl⟩
    have eN : A2.now = vcS A.now t c p := by rw [hA2]; rfl
    have hs := Ek_sng (A := A) h0 (Ev_l h6) (Ev_l h7) (Ev_l h8) hV.nw ht hc (by omega) hp
    rw [← hA2] at hs v2
    rw [← eN] at hs
    have hV2 := v2.nw
    refine st_retB n2 (Ev_qT (Ec_andT (Ec_andT (Ec.T (Ec_eq hs (Ev.cg (Ek_total h0 Ev_c hV2) to10)) rfl) (Ec.T (Ec_eq (Ek_sung h0 (Ev_l h6)) (Ev_l h8)) ?_)) (Ec.T (Ec_eq (Ek_sung h0 (Ev_sub (Ev_add (Ev_l h6) (Ev_l h7) (by first | exact inR_s (by omega) (by omega) | exact ⟨by omega, by omega⟩)) Ev_c (by first | exact inR_s (by omega) (by omega) | exact ⟨by omega, by omega⟩))) (Ev_l h8)) ?_)) Ev_c) (fun M9 n9 => hK _ M9 n9 v2)
    · rw [eN]
      exact sun_vc ⟨by omega, by omega⟩ ⟨by omega, by omega⟩ hp
    · rw [eN]
      exact sun_vc ⟨by omega, by omega⟩ ⟨by omega, by omega⟩ hp
theorem act_sing (hV : A.V) (n0 : CN M0 M A) (h0 : ρ 0 = .inr (some 0)) (h1 : ρ 1 = .inl v) (h2 : ρ 2 = .inl w) (hK : ∀ A2 M2, CN M0 M2 A2 → A2.V → Rt 1 M2) : (sSeq (sLoc 6 (iCallS m_L_low (aI (iL 2) (aI (iC 600) (aN))))) (sSeq (sLoc 7 (iAdd (iC 1) (iCallS m_L_low (aI (iShr 512 (iL 2)) (aI (iC 64) (aN)))))) (sSeq (sLoc 8 (iCallS m_L_low (aI (iShr 128 (iL 1)) (aI (iC 61) (aN))))) (sSeq (sIf1 (cGt (iAdd (iL 6) (iL 7)) (iC 600)) (sRet true (iQ (cAnd (cEq (iCallV 6 m_X6_sing (rL 0) (aI (iL 6) (aI (iL 7) (aI (iL 8) (aN))))) (iC (-2))) (cEq (iCallV 6 m_X6_silence (rL 0) (aI (iL 6) (aI (iL 7) (aN)))) (iC (-2)))) (iC 1) (iC 0)))) (sRet true (iQ (cAnd (cAnd (cEq (iCallV 6 m_X6_sing (rL 0) (aI (iL 6) (aI (iL 7) (aI (iL 8) (aN))))) (iCallV 6 m_X6_total (rL 0) (aI (iC 10) (aN)))) (cEq (iCallV 6 m_X6_sung (rL 0) (aI (iL 6) (aN))) (iL 8))) (cEq (iCallV 6 m_X6_sung (rL 0) (aI (iSub (iAdd (iL 6) (iL 7)) (iC 1)) (aN))) (iL 8))) (iC 1) (iC 0))))))) W Rt ρ M := by
  have b1 := lowV_b (v := w) (n := 600) (by decide)
  have b2 := lowV_b (v := w / 512) (n := 64) (by decide)
  have b3 := lowV_b (v := v / 128) (n := 61) (by decide)
  refine sq_loc n0 (Ek_low (Ev_l h2) Ev_c (by first | omega | (split <;> omega))) (fun M2 n2 => ?_)
  refine sq_loc n2 (Ev_add Ev_c (Ek_low (Ev_shr (Ev_l h2)) Ev_c (by first | omega | (split <;> omega))) (by first | exact inR_s (by omega) (by omega) | exact ⟨by omega, by omega⟩)) (fun M3 n3 => ?_)
  refine sq_loc n3 (Ek_low (Ev_shr (Ev_l h1)) Ev_c (by first | omega | (split <;> omega))) (fun M4 n4 => ?_)
  exact act_sing1 hV ⟨by omega, by omega⟩ ⟨by omega, by omega⟩ ⟨by omega, by omega⟩ n4 h0 rfl rfl rfl hK
theorem act_sil (hV : A.V) (n0 : CN M0 M A) (h0 : ρ 0 = .inr (some 0)) (h2 : ρ 2 = .inl w) (hK : ∀ A2 M2, CN M0 M2 A2 → A2.V → Rt 1 M2) : (sSeq (sLoc 6 (iCallV 6 m_X6_total (rL 0) (aI (iC 8) (aN)))) (sRet true (iQ (cAnd (cEq (iCallV 6 m_X6_total (rL 0) (aI (iC 8) (aN))) (iL 6)) (cEq (iCallV 6 m_X6_silence (rL 0) (aI (iCallS m_L_low (aI (iL 2) (aI (iC 500) (aN)))) (aI (iAdd (iC 1) (iCallS m_L_low (aI (iShr 512 (iL 2)) (aI (iC 100) (aN))))) (aN)))) (iSub (iL 6) (iCallV 6 m_X6_total (rL 0) (aI (iC 8) (aN)))))) (iC 1) (iC 0)))) W Rt ρ M := by
  have b1 := lowV_b (v := w) (n := 500) (by decide)
  have b2 := lowV_b (v := w / 512) (n := 100) (by decide)
  have hV1 := hV.nw
  refine sq_loc n0 (Ev.cg (Ek_total h0 Ev_c hV1) to8) (fun M2 n2 => ?_)
  have u0 : va_up ρ 6 (.inl (sndT A.now.sg)) 0 = .inr (some 0) := h0
  have u2 : va_up ρ 6 (.inl (sndT A.now.sg)) 2 = .inl w := h2
  have u6 : va_up ρ 6 (.inl (sndT A.now.sg)) 6 = .inl (sndT A.now.sg) := rfl
  have hi := Ek_silence (A := A) u0 (Ek_low (Ev_l u2) (Ev_c (z := 500)) (by decide)) (Ev_add (Ev_c (z := 1)) (Ek_low (Ev_shr (m := 512) (Ev_l u2)) (Ev_c (z := 100)) (by decide)) (inR_s (by omega) (by omega))) hV1
  have v2 := silR_V (t := lowV w 500) (c := 1 + lowV (w / 512) 100) hV
  rw [sil_in ⟨by omega, by omega⟩ ⟨by omega, by omega⟩ (by omega)] at hi v2
  have d1 := sndT_b A.now.sg
  have d2 := sndT_b (vcS A.now (lowV w 500) (1 + lowV (w / 512) 100) (-1)).sg
  refine st_retB n2 (Ev_qT (Ec_andT (Ec.T (Ec_eq (Ev.cg (Ek_total u0 Ev_c hV1) to8) (Ev_l u6)) rfl) (Ec.T (Ec_eq hi (Ev_sub (Ev_l u6) (Ev.cg (Ek_total u0 Ev_c v2.nw) to8) ?_)) ?_)) Ev_c) (fun M9 n9 => hK _ M9 n9 v2)
  · show inR (sndT A.now.sg - sndT (vcS A.now (lowV w 500) (1 + lowV (w / 512) 100) (-1)).sg)
    exact inR_s (by omega) (by omega)
  · rfl
end ACT
