def lowV (v n : Int) : Int := (v % 2147483648).tmod n
theorem lowV_b {v n : Int} (hn : 0 < n) : 0 ≤ lowV v n ∧ lowV v n < n ∧ lowV v n ≤ v % 2147483648 := by
  have h0 : 0 ≤ v % 2147483648 := by omega
  unfold lowV
  rw [Int.tmod_eq_emod_of_nonneg h0]
  have h1 := Int.emod_nonneg (v % 2147483648) (show n ≠ 0 by omega)
  have h2 := Int.emod_lt_of_pos (v % 2147483648) hn
  refine ⟨h1, h2, ?_⟩
  have h3 := Int.emod_add_mul_ediv (v % 2147483648) n
  have h4 : 0 ≤ n * (v % 2147483648 / n) := Int.mul_nonneg (by omega) (Int.ediv_nonneg h0 (by omega))
  omega
theorem c_low {K : Int → Mm → Prop} {M : Mm} {v n : Int} (hn : 0 < n) (hK : K (lowV v n) M) : m_L_low [.inl v, .inl n] K M := by
  have hb := lowV_b (v := v) hn
  exact ⟨rfl, by omega, show inR (lowV v n) from ⟨by omega, by omega⟩, fun h => absurd h (by decide), rfl, hK⟩
theorem Ek_low {ρ : En} {A : Ab} {e1 e2 : IE} {v n : Int} (h1 : Ev e1 ρ A v A) (h2 : Ev e2 ρ A n A) (hn : 0 < n) : Ev (iCallS m_L_low (aI e1 (aI e2 (aN)))) ρ A (lowV v n) A := fun K M hc hK => h1 _ M hc (fun M2 n2 => h2 _ M2 n2.1 (fun M3 n3 => c_low hn (hK M3 (n2.tr n3))))
/-! ===== the best shift ===== -/
section BS
variable {P : Int → Int}
theorem bsF_inv : ∀ k, (bsF P k).2 = P (bsF P k).1 ∧ ((bsF P k).1 = 0 ∨ ∃ j, j < k ∧ (bsF P k).1 = bsD j) ∧ (P 0 < (bsF P k).2 ∨ (P 0 = (bsF P k).2 ∧ (bsF P k).1 = 0)) ∧ ∀ j, j < k → P (bsD j) < (bsF P k).2 ∨ (P (bsD j) = (bsF P k).2 ∧ ((bsF P k).1 = 0 ∨ ∃ i, i ≤ j ∧ (bsF P k).1 = bsD i))
  | 0 => ⟨rfl, .inl rfl, .inr ⟨rfl, rfl⟩, fun j hj => absurd hj (Nat.not_lt_zero j)⟩
  | k + 1 => by
    obtain ⟨a1, a2, a3, a4⟩ := bsF_inv k
    have f : bsF P (k + 1) = if (bsF P k).2 < P (bsD k) then (bsD k, P (bsD k)) else bsF P k := rfl
    by_cases c : (bsF P k).2 < P (bsD k)
    · rw [if_pos c] at f
      rw [f]
      refine ⟨rfl, .inr ⟨k, by omega, rfl⟩, .inl ?_, fun j hj => ?_⟩
      · show P 0 < P (bsD k)
        rcases a3 with h | h <;> omega
      · show P (bsD j) < P (bsD k) ∨ _
        by_cases e : j = k
        · subst e
          exact .inr ⟨rfl, .inr ⟨j, Nat.le_refl _, rfl⟩⟩
        · rcases a4 j (by omega) with h | h <;> exact .inl (by omega)
    · rw [if_neg c] at f
      rw [f]
      refine ⟨a1, ?_, a3, fun j hj => ?_⟩
      · rcases a2 with h | ⟨i, h1, h2⟩
        · exact .inl h
        · exact .inr ⟨i, by omega, h2⟩
      · by_cases e : j = k
        · subst e
          by_cases c2 : P (bsD j) < (bsF P j).2
          · exact .inl c2
          · refine .inr ⟨by omega, ?_⟩
            rcases a2 with h | ⟨i, h1, h2⟩
            · exact .inl h
            · exact .inr ⟨i, by omega, h2⟩
        · exact a4 j (by omega)
def dst (t : Int) : Int := if t < 0 then -t else t
theorem bs_spec {t : Int} (ht : -32 ≤ t ∧ t ≤ 32) : P t < P (bsF P 64).1 ∨ (P t = P (bsF P 64).1 ∧ (dst (bsF P 64).1 < dst t ∨ (dst t = dst (bsF P 64).1 ∧ (bsF P 64).1 ≤ t))) := by
  obtain ⟨a1, a2, a3, a4⟩ := bsF_inv (P := P) 64
  rw [a1] at a3 a4
  generalize (bsF P 64).1 = x at *
  by_cases h0 : t = 0
  · subst h0
    rcases a3 with h | ⟨h1, h2⟩
    · exact .inl h
    · exact .inr ⟨h1, .inr ⟨by rw [h2], by omega⟩⟩
  · obtain ⟨j, hj, hjt⟩ : ∃ j : Nat, j < 64 ∧ bsD j = t := by
      by_cases c : t < 0
      · refine ⟨2 * ((-t).toNat - 1), by omega, ?_⟩
        unfold bsD
        rw [if_pos (by omega)]
        omega
      · refine ⟨2 * (t.toNat - 1) + 1, by omega, ?_⟩
        unfold bsD
        rw [if_neg (by omega)]
        omega
    have h := a4 j hj
    rw [hjt] at h
    rcases h with h | ⟨h1, h2⟩
    · exact .inl h
    · refine .inr ⟨h1, ?_⟩
      rcases h2 with h2 | ⟨i, h3, h4⟩
      · subst h2
        unfold dst
        left
        split <;> split <;> omega
      · rw [h4, ← hjt]
        unfold dst bsD
        by_cases p1 : i % 2 = 0 <;> by_cases p2 : j % 2 = 0 <;> simp only [p1, p2, if_true, if_false] <;> (repeat' split) <;> omega
end BS
def shP (S : Sg) (t : Int) : Int := ptsV S.n S.D S.st (shF S.sg t 0)
theorem shP_0 {S : Sg} (hV : S.V) : shP S 0 = ptsS S := ptsV_sgA (sgA_cong (fun t ht => sh_00 hV.2.2 ht))
def bstV (S : Sg) : Int := (bsF (shP S) 64).1
theorem bst_b (S : Sg) : -32 ≤ bstV S ∧ bstV S ≤ 32 := bsF_b 64 (by decide)
theorem bes_e (S : Sg) : besV S = bstV S + 32 := rfl
theorem ifh_t {S : Sg} {t : Int} (ht : -32 ≤ t ∧ t ≤ 32) : ifhV S t 0 = shP S t := ifh_in ht (by decide)
theorem tot_in {A : Ab} {j : Int} (h : 0 ≤ j ∧ j ≤ 4) : totV A j = A.now.st j.toNat := by
  unfold totV
  rw [if_pos (by omega), if_pos h]
theorem setS_self (S : Sg) (j : Int) : (setS S j (S.st j.toNat)).st = S.st := by
  funext i
  show (if i = j.toNat then S.st j.toNat else S.st i) = S.st i
  split
  · next h => rw [h]
  · rfl
theorem st_rng {S : Sg} (hV : S.V) {j : Int} (h : 0 ≤ j ∧ j ≤ 4) : lo j ≤ S.st j.toNat ∧ S.st j.toNat ≤ hi j := by
  obtain ⟨v0, v1, v2, v3, v4⟩ := hV.2.1
  have hj : j = 0 ∨ j = 1 ∨ j = 2 ∨ j = 3 ∨ j = 4 := by omega
  unfold lo hi
  rcases hj with rfl | rfl | rfl | rfl | rfl
  · exact v0
  · exact v1
  · exact v2
  · exact v3
  · exact v4
theorem ifs_self {S : Sg} (hV : S.V) {j : Int} (h : 0 ≤ j ∧ j ≤ 4) : ifsV S j (S.st j.toNat) = ptsS S := by
  unfold ifsV
  rw [if_pos h, if_pos (st_rng hV h), setS_self]
  rfl
theorem setR_spec {A : Ab} {j v : Int} (h : 0 ≤ j ∧ j ≤ 4) (hv : lo j ≤ v ∧ v ≤ hi j) : (setR A j v).1 = (if A.now.st j.toNat = v then -5 else A.now.st j.toNat) ∧ (setR A j v).2.now.st j.toNat = v ∧ ptsS (setR A j v).2.now = ifsV A.now j v := by
  unfold setR ifsV
  rw [if_pos h, if_pos hv, if_pos h, if_pos hv]
  by_cases c : A.now.st j.toNat = v
  · rw [if_pos c, if_pos c]
    refine ⟨rfl, c, ?_⟩
    subst c
    rw [setS_self]
    rfl
  · rw [if_neg c, if_neg c]
    refine ⟨rfl, ?_, rfl⟩
    show (if j.toNat = j.toNat then v else A.now.st j.toNat) = v
    rw [if_pos rfl]
section SHIFTS
variable {W : En → Mm → Prop} {Rt : Int → Mm → Prop} {ρ : En} {M0 M : Mm} {A : Ab} {K : Int → Mm → Prop} {w : Int}
theorem sh_1 (hV : A.now.V) (g0 : ρ 0 = .inr (some 0)) (g2 : ρ 2 = .inl (bstV A.now)) (g3 : ρ 3 = .inl (shP A.now (bstV A.now))) (g4 : ρ 4 = .inl 1) (g5 : ρ 5 = .inl (-32)) (n0 : CN M0 M A) (hW : ∀ ρ2 M2, CN M0 M2 A → (∀ i, i < 4 → ρ2 i = ρ i) → ρ2 4 = .inl 1 → W ρ2 M2) : (sWhile (cAnd (cLe (iL 5) (iC 32)) (cNe (iL 4) (iC 0))) (sSeq (sSeq (sLoc 6 (iCallV 6 m_X6_ifShifted (rL 0) (aI (iL 5) (aI (iC 0) (aN))))) (sSeq (sLoc 7 (iQ (cLt (iL 5) (iC 0)) (iNeg (iL 5)) (iL 5))) (sSeq (sLoc 8 (iQ (cLt (iL 2) (iC 0)) (iNeg (iL 2)) (iL 2))) (sLoc 4 (iQ (cOr (cLt (iL 6) (iL 3)) (cAnd (cEq (iL 6) (iL 3)) (cOr (cGt (iL 7) (iL 8)) (cAnd (cEq (iL 7) (iL 8)) (cLe (iL 2) (iL 5)))))) (iC 1) (iC 0)))))) (sInc 5 1))) W Rt ρ M := by
  refine while_n (n := 65) (fun r ρ2 M2 => ∃ t : Int, t + r = 33 ∧ -32 ≤ t ∧ (∀ i, i < 4 → ρ2 i = ρ i) ∧ ρ2 4 = .inl 1 ∧ ρ2 5 = .inl t ∧ CN M0 M2 A) ?_ ⟨-32, by omega, by omega, fun _ _ => rfl, g4, g5, n0⟩
  rintro r V hVV ρ2 M2 ⟨t, hr, ht, hI, h4, h5, n2⟩
  have h0 : ρ2 0 = .inr (some 0) := (hI 0 (by decide)).trans g0
  have h2 := (hI 2 (by decide)).trans g2
  have h3 := (hI 3 (by decide)).trans g3
  have hb := bst_b A.now
  refine (Ec_and (Ec_le (Ev_l h5) Ev_c) (fun q => (Ec_ne (Ev_l h4) Ev_c))) _ _ M2 n2.1 (fun hp M3 n3 => ?_) (fun hp M3 n3 => ?_)
  · have n3 := n2.tr n3
    refine sq_a (sq_loc n3 (Ev.cg (Ek_ifShifted h0 (Ev_l h5) Ev_c hV) (ifh_t ⟨ht, hp.1⟩)) (fun M4 n4 => ?_))
    refine sq_loc (v := dst t) n4 (Ev_qI (Ec_lt (Ev_l h5) Ev_c) (fun q => (Ev_neg (Ev_l h5) (by first | exact inR_s (by omega) (by omega) | exact ⟨by omega, by omega⟩))) (fun q => (Ev_l h5))) (fun M5 n5 => ?_)
    refine sq_loc (v := dst (bstV A.now)) n5 (Ev_qI (Ec_lt (Ev_l h2) Ev_c) (fun q => (Ev_neg (Ev_l h2) (by first | exact inR_s (by omega) (by omega) | exact ⟨by omega, by omega⟩))) (fun q => (Ev_l h2))) (fun M6 n6 => ?_)
    refine st_loc (v := 1) n6 (Ev_qT (Ec.T (Ec_or (Ec_lt (Ev_l rfl) (Ev_l h3)) (fun q => (Ec_and (Ec_eq (Ev_l rfl) (Ev_l h3)) (fun q => (Ec_or (Ec_gt (Ev_l rfl) (Ev_l rfl)) (fun q => (Ec_and (Ec_eq (Ev_l rfl) (Ev_l rfl)) (fun q => (Ec_le (Ev_l h2) (Ev_l h5)))))))))) ?_) Ev_c) (fun M7 n7 => ?_)
    · exact bs_spec ⟨ht, hp.1⟩
    · refine st_inc (z := t) h5 (inR_s (by omega) (by omega)) (hVV _ _ (by omega) ⟨t + 1, by omega, by omega, fun i hi => ?_, rfl, rfl, n7⟩)
      rw [va_up_ne _ _ (by omega), va_up_ne _ _ (by omega), va_up_ne _ _ (by omega), va_up_ne _ _ (by omega), va_up_ne _ _ (by omega)]
      exact hI i hi
  · exact hW ρ2 M3 (n2.tr n3) hI h4
theorem sh_2 (hV : A.now.V) (g0 : ρ 0 = .inr (some 0)) (g4 : ρ 4 = .inl 1) (g5 : ρ 5 = .inl 0) (n0 : CN M0 M A) (hW : ∀ ρ2 M2, CN M0 M2 A → (∀ i, i < 4 → ρ2 i = ρ i) → ρ2 4 = .inl 1 → W ρ2 M2) : (sWhile (cAnd (cLt (iL 5) (iC 5)) (cNe (iL 4) (iC 0))) (sSeq (sLoc 4 (iQ (cEq (iCallV 6 m_X6_ifSet (rL 0) (aI (iL 5) (aI (iCallV 6 m_X6_total (rL 0) (aI (iL 5) (aN))) (aN)))) (iCallV 6 m_X6_total (rL 0) (aI (iC 11) (aN)))) (iC 1) (iC 0))) (sInc 5 1))) W Rt ρ M := by
  refine while_n (n := 5) (fun r ρ2 M2 => ∃ t : Int, t + r = 5 ∧ 0 ≤ t ∧ (∀ i, i < 4 → ρ2 i = ρ i) ∧ ρ2 4 = .inl 1 ∧ ρ2 5 = .inl t ∧ CN M0 M2 A) ?_ ⟨0, by omega, by omega, fun _ _ => rfl, g4, g5, n0⟩
  rintro r V hVV ρ2 M2 ⟨t, hr, ht, hI, h4, h5, n2⟩
  have h0 : ρ2 0 = .inr (some 0) := (hI 0 (by decide)).trans g0
  refine (Ec_and (Ec_lt (Ev_l h5) Ev_c) (fun q => (Ec_ne (Ev_l h4) Ev_c))) _ _ M2 n2.1 (fun hp M3 n3 => ?_) (fun hp M3 n3 => ?_)
  · have n3 := n2.tr n3
    have ht4 : 0 ≤ t ∧ t ≤ 4 := ⟨ht, by omega⟩
    refine sq_loc (v := 1) n3 (Ev_qT (Ec.T (Ec_eq (Ek_ifSet h0 (Ev_l h5) (Ek_total h0 (Ev_l h5) hV) hV) (Ev.cg (Ek_total h0 Ev_c hV) to11)) ?_) Ev_c) (fun M4 n4 => ?_)
    · rw [tot_in ht4]
      exact ifs_self hV ht4
    · refine st_inc (z := t) h5 (inR_s (by omega) (by omega)) (hVV _ _ (by omega) ⟨t + 1, by omega, by omega, fun i hi => ?_, rfl, rfl, n4⟩)
      rw [va_up_ne _ _ (by omega), va_up_ne _ _ (by omega)]
      exact hI i hi
  · exact hW ρ2 M3 (n2.tr n3) hI h4
theorem lm_shifts (hc : CI M A) (hV : A.V) (hK : ∀ A2 M2, CN M M2 A2 → A2.V → K 1 M2) : m_L_shifts [.inr (some 0), .inl w] K M := by
  have hW := hV
  have hV := hV.nw
  refine ⟨rfl, ?_⟩
  unfold B_L_shifts
  have hb := bst_b A.now
  have ebs := bes_e A.now
  refine sq_loc (v := bstV A.now) hc.rf (Ev.cg (Ev_sub (Ek_bestShift rfl hV) Ev_c (by first | exact inR_s (by omega) (by omega) | exact ⟨by omega, by omega⟩)) (by omega)) (fun M2 n2 => ?_)
  refine sq_loc n2 (Ev.cg (Ek_ifShifted rfl (Ev_l rfl) Ev_c hV) (ifh_t hb)) (fun M3 n3 => ?_)
  refine sq_loc (v := 1) n3 (Ev_qT (Ec_andT (Ec_andT (Ec.T (Ec_ge (Ev_l rfl) Ev_c) ?_) (Ec.T (Ec_le (Ev_l rfl) Ev_c) ?_)) (Ec.T (Ec_ge (Ev_l rfl) (Ev.cg (Ek_total rfl Ev_c hV) to11)) ?_)) Ev_c) (fun M4 n4 => ?_)
  · exact hb.1
  · exact hb.2
  · have h := bs_spec (P := shP A.now) (t := 0) (by decide)
    rw [shP_0 hV] at h
    show ptsS A.now ≤ shP A.now (bsF (shP A.now) 64).1
    rcases h with h | h <;> omega
  refine sq_a (st_loc n4 Ev_c (fun M5 n5 => ?_))
  refine sh_1 hV rfl rfl rfl rfl rfl n5 (fun ρ1 M6 n6 hI h4 => ?_)
  refine sq_a (st_loc n6 Ev_c (fun M7 n7 => ?_))
  refine sh_2 hV (hI 0 (by decide)) h4 rfl n7 (fun ρ2 M8 n8 hI2 k4 => ?_)
  have k0 : ρ2 0 = .inr (some 0) := (hI2 0 (by decide)).trans (hI 0 (by decide))
  have k1 : ρ2 1 = .inl w := (hI2 1 (by decide)).trans (hI 1 (by decide))
  have b5 := lowV_b (v := w) (n := 5) (by decide)
  have b63 := lowV_b (v := w / 8) (n := 63) (by decide)
  have b7 := lowV_b (v := w / 8) (n := 7) (by decide)
  have b9 := lowV_b (v := w / 8) (n := 9) (by decide)
  have b2 := lowV_b (v := w / 8) (n := 2) (by decide)
  have b100 := lowV_b (v := w / 8) (n := 100) (by decide)
  refine sq_loc n8 (Ek_low (Ev_l k1) Ev_c (by first | omega | (split <;> omega))) (fun M9 n9 => ?_)
  obtain ⟨j, hj⟩ : ∃ j, j = lowV w 5 := ⟨_, rfl⟩
  rw [← hj] at b5 ⊢
  have hj4 : 0 ≤ j ∧ j ≤ 4 := by omega
  obtain ⟨v, hv⟩ : ∃ v, v = if j = 0 then 2 + lowV (w / 8) 63 else if j = 1 then lowV (w / 8) 7 else if j = 2 then lowV (w / 8) 9 else if j = 3 then lowV (w / 8) 2 else 1 + lowV (w / 8) 100 := ⟨_, rfl⟩
  have hvr : lo j ≤ v ∧ v ≤ hi j := by
    rw [hv]
    unfold lo hi
    have hj5 : j = 0 ∨ j = 1 ∨ j = 2 ∨ j = 3 ∨ j = 4 := by omega
    rcases hj5 with e | e | e | e | e <;> rw [e] <;> simp <;> omega
  refine sq_loc n9 (Ev.cg (Ev_qI (Ec_eq (Ev_l rfl) Ev_c) (fun q => (Ev_add Ev_c (Ek_low (Ev_shr (Ev_l k1)) Ev_c (by first | omega | (split <;> omega))) (by first | exact inR_s (by omega) (by omega) | exact ⟨by omega, by omega⟩))) (fun q => (Ev_qI (Ec_eq (Ev_l rfl) Ev_c) (fun q => (Ek_low (Ev_shr (Ev_l k1)) Ev_c (by first | omega | (split <;> omega)))) (fun q => (Ev_qI (Ec_eq (Ev_l rfl) Ev_c) (fun q => (Ek_low (Ev_shr (Ev_l k1)) Ev_c (by first | omega | (split <;> omega)))) (fun q => (Ev_qI (Ec_eq (Ev_l rfl) Ev_c) (fun q => (Ek_low (Ev_shr (Ev_l k1)) Ev_c (by first | omega | (split <;> omega)))) (fun q => (Ev_add Ev_c (Ek_low (Ev_shr (Ev_l k1)) Ev_c (by first | omega | (split <;> omega))) (by first | exact inR_s (by omega) (by omega) | exact ⟨by omega, by omega⟩)))))))))) hv.symm) (fun M10 n10 => ?_)
  have q0 : va_up (va_up ρ2 5 (.inl j)) 6 (.inl v) 0 = .inr (some 0) := k0
  have q5 : va_up (va_up ρ2 5 (.inl j)) 6 (.inl v) 5 = .inl j := rfl
  refine sq_loc n10 (Ev.cg (Ek_total q0 (Ev_l q5) hV) (tot_in hj4)) (fun M11 n11 => ?_)
  have u0 : va_up (va_up (va_up ρ2 5 (.inl j)) 6 (.inl v)) 7 (.inl (A.now.st j.toNat)) 0 = .inr (some 0) := k0
  have u5 : va_up (va_up (va_up ρ2 5 (.inl j)) 6 (.inl v)) 7 (.inl (A.now.st j.toNat)) 5 = .inl j := rfl
  have u6 : va_up (va_up (va_up ρ2 5 (.inl j)) 6 (.inl v)) 7 (.inl (A.now.st j.toNat)) 6 = .inl v := rfl
  refine sq_loc n11 (Ek_ifSet u0 (Ev_l u5) (Ev_l u6) hV) (fun M12 n12 => ?_)
  have w0 : va_up (va_up (va_up (va_up ρ2 5 (.inl j)) 6 (.inl v)) 7 (.inl (A.now.st j.toNat))) 8 (.inl (ifsV A.now j v)) 0 = .inr (some 0) := k0
  have w4 : va_up (va_up (va_up (va_up ρ2 5 (.inl j)) 6 (.inl v)) 7 (.inl (A.now.st j.toNat))) 8 (.inl (ifsV A.now j v)) 4 = .inl 1 := k4
  have w5 : va_up (va_up (va_up (va_up ρ2 5 (.inl j)) 6 (.inl v)) 7 (.inl (A.now.st j.toNat))) 8 (.inl (ifsV A.now j v)) 5 = .inl j := rfl
  have w6 : va_up (va_up (va_up (va_up ρ2 5 (.inl j)) 6 (.inl v)) 7 (.inl (A.now.st j.toNat))) 8 (.inl (ifsV A.now j v)) 6 = .inl v := rfl
  have w7 : va_up (va_up (va_up (va_up ρ2 5 (.inl j)) 6 (.inl v)) 7 (.inl (A.now.st j.toNat))) 8 (.inl (ifsV A.now j v)) 7 = .inl (A.now.st j.toNat) := rfl
  have w8 : va_up (va_up (va_up (va_up ρ2 5 (.inl j)) 6 (.inl v)) 7 (.inl (A.now.st j.toNat))) 8 (.inl (ifsV A.now j v)) 8 = .inl (ifsV A.now j v) := rfl
  have hS := setR_spec (A := A) hj4 hvr
  have hV2 := setR_V (j := j) (v := v) hW
  refine st_retB n12 (Ev_qT (Ec_andT (Ec_andT (Ec_andT (Ec.T (Ec_ne (Ev_l w4) Ev_c) (by decide)) (Ec.T (Ec_eq (Ek_set w0 (Ev_l w5) (Ev_l w6)) (Ev_qI (Ec_eq (Ev_l w7) (Ev_l w6)) (fun _ => Ev_c) (fun _ => Ev_l w7))) hS.1)) (Ec.T (Ec_eq (Ek_total w0 (Ev_l w5) hV2.nw) (Ev_l w6)) ((tot_in hj4).trans hS.2.1))) (Ec.T (Ec_eq (Ev.cg (Ek_total w0 Ev_c hV2.nw) to11) (Ev_l w8)) hS.2.2)) Ev_c) (fun M13 n13 => ⟨n13.2.1, hK _ M13 n13 hV2⟩)
end SHIFTS
