/-! ===== one syllable ===== -/
section SYL
variable {S : Sg} {k : Nat}
theorem sy_in (hk : k < S.n) : 0 ≤ (k : Int) ∧ (k : Int) < S.n := by omega
theorem syV (hk : k < S.n) {w : Int} (hw : 0 ≤ w ∧ w ≤ 11) : sylV S k w = sylW S k w := by
  unfold sylV
  rw [if_pos (sy_in hk), if_pos hw, Int.toNat_natCast]
theorem sy0 (hk : k < S.n) : sylV S k 0 = S.D k 0 := syV hk (by decide)
theorem sy1 (hk : k < S.n) : sylV S k 1 = S.D k 1 := syV hk (by decide)
theorem sy2 (hk : k < S.n) : sylV S k 2 = S.D k 2 := syV hk (by decide)
theorem sy3 (hk : k < S.n) : sylV S k 3 = S.D k 3 := syV hk (by decide)
theorem sy4 (hk : k < S.n) : sylV S k 4 = ph S.D k := syV hk (by decide)
theorem sy5 (hk : k < S.n) : sylV S k 5 = bl S.D k (S.st 0) := syV hk (by decide)
theorem sy6 (hk : k < S.n) : sylV S k 6 = mcF S.D S.st S.sg k := syV hk (by decide)
theorem sy7 (hk : k < S.n) : sylV S k 7 = shV S.D S.st S.sg k := syV hk (by decide)
theorem sy8 (hk : k < S.n) : sylV S k 8 = onF S.D S.st S.sg k := syV hk (by decide)
def rsS (S : Sg) : Nat → Int := rsV S.D S.st S.sg
def ptS (S : Sg) : Nat → Int := ptW S.D (shV S.D S.st S.sg) (hlF S.D S.st S.sg) (onF S.D S.st S.sg) (rsV S.D S.st S.sg)
theorem sy9 (hk : k < S.n) : sylV S k 9 = rsS S k := syV hk (by decide)
theorem sy10 (hk : k < S.n) : sylV S k 10 = ptS S k := syV hk (by decide)
theorem sy11 (hk : k < S.n) : sylV S k 11 = mn10 (rwA S.D (rsS S) k) := syV hk (by decide)
theorem lit_at (hk : k < S.n) {t : Int} (ht : 0 ≤ t ∧ t ≤ 599) : litV S k t = if t - S.D k 0 + 1 < 0 then 0 else if S.D k 1 < t - S.D k 0 + 1 then S.D k 1 else t - S.D k 0 + 1 := by
  unfold litV
  rw [if_pos (sy_in hk), if_pos ht, Int.toNat_natCast]
theorem m_lit0 (hV : S.V) (hk : k < S.n) (h : ¬ S.D k 0 = 0) : litV S k (S.D k 0 - 1) = 0 := by
  have hb := hV.1.2.1 k hk
  rw [lit_at hk (by omega)]
  (repeat' split) <;> omega
theorem m_lit1 (hV : S.V) (hk : k < S.n) : litV S k (S.D k 0) = 1 := by
  have hb := hV.1.2.1 k hk
  rw [lit_at hk (by omega)]
  (repeat' split) <;> omega
theorem m_lit2 (hV : S.V) (hk : k < S.n) : litV S k (S.D k 0 + S.D k 1 - 1) = S.D k 1 := by
  have hb := hV.1.2.1 k hk
  rw [lit_at hk (by omega)]
  (repeat' split) <;> omega
theorem m_lit3 (hV : S.V) (hk : k < S.n) : litV S k 599 = S.D k 1 := by
  have hb := hV.1.2.1 k hk
  rw [lit_at hk (by omega)]
  (repeat' split) <;> omega
theorem m_wan (hV : S.V) (hk : k < S.n) {j : Int} (hj : 0 ≤ j ∧ j < S.D k 1) : wanV S (S.D k 0 + j) = wn S.D k j := by
  have hb := hV.1.2.1 k hk
  unfold wanV
  rw [if_pos (by omega), wF_at hV.1 (k := k) (by omega) S.n hk (Nat.le_refl _)]
  congr 1
  omega
theorem wn_0 (D : Nat → Nat → Int) (k : Nat) : wn D k 0 = D k 2 := by
  unfold wn
  split
  · rfl
  · simp
theorem wn_end {D : Nat → Nat → Int} {k : Nat} (h : ¬ D k 1 = 1) : wn D k (D k 1 - 1) = D k 3 := by
  unfold wn
  rw [if_neg h, Int.mul_tdiv_cancel _ (by omega)]
  omega
theorem m_wan0 (hV : S.V) (hk : k < S.n) : wanV S (S.D k 0) = S.D k 2 := by
  have hb := hV.1.2.1 k hk
  have h := m_wan hV hk (j := 0) (by omega)
  rw [wn_0] at h
  rw [← h]
  congr 1
  omega
theorem m_wan1 (hV : S.V) (hk : k < S.n) (h : ¬ S.D k 1 = 1) : wanV S (S.D k 0 + S.D k 1 - 1) = S.D k 3 := by
  have hb := hV.1.2.1 k hk
  have h2 := m_wan hV hk (j := S.D k 1 - 1) (by omega)
  rw [wn_end h] at h2
  rw [← h2]
  congr 1
  omega
theorem tdiv_le_of {x b c : Int} (hb : 0 < b) (hx : 0 ≤ x) (h : x ≤ c * b) : 0 ≤ x.tdiv b ∧ x.tdiv b ≤ c := by
  rw [Int.tdiv_eq_ediv_of_nonneg hx]
  exact ⟨Int.ediv_nonneg hx (by omega), Int.ediv_le_of_le_mul hb h⟩
/-- the wanted pitch lies between both pitches -/
theorem wn_btw {n : Nat} {D : Nat → Nat → Int} (hv : VD n D) {k : Nat} (hk : k < n) {j : Int} (hj : 0 ≤ j ∧ j < D k 1) : (D k 2 ≤ D k 3 → D k 2 ≤ wn D k j ∧ wn D k j ≤ D k 3) ∧ (D k 3 ≤ D k 2 → D k 3 ≤ wn D k j ∧ wn D k j ≤ D k 2) := by
  have hb := hv.2.1 k hk
  unfold wn
  by_cases h1 : D k 1 = 1
  · rw [if_pos h1]
    omega
  · rw [if_neg h1]
    refine ⟨fun h => ?_, fun h => ?_⟩
    · have h2 := tdiv_le_of (x := (D k 3 - D k 2) * j) (b := D k 1 - 1) (c := D k 3 - D k 2) (by omega) (Int.mul_nonneg (by omega) hj.1) (Int.mul_le_mul_of_nonneg_left (by omega) (by omega))
      omega
    · have h2 := tdiv_le_of (x := (D k 2 - D k 3) * j) (b := D k 1 - 1) (c := D k 2 - D k 3) (by omega) (Int.mul_nonneg (by omega) hj.1) (Int.mul_le_mul_of_nonneg_left (by omega) (by omega))
      have h3 : (D k 3 - D k 2) * j = -((D k 2 - D k 3) * j) := by
        rw [← Int.neg_mul]
        congr 1
        omega
      rw [h3, Int.neg_tdiv]
      omega
theorem wn_60 {n : Nat} {D : Nat → Nat → Int} (hv : VD n D) {k : Nat} (hk : k < n) {j : Int} (hj : 0 ≤ j ∧ j < D k 1) : 0 ≤ wn D k j ∧ wn D k j ≤ 60 := by
  have h1 := wn_btw hv hk hj
  have hb := hv.2.1 k hk
  by_cases h : D k 2 ≤ D k 3
  · have := h1.1 h; omega
  · have := h1.2 (by omega); omega
theorem sun_at {t : Int} (ht : 0 ≤ t ∧ t < 600) : sunV S t = if sgA S.sg t = -1 then -5 else sgA S.sg t := by
  unfold sunV sgA
  rw [if_pos (by omega), if_pos ht]
theorem sun_b (hV : S.V) {t : Int} (ht : 0 ≤ t ∧ t < 600) : -5 ≤ sunV S t ∧ sunV S t ≤ 60 := by
  have := sgA_b hV.2.2 t
  rw [sun_at ht]
  split <;> omega
/-- the law's way to say that a tick matches -/
theorem m_match (hV : S.V) (hk : k < S.n) {j : Nat} (hj : (j : Int) < S.D k 1) {o1 o2 : Int} (h1 : o1 = if sunV S (S.D k 0 + j) < wn S.D k j then wn S.D k j - sunV S (S.D k 0 + j) else sunV S (S.D k 0 + j) - wn S.D k j) (h2 : o2 = if S.st 3 = 0 then o1 else if 6 < o1.tmod 12 then 12 - o1.tmod 12 else o1.tmod 12) : (0 ≤ sunV S (S.D k 0 + j) ∧ o2 ≤ S.st 1) ↔ mB S.D S.st S.sg k j = true := by
  have hb := hV.1.2.1 k hk
  have hs3 := hV.2.1.2.2.2.1
  have hg := sgA_b hV.2.2 (S.D k 0 + j)
  have hsun := sun_at (S := S) (t := S.D k 0 + j) ⟨by omega, by omega⟩
  have hw := wn_60 hV.1 hk (j := j) ⟨by omega, hj⟩
  unfold mB mt? pj
  rw [decide_eq_true_eq]
  rw [hsun] at h1 ⊢
  generalize sgA S.sg (S.D k 0 + j) = g at *
  generalize wn S.D k j = w at *
  by_cases hg1 : g = -1
  · subst hg1
    simp
  · rw [if_neg hg1] at h1 ⊢
    have e1 : absI (g - w) = o1 := by
      rw [h1]
      unfold absI
      (repeat' split) <;> omega
    have ho : 0 ≤ o1 := by rw [h1]; split <;> omega
    have e2 : far S.st (absI (g - w)) = o2 := by
      rw [e1, h2]
      unfold far
      have hm := tmod_b ho
      by_cases h3 : S.st 3 = 1
      · rw [if_pos h3, if_neg (show ¬ S.st 3 = 0 by omega)]
        (repeat' split) <;> omega
      · rw [if_neg h3, if_pos (by omega)]
    rw [e2]
    constructor
    · exact fun h => ⟨hg1, h.2⟩
    · exact fun h => ⟨by omega, h.2⟩
theorem nr_spec {sg : Nat → Int} {b : Int} : ∀ (r : Nat) (d : Int), 0 ≤ d → nr sg b d r = -5 ∨ (on? sg (nr sg b d r) = true ∧ b - (d + r - 1) ≤ nr sg b d r ∧ nr sg b d r ≤ b + (d + r - 1))
  | 0, _, _ => .inl rfl
  | r + 1, d, h0 => by
    have ih := nr_spec (sg := sg) (b := b) r (d + 1) (by omega)
    unfold nr
    by_cases c1 : on? sg (b - d) = true
    · rw [if_pos c1]
      exact .inr ⟨c1, by omega, by omega⟩
    · rw [if_neg c1]
      by_cases c2 : on? sg (b + d) = true
      · rw [if_pos c2]
        exact .inr ⟨c2, by omega, by omega⟩
      · rw [if_neg c2]
        rcases ih with h | ⟨h1, h2, h3⟩
        · exact .inl h
        · exact .inr ⟨h1, by omega, by omega⟩
theorem on_in {sg : Nat → Int} {x : Int} (h : on? sg x = true) : 0 ≤ x ∧ x < 600 ∧ sgA sg x ≠ -1 ∧ sgA sg x ≠ sgA sg (x - 1) := by
  have h1 : sgA sg x ≠ -1 ∧ sgA sg x ≠ sgA sg (x - 1) := by unfold on? at h; exact of_decide_eq_true h
  by_cases h2 : 0 ≤ x ∧ x < 600
  · exact ⟨h2.1, h2.2, h1⟩
  · exact absurd (by unfold sgA; rw [if_neg h2]) h1.1
/-- the law's way to say that a tick is an onset -/
theorem m_on (hV : S.V) {x : Int} (hx : 0 ≤ x ∧ x < 600) : (0 ≤ sunV S x ∧ (x = 0 ∨ sunV S (x - 1) ≠ sunV S x)) ↔ on? S.sg x = true := by
  have h1 := sgA_b hV.2.2 x
  have h2 := sgA_b hV.2.2 (x - 1)
  have e0 := sun_at (S := S) hx
  unfold on?
  rw [decide_eq_true_eq]
  by_cases h0 : x = 0
  · subst h0
    have e : sgA S.sg (0 - 1) = -1 := by unfold sgA; rw [if_neg (by omega)]
    rw [e0, e]
    by_cases c : sgA S.sg 0 = -1
    · rw [if_pos c]; simp [c]
    · rw [if_neg c]; simp [c]; omega
  · rw [e0, sun_at (S := S) (t := x - 1) (by omega)]
    by_cases c : sgA S.sg x = -1 <;> by_cases c2 : sgA S.sg (x - 1) = -1 <;> simp [c, c2, h0] <;> omega
theorem onF_spec (hV : S.V) (hk : k < S.n) : onF S.D S.st S.sg k = -5 ∨ (on? S.sg (onF S.D S.st S.sg k) = true ∧ onF S.D S.st S.sg k - S.D k 0 ≤ S.st 2 ∧ S.D k 0 - onF S.D S.st S.sg k ≤ S.st 2) := by
  have h := nr_spec (sg := S.sg) (b := S.D k 0) (S.st 2 + 1).toNat 0 (by omega)
  have h2 := hV.2.1.2.2.1
  unfold onF nrO
  rcases h with h | ⟨h3, h4, h5⟩
  · exact .inl h
  · exact .inr ⟨h3, by omega, by omega⟩
theorem rs_b (k : Nat) : 0 ≤ rsS S k ∧ rsS S k ≤ 4 := by
  unfold rsS rsV
  (repeat' split) <;> omega
theorem rs_0 (h : rsS S k = 0) : onF S.D S.st S.sg k ≠ -5 ∧ S.st 4 ≤ shV S.D S.st S.sg k := by
  unfold rsS rsV at h
  unfold onF
  (repeat' split at h) <;> first | omega | exact ⟨by assumption, by omega⟩
theorem pt_0 (h : ¬ rsS S k = 0) : ptS S k = 0 := by
  unfold ptS ptW ptV
  exact if_neg h
theorem bl_half {n : Nat} {D : Nat → Nat → Int} {b : Int} (hv : VD n D) {i : Nat} (hi : i < n) (hb : 2 ≤ b) : bl D i b ≤ (D i 1).tdiv 2 := by
  have h1 := hv.2.1 i hi
  unfold bl
  rw [Int.tdiv_eq_ediv_of_nonneg (by omega), Int.tdiv_eq_ediv_of_nonneg (by omega), Int.tdiv_eq_ediv_of_nonneg (by omega)]
  have q1 := Int.mul_ediv_self_le (x := D i 0 + D i 1 - 1) (k := b) (by omega)
  have q2 := Int.lt_mul_ediv_self_add (x := D i 0) (k := b) (by omega)
  generalize (D i 0 + D i 1 - 1) / b = u at *
  generalize D i 0 / b = w at *
  by_cases h : u - w ≤ 0
  · omega
  · have h2 : 0 ≤ (b - 2) * (u - w - 1) := Int.mul_nonneg (by omega) (by omega)
    have h3 : (b - 2) * (u - w - 1) = b * u - b * w - b - 2 * (u - w - 1) := by
      rw [Int.sub_mul, Int.mul_sub, Int.mul_sub]
      omega
    omega
end SYL
section TOT
variable {A : Ab}
theorem to0 : totV A 0 = A.now.st 0 := rfl
theorem to1 : totV A 1 = A.now.st 1 := rfl
theorem to2 : totV A 2 = A.now.st 2 := rfl
theorem to3 : totV A 3 = A.now.st 3 := rfl
theorem to4 : totV A 4 = A.now.st 4 := rfl
theorem to5 : totV A 5 = A.now.n := rfl
theorem to6 : totV A 6 = cnt1 A.now.D A.now.n := rfl
theorem to7 : totV A 7 = tk A.now.n A.now.D := rfl
theorem to8 : totV A 8 = sndT A.now.sg := rfl
theorem to9 : totV A 9 = onsT A.now.sg := rfl
theorem to10 : totV A 10 = hitsA A.now := rfl
def ptsS (S : Sg) : Int := ptsV S.n S.D S.st S.sg
theorem to11 : totV A 11 = ptsS A.now := rfl
theorem to12 : totV A 12 = perfPts A.now.n A.now.D (A.now.st 0) := rfl
end TOT
