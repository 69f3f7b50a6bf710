section HM
variable {n : Nat} {D : Nat → Nat → Int} {rs : Nat → Int}
theorem tk_s (D : Nat → Nat → Int) (k : Nat) : tk (k + 1) D = D k 0 + D k 1 := by
  unfold tk
  rw [if_neg (by omega), Nat.add_sub_cancel]
theorem tk_le (hv : VD n D) {k : Nat} (hk : k < n) : tk k D ≤ D k 0 := by
  have hb := hv.2.1 k hk
  cases k with
  | zero => exact hb.1
  | succ k =>
    rw [tk_s]
    exact hv.2.2.2 k hk
theorem D4 (hv : VD n D) {k : Nat} (hk : k < n) : D k 4 = 0 ∨ D k 4 = 1 := (hv.2.1 k hk).2.2.2.2.2.2.2.2
theorem ph_0 (hv : VD n D) (hk : 0 < n) : ph D 0 = 0 := by
  have h := hv.2.2.1 hk
  show 0 + D 0 4 - 1 = 0
  omega
theorem rw_0 (hv : VD n D) (hk : 0 < n) : rwA D rs 0 = 0 := by
  unfold rwA
  rw [if_pos (hv.2.2.1 hk)]
theorem mn_mn {x : Int} : mn10 (mn10 x + 1) = mn10 (x + 1) := by
  unfold mn10
  (repeat' split) <;> omega
/-- how many were hit ahead: the law's way -/
theorem m_row (hv : VD n D) {k : Nat} (hk : k + 1 < n) {f : Int} (hf : f = if ph D (k + 1) ≠ ph D k then 1 else 0) : mn10 (rwA D rs (k + 1)) = mn10 (if f ≠ 0 ∨ 0 < rs k then 0 else mn10 (rwA D rs k) + 1) ∨ rs k < 0 := by
  have h4 := D4 hv hk
  have hp := ph_s (D := D) k
  by_cases hneg : rs k < 0
  · exact .inr hneg
  refine .inl ?_
  have e1 : rwA D rs (k + 1) = if D (k + 1) 4 = 1 then 0 else if rs k = 0 then rwA D rs k + 1 else 0 := by
    rw [← re_s]
    rfl
  rw [e1]
  rcases h4 with h | h
  · have hf0 : f = 0 := by rw [hf, if_neg (by omega)]
    rw [if_neg (by omega)]
    by_cases hr : rs k = 0
    · rw [if_pos hr, if_neg (by omega), mn_mn]
    · rw [if_neg hr, if_pos (.inr (by omega))]
  · have hf0 : f = 1 := by rw [hf, if_pos (by omega)]
    rw [if_pos h, if_pos (.inl (by omega))]
theorem m_ph (hv : VD n D) {k : Nat} (hk : k + 1 < n) {f : Int} (hf : f = if ph D (k + 1) ≠ ph D k then 1 else 0) : ph D (k + 1) = ph D k + (if f ≠ 0 then 1 else 0) := by
  have h4 := D4 hv hk
  have hp := ph_s (D := D) k
  rcases h4 with h | h
  · have hf0 : f = 0 := by rw [hf, if_neg (by omega)]
    rw [if_neg (by omega)]
    omega
  · have hf0 : f = 1 := by rw [hf, if_pos (by omega)]
    rw [if_pos (by omega)]
    omega
theorem fsP_none {p : Int} : ∀ m, (∀ j, j < m → ph D j ≠ p) → fsP D p m = -5
  | 0, _ => rfl
  | m + 1, h => by
    show (if fsP D p m = -5 ∧ ph D m = p then (m : Int) else fsP D p m) = -5
    rw [if_neg (fun q => h m (by omega) q.2)]
    exact fsP_none m (fun j hj => h j (by omega))
/-- a phrase's syllables lie together -/
theorem ph_blk (hv : VD n D) : ∀ m, m ≤ n → ∀ p : Nat, (p : Int) < cnt1 D m → ∃ s z : Nat, 1 ≤ z ∧ s + z ≤ m ∧ ((p : Int) + 1 = cnt1 D m → s + z = m) ∧ fsP D p m = s ∧ szP D p m = z ∧ (∀ i, i < z → ph D (s + i) = p) ∧ ∀ v : Nat → Int, sm (fun j => if ph D j = p then v j else 0) m = sm (fun i => v (s + i)) z := by
  intro m
  induction m with
  | zero =>
    intro _ p hp
    have : cnt1 D 0 = 0 := rfl
    omega
  | succ m ih =>
    intro hm p hp
    have ih := ih (by omega)
    have hs : cnt1 D (m + 1) = cnt1 D m + D m 4 := rfl
    have hph : ph D m = cnt1 D (m + 1) - 1 := rfl
    have f1 : fsP D p (m + 1) = if fsP D p m = -5 ∧ ph D m = p then (m : Int) else fsP D p m := rfl
    have f2 : szP D p (m + 1) = szP D p m + (if ph D m = p then 1 else 0) := rfl
    have f3 : ∀ v : Nat → Int, sm (fun j => if ph D j = p then v j else 0) (m + 1) = sm (fun j => if ph D j = p then v j else 0) m + (if ph D m = p then v m else 0) := fun v => rfl
    rcases D4 hv (k := m) (by omega) with h4 | h4
    · obtain ⟨s, z, a1, a2, a3, a4, a5, a6, a7⟩ := ih p (by omega)
      by_cases hl : (p : Int) + 1 = cnt1 D m
      · have hpm : ph D m = p := by omega
        have hsz := a3 hl
        refine ⟨s, z + 1, by omega, by omega, fun _ => by omega, ?_, ?_, fun i hi => ?_, fun v => ?_⟩
        · rw [f1, a4, if_neg (by omega)]
        · rw [f2, a5, if_pos hpm]; omega
        · by_cases e : i = z
          · subst e; rw [hsz]; exact hpm
          · exact a6 i (by omega)
        · rw [f3, a7, if_pos hpm]
          show _ = sm (fun i => v (s + i)) z + v (s + z)
          rw [hsz]
      · have hpm : ¬ ph D m = p := by omega
        refine ⟨s, z, a1, by omega, fun h => absurd (by omega) hl, ?_, ?_, a6, fun v => ?_⟩
        · rw [f1, if_neg (fun q => hpm q.2), a4]
        · rw [f2, if_neg hpm, a5]; omega
        · rw [f3, if_neg hpm, a7]; omega
    · by_cases hl : (p : Int) = cnt1 D m
      · have hno : ∀ j, j < m → ph D j ≠ (p : Int) := fun j hj => by
          have := ph_lt hv hj (by omega : m ≤ n)
          omega
        have hpm : ph D m = p := by omega
        refine ⟨m, 1, by omega, by omega, fun _ => rfl, ?_, ?_, fun i hi => ?_, fun v => ?_⟩
        · rw [f1, if_pos ⟨fsP_none m hno, hpm⟩]
        · have e0 : szP D p m = 0 := sm_0 (fun j hj => if_neg (hno j hj))
          rw [f2, if_pos hpm, e0]; rfl
        · have : i = 0 := by omega
          subst this; exact hpm
        · have e0 : sm (fun j => if ph D j = p then v j else 0) m = 0 := sm_0 (fun j hj => if_neg (hno j hj))
          rw [f3, if_pos hpm, e0]
          rfl
      · obtain ⟨s, z, a1, a2, a3, a4, a5, a6, a7⟩ := ih p (by omega)
        have hpm : ¬ ph D m = p := by omega
        refine ⟨s, z, a1, by omega, fun h => absurd (by omega) hpm, ?_, ?_, a6, fun v => ?_⟩
        · rw [f1, if_neg (fun q => hpm q.2), a4]
        · rw [f2, if_neg hpm, a5]; omega
        · rw [f3, if_neg hpm, a7]; omega
theorem re_hP (hv : VD n D) : ∀ i, i < n → re D rs (i + 1) ≤ hP D rs (ph D i) (i + 1) := by
  intro i
  induction i with
  | zero =>
    intro hi
    have h := hv.2.2.1 hi
    show (if rs 0 = 0 then (if D 0 4 = 1 then 0 else re D rs 0) + 1 else 0) ≤ (0 : Int) + (if ph D 0 = ph D 0 ∧ rs 0 = 0 then 1 else 0)
    rw [if_pos h]
    by_cases c : rs 0 = 0
    · rw [if_pos c, if_pos ⟨rfl, c⟩]; omega
    · rw [if_neg c, if_neg (fun q => c q.2)]; omega
  | succ i ih =>
    intro hi
    have ih := ih (by omega)
    have hb := hP_b D rs (ph D (i + 1)) (i + 1)
    have hp := ph_s (D := D) i
    rw [hP_s, re_s]
    by_cases c : rs (i + 1) = 0
    · rw [if_pos c, if_pos ⟨rfl, c⟩]
      unfold rwA
      rcases D4 hv hi with h4 | h4
      · rw [if_neg (by omega)]
        have : ph D (i + 1) = ph D i := by omega
        rw [this]
        omega
      · rw [if_pos h4]; omega
    · rw [if_neg c, if_neg (fun q => c q.2)]; omega
theorem lP_hP (hv : VD n D) (p : Int) : ∀ i, i ≤ n → lP D rs p i ≤ hP D rs p i
  | 0, _ => Int.le_refl _
  | i + 1, h => by
    have ih := lP_hP hv p i (by omega)
    have h1 := re_hP (rs := rs) hv i (by omega)
    rw [lP_s]
    by_cases hp : ph D i = p
    · rw [if_pos hp]
      rw [hp] at h1
      rw [hP_s] at h1 ⊢
      split
      · exact h1
      · split <;> omega
    · rw [if_neg hp, hP_s, if_neg (fun q => hp q.1)]
      omega
theorem wsF_spec (pp : Nat → Int) : ∀ m, 0 < m → ∃ w : Nat, wsF pp m = w ∧ w < m ∧ (∀ i, i < m → pp w ≤ pp i) ∧ ∀ i, i < w → pp w < pp i := by
  intro m
  induction m with
  | zero => intro h; omega
  | succ m ih =>
    intro _
    by_cases h0 : m = 0
    · subst h0
      exact ⟨0, rfl, by omega, fun i hi => by have : i = 0 := by omega
                                              subst this; exact Int.le_refl _, fun i hi => by omega⟩
    · obtain ⟨w, a1, a2, a3, a4⟩ := ih (by omega)
      have f : wsF pp (m + 1) = if wsF pp m = -5 ∨ pp m < pp (wsF pp m).toNat then (m : Int) else wsF pp m := rfl
      rw [a1, Int.toNat_natCast] at f
      by_cases c : pp m < pp w
      · rw [if_pos (.inr c)] at f
        refine ⟨m, f, by omega, fun i hi => ?_, fun i hi => ?_⟩
        · by_cases e : i = m
          · subst e; exact Int.le_refl _
          · have := a3 i (by omega); omega
        · have := a3 i hi; omega
      · rw [if_neg (fun q => q.elim (fun q => by omega) c)] at f
        refine ⟨w, f, by omega, fun i hi => ?_, a4⟩
        by_cases e : i = m
        · subst e; omega
        · exact a3 i (by omega)
theorem sm_le {f g : Nat → Int} : ∀ {m : Nat}, (∀ i, i < m → f i ≤ g i) → sm f m ≤ sm g m
  | 0, _ => Int.le_refl _
  | m + 1, h => by
    have h1 := sm_le (m := m) (fun i hi => h i (by omega))
    have h2 := h m (by omega)
    show sm f m + f m ≤ sm g m + g m
    omega
theorem re_mono (rs : Nat → Int) : ∀ i, re D rs i ≤ re D (fun _ => 0) i
  | 0 => Int.le_refl _
  | i + 1 => by
    have ih := re_mono rs i
    have hb := re_b D (fun _ => 0) i
    show (if rs i = 0 then (if D i 4 = 1 then 0 else re D rs i) + 1 else 0) ≤ (if (0 : Int) = 0 then (if D i 4 = 1 then 0 else re D (fun _ => 0) i) + 1 else 0)
    rw [if_pos rfl]
    (repeat' split) <;> omega
theorem mx0_mono {x y : Int} (h : x ≤ y) : mx0 x ≤ mx0 y := by unfold mx0; (repeat' split) <;> omega
theorem mn10_mono {x y : Int} (h : x ≤ y) : mn10 x ≤ mn10 y := by unfold mn10; (repeat' split) <;> omega
theorem shV_100 {st sg : Nat → Int} {k : Nat} (hv : VD n D) (hk : k < n) : shV D st sg k ≤ 100 := by
  have h1 := hv.2.1 k hk
  have h2 := mcS_b D st sg k (len D k)
  have h3 : (len D k : Int) = D k 1 := by unfold len; omega
  exact (tdiv_le_of (x := mcS D st sg k (len D k) * 100) (b := D k 1) (c := 100) (by omega) (by omega) (by omega)).2
theorem hl_bl {st sg : Nat → Int} {k : Nat} (hv : VD n D) (hst : VT st) (hk : k < n) : hlF D st sg k ≤ bl D k (st 0) := by
  have h1 := hv.2.1 k hk
  have h3 : (len D k : Int) = D k 1 := by unfold len; omega
  obtain ⟨j, hj⟩ : ∃ j, len D k = j + 1 := ⟨len D k - 1, by omega⟩
  have hc := mul_cnt (a := D k 0) (b := st 0) h1.1 (by have := hst.1; omega) j
  unfold bl
  rw [Int.tdiv_eq_ediv_of_nonneg (by omega), Int.tdiv_eq_ediv_of_nonneg (by omega)]
  have e : D k 0 + D k 1 - 1 = D k 0 + j := by omega
  rw [e, ← hc]
  unfold hlF hlS
  rw [hj]
  refine sm_le (fun i hi => ?_)
  by_cases c : mB D st sg k i = true ∧ ahd D st sg k i = true ∧ barB (st 0) (D k 0 + i) = true
  · rw [if_pos c, if_pos]
    · exact Int.le_refl _
    · refine ⟨?_, ?_⟩
      · cases i with
        | zero => exact absurd c.2.1 (by simp [ahd])
        | succ i => omega
      · have := c.2.2
        unfold barB at this
        exact (of_decide_eq_true this).2.2
  · rw [if_neg c]
    split <;> omega
/-- a syllable brings at most what it brings when it is sung as it is wanted -/
theorem pt_le {S : Sg} (hV : S.V) {i : Nat} (hi : i < S.n) : ptS S i ≤ ptW S.D (fun _ => 100) (fun i => bl S.D i (S.st 0)) (fun i => S.D i 0) (fun _ => 0) i := by
  have hb2 := hV.2.1.1.1
  rw [ptW_p hV.1 hb2 hi]
  have h1 := shV_100 (st := S.st) (sg := S.sg) hV.1 hi
  have h2 := hl_bl (sg := S.sg) hV.1 hV.2.1 hi
  have h3 := bl_b hV.1 hi hb2
  have h4 := rwA_b S.D (rsS S) i
  have h5 := rwA_b S.D (fun _ => 0) i
  have h6 : rwA S.D (rsS S) i ≤ rwA S.D (fun _ => 0) i := by
    have := re_mono (D := S.D) (rsS S) i
    unfold rwA
    split <;> omega
  have h7 := mn10_b h4.1
  have h8 := mn10_b h5.1
  have h9 := mn10_mono h6
  unfold ptS ptW ptV
  by_cases c : rsV S.D S.st S.sg i = 0
  · rw [if_pos c]
    have a1 : 0 ≤ absI (onF S.D S.st S.sg i - S.D i 0) := by unfold absI; split <;> omega
    have a2 := mx0_b (shV S.D S.st S.sg i + 5 * hlF S.D S.st S.sg i - 2 * absI (onF S.D S.st S.sg i - S.D i 0))
    have a3 : mx0 (shV S.D S.st S.sg i + 5 * hlF S.D S.st S.sg i - 2 * absI (onF S.D S.st S.sg i - S.D i 0)) ≤ 100 + 5 * bl S.D i (S.st 0) := by
      rcases a2.2 with h | h <;> omega
    have a4 : mx0 (shV S.D S.st S.sg i + 5 * hlF S.D S.st S.sg i - 2 * absI (onF S.D S.st S.sg i - S.D i 0)) * (10 + mn10 (rwA S.D (rsV S.D S.st S.sg) i)) ≤ (100 + 5 * bl S.D i (S.st 0)) * (10 + mn10 (rwA S.D (fun _ => 0) i)) :=
      Int.mul_le_mul a3 (by show 10 + mn10 (rwA S.D (rsS S) i) ≤ _; omega) (by show 0 ≤ 10 + mn10 (rwA S.D (rsS S) i); omega) (by omega)
    have a5 : 0 ≤ mx0 (shV S.D S.st S.sg i + 5 * hlF S.D S.st S.sg i - 2 * absI (onF S.D S.st S.sg i - S.D i 0)) * (10 + mn10 (rwA S.D (rsV S.D S.st S.sg) i)) := Int.mul_nonneg a2.1 (by show 0 ≤ 10 + mn10 (rwA S.D (rsS S) i); omega)
    rw [Int.tdiv_eq_ediv_of_nonneg a5, Int.tdiv_eq_ediv_of_nonneg (by omega)]
    exact Int.ediv_le_ediv (by decide) a4
  · rw [if_neg c]
    exact (tdiv_nn (Int.mul_nonneg (by omega) (by omega)) (by decide)).1
theorem pts_le {S : Sg} (hV : S.V) : ptsS S ≤ perfPts S.n S.D (S.st 0) := by
  unfold ptsS ptsV perfPts
  refine sm_le (fun p _ => ?_)
  have h1 : pP S.D (ptS S) p S.n ≤ pP S.D (ptW S.D (fun _ => 100) (fun i => bl S.D i (S.st 0)) (fun i => S.D i 0) (fun _ => 0)) p S.n := by
    unfold pP
    refine sm_le (fun j hj => ?_)
    have := pt_le hV hj
    split <;> omega
  have h2 : exP S.n S.D (rsV S.D S.st S.sg) p ≤ exP S.n S.D (fun _ => 0) p := by
    have e : hP S.D (fun _ => 0) p S.n = szP S.D p S.n := sm_cong (fun j _ => by simp)
    unfold exP
    rw [e]
    by_cases c : 2 ≤ szP S.D p S.n ∧ hP S.D (rsV S.D S.st S.sg) p S.n = szP S.D p S.n
    · rw [if_pos c, if_pos ⟨c.1, rfl⟩]; omega
    · rw [if_neg c]; split <;> omega
  show pP S.D (ptS S) p S.n + _ ≤ _
  omega
end HM
