section CONG
variable {n : Nat} {D : Nat → Nat → Int} {st sg sg2 rs rs2 : Nat → Int}
theorem nr_cong (h : ∀ t, on? sg t = on? sg2 t) (b : Int) : ∀ (r : Nat) (d : Int), nr sg b d r = nr sg2 b d r
  | 0, _ => rfl
  | r + 1, d => by
    unfold nr
    rw [h, h, nr_cong h b r (d + 1)]
theorem re_cong : ∀ m, (∀ i, i < m → rs i = rs2 i) → re D rs m = re D rs2 m
  | 0, _ => rfl
  | m + 1, h => by
    show (if rs m = 0 then (if D m 4 = 1 then 0 else re D rs m) + 1 else 0) = (if rs2 m = 0 then (if D m 4 = 1 then 0 else re D rs2 m) + 1 else 0)
    rw [h m (by omega), re_cong m (fun i hi => h i (by omega))]
theorem jd_cong (h1 : ∀ t, on? sg t = on? sg2 t) {k : Nat} (h2 : ∀ j, j < len D k → mB D st sg k j = mB D st sg2 k j) (h3 : ∀ j, j < len D k → (pj D sg k j = -1 ↔ pj D sg2 k j = -1)) : shV D st sg k = shV D st sg2 k ∧ hlF D st sg k = hlF D st sg2 k ∧ onF D st sg k = onF D st sg2 k ∧ rsV D st sg k = rsV D st sg2 k := by
  have e1 : mcS D st sg k (len D k) = mcS D st sg2 k (len D k) := sm_cong (fun j hj => by rw [h2 j hj])
  have e2 : shV D st sg k = shV D st sg2 k := by unfold shV; rw [e1]
  have e3 : onF D st sg k = onF D st sg2 k := nr_cong h1 _ _ _
  have e4 : scS D sg k (len D k) = scS D sg2 k (len D k) := sm_cong (fun j hj => by simp only [h3 j hj])
  refine ⟨e2, sm_cong (fun j hj => ?_), e3, ?_⟩
  · have e5 : ahd D st sg k j = ahd D st sg2 k j := by
      cases j with
      | zero => rfl
      | succ j => exact h2 j (by omega)
    rw [h2 j hj, e5]
  · unfold rsV
    unfold onF at e3
    rw [e1, e2, e3, e4]
theorem ptsV_cong (h : ∀ k, k < n → shV D st sg k = shV D st sg2 k ∧ hlF D st sg k = hlF D st sg2 k ∧ onF D st sg k = onF D st sg2 k ∧ rsV D st sg k = rsV D st sg2 k) : ptsV n D st sg = ptsV n D st sg2 := by
  unfold ptsV
  refine sm_cong (fun p _ => ?_)
  have e1 : ∀ j, j < n → ptW D (shV D st sg) (hlF D st sg) (onF D st sg) (rsV D st sg) j = ptW D (shV D st sg2) (hlF D st sg2) (onF D st sg2) (rsV D st sg2) j := fun j hj => by
    obtain ⟨a, b, c, d⟩ := h j hj
    have e : rwA D (rsV D st sg) j = rwA D (rsV D st sg2) j := by
      unfold rwA
      rw [re_cong j (fun i hi => (h i (by omega)).2.2.2)]
    unfold ptW
    rw [a, b, c, d, e]
  have e2 : pP D (ptW D (shV D st sg) (hlF D st sg) (onF D st sg) (rsV D st sg)) p n = pP D (ptW D (shV D st sg2) (hlF D st sg2) (onF D st sg2) (rsV D st sg2)) p n := sm_cong (fun j hj => by rw [e1 j hj])
  have e3 : hP D (rsV D st sg) p n = hP D (rsV D st sg2) p n := sm_cong (fun j hj => by rw [(h j hj).2.2.2])
  unfold exP
  rw [e2, e3]
theorem ptsV_sgA (h : ∀ t, sgA sg t = sgA sg2 t) : ptsV n D st sg = ptsV n D st sg2 := by
  refine ptsV_cong (fun k _ => jd_cong (fun t => ?_) (fun j _ => ?_) (fun j _ => ?_))
  · unfold on?
    rw [h, h]
  · unfold mB pj
    rw [h]
  · unfold pj
    rw [h]
theorem sgA_cong (h : ∀ t, t < 600 → sg t = sg2 t) (t : Int) : sgA sg t = sgA sg2 t := by
  unfold sgA
  by_cases c : 0 ≤ t ∧ t < 600
  · rw [if_pos c, if_pos c]; exact h _ (by omega)
  · rw [if_neg c, if_neg c]
end CONG
theorem ifh_in {S : Sg} {t y : Int} (ht : -32 ≤ t ∧ t ≤ 32) (hy : -60 ≤ y ∧ y ≤ 60) : ifhV S t y = ptsV S.n S.D S.st (shF S.sg t y) := if_pos ⟨ht, hy⟩
theorem ifh_00 {S : Sg} (hV : S.V) : ifhV S 0 0 = ptsS S := by
  rw [ifh_in (by decide) (by decide)]
  exact ptsV_sgA (sgA_cong (fun t ht => sh_00 hV.2.2 ht))
theorem pt_b0 {S : Sg} (hV : S.V) {j : Nat} (hj : j < S.n) : 0 ≤ ptS S j ∧ ptS S j ≤ 6800 := by
  have hl : len S.D j ≤ 32 := by have := (hV.1.2.1 j hj); unfold len; omega
  have hb := hlS_b S.D S.st S.sg j (len S.D j)
  exact ptW_b (shV_b hV.1 hj) (by unfold hlF; omega)
/-- the points of a phrase -/
def phS (S : Sg) (p : Nat) : Int := pP S.D (ptS S) p S.n + exP S.n S.D (rsS S) p
theorem phS_b {S : Sg} (hV : S.V) (p : Nat) : 0 ≤ phS S p ∧ phS S p ≤ 272050 := by
  have h1 := pP_b (D := S.D) (pt := ptS S) (p := (p : Int)) (i := S.n) (fun j hj => pt_b0 hV hj)
  have h2 := exP_b (n := S.n) (D := S.D) (rs := rsS S) (p : Int)
  have := hV.1.1
  unfold phS
  omega
theorem ptsS_s (S : Sg) : ptsS S = sm (phS S) (pcN S.n S.D) := rfl
theorem phS_sb {S : Sg} (hV : S.V) (m : Nat) : 0 ≤ sm (phS S) m ∧ sm (phS S) m ≤ m * 272050 := by
  have := sm_b (f := phS S) (a := 0) (b := 272050) (n := m) (fun i _ => phS_b hV i)
  omega
theorem ptsS_b {S : Sg} (hV : S.V) : 0 ≤ ptsS S ∧ ptsS S ≤ 10882000 := by
  have h1 := phS_sb hV (pcN S.n S.D)
  have h2 := pcN_b hV.1
  have := hV.1.1
  rw [ptsS_s]
  omega
section PR
variable {S : Sg} {f : Nat}
theorem pr_in (hf : f < pcN S.n S.D) (hV : S.V) {w : Int} (hw : 0 ≤ w ∧ w ≤ 4) : phrV S f w = ofS S f w := by
  have h := (pcN_b hV.1).1
  unfold phrV
  rw [if_pos (by omega), if_pos hw]
theorem pr0 (hV : S.V) (hf : f < pcN S.n S.D) : phrV S f 0 = fsP S.D f S.n := pr_in hf hV (by decide)
theorem pr1 (hV : S.V) (hf : f < pcN S.n S.D) : phrV S f 1 = szP S.D f S.n := pr_in hf hV (by decide)
theorem pr2 (hV : S.V) (hf : f < pcN S.n S.D) : phrV S f 2 = hP S.D (rsS S) f S.n := pr_in hf hV (by decide)
theorem pr3 (hV : S.V) (hf : f < pcN S.n S.D) : phrV S f 3 = phS S f := pr_in hf hV (by decide)
theorem pr4 (hV : S.V) (hf : f < pcN S.n S.D) : phrV S f 4 = lP S.D (rsS S) f S.n := pr_in hf hV (by decide)
theorem wor_spec (hV : S.V) (h : 0 < pcN S.n S.D) : ∃ w : Nat, worV S = w ∧ w < pcN S.n S.D ∧ (∀ i, i < pcN S.n S.D → phS S w ≤ phS S i) ∧ ∀ i, i < w → phS S w < phS S i := wsF_spec (fun p => ofS S p 3) _ h
theorem pc_0 (hV : S.V) : pcN S.n S.D = 0 ↔ S.n = 0 := by
  have h := pcN_b hV.1
  constructor
  · intro h0
    by_cases c : S.n = 0
    · exact c
    · have h1 := ph_b hV.1 (k := S.n - 1) (by omega)
      have h2 : ph S.D (S.n - 1) = cnt1 S.D (S.n - 1 + 1) - 1 := rfl
      have e : S.n - 1 + 1 = S.n := by omega
      rw [e] at h2
      omega
  · intro h0
    omega
end PR
