theorem on_out {h : Nat → Int} {t : Int} (ht : ¬ (0 ≤ t ∧ t < 600)) : on? h t = false := by
  unfold on?
  have : sgA h t = -1 := by unfold sgA; rw [if_neg ht]
  simp [this]
theorem si_si (M : Mm) (q k : Nat) (a b : Int) : si (si M q k a) q k b = si M q k b := by
  refine mm_ext rfl (fun x y => ?_) rfl
  simp only [si_g]
  split <;> rfl
theorem mul_cnt {a b : Int} (ha : 0 ≤ a) (hb : 1 ≤ b) : ∀ j : Nat, sm (fun i => if 1 ≤ i ∧ (a + i).tmod b = 0 then 1 else 0) (j + 1) = (a + j) / b - a / b
  | 0 => by
    show (0 : Int) + (if 1 ≤ 0 ∧ _ then 1 else 0) = _
    rw [if_neg (by omega)]
    simp
  | j + 1 => by
    have ih := mul_cnt ha hb j
    show sm (fun i => if 1 ≤ i ∧ (a + i).tmod b = 0 then 1 else 0) (j + 1) + (if 1 ≤ j + 1 ∧ (a + ((j + 1 : Nat) : Int)).tmod b = 0 then 1 else 0) = _
    rw [ih, Int.tmod_eq_emod_of_nonneg (by omega)]
    have e1 : a + ((j + 1 : Nat) : Int) = a + j + 1 := by omega
    rw [e1]
    have q1 := Int.emod_add_mul_ediv (a + j) b
    have q2 := Int.emod_add_mul_ediv (a + j + 1) b
    have m1 := Int.emod_nonneg (a + j) (by omega : b ≠ 0)
    have m2 := Int.emod_lt_of_pos (a + j) (by omega : 0 < b)
    have m3 := Int.emod_nonneg (a + j + 1) (by omega : b ≠ 0)
    have m4 := Int.emod_lt_of_pos (a + j + 1) (by omega : 0 < b)
    have hd : b * ((a + j + 1) / b) = b * ((a + j) / b) + (a + j) % b + 1 - (a + j + 1) % b := by omega
    by_cases c : (a + j + 1) % b = 0
    · rw [if_pos ⟨by omega, c⟩]
      have h1 : b * ((a + j + 1) / b - (a + j) / b) = (a + j) % b + 1 := by rw [Int.mul_sub]; omega
      have h2 : (a + j + 1) / b - (a + j) / b = 1 := by
        have l1 : 0 < (a + j + 1) / b - (a + j) / b := by
          by_cases z : 0 < (a + j + 1) / b - (a + j) / b
          · exact z
          · have := Int.mul_nonneg (by omega : 0 ≤ b) (by omega : 0 ≤ -((a + j + 1) / b - (a + j) / b))
            rw [Int.mul_neg] at this
            omega
        have l2 : (a + j + 1) / b - (a + j) / b < 2 := by
          by_cases z : (a + j + 1) / b - (a + j) / b < 2
          · exact z
          · have := Int.mul_nonneg (by omega : 0 ≤ b) (by omega : 0 ≤ (a + j + 1) / b - (a + j) / b - 2)
            rw [Int.mul_sub] at this
            omega
        omega
      omega
    · rw [if_neg (fun q => c q.2)]
      have h1 : b * ((a + j + 1) / b - (a + j) / b) = (a + j) % b + 1 - (a + j + 1) % b := by rw [Int.mul_sub]; omega
      have h2 : (a + j + 1) / b - (a + j) / b = 0 := by
        have l1 : -1 < (a + j + 1) / b - (a + j) / b := by
          by_cases z : -1 < (a + j + 1) / b - (a + j) / b
          · exact z
          · have := Int.mul_nonneg (by omega : 0 ≤ b) (by omega : 0 ≤ -((a + j + 1) / b - (a + j) / b) - 1)
            rw [Int.mul_sub, Int.mul_neg] at this
            omega
        have l2 : (a + j + 1) / b - (a + j) / b < 1 := by
          by_cases z : (a + j + 1) / b - (a + j) / b < 1
          · exact z
          · have := Int.mul_nonneg (by omega : 0 ≤ b) (by omega : 0 ≤ (a + j + 1) / b - (a + j) / b - 1)
            rw [Int.mul_sub] at this
            omega
        omega
      omega
def ofV (n : Nat) (D : Nat → Nat → Int) (rs pt : Nat → Int) (p w : Int) : Int := if w = 0 then fsP D p n else if w = 1 then szP D p n else if w = 2 then hP D rs p n else if w = 3 then pP D pt p n + exP n D rs p else lP D rs p n
theorem sm_one {f g : Nat → Int} {c : Int} {p0 : Nat} : ∀ {P : Nat}, p0 < P → f p0 = g p0 + c → (∀ p, p < P → p ≠ p0 → f p = g p) → sm f P = sm g P + c
  | 0, h, _, _ => absurd h (Nat.not_lt_zero _)
  | P + 1, h, h1, h2 => by
    show sm f P + f P = sm g P + g P + c
    by_cases e : p0 = P
    · subst e
      rw [sm_cong (fun p hp => h2 p (by omega) (by omega)), h1]
      omega
    · rw [sm_one (P := P) (by omega) h1 (fun p hp => h2 p (by omega)), h2 P (by omega) (fun q => e q.symm)]
      omega
theorem sm_add (f g : Nat → Int) : ∀ n, sm (fun i => f i + g i) n = sm f n + sm g n
  | 0 => rfl
  | n + 1 => by
    show sm (fun i => f i + g i) n + (f n + g n) = sm f n + f n + (sm g n + g n)
    rw [sm_add f g n]
    omega
theorem part_sum {n : Nat} {D : Nat → Nat → Int} (hv : VD n D) (v : Nat → Int) : ∀ i, i ≤ n → sm (fun p => sm (fun j => if ph D j = (p : Nat) then v j else 0) i) (cnt1 D i).toNat = sm v i := by
  intro i
  induction i with
  | zero => intro _; rfl
  | succ i ih =>
    intro hi
    have h1 := ih (by omega)
    have hb := cnt1_b hv i (by omega)
    have hs : cnt1 D (i + 1) = cnt1 D i + D i 4 := rfl
    have hph : ph D i = cnt1 D i + D i 4 - 1 := by unfold ph; omega
    have hpb := ph_b hv (k := i) (by omega)
    show _ = sm v i + v i
    rcases (hv.2.1 i (by omega)).2.2.2.2.2.2.2.2 with h4 | h4
    · have e1 : (cnt1 D (i + 1)).toNat = (cnt1 D i).toNat := by omega
      rw [e1, ← h1]
      refine sm_one (p0 := (ph D i).toNat) (by omega) ?_ (fun p hp hne => ?_)
      · show sm _ i + (if ph D i = ((ph D i).toNat : Int) then v i else 0) = _
        rw [if_pos (by omega)]
      · show sm _ i + (if ph D i = (p : Int) then v i else 0) = _
        rw [if_neg (by omega)]
        omega
    · have e1 : (cnt1 D (i + 1)).toNat = (cnt1 D i).toNat + 1 := by omega
      rw [e1, ← h1]
      show sm _ _ + _ = _
      have e2 : sm (fun p => sm (fun j => if ph D j = (p : Nat) then v j else 0) (i + 1)) (cnt1 D i).toNat = sm (fun p => sm (fun j => if ph D j = (p : Nat) then v j else 0) i) (cnt1 D i).toNat := by
        refine sm_cong (fun p hp => ?_)
        show sm _ i + (if ph D i = (p : Int) then v i else 0) = _
        rw [if_neg (by omega)]
        omega
      have e3 : sm (fun j => if ph D j = (((cnt1 D i).toNat : Nat) : Int) then v j else 0) (i + 1) = v i := by
        show sm _ i + (if ph D i = (((cnt1 D i).toNat : Nat) : Int) then v i else 0) = v i
        rw [if_pos (by omega), sm_0 (fun j hj => if_neg (by have := ph_lt hv hj (by omega : i ≤ n); omega))]
        omega
      refine Eq.trans (congrArg (fun z => z + _) e2) ?_
      exact congrArg (fun z => _ + z) e3
theorem hits_sum {n : Nat} {D : Nat → Nat → Int} (hv : VD n D) (rs : Nat → Int) : sm (fun p => hP D rs p n) (pcN n D) = sm (fun k => if rs k = 0 then 1 else 0) n := by
  rw [← part_sum hv (fun k => if rs k = 0 then 1 else 0) n (Nat.le_refl n)]
  refine sm_cong (fun p _ => sm_cong (fun j _ => ?_))
  by_cases a : ph D j = (p : Int) <;> by_cases b : rs j = 0 <;> simp [a, b]
theorem re_sz {n : Nat} {D : Nat → Nat → Int} (hv : VD n D) : ∀ i, i < n → re D (fun _ => 0) (i + 1) = szP D (ph D i) (i + 1) := by
  intro i
  induction i with
  | zero =>
    intro hi
    have h4 := hv.2.2.1 hi
    show (if (0 : Int) = 0 then (if D 0 4 = 1 then 0 else re D (fun _ => 0) 0) + 1 else 0) = (0 : Int) + (if ph D 0 = ph D 0 then 1 else 0)
    simp [h4]
  | succ i ih =>
    intro hi
    have h1 := ih (by omega)
    have hps := ph_s (D := D) i
    show (if (0 : Int) = 0 then (if D (i + 1) 4 = 1 then 0 else re D (fun _ => 0) (i + 1)) + 1 else 0) = szP D (ph D (i + 1)) (i + 1) + (if ph D (i + 1) = ph D (i + 1) then 1 else 0)
    rw [if_pos rfl, if_pos rfl]
    rcases (hv.2.1 (i + 1) hi).2.2.2.2.2.2.2.2 with h4 | h4
    · have e : ph D (i + 1) = ph D i := by omega
      rw [if_neg (by omega), h1, e]
    · rw [if_pos h4]
      have : szP D (ph D (i + 1)) (i + 1) = 0 := sm_0 (fun j hj => if_neg (by
        have h5 := ph_lt hv hj (by omega : i + 1 ≤ n)
        have h6 : ph D (i + 1) = cnt1 D (i + 1) + D (i + 1) 4 - 1 := rfl
        omega))
      rw [this]
theorem ex_sum {n : Nat} {D : Nat → Nat → Int} (hv : VD n D) : ∀ i, i ≤ n → sm (fun p => if 2 ≤ szP D (p : Nat) i then 50 else 0) (cnt1 D i).toNat = sm (fun j => if re D (fun _ => 0) (j + 1) = 2 then 50 else 0) i := by
  intro i
  induction i with
  | zero => intro _; rfl
  | succ i ih =>
    intro hi
    have h1 := ih (by omega)
    have hb := cnt1_b hv i (by omega)
    have hs : cnt1 D (i + 1) = cnt1 D i + D i 4 := rfl
    have hph : ph D i = cnt1 D i + D i 4 - 1 := by unfold ph; omega
    have hpb := ph_b hv (k := i) (by omega)
    have hre := re_sz hv i (by omega)
    have hsz : ∀ p, szP D p (i + 1) = szP D p i + (if ph D i = p then 1 else 0) := fun p => rfl
    show _ = sm (fun j => if re D (fun _ => 0) (j + 1) = 2 then (50 : Int) else 0) i + (if re D (fun _ => 0) (i + 1) = 2 then 50 else 0)
    rw [hre, hsz (ph D i), if_pos rfl]
    have hz0 := szP_b D (ph D i) i
    rcases (hv.2.1 i (by omega)).2.2.2.2.2.2.2.2 with h4 | h4
    · have e1 : (cnt1 D (i + 1)).toNat = (cnt1 D i).toNat := by omega
      rw [e1, ← h1]
      have ep : (((ph D i).toNat : Nat) : Int) = ph D i := by omega
      refine sm_one (p0 := (ph D i).toNat) (by omega) ?_ (fun p hp hne => ?_)
      · rw [ep, hsz, if_pos rfl]
        (repeat' split) <;> omega
      · rw [hsz, show (if ph D i = (p : Int) then (1 : Int) else 0) = 0 from if_neg (by omega)]
        simp
    · have e1 : (cnt1 D (i + 1)).toNat = (cnt1 D i).toNat + 1 := by omega
      have e0 : szP D (ph D i) i = 0 := sm_0 (fun j hj => if_neg (by have := ph_lt hv hj (by omega : i ≤ n); omega))
      rw [e1, ← h1, e0]
      show sm _ _ + _ = _
      have e2 : sm (fun p => if 2 ≤ szP D (p : Nat) (i + 1) then (50 : Int) else 0) (cnt1 D i).toNat = sm (fun p => if 2 ≤ szP D (p : Nat) i then 50 else 0) (cnt1 D i).toNat := by
        refine sm_cong (fun p hp => ?_)
        rw [hsz, show (if ph D i = (p : Int) then (1 : Int) else 0) = 0 from if_neg (by omega)]
        simp
      have ep : (((cnt1 D i).toNat : Nat) : Int) = ph D i := by omega
      refine Eq.trans (congrArg (fun z => z + _) e2) ?_
      refine congrArg (fun z => _ + z) ?_
      show (if 2 ≤ szP D (((cnt1 D i).toNat : Nat) : Int) (i + 1) then (50 : Int) else 0) = _
      rw [ep, hsz, if_pos rfl, e0]
      simp
theorem ptW_p {n : Nat} {D : Nat → Nat → Int} {b : Int} (hv : VD n D) (hb : 2 ≤ b) {i : Nat} (hi : i < n) : ptW D (fun _ => 100) (fun i => bl D i b) (fun i => D i 0) (fun _ => 0) i = ((100 + 5 * bl D i b) * (10 + mn10 (rwA D (fun _ => 0) i))).tdiv 10 := by
  have h1 := bl_b hv hi hb
  show (if (0 : Int) = 0 then (mx0 (100 + 5 * bl D i b - 2 * absI (D i 0 - D i 0)) * (10 + mn10 (rwA D (fun _ => 0) i))).tdiv 10 else 0) = _
  rw [if_pos rfl]
  have e : mx0 (100 + 5 * bl D i b - 2 * absI (D i 0 - D i 0)) = 100 + 5 * bl D i b := by
    have : absI (D i 0 - D i 0) = 0 := by unfold absI; split <;> omega
    rw [this]
    unfold mx0
    split <;> omega
  rw [e]
theorem perf_sum {n : Nat} {D : Nat → Nat → Int} {b : Int} (hv : VD n D) : perfPts n D b = sm (fun i => ptW D (fun _ => 100) (fun i => bl D i b) (fun i => D i 0) (fun _ => 0) i + (if re D (fun _ => 0) (i + 1) = 2 then 50 else 0)) n := by
  unfold perfPts
  rw [sm_add, sm_add, ← ex_sum hv n (Nat.le_refl n)]
  have e1 := part_sum hv (ptW D (fun _ => 100) (fun i => bl D i b) (fun i => D i 0) (fun _ => 0)) n (Nat.le_refl n)
  have e2 : sm (fun p => exP n D (fun _ => 0) (p : Nat)) (pcN n D) = sm (fun p => if 2 ≤ szP D (p : Nat) n then 50 else 0) (pcN n D) := by
    refine sm_cong (fun p _ => ?_)
    unfold exP
    have : hP D (fun _ => 0) (p : Nat) n = szP D (p : Nat) n := sm_cong (fun j _ => by simp)
    rw [this]
    simp
  rw [e2]
  have e3 : sm (fun p => pP D (ptW D (fun _ => 100) (fun i => bl D i b) (fun i => D i 0) (fun _ => 0)) (p : Nat) n) (pcN n D) = sm (ptW D (fun _ => 100) (fun i => bl D i b) (fun i => D i 0) (fun _ => 0)) n := e1
  rw [e3]
  rfl
theorem VG_sh (sg : Nat → Int) (tt y : Int) : VG (shF sg tt y) := fun t _ => by
  show -1 ≤ (if sgA sg ((t : Int) - tt) = -1 then -1 else clp (sgA sg ((t : Int) - tt) + y)) ∧ (if sgA sg ((t : Int) - tt) = -1 then -1 else clp (sgA sg ((t : Int) - tt) + y)) ≤ 60
  have := clp_b (sgA sg ((t : Int) - tt) + y)
  split <;> omega
theorem sh_00 {sg : Nat → Int} (hg : VG sg) {t : Nat} (ht : t < 600) : shF sg 0 0 t = sg t := by
  have h1 := hg t ht
  have e : sgA sg ((t : Int) - 0) = sg t := by
    unfold sgA
    rw [if_pos (by omega)]
    congr 1
  unfold shF clp
  rw [e]
  (repeat' split) <;> omega
