theorem st_X {args : Array Value} {s : State} {tm : Term} {N : Nat} {f : Nat → Int32} (hN : N < 2 ^ 31) (harr : (Cond.arrayOf tm .int).before args s = true) (hlen : (Term.length tm).eval args s none [] s = some (.int (Int32.ofNat N))) (hel : ∀ j : Nat, j < N → (Term.elem tm (.int (Int32.ofNat j))).eval args s none [] s = some (.int (f j))) : ∃ t : Nat, tm.eval args s none [] s = some (.ref t) ∧ va_X t N f s s.heap ∧ t < s.heap.size := by
  obtain ⟨t, cell, ht, hat, hv⟩ := Term.length_spec hlen
  obtain ⟨hcell, hkn, -, -⟩ := State.arrayAt?_spec hat
  obtain ⟨hof, -⟩ := Cond.arrayOf_spec harr ht hcell
  have hsz : cell.slots.size < 2 ^ 31 := by
    simp only [Term.eval, ht, hat, Option.bind_eq_bind, Option.bind_some] at hlen
    by_cases hlt : cell.slots.size < 2147483648
    · exact hlt
    · simp [hlt] at hlen
  have hse : cell.slots.size = N := by
    have h1 : Int32.ofNat cell.slots.size = Int32.ofNat N := (Value.int.inj hv).symm
    exact (nI_eq hsz hN).mp h1
  refine ⟨t, ht, ⟨cell, hcell, hof, hkn, hse, fun j hj => ?_⟩, (Array.getElem?_eq_some_iff.mp hcell).1⟩
  obtain ⟨a, i, cell2, h1, h2, h3, h4, h5⟩ := Term.elem_spec (hel j hj)
  cases ht.symm.trans h1
  cases hat.symm.trans h3
  have hi : i = Int32.ofNat j := by
    have e : (Term.int (Int32.ofNat j)).eval args s none [] s = some (.int (Int32.ofNat j)) := rfl
    cases h2.symm.trans e
    rfl
  have hc : i.toNatClampNeg = j := by rw [hi]; exact Int32.toNatClampNeg_ofNat_of_lt (Nat.lt_trans hj hN)
  rw [hc] at h5
  exact h5
theorem arr_K {args : Array Value} {s : State} {ty : FieldType} (h : (Cond.arrayClass ty).before args s = true) : ∃ cA : ClassId, ArrOfT s cA ty ∧ s.vm.findClass ("[" ++ ty.toString) = some cA := by
  obtain ⟨c, k, comp, h1, h2, h3⟩ := Cond.arrayClass_spec h
  exact ⟨c, fun n z => ⟨(fun k h => by cases h), k, h2, comp, h3⟩, h1⟩
theorem over_K {args : Array Value} {s : State} (h : (Cond.arrayOver (.object "SungSlides$State")).before args s = true) : ∃ cA : ClassId, ArrOfT s cA (.object "SungSlides$State") ∧ va_RA s cA (.object "SungSlides$State") := by
  obtain ⟨comp, c, k, h1, -, h2, h3, h4⟩ := Cond.arrayOver_spec h
  exact ⟨c, fun n z => ⟨(fun k h => by cases h), k, h2, comp, h3⟩, k, comp, h2, h3, h1, h4⟩
theorem st_0 {b : Nat} {s : State} (hgv : (Jvm.Cond.and given_1 narrow_1).before #[Value.ref b] s = true) : ∃ t : Nat, (Term.static "SungSlides" "FIRST_VALUES" "[I").eval #[Value.ref b] s none [] s = some (.ref t) ∧ va_X t 5 (fun j => zI (stV 0 j)) s s.heap ∧ t < s.heap.size := by
  have hs := flat_of_before _ hgv
  refine st_X (by decide) (hs _ (by decide +kernel)) (va_eqt (hs _ (by decide +kernel) : (Cond.eq (.length (.static "SungSlides" "FIRST_VALUES" "[I")) (.int 5)).before #[Value.ref b] s = true)) (fun j hj => ?_)
  match j, hj with
  | 0, _ => exact va_eqt (hs _ (by decide +kernel) : (Cond.eq (.elem (.static "SungSlides" "FIRST_VALUES" "[I") (.int 0)) (.int 16)).before #[Value.ref b] s = true)
  | 1, _ => exact va_eqt (hs _ (by decide +kernel) : (Cond.eq (.elem (.static "SungSlides" "FIRST_VALUES" "[I") (.int 1)) (.int 1)).before #[Value.ref b] s = true)
  | 2, _ => exact va_eqt (hs _ (by decide +kernel) : (Cond.eq (.elem (.static "SungSlides" "FIRST_VALUES" "[I") (.int 2)) (.int 2)).before #[Value.ref b] s = true)
  | 3, _ => exact va_eqt (hs _ (by decide +kernel) : (Cond.eq (.elem (.static "SungSlides" "FIRST_VALUES" "[I") (.int 3)) (.int 0)).before #[Value.ref b] s = true)
  | 4, _ => exact va_eqt (hs _ (by decide +kernel) : (Cond.eq (.elem (.static "SungSlides" "FIRST_VALUES" "[I") (.int 4)) (.int 50)).before #[Value.ref b] s = true)
theorem st_1 {b : Nat} {s : State} (hgv : (Jvm.Cond.and given_1 narrow_1).before #[Value.ref b] s = true) : ∃ t : Nat, (Term.static "SungSlides" "LOWEST_VALUES" "[I").eval #[Value.ref b] s none [] s = some (.ref t) ∧ va_X t 5 (fun j => zI (stV 1 j)) s s.heap ∧ t < s.heap.size := by
  have hs := flat_of_before _ hgv
  refine st_X (by decide) (hs _ (by decide +kernel)) (va_eqt (hs _ (by decide +kernel) : (Cond.eq (.length (.static "SungSlides" "LOWEST_VALUES" "[I")) (.int 5)).before #[Value.ref b] s = true)) (fun j hj => ?_)
  match j, hj with
  | 0, _ => exact va_eqt (hs _ (by decide +kernel) : (Cond.eq (.elem (.static "SungSlides" "LOWEST_VALUES" "[I") (.int 0)) (.int 2)).before #[Value.ref b] s = true)
  | 1, _ => exact va_eqt (hs _ (by decide +kernel) : (Cond.eq (.elem (.static "SungSlides" "LOWEST_VALUES" "[I") (.int 1)) (.int 0)).before #[Value.ref b] s = true)
  | 2, _ => exact va_eqt (hs _ (by decide +kernel) : (Cond.eq (.elem (.static "SungSlides" "LOWEST_VALUES" "[I") (.int 2)) (.int 0)).before #[Value.ref b] s = true)
  | 3, _ => exact va_eqt (hs _ (by decide +kernel) : (Cond.eq (.elem (.static "SungSlides" "LOWEST_VALUES" "[I") (.int 3)) (.int 0)).before #[Value.ref b] s = true)
  | 4, _ => exact va_eqt (hs _ (by decide +kernel) : (Cond.eq (.elem (.static "SungSlides" "LOWEST_VALUES" "[I") (.int 4)) (.int 1)).before #[Value.ref b] s = true)
theorem st_2 {b : Nat} {s : State} (hgv : (Jvm.Cond.and given_1 narrow_1).before #[Value.ref b] s = true) : ∃ t : Nat, (Term.static "SungSlides" "HIGHEST_VALUES" "[I").eval #[Value.ref b] s none [] s = some (.ref t) ∧ va_X t 5 (fun j => zI (stV 2 j)) s s.heap ∧ t < s.heap.size := by
  have hs := flat_of_before _ hgv
  refine st_X (by decide) (hs _ (by decide +kernel)) (va_eqt (hs _ (by decide +kernel) : (Cond.eq (.length (.static "SungSlides" "HIGHEST_VALUES" "[I")) (.int 5)).before #[Value.ref b] s = true)) (fun j hj => ?_)
  match j, hj with
  | 0, _ => exact va_eqt (hs _ (by decide +kernel) : (Cond.eq (.elem (.static "SungSlides" "HIGHEST_VALUES" "[I") (.int 0)) (.int 64)).before #[Value.ref b] s = true)
  | 1, _ => exact va_eqt (hs _ (by decide +kernel) : (Cond.eq (.elem (.static "SungSlides" "HIGHEST_VALUES" "[I") (.int 1)) (.int 6)).before #[Value.ref b] s = true)
  | 2, _ => exact va_eqt (hs _ (by decide +kernel) : (Cond.eq (.elem (.static "SungSlides" "HIGHEST_VALUES" "[I") (.int 2)) (.int 8)).before #[Value.ref b] s = true)
  | 3, _ => exact va_eqt (hs _ (by decide +kernel) : (Cond.eq (.elem (.static "SungSlides" "HIGHEST_VALUES" "[I") (.int 3)) (.int 1)).before #[Value.ref b] s = true)
  | 4, _ => exact va_eqt (hs _ (by decide +kernel) : (Cond.eq (.elem (.static "SungSlides" "HIGHEST_VALUES" "[I") (.int 4)) (.int 100)).before #[Value.ref b] s = true)
