theorem ssum_app (a b : List (Nat × Nat)) : ssum (a ++ b) = ssum a + ssum b := by simp [ssum]
theorem ext_up {M : Mm} {ad : Nat → Nat} (hM : MOK M) (a : Nat) : ∀ k, k < M.1.length → va_up ad M.1.length a k = ad k := fun k hk => va_up_ne _ _ (by omega)
theorem cell_pu {cI cC cS : ClassId} {M : Mm} (hM : MOK M) {ad ad' : Nat → Nat} {w0 : Nat × Nat} (had : ∀ k, k < M.1.length → ad' k = ad k) (q : Nat) (w : Nat × Nat) : cellE cI cC cS ad' (pu M w0) q w = cellE cI cC cS ad M q w := by
  have hr : ∀ j, (M.2.2 q j).map ad' = (M.2.2 q j).map ad := fun j => by
    cases e : M.2.2 q j with
    | none => rfl
    | some k => simp only [Option.map_some]; rw [had k (hM.2.2.1 q j k e)]
  have hf : fvs ad' (pu M w0) q (clR w.1) = fvs ad M q (clR w.1) := by
    unfold fvs
    apply List.map_congr_left
    intro k _
    show (if _ then va_rf ((M.2.2 q k).map ad') else _) = _
    rw [hr]
    rfl
  unfold cellE
  rw [hf]
  have hg : (fun j => ((pu M w0).2.2 q j).map ad') = fun j => (M.2.2 q j).map ad := funext hr
  rw [hg]
  rfl
theorem ws_pu {cI cC cS : ClassId} {M : Mm} (hM : MOK M) {ad : Nat → Nat} {a : Nat} {w : Nat × Nat} : wsOf cI cC cS ad M ++ [(a, cellE cI cC cS ad M M.1.length w)] = wsOf cI cC cS (va_up ad M.1.length a) (pu M w) := by
  apply List.ext_getElem?
  intro i
  have hpl : (pu M w).1.length = M.1.length + 1 := by simp [pu]
  rcases Nat.lt_trichotomy i M.1.length with h | h | h
  · rw [List.getElem?_append_left (by rw [ws_len]; exact h)]
    obtain ⟨w', hw⟩ : ∃ w', M.1[i]? = some w' := ⟨_, List.getElem?_eq_getElem h⟩
    rw [ws_get hw, ws_get (M := pu M w) (w := w') (by show (M.1 ++ [w])[i]? = _; rw [List.getElem?_append_left h]; exact hw), cell_pu hM (ext_up hM a), ext_up hM a i h]
  · subst h
    rw [List.getElem?_append_right (by rw [ws_len]; exact Nat.le_refl _), ws_len, Nat.sub_self]
    rw [ws_get (M := pu M w) (w := w) (by show (M.1 ++ [w])[M.1.length]? = _; simp), cell_pu hM (ext_up hM a), va_up_self]
    rfl
  · rw [List.getElem?_eq_none (by simp [ws_len]; omega), List.getElem?_eq_none (by rw [ws_len, hpl]; omega)]
/-- what the tables say of a new object -/
def Nok (own : String) (idx ci : Nat) : Prop := ∃ (C : String) (T : u_T) (N : Nat) (ty : Nat → FieldType), vwCl[ci]? = some (C, T, N) ∧ (∀ w ∈ u_ws C T N, w ∈ gtb) ∧ (∀ k, k < N → parseFieldDescriptor (T k).2.2.1 = some (ty k)) ∧ Cond.classLink own idx C ∈ gtb ∧ Cond.instantiable C N ∈ gtb ∧ Cond.initialized C ∈ gtb ∧ ci < 8 ∧ (clR ci).length = N ∧ ∀ j, j < N → defaultValue (ty j) = if (clR ci).getD j false = true then .null else .int 0
section RULES
variable {own : String} {cc : ByteArray} {nL : Nat} {mn : String} {R : Room} {ret : Option FieldType} {nt L : Nat} {xs : Nat → Int} {Rt : Int → Mm → Prop} {G : Gt} {pc : Nat} {sv : List Vv} {ρ : En} {M : Mm}
theorem G_new (hG : Mach own cc nL mn R ret nt L xs Rt G) {idx ci : Nat} (F : Nok own idx ci) (hcap : M.1.length + 1 ≤ limC ρ ∧ ssum M.1 + (clR ci).length ≤ limS ρ) (hbig : M.1.length + 1 ≤ 1000000) (hdg : decode cc pc = .ok (.new idx, 3)) (k : G (pc + 3) (.inr (some M.1.length) :: sv) ρ (pu M (ci, 0))) : G pc sv ρ M := by
  obtain ⟨p, l, e, s, m, args, below, meth, c, dC, dI, cI, cC, cS, sA, A, n0, S0, ad0, Q, ⟨hx, hb, hml, hown, hts, hK, hA, hSt, hmn, hnL, hRI, hRV⟩, rfl⟩ := hG
  intro ad H locs cells slots ls hpt
  obtain ⟨⟨hP, hD, hS⟩, ⟨hM, hl, hvr, hvs⟩, ⟨⟨hn0, had0⟩, hsA⟩, hcn, hsn, hcl, hsl, hlc, hls⟩ := hpt
  obtain ⟨C, T, N, ty, hc, hin, hty, hcl1, hins, hini, hci, hlN, hdf⟩ := F
  have hfs : ∀ j, j < N → defaultValue (ty j) = vp_V (fvs ad M M.1.length (clR ci)) j := fun j hj => by
    rw [hdf j hj]
    obtain ⟨b, hb⟩ : ∃ b, (clR ci)[j]? = some b := ⟨_, List.getElem?_eq_getElem (by omega)⟩
    unfold vp_V
    rw [List.getD_eq_getElem?_getD, List.getD_eq_getElem?_getD, fvs_get hb, hb]
    obtain ⟨h1, h2⟩ := hM.2.2.2 M.1.length j (Nat.le_refl _)
    rw [h1, h2]
    cases b <;> rfl
  refine va_new hx hb hts hin ty hty hown (hts _ hcl1) (hts _ hins) (hts _ hini) hK hP hD hS hA hc hfs (by omega) (by omega) hdg (fun q H1 hP1 hD1 hS1 => ?_)
  rw [← cell_ob (cI := cI) (cC := cC) (cS := cS) (w := 0) hci, ws_pu hM] at hP1 hD1
  subst hlN
  have hM := hM
  have hadn : ∀ k, k < M.1.length → va_up ad M.1.length q k = ad k := ext_up hM q
  have hsA1 : ∀ t, va_up ad M.1.length q (1000000 + t) = sA t := fun t => by rw [va_up_ne _ _ (by have := hM.1; omega)]; exact hsA t
  have hpl : (pu M (ci, 0)).1.length = M.1.length + 1 := by simp [pu]
  have hps : ssum (pu M (ci, 0)).1 = ssum M.1 + (clR ci).length := by rw [show (pu M (ci, 0)).1 = M.1 ++ [(ci, 0)] from rfl, ssum_app]; simp [ssum, ssz, hci]
  have hsvm : sv.map (cv (va_up ad M.1.length q)) = sv.map (cv ad) := List.map_congr_left (fun v hv => cv_ext hadn hsA hsA1 (hvs v hv))
  have hkk := k (va_up ad M.1.length q) H1 locs (cells + 1) (slots + (clR ci).length) ls ⟨⟨hP1, hD1, hS1⟩, ⟨MOK_pu hM (by omega), env_ext hl (fun i hi => cv_ext hadn hsA hsA1 (hvr i (by omega))), fun i hi => vok_pu (hvr i hi), List.forall_mem_cons.mpr ⟨Or.inl (by rw [hpl]; omega), fun v hv => vok_pu (hvs v hv)⟩⟩, ⟨⟨by rw [hpl]; omega, fun k hk => (hadn k (by omega)).trans (had0 k hk)⟩, hsA1⟩, by rw [hpl]; omega, by rw [hps]; omega, by omega, by omega, hlc, hls⟩
  rw [List.map_cons, hsvm, show cv (va_up ad M.1.length q) (.inr (some M.1.length)) = .ref q by show Value.ref _ = _; rw [va_up_self]] at hkk
  exact hkk
theorem G_newI (hG : Mach own cc nL mn R ret nt L xs Rt G) {z : Int} {n : Nat} (hz0 : z = n) (hnr : n ≤ 100000000) (hac : Cond.arrayClass .int ∈ gtb) (hcap : M.1.length + 1 ≤ limC ρ ∧ ssum M.1 + n ≤ limS ρ) (hbig : M.1.length + 1 ≤ 1000000) (hdg : decode cc pc = .ok (.newarray .int, 2)) (k : G (pc + 2) (.inr (some M.1.length) :: sv) ρ (pu M (20, n))) : G pc (.inl z :: sv) ρ M := by
  obtain ⟨p, l, e, s, m, args, below, meth, c, dC, dI, cI, cC, cS, sA, A, n0, S0, ad0, Q, ⟨hx, hb, hml, hown, hts, hK, hA, hSt, hmn, hnL, hRI, hRV⟩, rfl⟩ := hG
  intro ad H locs cells slots ls hpt
  obtain ⟨⟨hP, hD, hS⟩, ⟨hM, hl, hvr, hvs⟩, ⟨⟨hn0, had0⟩, hsA⟩, hcn, hsn, hcl, hsl, hlc, hls⟩ := hpt
  subst hz0
  have hzr : inR (n : Int) := ⟨by omega, by omega⟩
  refine va_newa (N' := n) (atype := .int) (a0 := (n, .inl (fun j => zI (M.2.1 M.1.length j)))) (ty := .int) hx hb (hts _ hac) rfl hK hP hD hS hA (fun cA => ?_) (fun h => ?_) ((zI_cl hzr).trans (Int.toNat_natCast n)) (by show n * _ ≤ _; simp [componentBytes]; omega) (by omega) (by omega) hdg (fun q cA H1 hK1 hP1 hD1 hS1 => ?_)
  · rw [vp_cell_i]
    congr 1
    funext j
    rw [(hM.2.2.2 M.1.length j (Nat.le_refl _)).1]
    rfl
  · rw [← zI_0, zI_lt hzr inR_0] at h
    omega
  have hcA : cA = cI := by
    have h1 := (hK1.2 3 (cA, .int) rfl).2
    have h2 := (hK.2 0 (cI, .int) rfl).2
    have h3 : s.vm.findClass _ = some cA := h1
    have h4 : s.vm.findClass _ = some cI := h2
    rw [h3] at h4
    exact Option.some.inj h4
  subst hcA
  rw [← cell_in, ws_pu hM] at hP1 hD1
  have hM := hM
  have hadn : ∀ k, k < M.1.length → va_up ad M.1.length q k = ad k := ext_up hM q
  have hsA1 : ∀ t, va_up ad M.1.length q (1000000 + t) = sA t := fun t => by rw [va_up_ne _ _ (by have := hM.1; omega)]; exact hsA t
  have hpl : (pu M (20, n)).1.length = M.1.length + 1 := by simp [pu]
  have hps : ssum (pu M (20, n)).1 = ssum M.1 + n := by rw [show (pu M (20, n)).1 = M.1 ++ [(20, n)] from rfl, ssum_app]; simp [ssum, ssz]
  have hsvm : sv.map (cv (va_up ad M.1.length q)) = sv.map (cv ad) := List.map_congr_left (fun v hv => cv_ext hadn hsA hsA1 (hvs v (List.mem_cons_of_mem _ hv)))
  have hkk := k (va_up ad M.1.length q) H1 locs (cells + 1) (slots + n) ls ⟨⟨hP1, hD1, hS1⟩, ⟨MOK_pu hM (by omega), env_ext hl (fun i hi => cv_ext hadn hsA hsA1 (hvr i (by omega))), fun i hi => vok_pu (hvr i hi), List.forall_mem_cons.mpr ⟨Or.inl (by rw [hpl]; omega), fun v hv => vok_pu (hvs v (List.mem_cons_of_mem _ hv))⟩⟩, ⟨⟨by rw [hpl]; omega, fun k hk => (hadn k (by omega)).trans (had0 k hk)⟩, hsA1⟩, by rw [hpl]; omega, by rw [hps]; omega, by omega, by omega, hlc, hls⟩
  rw [List.map_cons, hsvm, show cv (va_up ad M.1.length q) (.inr (some M.1.length)) = .ref q by show Value.ref _ = _; rw [va_up_self]] at hkk
  exact hkk
theorem G_newC (hG : Mach own cc nL mn R ret nt L xs Rt G) {z : Int} {n : Nat} (hz0 : z = n) (hnr : n ≤ 100000000) (hac : Cond.arrayClass .char ∈ gtb) (hcap : M.1.length + 1 ≤ limC ρ ∧ ssum M.1 + n ≤ limS ρ) (hbig : M.1.length + 1 ≤ 1000000) (hdg : decode cc pc = .ok (.newarray .char, 2)) (k : G (pc + 2) (.inr (some M.1.length) :: sv) ρ (pu M (21, n))) : G pc (.inl z :: sv) ρ M := by
  obtain ⟨p, l, e, s, m, args, below, meth, c, dC, dI, cI, cC, cS, sA, A, n0, S0, ad0, Q, ⟨hx, hb, hml, hown, hts, hK, hA, hSt, hmn, hnL, hRI, hRV⟩, rfl⟩ := hG
  intro ad H locs cells slots ls hpt
  obtain ⟨⟨hP, hD, hS⟩, ⟨hM, hl, hvr, hvs⟩, ⟨⟨hn0, had0⟩, hsA⟩, hcn, hsn, hcl, hsl, hlc, hls⟩ := hpt
  subst hz0
  have hzr : inR (n : Int) := ⟨by omega, by omega⟩
  refine va_newa (N' := n) (atype := .char) (a0 := (n, .inl (fun j => zI (M.2.1 M.1.length j)))) (ty := .char) hx hb (hts _ hac) rfl hK hP hD hS hA (fun cA => ?_) (fun h => ?_) ((zI_cl hzr).trans (Int.toNat_natCast n)) (by show n * _ ≤ _; simp [componentBytes]; omega) (by omega) (by omega) hdg (fun q cA H1 hK1 hP1 hD1 hS1 => ?_)
  · rw [vp_cell_i]
    congr 1
    funext j
    rw [(hM.2.2.2 M.1.length j (Nat.le_refl _)).1]
    rfl
  · rw [← zI_0, zI_lt hzr inR_0] at h
    omega
  have hcA : cA = cC := by
    have h1 := (hK1.2 3 (cA, .char) rfl).2
    have h2 := (hK.2 1 (cC, .char) rfl).2
    have h3 : s.vm.findClass _ = some cA := h1
    have h4 : s.vm.findClass _ = some cC := h2
    rw [h3] at h4
    exact Option.some.inj h4
  subst hcA
  rw [← cell_ch, ws_pu hM] at hP1 hD1
  have hM := hM
  have hadn : ∀ k, k < M.1.length → va_up ad M.1.length q k = ad k := ext_up hM q
  have hsA1 : ∀ t, va_up ad M.1.length q (1000000 + t) = sA t := fun t => by rw [va_up_ne _ _ (by have := hM.1; omega)]; exact hsA t
  have hpl : (pu M (21, n)).1.length = M.1.length + 1 := by simp [pu]
  have hps : ssum (pu M (21, n)).1 = ssum M.1 + n := by rw [show (pu M (21, n)).1 = M.1 ++ [(21, n)] from rfl, ssum_app]; simp [ssum, ssz]
  have hsvm : sv.map (cv (va_up ad M.1.length q)) = sv.map (cv ad) := List.map_congr_left (fun v hv => cv_ext hadn hsA hsA1 (hvs v (List.mem_cons_of_mem _ hv)))
  have hkk := k (va_up ad M.1.length q) H1 locs (cells + 1) (slots + n) ls ⟨⟨hP1, hD1, hS1⟩, ⟨MOK_pu hM (by omega), env_ext hl (fun i hi => cv_ext hadn hsA hsA1 (hvr i (by omega))), fun i hi => vok_pu (hvr i hi), List.forall_mem_cons.mpr ⟨Or.inl (by rw [hpl]; omega), fun v hv => vok_pu (hvs v (List.mem_cons_of_mem _ hv))⟩⟩, ⟨⟨by rw [hpl]; omega, fun k hk => (hadn k (by omega)).trans (had0 k hk)⟩, hsA1⟩, by rw [hpl]; omega, by rw [hps]; omega, by omega, by omega, hlc, hls⟩
  rw [List.map_cons, hsvm, show cv (va_up ad M.1.length q) (.inr (some M.1.length)) = .ref q by show Value.ref _ = _; rw [va_up_self]] at hkk
  exact hkk
theorem G_newR (hG : Mach own cc nL mn R ret nt L xs Rt G) {z : Int} {n idx : Nat} (hz0 : z = n) (hnr : n ≤ 100000000) (hcl1 : Cond.classLink own idx "SungSlides$State" ∈ gtb) (hcap : M.1.length + 1 ≤ limC ρ ∧ ssum M.1 + n ≤ limS ρ) (hbig : M.1.length + 1 ≤ 1000000) (hdg : decode cc pc = .ok (.anewarray idx, 3)) (k : G (pc + 3) (.inr (some M.1.length) :: sv) ρ (pu M (22, n))) : G pc (.inl z :: sv) ρ M := by
  obtain ⟨p, l, e, s, m, args, below, meth, c, dC, dI, cI, cC, cS, sA, A, n0, S0, ad0, Q, ⟨hx, hb, hml, hown, hts, hK, hA, hSt, hmn, hnL, hRI, hRV⟩, rfl⟩ := hG
  intro ad H locs cells slots ls hpt
  obtain ⟨⟨hP, hD, hS⟩, ⟨hM, hl, hvr, hvs⟩, ⟨⟨hn0, had0⟩, hsA⟩, hcn, hsn, hcl, hsl, hlc, hls⟩ := hpt
  subst hz0
  have hzr : inR (n : Int) := ⟨by omega, by omega⟩
  refine va_newq (C := "SungSlides$State") (N' := n) hx hb hown (hts _ hcl1) hSt.2.2.2.2.1 hK hP hD hS hA (fun h => ?_) ((zI_cl hzr).trans (Int.toNat_natCast n)) (by omega) (by omega) (by omega) hdg (fun q cA H1 hK1 hP1 hD1 hS1 => ?_)
  · rw [← zI_0, zI_lt hzr inR_0] at h
    omega
  have hcA : cA = cS := by
    obtain ⟨-, -, -, -, -, h1⟩ := (hK1.2 3 (cA, .object "SungSlides$State") rfl).2
    obtain ⟨-, -, -, -, -, h2⟩ := (hK.2 2 (cS, .object "SungSlides$State") rfl).2
    rw [h1] at h2
    exact Option.some.inj h2
  subst hcA
  have hce : cellE cI cC cA ad M M.1.length (22, n) = .inl (cA, n, .inr (.inr (.inr (.inr (fun _ => none))))) := by
    rw [cell_rf]
    have : (fun j => (M.2.2 M.1.length j).map ad) = fun _ => none := by
      funext j
      rw [(hM.2.2.2 M.1.length j (Nat.le_refl _)).2]
      rfl
    rw [this]
  rw [← hce, ws_pu hM] at hP1 hD1
  have hM := hM
  have hadn : ∀ k, k < M.1.length → va_up ad M.1.length q k = ad k := ext_up hM q
  have hsA1 : ∀ t, va_up ad M.1.length q (1000000 + t) = sA t := fun t => by rw [va_up_ne _ _ (by have := hM.1; omega)]; exact hsA t
  have hpl : (pu M (22, n)).1.length = M.1.length + 1 := by simp [pu]
  have hps : ssum (pu M (22, n)).1 = ssum M.1 + n := by rw [show (pu M (22, n)).1 = M.1 ++ [(22, n)] from rfl, ssum_app]; simp [ssum, ssz]
  have hsvm : sv.map (cv (va_up ad M.1.length q)) = sv.map (cv ad) := List.map_congr_left (fun v hv => cv_ext hadn hsA hsA1 (hvs v (List.mem_cons_of_mem _ hv)))
  have hkk := k (va_up ad M.1.length q) H1 locs (cells + 1) (slots + n) ls ⟨⟨hP1, hD1, hS1⟩, ⟨MOK_pu hM (by omega), env_ext hl (fun i hi => cv_ext hadn hsA hsA1 (hvr i (by omega))), fun i hi => vok_pu (hvr i hi), List.forall_mem_cons.mpr ⟨Or.inl (by rw [hpl]; omega), fun v hv => vok_pu (hvs v (List.mem_cons_of_mem _ hv))⟩⟩, ⟨⟨by rw [hpl]; omega, fun k hk => (hadn k (by omega)).trans (had0 k hk)⟩, hsA1⟩, by rw [hpl]; omega, by rw [hps]; omega, by omega, by omega, hlc, hls⟩
  rw [List.map_cons, hsvm, show cv (va_up ad M.1.length q) (.inr (some M.1.length)) = .ref q by show Value.ref _ = _; rw [va_up_self]] at hkk
  exact hkk
theorem G_mmax (hG : Mach own cc nL mn R ret nt L xs Rt G) {x y : Int} {idx : Nat} (hk : ∀ w ∈ ([.methodLink own idx Lib.Math.max.name, .static Lib.Math.max.name, .initialized "java/lang/Math", .code Lib.Math.max.name Lib.Math.max.code 2 (some .int)] : List Cond), w ∈ gtb) (hR : 1 ≤ R.frames ∧ sv.length + 13 ≤ R.locals) (hdg : decode cc pc = .ok (.invokestatic idx, 3)) (k : G (pc + 3) (.inl (if x < y then y else x) :: sv) ρ M) : G pc (.inl y :: .inl x :: sv) ρ M := by
  obtain ⟨p, l, e, s, m, args, below, meth, c, dC, dI, cI, cC, cS, sA, A, n0, S0, ad0, Q, ⟨hx, hb, hml, hown, hts, hK, hA, hSt, hmn, hnL, hRI, hRV⟩, rfl⟩ := hG
  intro ad H locs cells slots ls hpt
  obtain ⟨⟨hP, hD, hS⟩, ⟨hM, hl, hvr, hvs⟩, ⟨⟨hn0, had0⟩, hsA⟩, hcn, hsn, hcl, hsl, hlc, hls⟩ := hpt
  have hxr : inR x := (hvs _ (List.mem_cons_of_mem _ List.mem_cons_self))
  have hyr : inR y := (hvs _ List.mem_cons_self)
  have hz : inR (if x < y then y else x) := by split <;> assumption
  refine va_mmax hx hb (hml.trans hl.1.symm) hown (hts _ (hk _ (by simp))) (hts _ (hk _ (by simp))) (hts _ (hk _ (by simp))) (hts _ (hk _ (by simp))) hR.1 (by rw [cat_sum]; exact hR.2) hcl hsl hdg ?_
  have hkk := k ad H locs cells slots ls ⟨⟨hP, hD, hS⟩, ⟨hM, hl, hvr, (List.forall_mem_cons.mpr ⟨hz, (fun v hv => hvs v (List.mem_cons_of_mem _ (List.mem_cons_of_mem _ hv)))⟩)⟩, ⟨⟨hn0, had0⟩, hsA⟩, hcn, hsn, hcl, hsl, hlc, hls⟩
  have he : (if zI x < zI y then zI y else zI x) = zI (if x < y then y else x) := by
    simp only [zI_lt hxr hyr]
    split <;> first | rfl | (rw [← zI_0, zI_sub])
  rw [he]
  exact hkk
theorem G_mmin (hG : Mach own cc nL mn R ret nt L xs Rt G) {x y : Int} {idx : Nat} (hk : ∀ w ∈ ([.methodLink own idx Lib.Math.min.name, .static Lib.Math.min.name, .initialized "java/lang/Math", .code Lib.Math.min.name Lib.Math.min.code 2 (some .int)] : List Cond), w ∈ gtb) (hR : 1 ≤ R.frames ∧ sv.length + 13 ≤ R.locals) (hdg : decode cc pc = .ok (.invokestatic idx, 3)) (k : G (pc + 3) (.inl (if y < x then y else x) :: sv) ρ M) : G pc (.inl y :: .inl x :: sv) ρ M := by
  obtain ⟨p, l, e, s, m, args, below, meth, c, dC, dI, cI, cC, cS, sA, A, n0, S0, ad0, Q, ⟨hx, hb, hml, hown, hts, hK, hA, hSt, hmn, hnL, hRI, hRV⟩, rfl⟩ := hG
  intro ad H locs cells slots ls hpt
  obtain ⟨⟨hP, hD, hS⟩, ⟨hM, hl, hvr, hvs⟩, ⟨⟨hn0, had0⟩, hsA⟩, hcn, hsn, hcl, hsl, hlc, hls⟩ := hpt
  have hxr : inR x := (hvs _ (List.mem_cons_of_mem _ List.mem_cons_self))
  have hyr : inR y := (hvs _ List.mem_cons_self)
  have hz : inR (if y < x then y else x) := by split <;> assumption
  refine va_mmin hx hb (hml.trans hl.1.symm) hown (hts _ (hk _ (by simp))) (hts _ (hk _ (by simp))) (hts _ (hk _ (by simp))) (hts _ (hk _ (by simp))) hR.1 (by rw [cat_sum]; exact hR.2) hcl hsl hdg ?_
  have hkk := k ad H locs cells slots ls ⟨⟨hP, hD, hS⟩, ⟨hM, hl, hvr, (List.forall_mem_cons.mpr ⟨hz, (fun v hv => hvs v (List.mem_cons_of_mem _ (List.mem_cons_of_mem _ hv)))⟩)⟩, ⟨⟨hn0, had0⟩, hsA⟩, hcn, hsn, hcl, hsl, hlc, hls⟩
  have he : (if zI y < zI x then zI y else zI x) = zI (if y < x then y else x) := by
    simp only [zI_lt hyr hxr]
    split <;> first | rfl | (rw [← zI_0, zI_sub])
  rw [he]
  exact hkk
theorem G_mabs (hG : Mach own cc nL mn R ret nt L xs Rt G) {x : Int} {idx : Nat} (hk : ∀ w ∈ ([.methodLink own idx Lib.Math.abs.name, .static Lib.Math.abs.name, .initialized "java/lang/Math", .code Lib.Math.abs.name Lib.Math.abs.code 1 (some .int)] : List Cond), w ∈ gtb) (hR : 1 ≤ R.frames ∧ sv.length + 13 ≤ R.locals) (hz : inR (if 0 ≤ x then x else 0 - x)) (hdg : decode cc pc = .ok (.invokestatic idx, 3)) (k : G (pc + 3) (.inl (if 0 ≤ x then x else 0 - x) :: sv) ρ M) : G pc (.inl x :: sv) ρ M := by
  obtain ⟨p, l, e, s, m, args, below, meth, c, dC, dI, cI, cC, cS, sA, A, n0, S0, ad0, Q, ⟨hx, hb, hml, hown, hts, hK, hA, hSt, hmn, hnL, hRI, hRV⟩, rfl⟩ := hG
  intro ad H locs cells slots ls hpt
  obtain ⟨⟨hP, hD, hS⟩, ⟨hM, hl, hvr, hvs⟩, ⟨⟨hn0, had0⟩, hsA⟩, hcn, hsn, hcl, hsl, hlc, hls⟩ := hpt
  have hxr : inR x := (hvs _ List.mem_cons_self)
  refine va_mabs hx hb (hml.trans hl.1.symm) hown (hts _ (hk _ (by simp))) (hts _ (hk _ (by simp))) (hts _ (hk _ (by simp))) (hts _ (hk _ (by simp))) hR.1 (by rw [cat_sum]; exact hR.2) hcl hsl hdg ?_
  have hkk := k ad H locs cells slots ls ⟨⟨hP, hD, hS⟩, ⟨hM, hl, hvr, (List.forall_mem_cons.mpr ⟨hz, (fun v hv => hvs v (List.mem_cons_of_mem _ hv))⟩)⟩, ⟨⟨hn0, had0⟩, hsA⟩, hcn, hsn, hcl, hsl, hlc, hls⟩
  have he : (if 0 ≤ zI x then zI x else 0 - zI x) = zI (if 0 ≤ x then x else 0 - x) := by
    simp only [show (0 ≤ zI x) = (0 ≤ x) from propext (by rw [← zI_0]; exact zI_le inR_0 hxr)]
    split <;> first | rfl | (rw [← zI_0, zI_sub])
  rw [he]
  exact hkk
theorem G_objI (hG : Mach own cc nL mn R ret nt L xs Rt G) {idx q : Nat} (hk : ∀ w ∈ ([.methodLink own idx Lib.objectInit, .instanceMethod Lib.objectInit, .code Lib.objectInit ⟨#[0xb1]⟩ 1 none] : List Cond), w ∈ gtb) (hR : 1 ≤ R.frames ∧ sv.length + 12 ≤ R.locals) (hdg : decode cc pc = .ok (.invokespecial idx, 3)) (k : G (pc + 3) sv ρ M) : G pc (.inr (some q) :: sv) ρ M := by
  obtain ⟨p, l, e, s, m, args, below, meth, c, dC, dI, cI, cC, cS, sA, A, n0, S0, ad0, Q, ⟨hx, hb, hml, hown, hts, hK, hA, hSt, hmn, hnL, hRI, hRV⟩, rfl⟩ := hG
  intro ad H locs cells slots ls hpt
  obtain ⟨⟨hP, hD, hS⟩, ⟨hM, hl, hvr, hvs⟩, ⟨⟨hn0, had0⟩, hsA⟩, hcn, hsn, hcl, hsl, hlc, hls⟩ := hpt
  refine W.objInit hx hb hown (hts _ (hk _ (by simp))) (hts _ (hk _ (by simp))) (hts _ (hk _ (by simp))) rfl (hl.1.trans hml.symm) rfl hdg hR.1 (by rw [cat_sum]; exact (by have := hR.2; show 2 * 0 + _ + 12 ≤ _; omega)) ?_
  exact k ad H locs cells slots ls ⟨⟨hP, hD, hS⟩, ⟨hM, hl, hvr, (fun v hv => hvs v (List.mem_cons_of_mem _ hv))⟩, ⟨⟨hn0, had0⟩, hsA⟩, hcn, hsn, hcl, hsl, hlc, hls⟩
/-- a stretch of ints is copied -/
def cpy (M : Mm) (q0 q1 : Nat) (sp dp n : Nat) : Mm := (M.1, fun q k => if q = q1 ∧ dp ≤ k ∧ k < dp + n then M.2.1 q0 (sp + (k - dp)) else M.2.1 q k, M.2.2)
def cpyT (f : Nat → Int) (M : Mm) (q1 : Nat) (sp dp n : Nat) : Mm := (M.1, fun q k => if q = q1 ∧ dp ≤ k ∧ k < dp + n then f (sp + (k - dp)) else M.2.1 q k, M.2.2)
theorem MOK_cpyT {f : Nat → Int} {M : Mm} {q1 sp dp n : Nat} (h : MOK M) (hf : ∀ j, inR (f j)) (hq : q1 < M.1.length) : MOK (cpyT f M q1 sp dp n) := by
  refine ⟨h.1, fun a b => ?_, h.2.2.1, fun a b hab => ⟨?_, (h.2.2.2 a b hab).2⟩⟩
  · show inR (if a = q1 ∧ dp ≤ b ∧ b < dp + n then f (sp + (b - dp)) else M.2.1 a b)
    split
    · exact hf _
    · exact h.2.1 a b
  · have hab' : M.1.length ≤ a := hab
    show (if a = q1 ∧ dp ≤ b ∧ b < dp + n then f (sp + (b - dp)) else M.2.1 a b) = 0
    rw [if_neg (by omega)]
    exact (h.2.2.2 a b hab).1
theorem MOK_cpy {M : Mm} {q0 q1 sp dp n : Nat} (h : MOK M) (hq : q1 < M.1.length) : MOK (cpy M q0 q1 sp dp n) := MOK_cpyT (f := M.2.1 q0) h (h.2.1 q0) hq
theorem cell_cpyT {cI cC cS : ClassId} {ad : Nat → Nat} {f : Nat → Int} {M : Mm} {q1 sp dp n : Nat} : ∀ r w', r ≠ q1 → cellE cI cC cS ad (cpyT f M q1 sp dp n) r w' = cellE cI cC cS ad M r w' := by
  intro r w' hr
  simp [cellE, fvs, cpyT, hr]
theorem cpy_fun {f : Nat → Int} {M : Mm} {q1 sp dp n : Nat} : va_cpy (fun j => zI (f j)) (fun j => zI (M.2.1 q1 j)) sp dp n = fun j => zI ((cpyT f M q1 sp dp n).2.1 q1 j) := by
  funext j
  by_cases h : dp ≤ j ∧ j < dp + n <;> simp [va_cpy, cpyT, h]
theorem G_copy (hG : Mach own cc nL mn R ret nt L xs Rt G) {idx q0 q1 n0 n1 : Nat} {sp dp n : Int} (hk : ∀ w ∈ ([.methodLink own idx arraycopyName, .native arraycopyName, .static arraycopyName, .initialized "java/lang/System"] : List Cond), w ∈ gtb) (hR : 1 ≤ R.frames ∧ sv.length + 18 ≤ R.locals) (hs0 : M.1[q0]? = some (20, n0)) (hs1 : M.1[q1]? = some (20, n1)) (h1 : 0 ≤ sp) (h2 : 0 ≤ dp) (h3 : 0 ≤ n) (h4 : sp + n ≤ (n0 : Int)) (h5 : dp + n ≤ (n1 : Int)) (hdg : decode cc pc = .ok (.invokestatic idx, 3)) (k : G (pc + 3) sv ρ (cpy M q0 q1 sp.toNat dp.toNat n.toNat)) : G pc (.inl n :: .inl dp :: .inr (some q1) :: .inl sp :: .inr (some q0) :: sv) ρ M := by
  obtain ⟨p, l, e, s, m, args, below, meth, c, dC, dI, cI, cC, cS, sA, A, n0, S0, ad0, Q, ⟨hx, hb, hml, hown, hts, hK, hA, hSt, hmn, hnL, hRI, hRV⟩, rfl⟩ := hG
  intro ad H locs cells slots ls hpt
  obtain ⟨⟨hP, hD, hS⟩, ⟨hM, hl, hvr, hvs⟩, ⟨⟨hn0, had0⟩, hsA⟩, hcn, hsn, hcl, hsl, hlc, hls⟩ := hpt
  have hspr : inR sp := hvs (.inl sp) (by simp)
  have hdpr : inR dp := hvs (.inl dp) (by simp)
  have hnr : inR n := hvs (.inl n) (by simp)
  have hneg : ∀ {z : Int}, inR z → 0 ≤ z → ¬ zI z < 0 := fun hz h0 h => by
    rw [← zI_0, zI_lt hz inR_0] at h
    omega
  have hq1l : q1 < M.1.length := (List.getElem?_eq_some_iff.mp hs1).1
  have he0 := ws_get (cI := cI) (cC := cC) (cS := cS) (ad := ad) hs0
  have he1 := ws_get (cI := cI) (cC := cC) (cS := cS) (ad := ad) hs1
  rw [cell_in] at he0 he1
  have hup := ws_upd (cI := cI) (cC := cC) (cS := cS) (ad := ad) (M' := cpyT (M.2.1 q0) M q1 sp.toNat dp.toNat n.toNat) hs1 rfl cell_cpyT
  rw [cell_in, ← cpy_fun] at hup
  refine va_copyi hx hb (hml.trans hl.1.symm) hown (hts _ (hk _ (by simp))) (hts _ (hk _ (by simp))) (hts _ (hk _ (by simp))) (hts _ (hk _ (by simp))) hK hP hD hS q0 q1 0 0 he0 he1 (show (tysOf cI cC cS)[0]? = some (cI, .int) from rfl) (show (tysOf cI cC cS)[0]? = some (cI, .int) from rfl) rfl (hneg hspr h1) (hneg hdpr h2) (hneg hnr h3) (by rw [zI_cl hspr, zI_cl hnr]; omega) (by rw [zI_cl hdpr, zI_cl hnr]; omega) (fun _ _ => rfl) hR.1 (by rw [cat_sum]; have := hR.2; show _ + (7 + 11) ≤ _; omega) hdg (fun H1 locs1 hP1 hD1 hS1 => ?_)
  rw [zI_cl hspr, zI_cl hnr, zI_cl hdpr, hup] at hP1 hD1
  exact k ad H1 locs1 cells slots ls ⟨⟨hP1, hD1, hS1⟩, ⟨MOK_cpy hM hq1l, hl, hvr, (fun v hv => hvs v (List.mem_cons_of_mem _ (List.mem_cons_of_mem _ (List.mem_cons_of_mem _ (List.mem_cons_of_mem _ (List.mem_cons_of_mem _ hv))))))⟩, ⟨⟨hn0, had0⟩, hsA⟩, hcn, hsn, hcl, hsl, hlc, hls⟩
theorem G_copyT (hG : Mach own cc nL mn R ret nt L xs Rt G) {idx t q1 n1 : Nat} {sp dp n : Int} (hk : ∀ w ∈ ([.methodLink own idx arraycopyName, .native arraycopyName, .static arraycopyName, .initialized "java/lang/System"] : List Cond), w ∈ gtb) (hR : 1 ≤ R.frames ∧ sv.length + 18 ≤ R.locals) (ht : t < 3) (hs1 : M.1[q1]? = some (20, n1)) (h1 : 0 ≤ sp) (h2 : 0 ≤ dp) (h3 : 0 ≤ n) (h4 : sp + n ≤ 5) (h5 : dp + n ≤ (n1 : Int)) (hdg : decode cc pc = .ok (.invokestatic idx, 3)) (k : G (pc + 3) sv ρ (cpyT (tVl xs t) M q1 sp.toNat dp.toNat n.toNat)) : G pc (.inl n :: .inl dp :: .inr (some q1) :: .inl sp :: .inr (some (1000000 + t)) :: sv) ρ M := by
  obtain ⟨p, l, e, s, m, args, below, meth, c, dC, dI, cI, cC, cS, sA, A, n0, S0, ad0, Q, ⟨hx, hb, hml, hown, hts, hK, hA, hSt, hmn, hnL, hRI, hRV⟩, rfl⟩ := hG
  intro ad H locs cells slots ls hpt
  obtain ⟨⟨hP, hD, hS⟩, ⟨hM, hl, hvr, hvs⟩, ⟨⟨hn0, had0⟩, hsA⟩, hcn, hsn, hcl, hsl, hlc, hls⟩ := hpt
  have hspr : inR sp := hvs (.inl sp) (by simp)
  have hdpr : inR dp := hvs (.inl dp) (by simp)
  have hnr : inR n := hvs (.inl n) (by simp)
  have hneg : ∀ {z : Int}, inR z → 0 ≤ z → ¬ zI z < 0 := fun hz h0 h => by
    rw [← zI_0, zI_lt hz inR_0] at h
    omega
  have hq1l : q1 < M.1.length := (List.getElem?_eq_some_iff.mp hs1).1
  obtain ⟨hX, hbl, hbA⟩ := hSt.2.1 t (by have := hSt.1; omega)
  have he1 := ws_get (cI := cI) (cC := cC) (cS := cS) (ad := ad) hs1
  rw [cell_in] at he1
  have hup := ws_upd (cI := cI) (cC := cC) (cS := cS) (ad := ad) (M' := cpyT (tVl xs t) M q1 sp.toNat dp.toNat n.toNat) hs1 rfl cell_cpyT
  rw [cell_in, ← cpy_fun] at hup
  simp only [List.map_cons]
  rw [show cv ad (.inr (some (1000000 + t))) = .ref (sA t) by rw [← hsA]; rfl]
  refine va_copyx hx hb (hml.trans hl.1.symm) hown (hts _ (hk _ (by simp))) (hts _ (hk _ (by simp))) (hts _ (hk _ (by simp))) (hts _ (hk _ (by simp))) hK hP hD hS hX hbl hbA q1 0 he1 (show (tysOf cI cC cS)[0]? = some (cI, .int) from rfl) (hneg hspr h1) (hneg hdpr h2) (hneg hnr h3) (by rw [zI_cl hspr, zI_cl hnr, tLn, if_pos ht]; omega) (by rw [zI_cl hdpr, zI_cl hnr]; omega) hR.1 (by rw [cat_sum]; have := hR.2; show _ + (7 + 11) ≤ _; omega) hdg (fun H1 locs1 hP1 hD1 hS1 => ?_)
  rw [zI_cl hspr, zI_cl hnr, zI_cl hdpr, hup] at hP1 hD1
  exact k ad H1 locs1 cells slots ls ⟨⟨hP1, hD1, hS1⟩, ⟨MOK_cpyT hM (hSt.2.2.1 t) hq1l, hl, hvr, (fun v hv => hvs v (List.mem_cons_of_mem _ (List.mem_cons_of_mem _ (List.mem_cons_of_mem _ (List.mem_cons_of_mem _ (List.mem_cons_of_mem _ hv))))))⟩, ⟨⟨hn0, had0⟩, hsA⟩, hcn, hsn, hcl, hsl, hlc, hls⟩
end RULES
