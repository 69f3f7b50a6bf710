theorem tb_good : ∀ w ∈ gtb, (w.onTables && w.keeps) = true ∨ ∃ ty, w = .arrayClass ty := fun w hw => good_of_word (List.mem_filter.mp hw).2
theorem good_sub {ws : List Cond} (h : ∀ w ∈ ws, w ∈ gtb) : GoodIn gtb ws := fun w hw => ⟨h w hw, tb_good w (h w hw)⟩
theorem in_p (ws : List Cond) (ps : List Nat) (h : ps.map (fun i => lw_tbl[i]?) = ws.map some) (hg : ws.all goodWord = true) : ∀ w ∈ ws, w ∈ gtb := by
  intro w hw
  have h1 : some w ∈ ps.map (fun i => lw_tbl[i]?) := by rw [h]; exact List.mem_map.mpr ⟨w, hw, rfl⟩
  obtain ⟨i, -, hi⟩ := List.mem_map.mp h1
  exact List.mem_filter.mpr ⟨List.mem_of_getElem? hi, List.all_eq_true.mp hg w hw⟩
/-- what the tables say of a field that is read -/
def Fok (own : String) (idx ci j : Nat) (r : Bool) : Prop := ∃ (C : String) (T : u_T) (N : Nat), vwCl[ci]? = some (C, T, N) ∧ j < N ∧ (∀ w ∈ u_ws C T N, w ∈ gtb) ∧ Cond.fieldLink own idx C (T j).2.1 (T j).2.2.1 ∈ gtb ∧ (T j).1 = C ∧ (clR ci)[j]? = some r ∧ ci < 8
/-- .. that is put -/
def Pok (own : String) (idx ci j : Nat) (r : Bool) (ty : FieldType) (fin : Bool) : Prop := ∃ (C : String) (T : u_T) (N : Nat) (ty0 : Nat → FieldType), vwCl[ci]? = some (C, T, N) ∧ j < N ∧ (∀ w ∈ u_ws C T N, w ∈ gtb) ∧ (∀ k, k < N → parseFieldDescriptor (T k).2.2.1 = some (ty0 k)) ∧ (∀ a, a < N → ∀ b, b < N → a ≠ b → (T a).2.1 ≠ (T b).2.1) ∧ Cond.fieldLink own idx C (T j).2.1 (T j).2.2.1 ∈ gtb ∧ (T j).1 = C ∧ (T j).2.2.2 = fin ∧ parseFieldDescriptor (T j).2.2.1 = some ty ∧ (clR ci)[j]? = some r ∧ ci < 8 ∧ (fin = true → C = own)
theorem cell_ob {cI cC cS : ClassId} {ad : Nat → Nat} {M : Mm} {q ci w : Nat} (h : ci < 8) : cellE cI cC cS ad M q (ci, w) = .inr (ci, fvs ad M q (clR ci)) := by simp [cellE, h]
theorem cell_in {cI cC cS : ClassId} {ad : Nat → Nat} {M : Mm} {q n : Nat} : cellE cI cC cS ad M q (20, n) = .inl (cI, n, .inl (fun j => zI (M.2.1 q j))) := by simp [cellE]
theorem cell_ch {cI cC cS : ClassId} {ad : Nat → Nat} {M : Mm} {q n : Nat} : cellE cI cC cS ad M q (21, n) = .inl (cC, n, .inl (fun j => zI (M.2.1 q j))) := by simp [cellE]
theorem cell_rf {cI cC cS : ClassId} {ad : Nat → Nat} {M : Mm} {q n : Nat} : cellE cI cC cS ad M q (22, n) = .inl (cS, n, .inr (.inr (.inr (.inr (fun j => (M.2.2 q j).map ad))))) := by simp [cellE]
theorem cv_rf (ad : Nat → Nat) (r : Option Nat) : va_rf (r.map ad) = cv ad (.inr r) := by cases r <;> rfl
theorem vok_rf {M : Mm} (h : MOK M) (q j : Nat) : vok M (.inr (M.2.2 q j)) := by
  cases e : M.2.2 q j with
  | none => trivial
  | some k => exact Or.inl (h.2.2.1 q j k e)
theorem upd_si {M : Mm} {q k : Nat} {z : Int} : upd (fun j => zI (M.2.1 q j)) k (zI z) = fun j => zI ((si M q k z).2.1 q j) := by
  funext j
  simp only [upd, si]
  split <;> simp_all
theorem up_sr {ad : Nat → Nat} {M : Mm} {q k v : Nat} : va_up (fun j => (M.2.2 q j).map ad) k (some (ad v)) = fun j => ((sr M q k (some v)).2.2 q j).map ad := by
  funext j
  simp only [va_up, sr]
  split <;> simp_all
section RULES
variable {own : String} {cc : ByteArray} {nL : Nat} {mn : String} {R : Room} {ret : Option FieldType} {nt L : Nat} {xs : Nat → Int} {Rt : Int → Mm → Prop} {G : Gt} {pc : Nat} {sv : List Vv} {ρ : En} {M : Mm}
theorem G_getI (hG : Mach own cc nL mn R ret nt L xs Rt G) {q w idx ci j : Nat} (F : Fok own idx ci j false) (hsh : M.1[q]? = some (ci, w)) (hdg : decode cc pc = .ok (.getfield idx, 3)) (k : G (pc + 3) (.inl (M.2.1 q j) :: sv) ρ M) : G pc (.inr (some q) :: sv) ρ M := by
  obtain ⟨p, l, e, s, m, args, below, meth, c, dC, dI, cI, cC, cS, sA, A, n0, S0, ad0, Q, ⟨hx, hb, hml, hown, hts, hK, hA, hSt, hmn, hnL, hRI, hRV⟩, rfl⟩ := hG
  intro ad H locs cells slots ls hpt
  obtain ⟨⟨hP, hD, hS⟩, ⟨hM, hl, hvr, hvs⟩, ⟨⟨hn0, had0⟩, hsA⟩, hcn, hsn, hcl, hsl, hlc, hls⟩ := hpt
  obtain ⟨C, T, N, hc, hj, hin, hlk, hC, hr, hci⟩ := F
  have he := ws_get (cI := cI) (cC := cC) (cS := cS) (ad := ad) hsh
  rw [cell_ob hci] at he
  exact va_get (D := (dC, dI)) (v := .int (zI (M.2.1 q j))) hx hb hts hin hown hK hP q he hc j hj (hts _ hlk) (by rw [hC]; exact fun _ h => h) (by rw [fvs_get hr]; rfl) hdg (k ad H locs cells slots ls ⟨⟨hP, hD, hS⟩, ⟨hM, hl, hvr, (List.forall_mem_cons.mpr ⟨(hM.2.1 q j), (fun v hv => hvs v (List.mem_cons_of_mem _ hv))⟩)⟩, ⟨⟨hn0, had0⟩, hsA⟩, hcn, hsn, hcl, hsl, hlc, hls⟩)
theorem G_getR (hG : Mach own cc nL mn R ret nt L xs Rt G) {q w idx ci j : Nat} (F : Fok own idx ci j true) (hsh : M.1[q]? = some (ci, w)) (hdg : decode cc pc = .ok (.getfield idx, 3)) (k : G (pc + 3) (.inr (M.2.2 q j) :: sv) ρ M) : G pc (.inr (some q) :: sv) ρ M := by
  obtain ⟨p, l, e, s, m, args, below, meth, c, dC, dI, cI, cC, cS, sA, A, n0, S0, ad0, Q, ⟨hx, hb, hml, hown, hts, hK, hA, hSt, hmn, hnL, hRI, hRV⟩, rfl⟩ := hG
  intro ad H locs cells slots ls hpt
  obtain ⟨⟨hP, hD, hS⟩, ⟨hM, hl, hvr, hvs⟩, ⟨⟨hn0, had0⟩, hsA⟩, hcn, hsn, hcl, hsl, hlc, hls⟩ := hpt
  obtain ⟨C, T, N, hc, hj, hin, hlk, hC, hr, hci⟩ := F
  have he := ws_get (cI := cI) (cC := cC) (cS := cS) (ad := ad) hsh
  rw [cell_ob hci] at he
  exact va_get (D := (dC, dI)) (v := cv ad (.inr (M.2.2 q j))) hx hb hts hin hown hK hP q he hc j hj (hts _ hlk) (by rw [hC]; exact fun _ h => h) (by rw [fvs_get hr, if_pos rfl, cv_rf]) hdg (k ad H locs cells slots ls ⟨⟨hP, hD, hS⟩, ⟨hM, hl, hvr, (List.forall_mem_cons.mpr ⟨(vok_rf hM q j), (fun v hv => hvs v (List.mem_cons_of_mem _ hv))⟩)⟩, ⟨⟨hn0, had0⟩, hsA⟩, hcn, hsn, hcl, hsl, hlc, hls⟩)
theorem G_putI (hG : Mach own cc nL mn R ret nt L xs Rt G) {q w idx ci j : Nat} {z : Int} {ty : FieldType} (F : Pok own idx ci j false ty false) (hsh : M.1[q]? = some (ci, w)) (hn : narrow ty (.int (zI z)) = .int (zI z)) (hft : fits ty (.int (zI z)) = true) (hdg : decode cc pc = .ok (.putfield idx, 3)) (k : G (pc + 3) sv ρ (si M q j z)) : G pc (.inl z :: .inr (some q) :: sv) ρ M := by
  obtain ⟨p, l, e, s, m, args, below, meth, c, dC, dI, cI, cC, cS, sA, A, n0, S0, ad0, Q, ⟨hx, hb, hml, hown, hts, hK, hA, hSt, hmn, hnL, hRI, hRV⟩, rfl⟩ := hG
  intro ad H locs cells slots ls hpt
  obtain ⟨⟨hP, hD, hS⟩, ⟨hM, hl, hvr, hvs⟩, ⟨⟨hn0, had0⟩, hsA⟩, hcn, hsn, hcl, hsl, hlc, hls⟩ := hpt
  obtain ⟨C, T, N, ty0, hc, hj, hin, hty, hnm, hlk, hC, hfin, hpd, hr, hci, -⟩ := F
  have he := ws_get (cI := cI) (cC := cC) (cS := cS) (ad := ad) hsh
  rw [cell_ob hci] at he
  have hzr : inR z := (hvs _ List.mem_cons_self)
  have hlq : q < M.1.length := (List.getElem?_eq_some_iff.mp hsh).1
  have hup := ws_upd (cI := cI) (cC := cC) (cS := cS) (ad := ad) (M' := si M q j z) hsh rfl cell_si
  rw [cell_ob hci, ← fvs_si hr] at hup
  refine va_put (D := (dC, dI)) (v := .int (zI z)) hx hb hts hin ty0 hty hnm hown hK hP hD hS q he hc j hj (hts _ hlk) (by rw [hC]; exact fun _ h => h) hfin hpd hn hft (by rw [fvs_len]; exact (List.getElem?_eq_some_iff.mp hr).1) hdg (fun H1 locs1 hP1 hD1 hS1 => ?_)
  rw [hup] at hP1 hD1
  exact k ad H1 locs1 cells slots ls ⟨⟨hP1, hD1, hS1⟩, ⟨MOK_si hM hlq hzr, hl, hvr, (fun v hv => hvs v (List.mem_cons_of_mem _ (List.mem_cons_of_mem _ hv)))⟩, ⟨⟨hn0, had0⟩, hsA⟩, hcn, hsn, hcl, hsl, hlc, hls⟩
theorem G_putR (hG : Mach own cc nL mn R ret nt L xs Rt G) {q w idx ci j v : Nat} {ty : FieldType} (F : Pok own idx ci j true ty true) (hmi : mn = "<init>") (hsh : M.1[q]? = some (ci, w)) (hv : v < M.1.length) (hn : ∀ a : Nat, narrow ty (.ref a) = .ref a) (hft : ∀ a : Nat, fits ty (.ref a) = true) (hdg : decode cc pc = .ok (.putfield idx, 3)) (k : G (pc + 3) sv ρ (sr M q j (some v))) : G pc (.inr (some v) :: .inr (some q) :: sv) ρ M := by
  obtain ⟨p, l, e, s, m, args, below, meth, c, dC, dI, cI, cC, cS, sA, A, n0, S0, ad0, Q, ⟨hx, hb, hml, hown, hts, hK, hA, hSt, hmn, hnL, hRI, hRV⟩, rfl⟩ := hG
  intro ad H locs cells slots ls hpt
  obtain ⟨⟨hP, hD, hS⟩, ⟨hM, hl, hvr, hvs⟩, ⟨⟨hn0, had0⟩, hsA⟩, hcn, hsn, hcl, hsl, hlc, hls⟩ := hpt
  obtain ⟨C, T, N, ty0, hc, hj, hin, hty, hnm, hlk, hC, hfin, hpd, hr, hci, hCo⟩ := F
  have he := ws_get (cI := cI) (cC := cC) (cS := cS) (ad := ad) hsh
  rw [cell_ob hci] at he
  have hlq : q < M.1.length := (List.getElem?_eq_some_iff.mp hsh).1
  have hup := ws_upd (cI := cI) (cC := cC) (cS := cS) (ad := ad) (M' := sr M q j (some v)) hsh rfl cell_sr
  rw [cell_ob hci, ← fvs_sr hr] at hup
  refine va_putF (D := (dC, dI)) (v := va_rf ((some v).map ad)) hx hb hts hin ty0 hty hnm hown hK hP hD hS q he hc j hj (hts _ hlk) (by rw [hC]; exact fun _ h => h) hfin (hmn.trans hmi) (by rw [hC]; exact hCo rfl) hpd (hn (ad v)) (hft (ad v)) (by rw [fvs_len]; exact (List.getElem?_eq_some_iff.mp hr).1) hdg (fun H1 locs1 hP1 hD1 hS1 => ?_)
  rw [hup] at hP1 hD1
  exact k ad H1 locs1 cells slots ls ⟨⟨hP1, hD1, hS1⟩, ⟨MOK_sr hM hlq (fun j h => by cases h; exact hv), hl, hvr, (fun v hv => hvs v (List.mem_cons_of_mem _ (List.mem_cons_of_mem _ hv)))⟩, ⟨⟨hn0, had0⟩, hsA⟩, hcn, hsn, hcl, hsl, hlc, hls⟩
theorem G_iald (hG : Mach own cc nL mn R ret nt L xs Rt G) {q n : Nat} {j : Int} (hsh : M.1[q]? = some (20, n)) (h0 : 0 ≤ j) (h1 : j < (n : Int)) (hdg : decode cc pc = .ok (.iaload, 1)) (k : G (pc + 1) (.inl (M.2.1 q j.toNat) :: sv) ρ M) : G pc (.inl j :: .inr (some q) :: sv) ρ M := by
  obtain ⟨p, l, e, s, m, args, below, meth, c, dC, dI, cI, cC, cS, sA, A, n0, S0, ad0, Q, ⟨hx, hb, hml, hown, hts, hK, hA, hSt, hmn, hnL, hRI, hRV⟩, rfl⟩ := hG
  intro ad H locs cells slots ls hpt
  obtain ⟨⟨hP, hD, hS⟩, ⟨hM, hl, hvr, hvs⟩, ⟨⟨hn0, had0⟩, hsA⟩, hcn, hsn, hcl, hsl, hlc, hls⟩ := hpt
  have he := ws_get (cI := cI) (cC := cC) (cS := cS) (ad := ad) hsh
  rw [cell_in] at he
  have hjr : inR j := (hvs _ List.mem_cons_self)
  refine va_iald hx hb hK hP q 0 he rfl (zI_in hjr h0 h1) hdg ?_
  rw [zI_cl hjr]
  exact k ad H locs cells slots ls ⟨⟨hP, hD, hS⟩, ⟨hM, hl, hvr, (List.forall_mem_cons.mpr ⟨(hM.2.1 q j.toNat), (fun v hv => hvs v (List.mem_cons_of_mem _ (List.mem_cons_of_mem _ hv)))⟩)⟩, ⟨⟨hn0, had0⟩, hsA⟩, hcn, hsn, hcl, hsl, hlc, hls⟩
theorem G_cald (hG : Mach own cc nL mn R ret nt L xs Rt G) {q n : Nat} {j : Int} (hsh : M.1[q]? = some (21, n)) (h0 : 0 ≤ j) (h1 : j < (n : Int)) (hdg : decode cc pc = .ok (.caload, 1)) (k : G (pc + 1) (.inl (M.2.1 q j.toNat) :: sv) ρ M) : G pc (.inl j :: .inr (some q) :: sv) ρ M := by
  obtain ⟨p, l, e, s, m, args, below, meth, c, dC, dI, cI, cC, cS, sA, A, n0, S0, ad0, Q, ⟨hx, hb, hml, hown, hts, hK, hA, hSt, hmn, hnL, hRI, hRV⟩, rfl⟩ := hG
  intro ad H locs cells slots ls hpt
  obtain ⟨⟨hP, hD, hS⟩, ⟨hM, hl, hvr, hvs⟩, ⟨⟨hn0, had0⟩, hsA⟩, hcn, hsn, hcl, hsl, hlc, hls⟩ := hpt
  have he := ws_get (cI := cI) (cC := cC) (cS := cS) (ad := ad) hsh
  rw [cell_ch] at he
  have hjr : inR j := (hvs _ List.mem_cons_self)
  refine va_cald hx hb hK hP q 1 he rfl (zI_in hjr h0 h1) hdg ?_
  rw [zI_cl hjr]
  exact k ad H locs cells slots ls ⟨⟨hP, hD, hS⟩, ⟨hM, hl, hvr, (List.forall_mem_cons.mpr ⟨(hM.2.1 q j.toNat), (fun v hv => hvs v (List.mem_cons_of_mem _ (List.mem_cons_of_mem _ hv)))⟩)⟩, ⟨⟨hn0, had0⟩, hsA⟩, hcn, hsn, hcl, hsl, hlc, hls⟩
theorem G_aald (hG : Mach own cc nL mn R ret nt L xs Rt G) {q n : Nat} {j : Int} (hsh : M.1[q]? = some (22, n)) (h0 : 0 ≤ j) (h1 : j < (n : Int)) (hdg : decode cc pc = .ok (.aaload, 1)) (k : G (pc + 1) (.inr (M.2.2 q j.toNat) :: sv) ρ M) : G pc (.inl j :: .inr (some q) :: sv) ρ M := by
  obtain ⟨p, l, e, s, m, args, below, meth, c, dC, dI, cI, cC, cS, sA, A, n0, S0, ad0, Q, ⟨hx, hb, hml, hown, hts, hK, hA, hSt, hmn, hnL, hRI, hRV⟩, rfl⟩ := hG
  intro ad H locs cells slots ls hpt
  obtain ⟨⟨hP, hD, hS⟩, ⟨hM, hl, hvr, hvs⟩, ⟨⟨hn0, had0⟩, hsA⟩, hcn, hsn, hcl, hsl, hlc, hls⟩ := hpt
  have he := ws_get (cI := cI) (cC := cC) (cS := cS) (ad := ad) hsh
  rw [cell_rf] at he
  have hjr : inR j := (hvs _ List.mem_cons_self)
  refine va_aldq hx hb hK hP q 2 he rfl (zI_in hjr h0 h1) hdg ?_
  rw [zI_cl hjr, cv_rf]
  exact k ad H locs cells slots ls ⟨⟨hP, hD, hS⟩, ⟨hM, hl, hvr, (List.forall_mem_cons.mpr ⟨(vok_rf hM q j.toNat), (fun v hv => hvs v (List.mem_cons_of_mem _ (List.mem_cons_of_mem _ hv)))⟩)⟩, ⟨⟨hn0, had0⟩, hsA⟩, hcn, hsn, hcl, hsl, hlc, hls⟩
theorem G_iast (hG : Mach own cc nL mn R ret nt L xs Rt G) {q n : Nat} {j z : Int} (hsh : M.1[q]? = some (20, n)) (h0 : 0 ≤ j) (h1 : j < (n : Int)) (hdg : decode cc pc = .ok (.iastore, 1)) (k : G (pc + 1) sv ρ (si M q j.toNat z)) : G pc (.inl z :: .inl j :: .inr (some q) :: sv) ρ M := by
  obtain ⟨p, l, e, s, m, args, below, meth, c, dC, dI, cI, cC, cS, sA, A, n0, S0, ad0, Q, ⟨hx, hb, hml, hown, hts, hK, hA, hSt, hmn, hnL, hRI, hRV⟩, rfl⟩ := hG
  intro ad H locs cells slots ls hpt
  obtain ⟨⟨hP, hD, hS⟩, ⟨hM, hl, hvr, hvs⟩, ⟨⟨hn0, had0⟩, hsA⟩, hcn, hsn, hcl, hsl, hlc, hls⟩ := hpt
  have he := ws_get (cI := cI) (cC := cC) (cS := cS) (ad := ad) hsh
  rw [cell_in] at he
  have hzr : inR z := (hvs _ List.mem_cons_self)
  have hjr : inR j := (hvs _ (List.mem_cons_of_mem _ List.mem_cons_self))
  have hlq : q < M.1.length := (List.getElem?_eq_some_iff.mp hsh).1
  have hup := ws_upd (cI := cI) (cC := cC) (cS := cS) (ad := ad) (M' := si M q j.toNat z) hsh rfl cell_si
  rw [cell_in, ← upd_si] at hup
  refine va_iast hx hb hK hP hD hS q 0 he rfl (zI_in hjr h0 h1) hdg (fun H1 locs1 hP1 hD1 hS1 => ?_)
  rw [zI_cl hjr, hup] at hP1 hD1
  exact k ad H1 locs1 cells slots ls ⟨⟨hP1, hD1, hS1⟩, ⟨MOK_si hM hlq hzr, hl, hvr, (fun v hv => hvs v (List.mem_cons_of_mem _ (List.mem_cons_of_mem _ (List.mem_cons_of_mem _ hv))))⟩, ⟨⟨hn0, had0⟩, hsA⟩, hcn, hsn, hcl, hsl, hlc, hls⟩
theorem G_cast (hG : Mach own cc nL mn R ret nt L xs Rt G) {q n : Nat} {j z : Int} (hsh : M.1[q]? = some (21, n)) (h0 : 0 ≤ j) (h1 : j < (n : Int)) (hz0 : 0 ≤ z) (hz1 : z < 65536) (hdg : decode cc pc = .ok (.castore, 1)) (k : G (pc + 1) sv ρ (si M q j.toNat z)) : G pc (.inl z :: .inl j :: .inr (some q) :: sv) ρ M := by
  obtain ⟨p, l, e, s, m, args, below, meth, c, dC, dI, cI, cC, cS, sA, A, n0, S0, ad0, Q, ⟨hx, hb, hml, hown, hts, hK, hA, hSt, hmn, hnL, hRI, hRV⟩, rfl⟩ := hG
  intro ad H locs cells slots ls hpt
  obtain ⟨⟨hP, hD, hS⟩, ⟨hM, hl, hvr, hvs⟩, ⟨⟨hn0, had0⟩, hsA⟩, hcn, hsn, hcl, hsl, hlc, hls⟩ := hpt
  have he := ws_get (cI := cI) (cC := cC) (cS := cS) (ad := ad) hsh
  rw [cell_ch] at he
  have hzr : inR z := (hvs _ List.mem_cons_self)
  have hjr : inR j := (hvs _ (List.mem_cons_of_mem _ List.mem_cons_self))
  have hlq : q < M.1.length := (List.getElem?_eq_some_iff.mp hsh).1
  have hup := ws_upd (cI := cI) (cC := cC) (cS := cS) (ad := ad) (M' := si M q j.toNat z) hsh rfl cell_si
  rw [cell_ch, ← upd_si] at hup
  have hnr : vp_nar .char (zI z) = zI z := by
    obtain ⟨n, rfl⟩ := Int.eq_ofNat_of_zero_le hz0
    rw [zI_nat]
    have := (pk_charN (q := n) (by omega)).1
    unfold vp_nar
    rw [this]
  refine va_cast hx hb hK hP hD hS q 1 he rfl (zI_in hjr h0 h1) hdg (fun H1 locs1 hP1 hD1 hS1 => ?_)
  rw [zI_cl hjr, hnr, hup] at hP1 hD1
  exact k ad H1 locs1 cells slots ls ⟨⟨hP1, hD1, hS1⟩, ⟨MOK_si hM hlq hzr, hl, hvr, (fun v hv => hvs v (List.mem_cons_of_mem _ (List.mem_cons_of_mem _ (List.mem_cons_of_mem _ hv))))⟩, ⟨⟨hn0, had0⟩, hsA⟩, hcn, hsn, hcl, hsl, hlc, hls⟩
theorem G_aast (hG : Mach own cc nL mn R ret nt L xs Rt G) {q n v w : Nat} {j : Int} (hsh : M.1[q]? = some (22, n)) (hv : M.1[v]? = some (4, w)) (h0 : 0 ≤ j) (h1 : j < (n : Int)) (hdg : decode cc pc = .ok (.aastore, 1)) (k : G (pc + 1) sv ρ (sr M q j.toNat (some v))) : G pc (.inr (some v) :: .inl j :: .inr (some q) :: sv) ρ M := by
  obtain ⟨p, l, e, s, m, args, below, meth, c, dC, dI, cI, cC, cS, sA, A, n0, S0, ad0, Q, ⟨hx, hb, hml, hown, hts, hK, hA, hSt, hmn, hnL, hRI, hRV⟩, rfl⟩ := hG
  intro ad H locs cells slots ls hpt
  obtain ⟨⟨hP, hD, hS⟩, ⟨hM, hl, hvr, hvs⟩, ⟨⟨hn0, had0⟩, hsA⟩, hcn, hsn, hcl, hsl, hlc, hls⟩ := hpt
  have he := ws_get (cI := cI) (cC := cC) (cS := cS) (ad := ad) hsh
  rw [cell_rf] at he
  have hev := ws_get (cI := cI) (cC := cC) (cS := cS) (ad := ad) hv
  rw [cell_ob (by decide)] at hev
  have hjr : inR j := (hvs _ (List.mem_cons_of_mem _ List.mem_cons_self))
  have hlq : q < M.1.length := (List.getElem?_eq_some_iff.mp hsh).1
  have hlv : v < M.1.length := (List.getElem?_eq_some_iff.mp hv).1
  have hup := ws_upd (cI := cI) (cC := cC) (cS := cS) (ad := ad) (M' := sr M q j.toNat (some v)) hsh rfl cell_sr
  rw [cell_rf, ← up_sr] at hup
  refine va_astq (r := (RX4, TX4, 3)) hx hb hK hP hD hS q 2 v 4 he rfl hev rfl (zI_in hjr h0 h1) hdg (fun H1 locs1 hP1 hD1 hS1 => ?_)
  rw [zI_cl hjr, hup] at hP1 hD1
  exact k ad H1 locs1 cells slots ls ⟨⟨hP1, hD1, hS1⟩, ⟨MOK_sr hM hlq (fun j h => by cases h; exact hlv), hl, hvr, (fun v hv => hvs v (List.mem_cons_of_mem _ (List.mem_cons_of_mem _ (List.mem_cons_of_mem _ hv))))⟩, ⟨⟨hn0, had0⟩, hsA⟩, hcn, hsn, hcl, hsl, hlc, hls⟩
theorem G_alen (hG : Mach own cc nL mn R ret nt L xs Rt G) {q n : Nat} (hsh : M.1[q]? = some (20, n)) (hnr : n < 2147483648) (hdg : decode cc pc = .ok (.arraylength, 1)) (k : G (pc + 1) (.inl (n : Int) :: sv) ρ M) : G pc (.inr (some q) :: sv) ρ M := by
  obtain ⟨p, l, e, s, m, args, below, meth, c, dC, dI, cI, cC, cS, sA, A, n0, S0, ad0, Q, ⟨hx, hb, hml, hown, hts, hK, hA, hSt, hmn, hnL, hRI, hRV⟩, rfl⟩ := hG
  intro ad H locs cells slots ls hpt
  obtain ⟨⟨hP, hD, hS⟩, ⟨hM, hl, hvr, hvs⟩, ⟨⟨hn0, had0⟩, hsA⟩, hcn, hsn, hcl, hsl, hlc, hls⟩ := hpt
  have he := ws_get (cI := cI) (cC := cC) (cS := cS) (ad := ad) hsh
  rw [cell_in] at he
  exact va_alen (v := zI n) hx hb hK hP q 0 he (show (tysOf cI cC cS)[0]? = some (cI, .int) from rfl) (zI_nat n).symm hdg (k ad H locs cells slots ls ⟨⟨hP, hD, hS⟩, ⟨hM, hl, hvr, (List.forall_mem_cons.mpr ⟨⟨by omega, by omega⟩, (fun v hv => hvs v (List.mem_cons_of_mem _ hv))⟩)⟩, ⟨⟨hn0, had0⟩, hsA⟩, hcn, hsn, hcl, hsl, hlc, hls⟩)
theorem G_tld (hG : Mach own cc nL mn R ret nt L xs Rt G) {t : Nat} {j : Int} (ht : t < nt) (h0 : 0 ≤ j) (h1 : j < (tLn L t : Int)) (hdg : decode cc pc = .ok (.iaload, 1)) (k : G (pc + 1) (.inl (tVl xs t j.toNat) :: sv) ρ M) : G pc (.inl j :: .inr (some (1000000 + t)) :: sv) ρ M := by
  obtain ⟨p, l, e, s, m, args, below, meth, c, dC, dI, cI, cC, cS, sA, A, n0, S0, ad0, Q, ⟨hx, hb, hml, hown, hts, hK, hA, hSt, hmn, hnL, hRI, hRV⟩, rfl⟩ := hG
  intro ad H locs cells slots ls hpt
  obtain ⟨⟨hP, hD, hS⟩, ⟨hM, hl, hvr, hvs⟩, ⟨⟨hn0, had0⟩, hsA⟩, hcn, hsn, hcl, hsl, hlc, hls⟩ := hpt
  obtain ⟨hX, hbl, hbA⟩ := hSt.2.1 t ht
  have hjr : inR j := (hvs _ List.mem_cons_self)
  rw [List.map_cons, List.map_cons, show cv ad (.inr (some (1000000 + t))) = .ref (sA t) by rw [← hsA]; rfl]
  refine va_sld hx hb hX hbl hbA hS (zI_in hjr h0 h1) hdg ?_
  rw [zI_cl hjr]
  exact k ad H locs cells slots ls ⟨⟨hP, hD, hS⟩, ⟨hM, hl, hvr, (List.forall_mem_cons.mpr ⟨(hSt.2.2.1 t j.toNat), (fun v hv => hvs v (List.mem_cons_of_mem _ (List.mem_cons_of_mem _ hv)))⟩)⟩, ⟨⟨hn0, had0⟩, hsA⟩, hcn, hsn, hcl, hsl, hlc, hls⟩
theorem G_tlen (hG : Mach own cc nL mn R ret nt L xs Rt G) {t : Nat} (ht : t < nt) (hnr : tLn L t < 2147483648) (hdg : decode cc pc = .ok (.arraylength, 1)) (k : G (pc + 1) (.inl (tLn L t : Int) :: sv) ρ M) : G pc (.inr (some (1000000 + t)) :: sv) ρ M := by
  obtain ⟨p, l, e, s, m, args, below, meth, c, dC, dI, cI, cC, cS, sA, A, n0, S0, ad0, Q, ⟨hx, hb, hml, hown, hts, hK, hA, hSt, hmn, hnL, hRI, hRV⟩, rfl⟩ := hG
  intro ad H locs cells slots ls hpt
  obtain ⟨⟨hP, hD, hS⟩, ⟨hM, hl, hvr, hvs⟩, ⟨⟨hn0, had0⟩, hsA⟩, hcn, hsn, hcl, hsl, hlc, hls⟩ := hpt
  obtain ⟨hX, hbl, hbA⟩ := hSt.2.1 t ht
  rw [List.map_cons, show cv ad (.inr (some (1000000 + t))) = .ref (sA t) by rw [← hsA]; rfl]
  refine va_slen hx hb hX hbl hbA hS hdg ?_
  rw [show Int32.ofNat (tLn L t) = zI (tLn L t) from (zI_nat _).symm]
  exact k ad H locs cells slots ls ⟨⟨hP, hD, hS⟩, ⟨hM, hl, hvr, (List.forall_mem_cons.mpr ⟨⟨by omega, by omega⟩, (fun v hv => hvs v (List.mem_cons_of_mem _ hv))⟩)⟩, ⟨⟨hn0, had0⟩, hsA⟩, hcn, hsn, hcl, hsl, hlc, hls⟩
theorem G_gets (hG : Mach own cc nL mn R ret nt L xs Rt G) {t idx : Nat} (ht : t < 3) (hlk : Cond.fieldLink own idx "SungSlides" (stN t) "[I" ∈ gtb) (hdg : decode cc pc = .ok (.getstatic idx, 3)) (k : G (pc + 3) (.inr (some (1000000 + t)) :: sv) ρ M) : G pc sv ρ M := by
  obtain ⟨p, l, e, s, m, args, below, meth, c, dC, dI, cI, cC, cS, sA, A, n0, S0, ad0, Q, ⟨hx, hb, hml, hown, hts, hK, hA, hSt, hmn, hnL, hRI, hRV⟩, rfl⟩ := hG
  intro ad H locs cells slots ls hpt
  obtain ⟨⟨hP, hD, hS⟩, ⟨hM, hl, hvr, hvs⟩, ⟨⟨hn0, had0⟩, hsA⟩, hcn, hsn, hcl, hsl, hlc, hls⟩ := hpt
  have h1 := k ad H locs cells slots ls ⟨⟨hP, hD, hS⟩, ⟨hM, hl, hvr, (List.forall_mem_cons.mpr ⟨(Or.inr ⟨by omega, by omega⟩), hvs⟩)⟩, ⟨⟨hn0, had0⟩, hsA⟩, hcn, hsn, hcl, hsl, hlc, hls⟩
  rw [List.map_cons, show cv ad (.inr (some (1000000 + t))) = .ref (sA t) by rw [← hsA]; rfl] at h1
  exact va_gets hx hb (hSt.2.2.2.1 t ht) hS hown (hts _ hlk) (fun _ h => h) hdg h1
theorem G_getsN (hG : Mach own cc nL mn R ret nt L xs Rt G) {t idx : Nat} {host : String} (ht : t < 3) (hlk : Cond.fieldLinkNest own idx "SungSlides" (stN t) "[I" host ∈ nestW) (hdg : decode cc pc = .ok (.getstatic idx, 3)) (k : G (pc + 3) (.inr (some (1000000 + t)) :: sv) ρ M) : G pc sv ρ M := by
  obtain ⟨p, l, e, s, m, args, below, meth, c, dC, dI, cI, cC, cS, sA, A, n0, S0, ad0, Q, ⟨hx, hb, hml, hown, hts, hK, hA, hSt, hmn, hnL, hRI, hRV⟩, rfl⟩ := hG
  intro ad H locs cells slots ls hpt
  obtain ⟨⟨hP, hD, hS⟩, ⟨hM, hl, hvr, hvs⟩, ⟨⟨hn0, had0⟩, hsA⟩, hcn, hsn, hcl, hsl, hlc, hls⟩ := hpt
  have h1 := k ad H locs cells slots ls ⟨⟨hP, hD, hS⟩, ⟨hM, hl, hvr, (List.forall_mem_cons.mpr ⟨(Or.inr ⟨by omega, by omega⟩), hvs⟩)⟩, ⟨⟨hn0, had0⟩, hsA⟩, hcn, hsn, hcl, hsl, hlc, hls⟩
  rw [List.map_cons, show cv ad (.inr (some (1000000 + t))) = .ref (sA t) by rw [← hsA]; rfl] at h1
  exact va_getsN hx hb (hSt.2.2.2.1 t ht) hS hown (va_Nw.use rfl (hSt.2.2.2.2.2 _ hlk)) (fun _ h => h) hdg h1
theorem G_ret (hG : Mach own cc nL mn R ret nt L xs Rt G) {rt : FieldType} {x : Int} (hrt : ret = some rt) (hn : narrow rt (.int (zI x)) = .int (zI x)) (hdg : decode cc pc = .ok (.ireturn, 1)) (h : Rt x M) : G pc [.inl x] ρ M := by
  obtain ⟨p, l, e, s, m, args, below, meth, c, dC, dI, cI, cC, cS, sA, A, n0, S0, ad0, Q, ⟨hx, hb, hml, hown, hts, hK, hA, hSt, hmn, hnL, hRI, hRV⟩, rfl⟩ := hG
  intro ad H locs cells slots ls hpt
  obtain ⟨⟨hP, hD, hS⟩, ⟨hM, hl, hvr, hvs⟩, ⟨⟨hn0, had0⟩, hsA⟩, hcn, hsn, hcl, hsl, hlc, hls⟩ := hpt
  exact hRI rt pc x ρ M hrt hn hdg h ad H locs cells slots ls ⟨⟨hP, hD, hS⟩, ⟨hM, hl, hvr, hvs⟩, ⟨⟨hn0, had0⟩, hsA⟩, hcn, hsn, hcl, hsl, hlc, hls⟩
theorem G_retV (hG : Mach own cc nL mn R ret nt L xs Rt G) (hrt : ret = none) (hdg : decode cc pc = .ok (.return_, 1)) (h : Rt 0 M) : G pc [] ρ M := by
  obtain ⟨p, l, e, s, m, args, below, meth, c, dC, dI, cI, cC, cS, sA, A, n0, S0, ad0, Q, ⟨hx, hb, hml, hown, hts, hK, hA, hSt, hmn, hnL, hRI, hRV⟩, rfl⟩ := hG
  intro ad H locs cells slots ls hpt
  obtain ⟨⟨hP, hD, hS⟩, ⟨hM, hl, hvr, hvs⟩, ⟨⟨hn0, had0⟩, hsA⟩, hcn, hsn, hcl, hsl, hlc, hls⟩ := hpt
  exact hRV pc ρ M hrt hdg h ad H locs cells slots ls ⟨⟨hP, hD, hS⟩, ⟨hM, hl, hvr, hvs⟩, ⟨⟨hn0, had0⟩, hsA⟩, hcn, hsn, hcl, hsl, hlc, hls⟩
end RULES
