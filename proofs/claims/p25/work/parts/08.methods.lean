theorem lg_len (ad : Nat → Nat) (av : List Vv) : (lg_sl (av.map (cv ad))).length = av.length := by
  induction av with
  | nil => rfl
  | cons v t ih =>
    have h1 : lg_sl ((v :: t).map (cv ad)) = .val (cv ad v) :: lg_sl (t.map (cv ad)) := by
      show (if (cv ad v).category = 2 then ([.val (cv ad v), .second] : List Slot) else [.val (cv ad v)]) ++ lg_sl (t.map (cv ad)) = _
      rw [cv_cat]
      rfl
    rw [h1, List.length_cons, List.length_cons, ih]
theorem lv_args_in (ad : Nat → Nat) : ∀ (av : List Vv) (k i : Nat) (v : Vv), av[i]? = some v → (k + i, cv ad v) ∈ lv_args k (av.map (cv ad))
  | [], _, _, _, h => by simp at h
  | w :: t, k, 0, v, h => by
    cases h
    exact List.mem_cons_self
  | w :: t, k, i + 1, v, h => by
    have h1 := lv_args_in ad t (k + 1) i v h
    have h2 : lv_args k ((w :: t).map (cv ad)) = (k, cv ad w) :: lv_args (k + 1) (t.map (cv ad)) := by
      show (_ :: lv_args (if (cv ad w).category = 2 then _ else _) _) = _
      rw [cv_cat]
      rfl
    rw [h2, show k + (i + 1) = k + 1 + i by omega]
    exact List.mem_cons_of_mem _ h1
theorem ent_at {av : List Vv} {lc ls : Int} {i : Nat} {v : Vv} (h : av[i]? = some v) : ent av lc ls i = v := by simp [ent, h]
theorem ent_no {av : List Vv} {lc ls : Int} {i : Nat} (h : av[i]? = none) (h1 : i < 1000) : ent av lc ls i = .inr none := by
  unfold ent
  rw [h]
  show (if i = 1000 then _ else _) = _
  rw [if_neg (by omega), if_neg (by omega)]
theorem ent_env {ad : Nat → Nat} {av : List Vv} {lc ls : Int} {nL : Nat} (hn : nL ≤ 1000) {sl : Array Slot} (h : lv_has sl nL (lv_args 0 (av.map (cv ad)))) : lv_has sl nL (envL ad (ent av lc ls) nL) := by
  refine ⟨h.1, h.2.1, fun q hq => h.2.2 q ?_⟩
  obtain ⟨j, hj, hq⟩ := List.mem_filterMap.mp hq
  obtain ⟨rfl, hne⟩ := envF_to hq
  have hj := List.mem_range.mp hj
  cases e : av[j]? with
  | none => exact absurd (ent_no e (by omega)) hne
  | some v =>
    rw [ent_at e]
    have := lv_args_in ad av 0 j v e
    rwa [Nat.zero_add] at this
theorem ent_lim {av : List Vv} {lc ls : Int} (h : av.length ≤ 1000) : limC (ent av lc ls) = lc.toNat ∧ limS (ent av lc ls) = ls.toNat := by
  have h1 : av[1000]? = none := List.getElem?_eq_none h
  have h2 : av[1001]? = none := List.getElem?_eq_none (by omega)
  simp [limC, limS, ent, h1, h2]
set_option maxHeartbeats 1000000 in
theorem met_coreI {y : MethodName} {cy : ByteArray} {maxL pe : Nat} {rt : FieldType} {rm : Room} {S : ST} (al : List (Nat × Nat)) (hy : plainName y.cls = true) (hmL : maxL ≤ 1000) (hal : al.length = rm.cells ∧ ssum al = rm.slots)
    (body : ∀ (Rt : Int → Mm → Prop) (G : Gt), Mach y.cls cy maxL y.name rm (some rt) 3 0 (fun _ => 0) Rt G → SAt G Rt 0 pe S)
    (l : Launch) (dC : Nat → ClassId) (dI : Nat → Nat → Nat) (cI cC cS : ClassId) (sA : Nat → Nat) (av : List Vv) (M : Mm) (ad : Nat → Nat) (sz : Nat) (Rt : Int → Mm → Prop)
    (hMM : MOK M) (hva : ∀ v ∈ av, vok M v) (hsA : ∀ t, ad (1000000 + t) = sA t) (hlen : av.length ≤ maxL) (lc ls : Int) (hlim : lc.toNat ≤ M.1.length + rm.cells ∧ ls.toNat ≤ ssum M.1 + rm.slots)
    (hSS : S (fun _ _ => False) (fun r M2 => M2.1 = M.1 ++ al ∧ Rt r M2) (ent av lc ls) M) :
    Met l y (.code y cy maxL (some rt) :: gtb) rm (PcM dC dI cI cC cS sA av M ad sz) (va_Qi (fun r32 u => ∃ r : Int, r32 = zI r ∧ PuM Rt rm sA M ad r u) (BM dC dI cI cC cS (va_A (wsOf cI cC cS ad M) sz)) (va_A (wsOf cI cC cS ad M) sz)) rm.cells rm.slots (va_A (wsOf cI cC cS ad M) sz) := by
  refine Met.ofW (cc := cy) (maxL := maxL) (ret := (some rt)) hy rfl ?_
  intro p e s m args below meth c s₁ B hml hv
  obtain ⟨rfl, hsz, hP, hK, hD0, hSt⟩ := hv
  have hx := B.exec
  have hb := B.bytes
  have hr := B.returns
  have hts := atoms_spec (ws := .code y cy maxL (some rt) :: gtb) B.pre
  have hown : s.vm.findClass y.cls = some m.cls := findClass_of_methodNamed B.named
  have hlocks := B.notSynchronized
  have hin : meth.name = y.name := (name_of_methodNamed B.named B.method).1
  subst hsz
  have hD := hD0.self (sz := s.heap.size)
  generalize hAe : va_A (wsOf cI cC cS ad M) s.heap.size = A at hD hSt ⊢
  have hA : ∀ q : Nat, s.heap.size ≤ q → A q := fun q h => by rw [← hAe]; exact Or.inr h
  have hl := lv_entry (av.map (cv ad)) (n := maxL) (by rw [lg_len]; exact hlen)
  rw [lg_entry_eq]
  generalize (lg_sl (av.map (cv ad)) ++ List.replicate (maxL - (lg_sl (av.map (cv ad))).length) Slot.unset).toArray = sl at hl ⊢
  obtain ⟨elc, els⟩ := ent_lim (av := av) (lc := lc) (ls := ls) (by omega)
  have hmach : Mach y.cls cy maxL y.name rm (some rt) 3 0 (fun _ => 0) (fun r M2 => M2.1 = M.1 ++ al ∧ Rt r M2) (Wp p l e rm s m (av.map (cv ad)).toArray below meth c dC dI cI cC cS sA A maxL M.1.length (ssum M.1) ad (MQ below (va_Qi (fun r32 u => ∃ r : Int, r32 = zI r ∧ PuM Rt rm sA M ad r u) (BM dC dI cI cC cS A) A) (av.map (cv ad)).toArray s rm.cells rm.slots A)) := by
    refine ⟨p, l, e, s, m, _, below, meth, c, dC, dI, cI, cC, cS, sA, A, M.1.length, ssum M.1, ad, _, ⟨hx, hb, hml, hown, fun w hw => hts w (List.mem_cons_of_mem _ hw), hK, hA, hSt, hin, hmL, ?_, ?_⟩, rfl⟩
    · intro rt2 pc x ρ M2 hrt hn hd hR ad2 H locs cells slots ls2 hpt
      cases hrt
      obtain ⟨⟨hP2, hD2, hS2⟩, ⟨hM2, -, -, hvs⟩, ⟨⟨hn0, had0⟩, hsA2⟩, hcn, hsn, hcl, hsl, -, -⟩ := hpt
      have hxr : inR x := hvs (.inl x) List.mem_cons_self
      have hl1 : M2.1.length = M.1.length + rm.cells := by rw [hR.1, List.length_append, hal.1]
      have hl2 : ssum M2.1 = ssum M.1 + rm.slots := by rw [hR.1, ssum_app, hal.2]
      refine W.widen (k := rm.cells) (n := rm.slots) hcl hsl ?_
      exact W.zret (v := zI x) hx hb hr hn (fun t ht hW => ⟨⟨zI x, (M2, ad2), rfl, ⟨x, rfl, hR.2, hxr, hM2, hl1, hl2, had0, hsA2⟩, by rw [ht]; exact hP2, va_K.moved hW.alike hK, hD2⟩, hS2.F ht⟩) hS2.2.2 hd
    · intro pc ρ M2 hrt
      cases hrt
  have hG := body _ _ hmach (fun _ _ => False) _ M hSS (fun _ _ h => h.elim)
  refine hG ad s.heap [] 0 0 sl ⟨⟨hP, hD, va_S.rf⟩, ⟨hMM, ent_env hmL hl, fun i hi => ?_, fun v hv => by cases hv⟩, ⟨⟨Nat.le_refl _, fun _ _ => rfl⟩, hsA⟩, rfl, rfl, Nat.zero_le _, Nat.zero_le _, by rw [elc]; exact hlim.1, by rw [els]; exact hlim.2⟩
  cases e2 : av[i]? with
  | none =>
    rw [ent_no e2 hi]
    trivial
  | some v =>
    rw [ent_at e2]
    exact hva v (List.mem_of_getElem? e2)
theorem MOkI_mk {y : MethodName} {cy : ByteArray} {maxL pe n : Nat} {rt : FieldType} {rm : Room} {S : ST} (al : List (Nat × Nat)) (hy : plainName y.cls = true) (hmL : maxL ≤ 1000) (hn : n ≤ maxL) (hal : al.length = rm.cells ∧ ssum al = rm.slots)
    (body : ∀ (Rt : Int → Mm → Prop) (G : Gt), Mach y.cls cy maxL y.name rm (some rt) 3 0 (fun _ => 0) Rt G → SAt G Rt 0 pe S) : MOkI y cy maxL rt rm (mkM n al S) := by
  intro l dC dI cI cC cS sA av M ad sz Rt hMM hva hsA hMe
  obtain ⟨hlen, hS⟩ := hMe
  exact met_coreI al hy hmL hal body l dC dI cI cC cS sA av M ad sz Rt hMM hva hsA (by omega) _ _ ⟨by rw [← hal.1]; omega, by rw [← hal.2]; omega⟩ hS
theorem MOkI_mk0 {y : MethodName} {cy : ByteArray} {maxL pe n : Nat} {rt : FieldType} {rm : Room} {S : ST} (hy : plainName y.cls = true) (hmL : maxL ≤ 1000) (hn : n ≤ maxL) (h0 : rm.cells = 0 ∧ rm.slots = 0)
    (body : ∀ (Rt : Int → Mm → Prop) (G : Gt), Mach y.cls cy maxL y.name rm (some rt) 3 0 (fun _ => 0) Rt G → SAt G Rt 0 pe S) : MOkI y cy maxL rt rm (mk0 n S) := by
  intro l dC dI cI cC cS sA av M ad sz Rt hMM hva hsA hMe
  obtain ⟨hlen, hS⟩ := hMe
  exact met_coreI [] hy hmL ⟨h0.1.symm, h0.2.symm⟩ body l dC dI cI cC cS sA av M ad sz Rt hMM hva hsA (by omega) 0 0 ⟨by omega, by omega⟩ (by simpa using hS)
set_option maxHeartbeats 1000000 in
theorem met_coreV {y : MethodName} {cy : ByteArray} {maxL pe : Nat} {rm : Room} {S : ST} (al : List (Nat × Nat)) (hy : plainName y.cls = true) (hmL : maxL ≤ 1000) (hal : al.length = rm.cells ∧ ssum al = rm.slots)
    (body : ∀ (Rt : Int → Mm → Prop) (G : Gt), Mach y.cls cy maxL y.name rm none 3 0 (fun _ => 0) Rt G → SAt G Rt 0 pe S)
    (l : Launch) (dC : Nat → ClassId) (dI : Nat → Nat → Nat) (cI cC cS : ClassId) (sA : Nat → Nat) (av : List Vv) (M : Mm) (ad : Nat → Nat) (sz : Nat) (Rt : Int → Mm → Prop)
    (hMM : MOK M) (hva : ∀ v ∈ av, vok M v) (hsA : ∀ t, ad (1000000 + t) = sA t) (hlen : av.length ≤ maxL) (lc ls : Int) (hlim : lc.toNat ≤ M.1.length + rm.cells ∧ ls.toNat ≤ ssum M.1 + rm.slots)
    (hSS : S (fun _ _ => False) (fun r M2 => M2.1 = M.1 ++ al ∧ Rt r M2) (ent av lc ls) M) :
    Met l y (.code y cy maxL none :: gtb) rm (PcM dC dI cI cC cS sA av M ad sz) (va_Qv (fun u => PuM Rt rm sA M ad 0 u) (BM dC dI cI cC cS (va_A (wsOf cI cC cS ad M) sz)) (va_A (wsOf cI cC cS ad M) sz)) rm.cells rm.slots (va_A (wsOf cI cC cS ad M) sz) := by
  refine Met.ofW (cc := cy) (maxL := maxL) (ret := none) hy rfl ?_
  intro p e s m args below meth c s₁ B hml hv
  obtain ⟨rfl, hsz, hP, hK, hD0, hSt⟩ := hv
  have hx := B.exec
  have hb := B.bytes
  have hr := B.returns
  have hts := atoms_spec (ws := .code y cy maxL none :: gtb) B.pre
  have hown : s.vm.findClass y.cls = some m.cls := findClass_of_methodNamed B.named
  have hlocks := B.notSynchronized
  have hin : meth.name = y.name := (name_of_methodNamed B.named B.method).1
  subst hsz
  have hD := hD0.self (sz := s.heap.size)
  generalize hAe : va_A (wsOf cI cC cS ad M) s.heap.size = A at hD hSt ⊢
  have hA : ∀ q : Nat, s.heap.size ≤ q → A q := fun q h => by rw [← hAe]; exact Or.inr h
  have hl := lv_entry (av.map (cv ad)) (n := maxL) (by rw [lg_len]; exact hlen)
  rw [lg_entry_eq]
  generalize (lg_sl (av.map (cv ad)) ++ List.replicate (maxL - (lg_sl (av.map (cv ad))).length) Slot.unset).toArray = sl at hl ⊢
  obtain ⟨elc, els⟩ := ent_lim (av := av) (lc := lc) (ls := ls) (by omega)
  have hmach : Mach y.cls cy maxL y.name rm none 3 0 (fun _ => 0) (fun r M2 => M2.1 = M.1 ++ al ∧ Rt r M2) (Wp p l e rm s m (av.map (cv ad)).toArray below meth c dC dI cI cC cS sA A maxL M.1.length (ssum M.1) ad (MQ below (va_Qv (fun u => PuM Rt rm sA M ad 0 u) (BM dC dI cI cC cS A) A) (av.map (cv ad)).toArray s rm.cells rm.slots A)) := by
    refine ⟨p, l, e, s, m, _, below, meth, c, dC, dI, cI, cC, cS, sA, A, M.1.length, ssum M.1, ad, _, ⟨hx, hb, hml, hown, fun w hw => hts w (List.mem_cons_of_mem _ hw), hK, hA, hSt, hin, hmL, ?_, ?_⟩, rfl⟩
    · intro rt pc x ρ M2 hrt
      cases hrt
    · intro pc ρ M2 hrt hd hR ad2 H locs cells slots ls2 hpt
      obtain ⟨⟨hP2, hD2, hS2⟩, ⟨hM2, -, -, hvs⟩, ⟨⟨hn0, had0⟩, hsA2⟩, hcn, hsn, hcl, hsl, -, -⟩ := hpt
      have hl1 : M2.1.length = M.1.length + rm.cells := by rw [hR.1, List.length_append, hal.1]
      have hl2 : ssum M2.1 = ssum M.1 + rm.slots := by rw [hR.1, ssum_app, hal.2]
      refine W.widen (k := rm.cells) (n := rm.slots) hcl hsl ?_
      exact W.vret hx hb hr (fun t ht hW => ⟨⟨(M2, ad2), rfl, ⟨hR.2, inR_0, hM2, hl1, hl2, had0, hsA2⟩, by rw [ht]; exact hP2, va_K.moved hW.alike hK, hD2⟩, hS2.F ht⟩) hS2.2.2 hd
  have hG := body _ _ hmach (fun _ _ => False) _ M hSS (fun _ _ h => h.elim)
  refine hG ad s.heap [] 0 0 sl ⟨⟨hP, hD, va_S.rf⟩, ⟨hMM, ent_env hmL hl, fun i hi => ?_, fun v hv => by cases hv⟩, ⟨⟨Nat.le_refl _, fun _ _ => rfl⟩, hsA⟩, rfl, rfl, Nat.zero_le _, Nat.zero_le _, by rw [elc]; exact hlim.1, by rw [els]; exact hlim.2⟩
  cases e2 : av[i]? with
  | none =>
    rw [ent_no e2 hi]
    trivial
  | some v =>
    rw [ent_at e2]
    exact hva v (List.mem_of_getElem? e2)
theorem MOkV_mk {y : MethodName} {cy : ByteArray} {maxL pe n : Nat} {rm : Room} {S : ST} (al : List (Nat × Nat)) (hy : plainName y.cls = true) (hmL : maxL ≤ 1000) (hn : n ≤ maxL) (hal : al.length = rm.cells ∧ ssum al = rm.slots)
    (body : ∀ (Rt : Int → Mm → Prop) (G : Gt), Mach y.cls cy maxL y.name rm none 3 0 (fun _ => 0) Rt G → SAt G Rt 0 pe S) : MOkV y cy maxL rm (mkM n al S) := by
  intro l dC dI cI cC cS sA av M ad sz Rt hMM hva hsA hMe
  obtain ⟨hlen, hS⟩ := hMe
  exact met_coreV al hy hmL hal body l dC dI cI cC cS sA av M ad sz Rt hMM hva hsA (by omega) _ _ ⟨by rw [← hal.1]; omega, by rw [← hal.2]; omega⟩ hS
theorem MOkV_mk0 {y : MethodName} {cy : ByteArray} {maxL pe n : Nat} {rm : Room} {S : ST} (hy : plainName y.cls = true) (hmL : maxL ≤ 1000) (hn : n ≤ maxL) (h0 : rm.cells = 0 ∧ rm.slots = 0)
    (body : ∀ (Rt : Int → Mm → Prop) (G : Gt), Mach y.cls cy maxL y.name rm none 3 0 (fun _ => 0) Rt G → SAt G Rt 0 pe S) : MOkV y cy maxL rm (mk0 n S) := by
  intro l dC dI cI cC cS sA av M ad sz Rt hMM hva hsA hMe
  obtain ⟨hlen, hS⟩ := hMe
  exact met_coreV [] hy hmL ⟨h0.1.symm, h0.2.symm⟩ body l dC dI cI cC cS sA av M ad sz Rt hMM hva hsA (by omega) 0 0 ⟨by omega, by omega⟩ (by simpa using hS)
