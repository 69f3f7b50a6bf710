/-! ===== statements, expressions, methods: their meaning ===== -/
abbrev IE : Type := (Int → Mm → Prop) → En → Mm → Prop
abbrev RE : Type := (Option Nat → Mm → Prop) → En → Mm → Prop
abbrev CE : Type := (Mm → Prop) → (Mm → Prop) → En → Mm → Prop
abbrev ST : Type := (En → Mm → Prop) → (Int → Mm → Prop) → En → Mm → Prop
abbrev AE : Type := (List Vv → Mm → Prop) → En → Mm → Prop
abbrev Mt : Type := List Vv → (Int → Mm → Prop) → Mm → Prop
def PcM (dC : Nat → ClassId) (dI : Nat → Nat → Nat) (cI cC cS : ClassId) (sA : Nat → Nat) (av : List Vv) (M : Mm) (ad : Nat → Nat) (sz : Nat) : Array Value → State → Prop :=
  va_Pc (av.map (cv ad)) (fun U => U.heap.size = sz ∧ va_P (dC, dI) vwCl (wsOf cI cC cS ad M) U.heap ∧ va_K (dC, dI) vwCl (tysOf cI cC cS) U ∧ va_D (fun _ => True) (wsOf cI cC cS ad M) ∧ StOK 3 0 (fun _ => 0) sA (va_A (wsOf cI cC cS ad M) sz) U U.heap)
def PuM (Rt : Int → Mm → Prop) (rm : Room) (sA : Nat → Nat) (M : Mm) (ad : Nat → Nat) (r : Int) (u : Mm × (Nat → Nat)) : Prop :=
  Rt r u.1 ∧ inR r ∧ MOK u.1 ∧ u.1.1.length = M.1.length + rm.cells ∧ ssum u.1.1 = ssum M.1 + rm.slots ∧ (∀ k, k < M.1.length → u.2 k = ad k) ∧ ∀ t, u.2 (1000000 + t) = sA t
def BM (dC : Nat → ClassId) (dI : Nat → Nat → Nat) (cI cC cS : ClassId) (A : Nat → Prop) (u : Mm × (Nat → Nat)) (t : State) : Prop :=
  va_P (dC, dI) vwCl (wsOf cI cC cS u.2 u.1) t.heap ∧ va_K (dC, dI) vwCl (tysOf cI cC cS) t ∧ va_D A (wsOf cI cC cS u.2 u.1)
/-- the contract of a method with an int for an answer -/
def MOkI (y : MethodName) (cy : ByteArray) (maxL : Nat) (rt : FieldType) (rm : Room) (Me : Mt) : Prop :=
  ∀ (l : Launch) (dC : Nat → ClassId) (dI : Nat → Nat → Nat) (cI cC cS : ClassId) (sA : Nat → Nat) (av : List Vv) (M : Mm) (ad : Nat → Nat) (sz : Nat) (Rt : Int → Mm → Prop),
    MOK M → (∀ v ∈ av, vok M v) → (∀ t, ad (1000000 + t) = sA t) → Me av Rt M →
    Met l y (.code y cy maxL (some rt) :: gtb) rm (PcM dC dI cI cC cS sA av M ad sz) (va_Qi (fun r32 u => ∃ r : Int, r32 = zI r ∧ PuM Rt rm sA M ad r u) (BM dC dI cI cC cS (va_A (wsOf cI cC cS ad M) sz)) (va_A (wsOf cI cC cS ad M) sz)) rm.cells rm.slots (va_A (wsOf cI cC cS ad M) sz)
/-- .. with none -/
def MOkV (y : MethodName) (cy : ByteArray) (maxL : Nat) (rm : Room) (Me : Mt) : Prop :=
  ∀ (l : Launch) (dC : Nat → ClassId) (dI : Nat → Nat → Nat) (cI cC cS : ClassId) (sA : Nat → Nat) (av : List Vv) (M : Mm) (ad : Nat → Nat) (sz : Nat) (Rt : Int → Mm → Prop),
    MOK M → (∀ v ∈ av, vok M v) → (∀ t, ad (1000000 + t) = sA t) → Me av Rt M →
    Met l y (.code y cy maxL none :: gtb) rm (PcM dC dI cI cC cS sA av M ad sz) (va_Qv (fun u => PuM Rt rm sA M ad 0 u) (BM dC dI cI cC cS (va_A (wsOf cI cC cS ad M) sz)) (va_A (wsOf cI cC cS ad M) sz)) rm.cells rm.slots (va_A (wsOf cI cC cS ad M) sz)
theorem StOK.to {nt L : Nat} {xs : Nat → Int} {sA : Nat → Nat} {A B : Nat → Prop} {s U : State} {H0 H : Heap} (h : StOK nt L xs sA A s H0) (hW : s.WarmedH U.vm) (hk : ∀ a : Nat, a < H0.size → ¬ A a → H[a]? = H0[a]?) (hz : H0.size ≤ H.size) (hAB : ∀ q, B q → A q) : StOK 3 0 (fun _ => 0) sA B U H := by
  obtain ⟨h1, h2, h3, h4, h5, h6⟩ := h
  have hal := hW.alike
  refine ⟨Nat.le_refl 3, fun t ht => ?_, fun t j => ?_, fun t ht => ?_, h5.moved hal, fun w hw => nest_mv (List.mem_filter.mp hw).2 hW (h6 w hw)⟩
  · obtain ⟨q1, q2, q3⟩ := h2 t (by omega)
    refine ⟨?_, by omega, fun h => q3 (hAB _ h)⟩
    have q4 := (q1.kept (hk (sA t) q2 q3)).moved hal
    simp only [tLn, tVl, ht, if_true] at q4 ⊢
    exact q4
  · by_cases ht : t < 3
    · have := h3 t j
      simp only [tVl, ht, if_true] at this ⊢
      exact this
    · simp only [tVl, ht, if_false]
      exact inR_0
  · exact (((h4 t ht).kept hk).narrow hAB).moved hal
theorem blind (dC : Nat → ClassId) (dI : Nat → Nat → Nat) (cI cC cS : ClassId) (sA : Nat → Nat) (av : List Vv) (M : Mm) (ad : Nat → Nat) (sz : Nat) : FrameBlind (PcM dC dI cI cC cS sA av M ad sz) := fun a U g mk q => by
  obtain ⟨q0, q1, qP, qK, qD, q2, q3, q4, q5, q6, q7⟩ := q
  exact ⟨q0, q1, qP, va_K.moved (u := U) (U := U.calling g mk a) (Vm.Alike.refl U.vm) qK, qD, q2, fun t ht => ⟨(q3 t ht).1.moved (Vm.Alike.refl U.vm), (q3 t ht).2⟩, q4, fun t ht => (q5 t ht).moved (Vm.Alike.refl U.vm), q6.moved (u := U) (U := U.calling g mk a) (Vm.Alike.refl U.vm), fun w hw => va_Nw.same (nest_on (List.mem_filter.mp hw).2) (u := U) (U := U.calling g mk a) rfl (q7 w hw)⟩
theorem cv_ext {M : Mm} {ad ad' : Nat → Nat} {sA : Nat → Nat} (h1 : ∀ k, k < M.1.length → ad' k = ad k) (h2 : ∀ t, ad (1000000 + t) = sA t) (h3 : ∀ t, ad' (1000000 + t) = sA t) {v : Vv} (hv : vok M v) : cv ad' v = cv ad v := by
  rcases v with z | _ | k
  · rfl
  · rfl
  · rcases hv with h | h
    · show Value.ref (ad' k) = Value.ref (ad k)
      rw [h1 k h]
    · obtain ⟨t, rfl⟩ := Nat.exists_eq_add_of_le h.1
      show Value.ref (ad' _) = Value.ref (ad _)
      rw [h2, h3]
theorem vok_mono {M M' : Mm} (h : M.1.length ≤ M'.1.length) {v : Vv} (hv : vok M v) : vok M' v := by
  rcases v with z | _ | k
  · exact hv
  · trivial
  · rcases hv with q | q
    · exact Or.inl (Nat.lt_of_lt_of_le q h)
    · exact Or.inr q
theorem cat_sum (ad : Nat → Nat) (sv : List Vv) : ((sv.map (cv ad)).map fun v => v.category).sum = sv.length := by
  induction sv with
  | nil => rfl
  | cons v t ih => simp only [List.map_cons, List.sum_cons, List.length_cons, cv_cat, ih]; omega
/-! ===== what the tables say of a call ===== -/
def yok (y : MethodName) (n : Nat) : Prop := y.cls ≠ "java/lang/invoke/MethodHandle" ∧ y.cls ≠ "java/lang/invoke/VarHandle" ∧ (parseMethodDescriptor y.desc).map (fun d => d.parameters.length) = some n
def CkV (own : String) (idx : Nat) (y : MethodName) (cy : ByteArray) (maxL : Nat) (ret : Option FieldType) (n : Nat) : Prop := (∀ w ∈ ([.methodLink own idx y, .instanceMethod y, .selects y.cls y y, .initialized y.cls, .code y cy maxL ret] : List Cond), w ∈ gtb) ∧ yok y n
def CkS (own : String) (idx : Nat) (y : MethodName) (cy : ByteArray) (maxL : Nat) (ret : Option FieldType) (n : Nat) : Prop := (∀ w ∈ ([.methodLink own idx y, .static y, .initialized own, .code y cy maxL ret] : List Cond), w ∈ gtb) ∧ y.cls = own ∧ yok y n
def CkN (own : String) (idx : Nat) (host : String) (y : MethodName) (cy : ByteArray) (maxL : Nat) (ret : Option FieldType) (n : Nat) : Prop := (∀ w ∈ ([.static y, .initialized y.cls, .code y cy maxL ret] : List Cond), w ∈ gtb) ∧ yok y n ∧ Cond.methodLinkNest own idx y host ∈ nestW
def CkI (own : String) (idx : Nat) (y : MethodName) (cy : ByteArray) (maxL : Nat) (n : Nat) : Prop := (∀ w ∈ ([.methodLink own idx y, .instanceMethod y, .initialized y.cls, .code y cy maxL none] : List Cond), w ∈ gtb) ∧ y.name = "<init>" ∧ yok y n
def CkIN (own : String) (idx : Nat) (host : String) (y : MethodName) (cy : ByteArray) (maxL : Nat) (n : Nat) : Prop := (∀ w ∈ ([.instanceMethod y, .initialized y.cls, .code y cy maxL none] : List Cond), w ∈ gtb) ∧ y.name = "<init>" ∧ yok y n ∧ Cond.methodLinkNest own idx y host ∈ nestW
theorem code_in {y : MethodName} {cy : ByteArray} {maxL : Nat} {ret : Option FieldType} (h : Cond.code y cy maxL ret ∈ gtb) : ∀ w ∈ (Cond.code y cy maxL ret :: gtb), w ∈ gtb := List.forall_mem_cons.mpr ⟨h, fun _ h => h⟩
def Rok (rm R : Room) (maxL : Nat) : Prop := rm.frames + 1 ≤ R.frames ∧ 8 + (maxL + 11) + rm.locals ≤ R.locals
section RULES
variable {own : String} {cc : ByteArray} {nL : Nat} {mn : String} {R : Room} {ret : Option FieldType} {nt L : Nat} {xs : Nat → Int} {Rt : Int → Mm → Prop} {G : Gt} {pc : Nat} {sv : List Vv} {ρ : En} {M : Mm}
theorem G_callVI (hG : Mach own cc nL mn R ret nt L xs Rt G) {idx n maxL : Nat} {y : MethodName} {cy : ByteArray} {rt : FieldType} {rm : Room} {Me : Mt} {av : List Vv} (hM : MOkI y cy maxL rt rm Me) (hR : Rok rm R maxL) (hlen0 : av.length = n + 1) (hsv : sv.length ≤ 8) (hdg : decode cc pc = .ok (.invokevirtual idx, 3)) (hk : CkV own idx y cy maxL (some rt) n) (h0 : rm.cells = 0 ∧ rm.slots = 0) {q ci w : Nat} {T : u_T} {N : Nat} (hci : ci < 8) (hcl0 : vwCl[ci]? = some (y.cls, T, N)) (hq0 : av[0]? = some (.inr (some q))) (hsh : M.1[q]? = some (ci, w)) {K : Int → Mm → Prop} (hMe : Me av K M) (k : ∀ r M2, K r M2 → G (pc + 3) (.inl r :: sv) ρ M2) : G pc (av.reverse ++ sv) ρ M := by
  obtain ⟨p, l, e, s, m, args, below, meth, c, dC, dI, cI, cC, cS, sA, A, n0, S0, ad0, Q, ⟨hx, hb, hml, hown, hts, hK, hA, hSt, hmn, hnL, hRI, hRV⟩, rfl⟩ := hG
  intro ad H locs cells slots ls hpt
  obtain ⟨⟨hP, hD, hS⟩, ⟨hM0, hl, hvr, hvs⟩, ⟨⟨hn0, had0⟩, hsA⟩, hcn, hsn, hcl, hsl, hlc, hls⟩ := hpt
  have hFc : ∀ q, va_A (wsOf cI cC cS ad M) H.size q → A q := fun q h => by
    rcases h with ⟨k, e0, h⟩ | h
    · exact hD.2 k (q, e0) h
    · exact hA q (Nat.le_trans hS.1 h)
  have hva : ∀ v ∈ av, vok M v := fun v hv => hvs v (List.mem_append_left _ (List.mem_reverse.mpr hv))
  have hvt : ∀ v ∈ sv, vok M v := fun v hv => hvs v (List.mem_append_right _ hv)
  have hpre : ∀ U : State, U.heap = H → s.WarmedH U.vm → PcM dC dI cI cC cS sA av M ad H.size ((av.map (cv ad)).toArray) U := fun U hU hW =>
    ⟨rfl, by rw [hU], by rw [hU]; exact hP, va_K.moved hW.alike hK, hD.weaken (fun _ _ _ _ => trivial), by rw [hU]; exact hSt.to hW (fun a h1 h2 => hS.2.1 a h1 h2) hS.1 hFc⟩
  have hMet := hM l dC dI cI cC cS sA av M ad H.size _ hM0 hva hsA hMe
  have he := ws_get (cI := cI) (cC := cC) (cS := cS) (ad := ad) hsh
  rw [cell_ob hci] at he
  obtain ⟨v0, as, rfl⟩ : ∃ v0 as, av = v0 :: as := by
    cases av with
    | nil => simp at hlen0
    | cons v0 as => exact ⟨v0, as, rfl⟩
  obtain rfl : v0 = .inr (some q) := by simpa using hq0
  rw [show (((Sum.inr (some q) :: as).reverse ++ sv).map (cv ad)) = ((as.map (cv ad)).reverse ++ .ref (ad q) :: sv.map (cv ad)) by simp [cv]]
  refine va_calli (va_runV (As := as.map (cv ad)) (rest := sv.map (cv ad)) ⟨hx, hb, hml, hown, hts⟩ hMet (cwV n hts (good_sub (fun w hw => by
    rcases List.mem_append.mp hw with h | h
    · exact hk.1 w (List.mem_append_left [Cond.code y cy maxL (some rt)] h)
    · exact code_in (hk.1 _ (by simp)) w h)) rfl rfl rfl ⟨rfl, hk.2⟩ hR) ⟨blind _ _ _ _ _ _ _ _ _ _, va_recv hK hP hcl0 he, fun U hU hW => hpre U hU hW⟩ rfl (by simpa using hlen0) hl.1 rfl (lv_room (by rw [cat_sum]; exact hsv)) hdg ⟨by rw [h0.1]; omega, by rw [h0.2]; omega⟩) hS (fun q _ h => hFc q h) hFc (fun r32 u t H1 locs1 ht hvm hpost hB hz1 hk1 hS1 => ?_)
  obtain ⟨r, hr, hRt, hrr, hMOK, hlen, hssum, had, hsA2⟩ := hpost
  obtain ⟨hP1, hK1, hD1⟩ := hB
  rw [ht] at hP1
  subst hr
  have hkk := k r u.1 hRt u.2 H1 locs1 (cells + rm.cells) (slots + rm.slots) ls ⟨⟨hP1, hD1.weaken (fun _ _ _ h => hFc _ h), hS1⟩, ⟨hMOK, env_ext hl (fun i hi => cv_ext had hsA hsA2 (hvr i (by omega))), fun i hi => vok_mono (by omega) (hvr i hi), List.forall_mem_cons.mpr ⟨hrr, fun v hv => vok_mono (by omega) (hvt v hv)⟩⟩, ⟨⟨by omega, fun k hk => (had k (by omega)).trans (had0 k hk)⟩, hsA2⟩, by omega, by omega, by omega, by omega, hlc, hls⟩
  have hsvm : sv.map (cv u.2) = sv.map (cv ad) := List.map_congr_left (fun v hv => cv_ext had hsA hsA2 (hvt v hv))
  rw [List.map_cons, hsvm] at hkk
  exact hkk
theorem G_callSI (hG : Mach own cc nL mn R ret nt L xs Rt G) {idx n maxL : Nat} {y : MethodName} {cy : ByteArray} {rt : FieldType} {rm : Room} {Me : Mt} {av : List Vv} (hM : MOkI y cy maxL rt rm Me) (hR : Rok rm R maxL) (hlen0 : av.length = n) (hsv : sv.length ≤ 8) (hdg : decode cc pc = .ok (.invokestatic idx, 3)) (hk : CkS own idx y cy maxL (some rt) n) (h0 : rm.cells = 0 ∧ rm.slots = 0) {K : Int → Mm → Prop} (hMe : Me av K M) (k : ∀ r M2, K r M2 → G (pc + 3) (.inl r :: sv) ρ M2) : G pc (av.reverse ++ sv) ρ M := by
  obtain ⟨p, l, e, s, m, args, below, meth, c, dC, dI, cI, cC, cS, sA, A, n0, S0, ad0, Q, ⟨hx, hb, hml, hown, hts, hK, hA, hSt, hmn, hnL, hRI, hRV⟩, rfl⟩ := hG
  intro ad H locs cells slots ls hpt
  obtain ⟨⟨hP, hD, hS⟩, ⟨hM0, hl, hvr, hvs⟩, ⟨⟨hn0, had0⟩, hsA⟩, hcn, hsn, hcl, hsl, hlc, hls⟩ := hpt
  have hFc : ∀ q, va_A (wsOf cI cC cS ad M) H.size q → A q := fun q h => by
    rcases h with ⟨k, e0, h⟩ | h
    · exact hD.2 k (q, e0) h
    · exact hA q (Nat.le_trans hS.1 h)
  have hva : ∀ v ∈ av, vok M v := fun v hv => hvs v (List.mem_append_left _ (List.mem_reverse.mpr hv))
  have hvt : ∀ v ∈ sv, vok M v := fun v hv => hvs v (List.mem_append_right _ hv)
  have hpre : ∀ U : State, U.heap = H → s.WarmedH U.vm → PcM dC dI cI cC cS sA av M ad H.size ((av.map (cv ad)).toArray) U := fun U hU hW =>
    ⟨rfl, by rw [hU], by rw [hU]; exact hP, va_K.moved hW.alike hK, hD.weaken (fun _ _ _ _ => trivial), by rw [hU]; exact hSt.to hW (fun a h1 h2 => hS.2.1 a h1 h2) hS.1 hFc⟩
  have hMet := hM l dC dI cI cC cS sA av M ad H.size _ hM0 hva hsA hMe
  rw [show ((av.reverse ++ sv).map (cv ad)) = ((av.map (cv ad)).reverse ++ sv.map (cv ad)) by simp]
  refine va_calli (va_runS (As := av.map (cv ad)) (rest := sv.map (cv ad)) ⟨hx, hb, hml, hown, hts⟩ hMet (cwS n hts (good_sub (fun w hw => by
    rcases List.mem_append.mp hw with h | h
    · exact hk.1 w (List.mem_append_left [Cond.code y cy maxL (some rt)] h)
    · exact code_in (hk.1 _ (by simp)) w h)) rfl rfl rfl hk.2 hR) ⟨blind _ _ _ _ _ _ _ _ _ _, fun U hU hW => hpre U hU hW⟩ rfl (by simpa using hlen0) hl.1 rfl (lv_room (by rw [cat_sum]; exact hsv)) hdg ⟨by rw [h0.1]; omega, by rw [h0.2]; omega⟩) hS (fun q _ h => hFc q h) hFc (fun r32 u t H1 locs1 ht hvm hpost hB hz1 hk1 hS1 => ?_)
  obtain ⟨r, hr, hRt, hrr, hMOK, hlen, hssum, had, hsA2⟩ := hpost
  obtain ⟨hP1, hK1, hD1⟩ := hB
  rw [ht] at hP1
  subst hr
  have hkk := k r u.1 hRt u.2 H1 locs1 (cells + rm.cells) (slots + rm.slots) ls ⟨⟨hP1, hD1.weaken (fun _ _ _ h => hFc _ h), hS1⟩, ⟨hMOK, env_ext hl (fun i hi => cv_ext had hsA hsA2 (hvr i (by omega))), fun i hi => vok_mono (by omega) (hvr i hi), List.forall_mem_cons.mpr ⟨hrr, fun v hv => vok_mono (by omega) (hvt v hv)⟩⟩, ⟨⟨by omega, fun k hk => (had k (by omega)).trans (had0 k hk)⟩, hsA2⟩, by omega, by omega, by omega, by omega, hlc, hls⟩
  have hsvm : sv.map (cv u.2) = sv.map (cv ad) := List.map_congr_left (fun v hv => cv_ext had hsA hsA2 (hvt v hv))
  rw [List.map_cons, hsvm] at hkk
  exact hkk
theorem G_callNI (hG : Mach own cc nL mn R ret nt L xs Rt G) {idx n maxL : Nat} {y : MethodName} {cy : ByteArray} {rt : FieldType} {rm : Room} {Me : Mt} {av : List Vv} (hM : MOkI y cy maxL rt rm Me) (hR : Rok rm R maxL) (hlen0 : av.length = n) (hsv : sv.length ≤ 8) (hdg : decode cc pc = .ok (.invokestatic idx, 3)) {host : String} (hk : CkN own idx host y cy maxL (some rt) n) (h0 : rm.cells = 0 ∧ rm.slots = 0) {K : Int → Mm → Prop} (hMe : Me av K M) (k : ∀ r M2, K r M2 → G (pc + 3) (.inl r :: sv) ρ M2) : G pc (av.reverse ++ sv) ρ M := by
  obtain ⟨p, l, e, s, m, args, below, meth, c, dC, dI, cI, cC, cS, sA, A, n0, S0, ad0, Q, ⟨hx, hb, hml, hown, hts, hK, hA, hSt, hmn, hnL, hRI, hRV⟩, rfl⟩ := hG
  intro ad H locs cells slots ls hpt
  obtain ⟨⟨hP, hD, hS⟩, ⟨hM0, hl, hvr, hvs⟩, ⟨⟨hn0, had0⟩, hsA⟩, hcn, hsn, hcl, hsl, hlc, hls⟩ := hpt
  have hFc : ∀ q, va_A (wsOf cI cC cS ad M) H.size q → A q := fun q h => by
    rcases h with ⟨k, e0, h⟩ | h
    · exact hD.2 k (q, e0) h
    · exact hA q (Nat.le_trans hS.1 h)
  have hva : ∀ v ∈ av, vok M v := fun v hv => hvs v (List.mem_append_left _ (List.mem_reverse.mpr hv))
  have hvt : ∀ v ∈ sv, vok M v := fun v hv => hvs v (List.mem_append_right _ hv)
  have hpre : ∀ U : State, U.heap = H → s.WarmedH U.vm → PcM dC dI cI cC cS sA av M ad H.size ((av.map (cv ad)).toArray) U := fun U hU hW =>
    ⟨rfl, by rw [hU], by rw [hU]; exact hP, va_K.moved hW.alike hK, hD.weaken (fun _ _ _ _ => trivial), by rw [hU]; exact hSt.to hW (fun a h1 h2 => hS.2.1 a h1 h2) hS.1 hFc⟩
  have hMet := hM l dC dI cI cC cS sA av M ad H.size _ hM0 hva hsA hMe
  rw [show ((av.reverse ++ sv).map (cv ad)) = ((av.map (cv ad)).reverse ++ sv.map (cv ad)) by simp]
  refine va_calli (va_runSN (As := av.map (cv ad)) (rest := sv.map (cv ad)) ⟨hx, hb, hml, hown, hts⟩ hMet ⟨va_cnB (host := host) n hts (good_sub (code_in (hk.1 _ (by simp)))) rfl rfl rfl (hSt.2.2.2.2.2 _ hk.2.2) (hts _ (hk.1 _ (by simp))) hk.2.1 hR, hts _ (hk.1 _ (by simp)), trivial⟩ ⟨blind _ _ _ _ _ _ _ _ _ _, fun U hU hW => hpre U hU hW⟩ rfl (by simpa using hlen0) hl.1 rfl (lv_room (by rw [cat_sum]; exact hsv)) hdg ⟨by rw [h0.1]; omega, by rw [h0.2]; omega⟩) hS (fun q _ h => hFc q h) hFc (fun r32 u t H1 locs1 ht hvm hpost hB hz1 hk1 hS1 => ?_)
  obtain ⟨r, hr, hRt, hrr, hMOK, hlen, hssum, had, hsA2⟩ := hpost
  obtain ⟨hP1, hK1, hD1⟩ := hB
  rw [ht] at hP1
  subst hr
  have hkk := k r u.1 hRt u.2 H1 locs1 (cells + rm.cells) (slots + rm.slots) ls ⟨⟨hP1, hD1.weaken (fun _ _ _ h => hFc _ h), hS1⟩, ⟨hMOK, env_ext hl (fun i hi => cv_ext had hsA hsA2 (hvr i (by omega))), fun i hi => vok_mono (by omega) (hvr i hi), List.forall_mem_cons.mpr ⟨hrr, fun v hv => vok_mono (by omega) (hvt v hv)⟩⟩, ⟨⟨by omega, fun k hk => (had k (by omega)).trans (had0 k hk)⟩, hsA2⟩, by omega, by omega, by omega, by omega, hlc, hls⟩
  have hsvm : sv.map (cv u.2) = sv.map (cv ad) := List.map_congr_left (fun v hv => cv_ext had hsA hsA2 (hvt v hv))
  rw [List.map_cons, hsvm] at hkk
  exact hkk
theorem G_callVV (hG : Mach own cc nL mn R ret nt L xs Rt G) {idx n maxL : Nat} {y : MethodName} {cy : ByteArray} {rm : Room} {Me : Mt} {av : List Vv} (hM : MOkV y cy maxL rm Me) (hR : Rok rm R maxL) (hlen0 : av.length = n + 1) (hsv : sv.length ≤ 8) (hdg : decode cc pc = .ok (.invokevirtual idx, 3)) (hk : CkV own idx y cy maxL none n) (h0 : rm.cells = 0 ∧ rm.slots = 0) {q ci w : Nat} {T : u_T} {N : Nat} (hci : ci < 8) (hcl0 : vwCl[ci]? = some (y.cls, T, N)) (hq0 : av[0]? = some (.inr (some q))) (hsh : M.1[q]? = some (ci, w)) {K : Int → Mm → Prop} (hMe : Me av K M) (k : ∀ r M2, K r M2 → G (pc + 3) (sv) ρ M2) : G pc (av.reverse ++ sv) ρ M := by
  obtain ⟨p, l, e, s, m, args, below, meth, c, dC, dI, cI, cC, cS, sA, A, n0, S0, ad0, Q, ⟨hx, hb, hml, hown, hts, hK, hA, hSt, hmn, hnL, hRI, hRV⟩, rfl⟩ := hG
  intro ad H locs cells slots ls hpt
  obtain ⟨⟨hP, hD, hS⟩, ⟨hM0, hl, hvr, hvs⟩, ⟨⟨hn0, had0⟩, hsA⟩, hcn, hsn, hcl, hsl, hlc, hls⟩ := hpt
  have hFc : ∀ q, va_A (wsOf cI cC cS ad M) H.size q → A q := fun q h => by
    rcases h with ⟨k, e0, h⟩ | h
    · exact hD.2 k (q, e0) h
    · exact hA q (Nat.le_trans hS.1 h)
  have hva : ∀ v ∈ av, vok M v := fun v hv => hvs v (List.mem_append_left _ (List.mem_reverse.mpr hv))
  have hvt : ∀ v ∈ sv, vok M v := fun v hv => hvs v (List.mem_append_right _ hv)
  have hpre : ∀ U : State, U.heap = H → s.WarmedH U.vm → PcM dC dI cI cC cS sA av M ad H.size ((av.map (cv ad)).toArray) U := fun U hU hW =>
    ⟨rfl, by rw [hU], by rw [hU]; exact hP, va_K.moved hW.alike hK, hD.weaken (fun _ _ _ _ => trivial), by rw [hU]; exact hSt.to hW (fun a h1 h2 => hS.2.1 a h1 h2) hS.1 hFc⟩
  have hMet := hM l dC dI cI cC cS sA av M ad H.size _ hM0 hva hsA hMe
  have he := ws_get (cI := cI) (cC := cC) (cS := cS) (ad := ad) hsh
  rw [cell_ob hci] at he
  obtain ⟨v0, as, rfl⟩ : ∃ v0 as, av = v0 :: as := by
    cases av with
    | nil => simp at hlen0
    | cons v0 as => exact ⟨v0, as, rfl⟩
  obtain rfl : v0 = .inr (some q) := by simpa using hq0
  rw [show (((Sum.inr (some q) :: as).reverse ++ sv).map (cv ad)) = ((as.map (cv ad)).reverse ++ .ref (ad q) :: sv.map (cv ad)) by simp [cv]]
  refine va_callv (va_runV (As := as.map (cv ad)) (rest := sv.map (cv ad)) ⟨hx, hb, hml, hown, hts⟩ hMet (cwV n hts (good_sub (fun w hw => by
    rcases List.mem_append.mp hw with h | h
    · exact hk.1 w (List.mem_append_left [Cond.code y cy maxL none] h)
    · exact code_in (hk.1 _ (by simp)) w h)) rfl rfl rfl ⟨rfl, hk.2⟩ hR) ⟨blind _ _ _ _ _ _ _ _ _ _, va_recv hK hP hcl0 he, fun U hU hW => hpre U hU hW⟩ rfl (by simpa using hlen0) hl.1 rfl (lv_room (by rw [cat_sum]; exact hsv)) hdg ⟨by rw [h0.1]; omega, by rw [h0.2]; omega⟩) hS (fun q _ h => hFc q h) hFc (fun u t H1 locs1 ht hvm hpost hB hz1 hk1 hS1 => ?_)
  obtain ⟨hRt, hrr, hMOK, hlen, hssum, had, hsA2⟩ := hpost
  obtain ⟨hP1, hK1, hD1⟩ := hB
  rw [ht] at hP1
  have hkk := k 0 u.1 hRt u.2 H1 locs1 (cells + rm.cells) (slots + rm.slots) ls ⟨⟨hP1, hD1.weaken (fun _ _ _ h => hFc _ h), hS1⟩, ⟨hMOK, env_ext hl (fun i hi => cv_ext had hsA hsA2 (hvr i (by omega))), fun i hi => vok_mono (by omega) (hvr i hi), (fun v hv => vok_mono (by omega) (hvt v hv))⟩, ⟨⟨by omega, fun k hk => (had k (by omega)).trans (had0 k hk)⟩, hsA2⟩, by omega, by omega, by omega, by omega, hlc, hls⟩
  have hsvm : sv.map (cv u.2) = sv.map (cv ad) := List.map_congr_left (fun v hv => cv_ext had hsA hsA2 (hvt v hv))
  rw [hsvm] at hkk
  exact hkk
theorem G_callSV (hG : Mach own cc nL mn R ret nt L xs Rt G) {idx n maxL : Nat} {y : MethodName} {cy : ByteArray} {rm : Room} {Me : Mt} {av : List Vv} (hM : MOkV y cy maxL rm Me) (hR : Rok rm R maxL) (hlen0 : av.length = n) (hsv : sv.length ≤ 8) (hdg : decode cc pc = .ok (.invokestatic idx, 3)) (hk : CkS own idx y cy maxL none n) (h0 : rm.cells = 0 ∧ rm.slots = 0) {K : Int → Mm → Prop} (hMe : Me av K M) (k : ∀ r M2, K r M2 → G (pc + 3) (sv) ρ M2) : G pc (av.reverse ++ sv) ρ M := by
  obtain ⟨p, l, e, s, m, args, below, meth, c, dC, dI, cI, cC, cS, sA, A, n0, S0, ad0, Q, ⟨hx, hb, hml, hown, hts, hK, hA, hSt, hmn, hnL, hRI, hRV⟩, rfl⟩ := hG
  intro ad H locs cells slots ls hpt
  obtain ⟨⟨hP, hD, hS⟩, ⟨hM0, hl, hvr, hvs⟩, ⟨⟨hn0, had0⟩, hsA⟩, hcn, hsn, hcl, hsl, hlc, hls⟩ := hpt
  have hFc : ∀ q, va_A (wsOf cI cC cS ad M) H.size q → A q := fun q h => by
    rcases h with ⟨k, e0, h⟩ | h
    · exact hD.2 k (q, e0) h
    · exact hA q (Nat.le_trans hS.1 h)
  have hva : ∀ v ∈ av, vok M v := fun v hv => hvs v (List.mem_append_left _ (List.mem_reverse.mpr hv))
  have hvt : ∀ v ∈ sv, vok M v := fun v hv => hvs v (List.mem_append_right _ hv)
  have hpre : ∀ U : State, U.heap = H → s.WarmedH U.vm → PcM dC dI cI cC cS sA av M ad H.size ((av.map (cv ad)).toArray) U := fun U hU hW =>
    ⟨rfl, by rw [hU], by rw [hU]; exact hP, va_K.moved hW.alike hK, hD.weaken (fun _ _ _ _ => trivial), by rw [hU]; exact hSt.to hW (fun a h1 h2 => hS.2.1 a h1 h2) hS.1 hFc⟩
  have hMet := hM l dC dI cI cC cS sA av M ad H.size _ hM0 hva hsA hMe
  rw [show ((av.reverse ++ sv).map (cv ad)) = ((av.map (cv ad)).reverse ++ sv.map (cv ad)) by simp]
  refine va_callv (va_runS (As := av.map (cv ad)) (rest := sv.map (cv ad)) ⟨hx, hb, hml, hown, hts⟩ hMet (cwS n hts (good_sub (fun w hw => by
    rcases List.mem_append.mp hw with h | h
    · exact hk.1 w (List.mem_append_left [Cond.code y cy maxL none] h)
    · exact code_in (hk.1 _ (by simp)) w h)) rfl rfl rfl hk.2 hR) ⟨blind _ _ _ _ _ _ _ _ _ _, fun U hU hW => hpre U hU hW⟩ rfl (by simpa using hlen0) hl.1 rfl (lv_room (by rw [cat_sum]; exact hsv)) hdg ⟨by rw [h0.1]; omega, by rw [h0.2]; omega⟩) hS (fun q _ h => hFc q h) hFc (fun u t H1 locs1 ht hvm hpost hB hz1 hk1 hS1 => ?_)
  obtain ⟨hRt, hrr, hMOK, hlen, hssum, had, hsA2⟩ := hpost
  obtain ⟨hP1, hK1, hD1⟩ := hB
  rw [ht] at hP1
  have hkk := k 0 u.1 hRt u.2 H1 locs1 (cells + rm.cells) (slots + rm.slots) ls ⟨⟨hP1, hD1.weaken (fun _ _ _ h => hFc _ h), hS1⟩, ⟨hMOK, env_ext hl (fun i hi => cv_ext had hsA hsA2 (hvr i (by omega))), fun i hi => vok_mono (by omega) (hvr i hi), (fun v hv => vok_mono (by omega) (hvt v hv))⟩, ⟨⟨by omega, fun k hk => (had k (by omega)).trans (had0 k hk)⟩, hsA2⟩, by omega, by omega, by omega, by omega, hlc, hls⟩
  have hsvm : sv.map (cv u.2) = sv.map (cv ad) := List.map_congr_left (fun v hv => cv_ext had hsA hsA2 (hvt v hv))
  rw [hsvm] at hkk
  exact hkk
theorem G_callI (hG : Mach own cc nL mn R ret nt L xs Rt G) {idx n maxL : Nat} {y : MethodName} {cy : ByteArray} {rm : Room} {Me : Mt} {av : List Vv} (hM : MOkV y cy maxL rm Me) (hR : Rok rm R maxL) (hlen0 : av.length = n + 1) (hsv : sv.length ≤ 8) (hdg : decode cc pc = .ok (.invokespecial idx, 3)) (hk : CkI own idx y cy maxL n) (hcap : M.1.length + rm.cells ≤ limC ρ ∧ ssum M.1 + rm.slots ≤ limS ρ) {q : Nat} (hq0 : av[0]? = some (.inr (some q))) {K : Int → Mm → Prop} (hMe : Me av K M) (k : ∀ r M2, K r M2 → G (pc + 3) (sv) ρ M2) : G pc (av.reverse ++ sv) ρ M := by
  obtain ⟨p, l, e, s, m, args, below, meth, c, dC, dI, cI, cC, cS, sA, A, n0, S0, ad0, Q, ⟨hx, hb, hml, hown, hts, hK, hA, hSt, hmn, hnL, hRI, hRV⟩, rfl⟩ := hG
  intro ad H locs cells slots ls hpt
  obtain ⟨⟨hP, hD, hS⟩, ⟨hM0, hl, hvr, hvs⟩, ⟨⟨hn0, had0⟩, hsA⟩, hcn, hsn, hcl, hsl, hlc, hls⟩ := hpt
  have hFc : ∀ q, va_A (wsOf cI cC cS ad M) H.size q → A q := fun q h => by
    rcases h with ⟨k, e0, h⟩ | h
    · exact hD.2 k (q, e0) h
    · exact hA q (Nat.le_trans hS.1 h)
  have hva : ∀ v ∈ av, vok M v := fun v hv => hvs v (List.mem_append_left _ (List.mem_reverse.mpr hv))
  have hvt : ∀ v ∈ sv, vok M v := fun v hv => hvs v (List.mem_append_right _ hv)
  have hpre : ∀ U : State, U.heap = H → s.WarmedH U.vm → PcM dC dI cI cC cS sA av M ad H.size ((av.map (cv ad)).toArray) U := fun U hU hW =>
    ⟨rfl, by rw [hU], by rw [hU]; exact hP, va_K.moved hW.alike hK, hD.weaken (fun _ _ _ _ => trivial), by rw [hU]; exact hSt.to hW (fun a h1 h2 => hS.2.1 a h1 h2) hS.1 hFc⟩
  have hMet := hM l dC dI cI cC cS sA av M ad H.size _ hM0 hva hsA hMe
  obtain ⟨v0, as, rfl⟩ : ∃ v0 as, av = v0 :: as := by
    cases av with
    | nil => simp at hlen0
    | cons v0 as => exact ⟨v0, as, rfl⟩
  obtain rfl : v0 = .inr (some q) := by simpa using hq0
  rw [show (((Sum.inr (some q) :: as).reverse ++ sv).map (cv ad)) = ((as.map (cv ad)).reverse ++ .ref (ad q) :: sv.map (cv ad)) by simp [cv]]
  refine va_callv (va_runI (As := as.map (cv ad)) (rest := sv.map (cv ad)) ⟨hx, hb, hml, hown, hts⟩ hMet (cwI n hts (good_sub (code_in (hk.1 _ (by simp)))) rfl rfl rfl (hts _ (hk.1 _ (by simp))) (hts _ (hk.1 _ (by simp))) (hts _ (hk.1 _ (by simp))) hk.2.1 hk.2.2 hR) ⟨blind _ _ _ _ _ _ _ _ _ _, fun U hU hW => hpre U hU hW⟩ rfl (by simpa using hlen0) hl.1 rfl (lv_room (by rw [cat_sum]; exact hsv)) hdg ⟨by omega, by omega⟩) hS (fun q _ h => hFc q h) hFc (fun u t H1 locs1 ht hvm hpost hB hz1 hk1 hS1 => ?_)
  obtain ⟨hRt, hrr, hMOK, hlen, hssum, had, hsA2⟩ := hpost
  obtain ⟨hP1, hK1, hD1⟩ := hB
  rw [ht] at hP1
  have hkk := k 0 u.1 hRt u.2 H1 locs1 (cells + rm.cells) (slots + rm.slots) ls ⟨⟨hP1, hD1.weaken (fun _ _ _ h => hFc _ h), hS1⟩, ⟨hMOK, env_ext hl (fun i hi => cv_ext had hsA hsA2 (hvr i (by omega))), fun i hi => vok_mono (by omega) (hvr i hi), (fun v hv => vok_mono (by omega) (hvt v hv))⟩, ⟨⟨by omega, fun k hk => (had k (by omega)).trans (had0 k hk)⟩, hsA2⟩, by omega, by omega, by omega, by omega, hlc, hls⟩
  have hsvm : sv.map (cv u.2) = sv.map (cv ad) := List.map_congr_left (fun v hv => cv_ext had hsA hsA2 (hvt v hv))
  rw [hsvm] at hkk
  exact hkk
theorem G_callIN (hG : Mach own cc nL mn R ret nt L xs Rt G) {idx n maxL : Nat} {y : MethodName} {cy : ByteArray} {rm : Room} {Me : Mt} {av : List Vv} (hM : MOkV y cy maxL rm Me) (hR : Rok rm R maxL) (hlen0 : av.length = n + 1) (hsv : sv.length ≤ 8) (hdg : decode cc pc = .ok (.invokespecial idx, 3)) {host : String} (hk : CkIN own idx host y cy maxL n) (hcap : M.1.length + rm.cells ≤ limC ρ ∧ ssum M.1 + rm.slots ≤ limS ρ) {q : Nat} (hq0 : av[0]? = some (.inr (some q))) {K : Int → Mm → Prop} (hMe : Me av K M) (k : ∀ r M2, K r M2 → G (pc + 3) (sv) ρ M2) : G pc (av.reverse ++ sv) ρ M := by
  obtain ⟨p, l, e, s, m, args, below, meth, c, dC, dI, cI, cC, cS, sA, A, n0, S0, ad0, Q, ⟨hx, hb, hml, hown, hts, hK, hA, hSt, hmn, hnL, hRI, hRV⟩, rfl⟩ := hG
  intro ad H locs cells slots ls hpt
  obtain ⟨⟨hP, hD, hS⟩, ⟨hM0, hl, hvr, hvs⟩, ⟨⟨hn0, had0⟩, hsA⟩, hcn, hsn, hcl, hsl, hlc, hls⟩ := hpt
  have hFc : ∀ q, va_A (wsOf cI cC cS ad M) H.size q → A q := fun q h => by
    rcases h with ⟨k, e0, h⟩ | h
    · exact hD.2 k (q, e0) h
    · exact hA q (Nat.le_trans hS.1 h)
  have hva : ∀ v ∈ av, vok M v := fun v hv => hvs v (List.mem_append_left _ (List.mem_reverse.mpr hv))
  have hvt : ∀ v ∈ sv, vok M v := fun v hv => hvs v (List.mem_append_right _ hv)
  have hpre : ∀ U : State, U.heap = H → s.WarmedH U.vm → PcM dC dI cI cC cS sA av M ad H.size ((av.map (cv ad)).toArray) U := fun U hU hW =>
    ⟨rfl, by rw [hU], by rw [hU]; exact hP, va_K.moved hW.alike hK, hD.weaken (fun _ _ _ _ => trivial), by rw [hU]; exact hSt.to hW (fun a h1 h2 => hS.2.1 a h1 h2) hS.1 hFc⟩
  have hMet := hM l dC dI cI cC cS sA av M ad H.size _ hM0 hva hsA hMe
  obtain ⟨v0, as, rfl⟩ : ∃ v0 as, av = v0 :: as := by
    cases av with
    | nil => simp at hlen0
    | cons v0 as => exact ⟨v0, as, rfl⟩
  obtain rfl : v0 = .inr (some q) := by simpa using hq0
  rw [show (((Sum.inr (some q) :: as).reverse ++ sv).map (cv ad)) = ((as.map (cv ad)).reverse ++ .ref (ad q) :: sv.map (cv ad)) by simp [cv]]
  refine va_callv (va_runIN (As := as.map (cv ad)) (rest := sv.map (cv ad)) ⟨hx, hb, hml, hown, hts⟩ hMet ⟨va_cnB (host := host) n hts (good_sub (code_in (hk.1 _ (by simp)))) rfl rfl rfl (hSt.2.2.2.2.2 _ hk.2.2.2) (hts _ (hk.1 _ (by simp))) hk.2.2.1 hR, hk.2.1, hts _ (hk.1 _ (by simp))⟩ ⟨blind _ _ _ _ _ _ _ _ _ _, fun U hU hW => hpre U hU hW⟩ rfl (by simpa using hlen0) hl.1 rfl (lv_room (by rw [cat_sum]; exact hsv)) hdg ⟨by omega, by omega⟩) hS (fun q _ h => hFc q h) hFc (fun u t H1 locs1 ht hvm hpost hB hz1 hk1 hS1 => ?_)
  obtain ⟨hRt, hrr, hMOK, hlen, hssum, had, hsA2⟩ := hpost
  obtain ⟨hP1, hK1, hD1⟩ := hB
  rw [ht] at hP1
  have hkk := k 0 u.1 hRt u.2 H1 locs1 (cells + rm.cells) (slots + rm.slots) ls ⟨⟨hP1, hD1.weaken (fun _ _ _ h => hFc _ h), hS1⟩, ⟨hMOK, env_ext hl (fun i hi => cv_ext had hsA hsA2 (hvr i (by omega))), fun i hi => vok_mono (by omega) (hvr i hi), (fun v hv => vok_mono (by omega) (hvt v hv))⟩, ⟨⟨by omega, fun k hk => (had k (by omega)).trans (had0 k hk)⟩, hsA2⟩, by omega, by omega, by omega, by omega, hlc, hls⟩
  have hsvm : sv.map (cv u.2) = sv.map (cv ad) := List.map_congr_left (fun v hv => cv_ext had hsA hsA2 (hvt v hv))
  rw [hsvm] at hkk
  exact hkk
end RULES
