/-- from place n on, only places of 'is' differ -/
def outW (n : Nat) (is : List Nat) (ws ws' : List va_E) : Prop := ∀ i, n + i ∉ is → ws'[i]? = ws[i]?
theorem outR (n : Nat) (is : List Nat) (ws : List va_E) : outW n is ws ws := fun _ _ => rfl
theorem outS {n : Nat} {is : List Nat} {a ws ws' : List va_E} (m : Nat) (hm : a.length = m) (h : outW (n + m) is ws ws') : outW n is (a ++ ws) (a ++ ws') := by
  intro i hi
  by_cases hl : i < m
  · rw [List.getElem?_append_left (by omega), List.getElem?_append_left (by omega)]
  · rw [List.getElem?_append_right (by omega), List.getElem?_append_right (by omega)]
    exact h (i - a.length) (by rw [show n + m + (i - a.length) = n + i by omega]; exact hi)
theorem outI {n : Nat} {is : List Nat} {a a' ws ws' : List va_E} (m : Nat) (hm : a.length = m) (hm' : a'.length = m) (hin : (List.range m).all (fun i => is.contains (n + i)) = true) (h : outW (n + m) is ws ws') : outW n is (a ++ ws) (a' ++ ws') := by
  intro i hi
  by_cases hl : i < m
  · exact absurd (List.contains_iff_mem.mp (List.all_eq_true.mp hin i (List.mem_range.mpr hl))) hi
  · rw [List.getElem?_append_right (by omega), List.getElem?_append_right (by omega), hm, hm']
    exact h (i - m) (by rw [show n + m + (i - m) = n + i by omega]; exact hi)
theorem outL {n : Nat} {is : List Nat} {a a' : List va_E} (m : Nat) (hm : a.length = m) (hm' : a'.length = m) (hin : (List.range m).all (fun i => is.contains (n + i)) = true) : outW n is a a' := by
  intro i hi
  by_cases hl : i < m
  · exact absurd (List.contains_iff_mem.mp (List.all_eq_true.mp hin i (List.mem_range.mpr hl))) hi
  · rw [List.getElem?_eq_none (by omega), List.getElem?_eq_none (by omega)]
/-- the callee's world is a part of the caller's, renumbered -/
def subW (is : List Nat) (ws cws : List va_E) : Prop := is.map (fun i => ws[i]?) = (cws.map (rE is)).map some
theorem subW_at {is : List Nat} {ws cws : List va_E} (hs : subW is ws cws) {j : Nat} {e : va_E} (hj : cws[j]? = some e) : is[j]? = some (rN is j) ∧ ws[rN is j]? = some (rE is e) := by
  have h1 : (is.map (fun i => ws[i]?))[j]? = some (some (rE is e)) := by rw [show is.map (fun i => ws[i]?) = _ from hs]; simp [hj]
  rw [List.getElem?_map] at h1
  cases hi : is[j]? with
  | none => rw [hi] at h1; cases h1
  | some i =>
    rw [hi] at h1
    have hr : rN is j = i := by simp [rN, List.getD, hi]
    rw [hr]
    exact ⟨rfl, Option.some.inj h1⟩
theorem subW_len {is : List Nat} {ws cws : List va_E} (hs : subW is ws cws) : is.length = cws.length := by
  have := congrArg List.length (show is.map (fun i => ws[i]?) = _ from hs)
  simpa using this
theorem subW_k {G : gG} {h : Nat → Nat} {is : List Nat} {ws cws : List va_E} (hs : subW is ws cws) (j : Nat) (q : Nat × va_E) (hq : (kW G (fun j => h (rN is j)) cws)[j]? = some q) : (kW G h ws)[rN is j]? = some q := by
  obtain ⟨e, he, rfl⟩ := kW_of hq
  obtain ⟨-, h2⟩ := subW_at hs he
  rw [kW_at h2, kE_rE]
theorem subW_D {A : Nat → Prop} {G : gG} {h : Nat → Nat} {is : List Nat} {ws cws : List va_E} (hs : subW is ws cws) (hnd : va_nd is = true) (hD : va_D A (kW G h ws)) : va_D A (kW G (fun j => h (rN is j)) cws) := by
  refine hD.by (rN is) (subW_k hs) (fun i j hi hj e => ?_)
  rw [kW_len, ← subW_len hs] at hi hj
  have a1 : is[i]? = some (rN is i) := by simp [rN, List.getD, hi]
  have a2 : is[j]? = some (rN is j) := by simp [rN, List.getD, hj]
  rw [← e] at a2
  exact va_nd_inj is hnd i j _ a1 a2
theorem subW_back {A : Nat → Prop} {G : gG} {h : Nat → Nat} {is : List Nat} {ws ws' cws cws' : List va_E} {H H1 : Heap} (hs : subW is ws cws) (hs' : subW is ws' cws') (h2 : outW 0 is ws ws') (hP : va_P G.1 cls (kW G h ws) H) (hD : va_D A (kW G h ws)) (hP1 : va_P G.1 cls (kW G (fun j => h (rN is j)) cws') H1) (hk : ∀ q : Nat, q < H.size → ¬ va_A (kW G (fun j => h (rN is j)) cws) H.size q → H1[q]? = H[q]?) : va_P G.1 cls (kW G h ws') H1 := by
  intro i q hq
  obtain ⟨e, he, rfl⟩ := kW_of hq
  by_cases hi : i ∈ is
  · obtain ⟨j, hj⟩ := List.getElem?_of_mem hi
    have hlt : j < is.length := (List.getElem?_eq_some_iff.mp hj).1
    rw [subW_len hs'] at hlt
    obtain ⟨a1, a2⟩ := subW_at hs' (List.getElem?_eq_getElem hlt)
    have hr : rN is j = i := Option.some.inj (a1.symm.trans hj)
    rw [hr, he] at a2
    have h3 := hP1 j _ (kW_at (List.getElem?_eq_getElem hlt))
    rw [← kE_rE, ← Option.some.inj a2, hr] at h3
    exact h3
  · have hw : ws[i]? = some e := by rw [← h2 i (by rw [Nat.zero_add]; exact hi)]; exact he
    have h3 := hP i _ (kW_at hw)
    refine h3.kept (hk _ h3.lt (fun z => ?_))
    rcases z with ⟨j, e', z⟩ | z
    · have z2 := subW_k hs j _ z
      have hij : rN is j = i := hD.1 _ _ _ _ z2 (kW_at hw) rfl
      obtain ⟨e0, he0, -⟩ := kW_of z
      obtain ⟨a1, -⟩ := subW_at hs he0
      rw [hij] at a1
      exact hi (List.mem_of_getElem? a1)
    · exact absurd h3.lt (Nat.not_lt.mpr z)
/-- what a call of the instance method y takes of the tables -/
def mV (y : MethodName) (b : ByteArray) (mL : Nat) (ret : Option FieldType) (nA : Nat) : Prop := Cond.instanceMethod y ∈ gA ∧ Cond.selects y.cls y y ∈ gA ∧ Cond.initialized y.cls ∈ gA ∧ Cond.code y b mL ret ∈ gA ∧ (y.cls = y.cls ∧ y.cls ≠ "java/lang/invoke/MethodHandle" ∧ y.cls ≠ "java/lang/invoke/VarHandle" ∧ (parseMethodDescriptor y.desc).map (fun d => d.parameters.length) = some nA)
def mS (y : MethodName) (b : ByteArray) (mL : Nat) (ret : Option FieldType) (nA : Nat) : Prop := Cond.static y ∈ gA ∧ Cond.initialized y.cls ∈ gA ∧ Cond.code y b mL ret ∈ gA ∧ (y.cls = y.cls ∧ y.cls ≠ "java/lang/invoke/MethodHandle" ∧ y.cls ≠ "java/lang/invoke/VarHandle" ∧ (parseMethodDescriptor y.desc).map (fun d => d.parameters.length) = some nA)
theorem gB_blind (G : gG) (h : Nat → Nat) (sz : Nat) (cws : List va_E) (av : List Value) : FrameBlind (va_Pc av (gB G h sz cws)) := fun a U g mk q => by
  obtain ⟨q0, q1, qP, qK, qD, qN⟩ := q
  exact ⟨q0, q1, qP, va_K.moved (u := U) (U := U.calling g mk a) (Vm.Alike.refl U.vm) qK, qD, gN_same (u := U) (U := U.calling g mk a) rfl qN⟩
section ZC
variable {p : Program} {l : Launch} {e : Env} {R : Room} {s : State} {m : MethodId} {args : Array Value} {below : List Frame} {meth : Method} {c : Code} {cc : ByteArray} {nL : Nat} {own : String} {G : gG} {A : Nat → Prop} {h : Nat → Nat} {Q : State → Prop} {k n : Nat} {ws ws' : List va_E} {pc : Nat} {L : List (Nat × Value)} {st st' rest : List Value}
theorem kst_cat (h : Nat → Nat) (st : List Value) : ((st.map (kV h)).map fun v => v.category) = st.map fun v => v.category := by rw [List.map_map]; exact List.map_congr_left (fun v _ => kV_cat h v)
theorem kst_r (h : Nat → Nat) (is : List Nat) (As : List Value) : (As.map (rV is)).map (kV h) = As.map (kV (fun j => h (rN is j))) := by rw [List.map_map]; exact List.map_congr_left (fun v _ => kV_rV h is v)
theorem Z_ws {σ : Type} (f : σ → List va_E) (x : σ) (kk : ∀ X, X = x → Z p l e R s m args below meth c nL G A h Q k n (f X) pc L st) : Z p l e R s m args below meth c nL G A h Q k n (f x) pc L st := kk x rfl
/-- behind a run: the caller's world -/
theorem Z_back {is : List Nat} {cws cws' : List va_E} {r : Option Value} {H : Heap} {locs : List Loc} {ls : Array Slot} {mc ms : Nat} {a : Array Value} {st0 : List Value} (C : Cx p s m args c cc nL own G A) (hP : va_P G.1 cls (kW G h ws) H) (hD : va_D A (kW G h ws)) (hS : va_S A s.heap H locs) (hl : lv_has ls nL (kL h L)) (hs : subW is ws cws) (hs' : subW is ws' cws') (h2 : outW 0 is ws ws') {NW : Nat} (hNW : ws.length = NW) (hNW' : ws'.length = NW)
    (hr : va_Run p l e R s m args below meth c H locs k n mc ms (F0 m pc ls st0) (rest.map (kV h)) (gQ G (fun j => h (rN is j)) (va_A (kW G (fun j => h (rN is j)) cws) H.size) r cws' a) (va_A (kW G (fun j => h (rN is j)) cws) H.size)) (hst : (r.map (rV is)).toList ++ rest = st')
    (kk : Z p l e R s m args below meth c nL G A h Q (k + mc) (n + ms) ws' (pc + 3) L st') : W p l e R s m args below meth c H locs k n Q (F0 m pc ls st0) := by
  have hF : ∀ q, va_A (kW G (fun j => h (rN is j)) cws) H.size q → A q := fun q hq => by
    rcases hq with ⟨j, e', z⟩ | z
    · exact hD.2 _ _ (subW_k hs j _ z)
    · exact C.2.2.2.2.2.2.1 q (Nat.le_trans hS.1 z)
  intro T hT X
  obtain ⟨v, st₀, t, T', L9, h0, X', hL, e1, e2, ⟨⟨hv, hP1⟩, hz, hk⟩, st9⟩ := hr T hT X
  have hv' : v = r.map (kV (fun j => h (rN is j))) := by injection hv
  subst hv'
  rw [h0] at hz hk
  rw [← e1] at hP1 hz hk
  obtain ⟨t2, a1, b1⟩ := kk T'.heap (locs ++ L9) ls (subW_back hs hs' h2 hP hD hP1 hk) (kD_len hD (hNW'.trans hNW.symm))
    ⟨Nat.le_trans hS.1 hz, fun q h1 h2 => by rw [hk q (Nat.lt_of_lt_of_le h1 hS.1) (fun z => h2 (hF q z))]; exact hS.2.1 q h1 h2, fun q hq => by
      rcases List.mem_append.mp hq with h | h
      · exact hS.2.2 q h
      · exact hF _ (hL q h)⟩ hl T' rfl X'
  have est : st'.map (kV h) = (r.map (kV (fun j => h (rN is j)))).toList ++ rest.map (kV h) := by
    rw [← hst, List.map_append]
    congr 1
    cases r with
    | none => rfl
    | some v => exact congrArg (fun z => [z]) (kV_rV h is v)
  rw [est] at a1
  exact ⟨t2, st9 t2 a1, b1⟩
theorem Z_callV (C : Cx p s m args c cc nL own G A) {y : MethodName} {b : ByteArray} {mL dd mc ms nA index ci N : Nat} {ret : Option FieldType} {As : List Value} {cws cws' : List va_E} {r : Option Value} {T : u_T} {ty : Nat → FieldType} {fs : List Value} (is : List Nat) (hc : CT y b mL ret dd mc ms (.ref 0 :: As) cws r cws') (M : mV y b mL ret nA) (K : cK y.cls T N ci ty) (hm : Cond.methodLink own index y ∈ gA) (d : decode cc pc = .ok (.invokevirtual index, 3)) (hst : (As.map (rV is)).reverse ++ .ref (rN is 0) :: rest = st) (hs : subW is ws cws) (hs' : subW is ws' cws') (h2 : outW 0 is ws ws') {NW : Nat} (hNW : ws.length = NW) (hNW' : ws'.length = NW) (hrc : cws[0]? = some (.inr (ci, fs))) (hnA : As.length = nA) (hnd : va_nd is = true) (hR : dd + 1 ≤ R.frames ∧ 8 + (mL + 11) + 30 * dd ≤ R.locals) (hcs : k + mc ≤ R.cells ∧ n + ms ≤ R.slots) (hW : (rest.map fun v => v.category).sum ≤ 8) (hst' : (r.map (rV is)).toList ++ rest = st')
    (kk : Z p l e R s m args below meth c nL G A h Q (k + mc) (n + ms) ws' (pc + 3) L st') : Z p l e R s m args below meth c nL G A h Q k n ws pc L st := fun H locs ls hP hD hS hl => by
  obtain ⟨M1, M2, M3, M4, M5⟩ := M
  have hts := C.2.2.2.2.1
  have hG : GoodIn gA (wsV own index y.cls y (wsY y b mL ret)) := fun w hw => by
    rcases List.mem_append.mp (show w ∈ [Cond.methodLink own index y, Cond.instanceMethod y, Cond.selects y.cls y y, Cond.initialized y.cls] ++ wsY y b mL ret from hw) with hw | hw
    · have hw' : w ∈ gA := by
        simp only [List.mem_cons, List.not_mem_nil, or_false] at hw
        rcases hw with rfl | rfl | rfl | rfl
        · exact hm
        · exact M1
        · exact M2
        · exact M3
      exact ⟨hw', good_of_word (gA_g hw')⟩
    · exact gA_good M4 w hw
  have hcw : CallW R s args own y.cls index y b mL ret (wsY y b mL ret) (gRm dd mc ms) mc ms nA := cwV nA hts hG rfl rfl rfl M5 hR
  have hDc := subW_D hs hnd hD
  have hPc : va_P G.1 cls (kW G (fun j => h (rN is j)) cws) H := hP.by (rN is) (subW_k hs)
  refine Z_back C hP hD hS hl hs hs' h2 hNW hNW' (va_runV (As := As.map (kV (fun j => h (rN is j)))) (b := h (rN is 0)) ⟨C.1, C.2.1, C.2.2.1, C.2.2.2.1, hts⟩ (hc l G (fun j => h (rN is j)) H.size) hcw ⟨gB_blind _ _ _ _ _, va_recv C.2.2.2.2.2.1 hPc K.2.1 (kW_at hrc), fun U hU hW => ⟨rfl, by rw [hU], by rw [hU]; exact hPc, va_K.moved hW.alike C.2.2.2.2.2.1, hDc.weaken (fun _ _ _ _ => trivial), gN_warm hW C.2.2.2.2.2.2.2⟩⟩ rfl (by rw [List.length_map]; exact hnA) hl.1 ?_ (lv_room (by rw [kst_cat]; exact hW)) d hcs) hst' kk
  show st.map (kV h) = _
  rw [← hst, List.map_append, List.map_reverse, kst_r]
  rfl
theorem Z_callS (C : Cx p s m args c cc nL own G A) {y : MethodName} {b : ByteArray} {mL dd mc ms nA index : Nat} {ret : Option FieldType} {As : List Value} {cws cws' : List va_E} {r : Option Value} (is : List Nat) (hc : CT y b mL ret dd mc ms As cws r cws') (M : mS y b mL ret nA) (hm : Cond.methodLink own index y ∈ gA) (d : decode cc pc = .ok (.invokestatic index, 3)) (hst : (As.map (rV is)).reverse ++ rest = st) (hs : subW is ws cws) (hs' : subW is ws' cws') (h2 : outW 0 is ws ws') {NW : Nat} (hNW : ws.length = NW) (hNW' : ws'.length = NW) (hnA : As.length = nA) (hnd : va_nd is = true) (hR : dd + 1 ≤ R.frames ∧ 8 + (mL + 11) + 30 * dd ≤ R.locals) (hcs : k + mc ≤ R.cells ∧ n + ms ≤ R.slots) (hW : (rest.map fun v => v.category).sum ≤ 8) (hst' : (r.map (rV is)).toList ++ rest = st')
    (kk : Z p l e R s m args below meth c nL G A h Q (k + mc) (n + ms) ws' (pc + 3) L st') : Z p l e R s m args below meth c nL G A h Q k n ws pc L st := fun H locs ls hP hD hS hl => by
  obtain ⟨M1, M2, M3, M5⟩ := M
  have hts := C.2.2.2.2.1
  have hG : GoodIn gA (va_wsS own index y (wsY y b mL ret)) := fun w hw => by
    rcases List.mem_append.mp (show w ∈ [Cond.methodLink own index y, Cond.static y, Cond.initialized y.cls] ++ wsY y b mL ret from hw) with hw | hw
    · have hw' : w ∈ gA := by
        simp only [List.mem_cons, List.not_mem_nil, or_false] at hw
        rcases hw with rfl | rfl | rfl
        · exact hm
        · exact M1
        · exact M2
      exact ⟨hw', good_of_word (gA_g hw')⟩
    · exact gA_good M3 w hw
  have hcw := va_cwS (R := R) (args := args) (index := index) (mc := mc) (ms := ms) (rm := gRm dd mc ms) nA hts hG rfl rfl rfl M5.2 hR
  have hDc := subW_D hs hnd hD
  have hPc : va_P G.1 cls (kW G (fun j => h (rN is j)) cws) H := hP.by (rN is) (subW_k hs)
  refine Z_back C hP hD hS hl hs hs' h2 hNW hNW' (va_runS (As := As.map (kV (fun j => h (rN is j)))) ⟨C.1, C.2.1, C.2.2.1, C.2.2.2.1, hts⟩ (hc l G (fun j => h (rN is j)) H.size) hcw ⟨gB_blind _ _ _ _ _, fun U hU hW => ⟨rfl, by rw [hU], by rw [hU]; exact hPc, va_K.moved hW.alike C.2.2.2.2.2.1, hDc.weaken (fun _ _ _ _ => trivial), gN_warm hW C.2.2.2.2.2.2.2⟩⟩ rfl (by rw [List.length_map]; exact hnA) hl.1 ?_ (lv_room (by rw [kst_cat]; exact hW)) d hcs) hst' kk
  show st.map (kV h) = _
  rw [← hst, List.map_append, List.map_reverse, kst_r]
end ZC
