/-! calls of methods that throw, and handlers -/
def gNc (U : State) : Prop := va_Nc "java/lang/IllegalArgumentException" "java/lang/IllegalStateException" U ∧ va_Nc "java/lang/IllegalArgumentException" "java/lang/IndexOutOfBoundsException" U ∧ va_Nc "java/lang/IllegalStateException" "java/lang/IllegalArgumentException" U ∧ va_Nc "java/lang/IllegalStateException" "java/lang/IndexOutOfBoundsException" U ∧ va_Nc "java/lang/IndexOutOfBoundsException" "java/lang/IllegalArgumentException" U ∧ va_Nc "java/lang/IndexOutOfBoundsException" "java/lang/IllegalStateException" U
theorem gNc_moved {u U : State} (hvm : u.vm.Alike U.vm) (h : gNc u) : gNc U := ⟨h.1.moved hvm, h.2.1.moved hvm, h.2.2.1.moved hvm, h.2.2.2.1.moved hvm, h.2.2.2.2.1.moved hvm, h.2.2.2.2.2.moved hvm⟩
def gY (A : Nat → Prop) (U : State) (H : Heap) : Prop := gX A U H ∧ gNc U
def gBY (G : gG) (h : Nat → Nat) (sz : Nat) (ws : List va_E) (U : State) : Prop := gB G h sz ws U ∧ gY (va_A (kW G h ws) sz) U U.heap
theorem gBX_blind (G : gG) (h : Nat → Nat) (sz : Nat) (cws : List va_E) (av : List Value) : FrameBlind (va_Pc av (gBX G h sz cws)) := fun a U g mk q => by
  obtain ⟨q0, ⟨q1, qP, qK, qD, qN⟩, x1, x2, x3⟩ := q
  exact ⟨q0, ⟨q1, qP, va_K.moved (u := U) (U := U.calling g mk a) (Vm.Alike.refl U.vm) qK, qD, gN_same (u := U) (U := U.calling g mk a) rfl qN⟩, vx_Zq.moved (u := U) (U := U.calling g mk a) (Vm.Alike.refl U.vm) x1, vx_Zq.moved (u := U) (U := U.calling g mk a) (Vm.Alike.refl U.vm) x2, gS_same (u := U) (U := U.calling g mk a) rfl x3⟩
theorem gBY_blind (G : gG) (h : Nat → Nat) (sz : Nat) (cws : List va_E) (av : List Value) : FrameBlind (va_Pc av (gBY G h sz cws)) := fun a U g mk q => by
  obtain ⟨q0, ⟨q1, qP, qK, qD, qN⟩, ⟨x1, x2, x3⟩, x4⟩ := q
  exact ⟨q0, ⟨q1, qP, va_K.moved (u := U) (U := U.calling g mk a) (Vm.Alike.refl U.vm) qK, qD, gN_same (u := U) (U := U.calling g mk a) rfl qN⟩, ⟨vx_Zq.moved (u := U) (U := U.calling g mk a) (Vm.Alike.refl U.vm) x1, vx_Zq.moved (u := U) (U := U.calling g mk a) (Vm.Alike.refl U.vm) x2, gS_same (u := U) (U := U.calling g mk a) rfl x3⟩, gNc_moved (u := U) (U := U.calling g mk a) (Vm.Alike.refl U.vm) x4⟩
theorem gX_at {A B : Nat → Prop} {s U : State} {H : Heap} {locs : List Loc} (hX : gX A s s.heap) (hS : va_S A s.heap H locs) (hB : ∀ q, B q → A q) (hU : U.heap = H) (hW : s.WarmedH U.vm) : gX B U U.heap := by
  obtain ⟨x1, x2, x3⟩ := hX
  rw [hU]
  exact ⟨vx_Zq.moved hW.alike ((x1.kept hS.2.1).narrow hB), vx_Zq.moved hW.alike ((x2.kept hS.2.1).narrow hB), gS_warm hW x3⟩
section ZX
variable {p : Program} {l : Launch} {e : Env} {R : Room} {s : State} {m : MethodId} {args : Array Value} {below : List Frame} {meth : Method} {c : Code} {cc : ByteArray} {nL : Nat} {own : String} {G : gG} {A : Nat → Prop} {h : Nat → Nat} {Q : State → Prop} {k n : Nat} {ws ws' : List va_E} {pc : Nat} {L : List (Nat × Value)} {st st' rest : List Value}
theorem Z_callX (C : Cx p s m args c cc nL own G A) (hst0 : l.stackTraces = false) (hX : gX A s s.heap) {y : MethodName} {b : ByteArray} {mL dd mc ms nA index ci N : Nat} {ret : Option FieldType} {As : List Value} {cws cws' : List va_E} {xE : Option String} {r : Option Value} {T : u_T} {ty : Nat → FieldType} {fs : List Value} (is : List Nat) (hc : CTX y b mL ret dd mc ms (.ref 0 :: As) cws xE r cws') (M : mV y b mL ret nA) (K : cK y.cls T N ci ty) (hm : Cond.methodLink own index y ∈ gA) (d : decode cc pc = .ok (.invokevirtual index, 3)) (hst : (As.map (rV is)).reverse ++ .ref (rN is 0) :: rest = st) (hs : subW is ws cws) (hs' : subW is ws' cws') (h2 : outW 0 is ws ws') {NW : Nat} (hNW : ws.length = NW) (hNW' : ws'.length = NW) (hrc : cws[0]? = some (.inr (ci, fs))) (hnA : As.length = nA) (hnd : va_nd is = true) (hR : dd + 1 ≤ R.frames ∧ 8 + (mL + 11) + 30 * dd ≤ R.locals) (hcs : k + mc ≤ R.cells ∧ n + ms ≤ R.slots) (hW : (rest.map fun v => v.category).sum ≤ 8) (hst' : (r.map (rV is)).toList ++ rest = st')
    (kx : ∀ E, xE = some E → ∀ (H1 : Heap) (locs1 : List Loc) (ls : Array Slot) (q : Addr) (ce : Cell), va_P G.1 cls (kW G h ws') H1 → va_D A (kW G h ws') → va_S A s.heap H1 locs1 → lv_has ls nL (kL h L) → H1[q]? = some ce → ce.vm = .none → s.vm.findClass E = some ce.cls → vx_W p l e R s m args below meth c H1 locs1 (k + mc) (n + ms) Q (F0 m pc ls (rest.map (kV h))) q)
    (kk : xE = none → Z p l e R s m args below meth c nL G A h Q (k + mc) (n + ms) ws' (pc + 3) L st') : Z p l e R s m args below meth c nL G A h Q k n ws pc L st := fun H locs ls hP hD hS hl => by
  obtain ⟨M1, M2, M3, M4, M5⟩ := M
  have hts := C.2.2.2.2.1
  have hG : GoodIn gA (wsV own index y.cls y (wsY y b mL ret)) := fun w hw => by
    rcases List.mem_append.mp (show w ∈ [Cond.methodLink own index y, Cond.instanceMethod y, Cond.selects y.cls y y, Cond.initialized y.cls] ++ wsY y b mL ret from hw) with hw | hw
    · have hw' : w ∈ gA := by
        simp only [List.mem_cons, List.not_mem_nil, or_false] at hw
        rcases hw with rfl | rfl | rfl | rfl
        · exact hm
        · exact M1
        · exact M2
        · exact M3
      exact ⟨hw', good_of_word (gA_g hw')⟩
    · exact gA_good M4 w hw
  have hcw : CallW R s args own y.cls index y b mL ret (wsY y b mL ret) (gRm dd mc ms) mc ms nA := cwV nA hts hG rfl rfl rfl M5 hR
  have hDc := subW_D hs hnd hD
  have hPc : va_P G.1 cls (kW G (fun j => h (rN is j)) cws) H := hP.by (rN is) (subW_k hs)
  have hF : ∀ q, va_A (kW G (fun j => h (rN is j)) cws) H.size q → A q := fun q hq => by
    rcases hq with ⟨j, e', z⟩ | z
    · exact hD.2 _ _ (subW_k hs j _ z)
    · exact C.2.2.2.2.2.2.1 q (Nat.le_trans hS.1 z)
  have hr := vx_runV (As := As.map (kV (fun j => h (rN is j)))) (b := h (rN is 0)) (rest := rest.map (kV h)) (locs := locs) (cells := k) (slots := n) (g := F0 m pc ls (st.map (kV h))) (l := l) (e := e) (below := below) (p := p) (meth := meth) ⟨C.1, C.2.1, C.2.2.1, C.2.2.2.1, hts⟩ (hc l hst0 G (fun j => h (rN is j)) H.size) hcw ⟨gBX_blind _ _ _ _ _, va_recv C.2.2.2.2.2.1 hPc K.2.1 (kW_at hrc), fun U hU hW => ⟨rfl, ⟨by rw [hU], by rw [hU]; exact hPc, va_K.moved hW.alike C.2.2.2.2.2.1, hDc.weaken (fun _ _ _ _ => trivial), gN_warm hW C.2.2.2.2.2.2.2⟩, gX_at hX hS hF hU hW⟩⟩ rfl (by rw [List.length_map]; exact hnA) hl.1 (by
    show st.map (kV h) = _
    rw [← hst, List.map_append, List.map_reverse, kst_r]
    rfl) (lv_room (by rw [kst_cat]; exact hW)) d hcs
  intro T hT X
  rcases hr T hT X with ⟨v, st₀, t, T', L9, h0, X', hL9, e1, e2, ⟨hxn, ⟨hv, hP1⟩, hz, hk⟩, st9⟩ | ⟨q, st₀, t, T', L9, E, ce, h0, X', hL9, e1, e2, ⟨hxE, hP1, hz, hk⟩, hce, hcv, hcl, st9⟩
  · have hv' : v = r.map (kV (fun j => h (rN is j))) := by injection hv
    subst hv'
    rw [h0] at hz hk
    rw [← e1] at hP1 hz hk
    obtain ⟨t2, a1, b1⟩ := kk hxn T'.heap (locs ++ L9) ls (subW_back hs hs' h2 hP hD hP1 hk) (kD_len hD (hNW'.trans hNW.symm))
      ⟨Nat.le_trans hS.1 hz, fun q h1 h2 => by rw [hk q (Nat.lt_of_lt_of_le h1 hS.1) (fun z => h2 (hF q z))]; exact hS.2.1 q h1 h2, fun q hq => by
        rcases List.mem_append.mp hq with h | h
        · exact hS.2.2 q h
        · exact hF _ (hL9 q h)⟩ hl T' rfl X'
    have est : st'.map (kV h) = (r.map (kV (fun j => h (rN is j)))).toList ++ rest.map (kV h) := by
      rw [← hst', List.map_append]
      congr 1
      cases r with
      | none => rfl
      | some v => exact congrArg (fun z => [z]) (kV_rV h is v)
    rw [est] at a1
    exact ⟨t2, st9 t2 a1, b1⟩
  · rw [h0] at hz hk
    rw [← e1] at hP1 hz hk hce
    obtain ⟨t2, a1, b1⟩ := kx E hxE T'.heap (locs ++ L9) ls q ce (subW_back hs hs' h2 hP hD hP1 hk) (kD_len hD (hNW'.trans hNW.symm))
      ⟨Nat.le_trans hS.1 hz, fun q h1 h2 => by rw [hk q (Nat.lt_of_lt_of_le h1 hS.1) (fun z => h2 (hF q z))]; exact hS.2.1 q h1 h2, fun q hq => by
        rcases List.mem_append.mp hq with h | h
        · exact hS.2.2 q h
        · exact hF _ (hL9 q h)⟩ hl hce hcv hcl T' rfl X'
    exact ⟨t2, st9.trans a1, b1⟩
/-- the handler of E's class takes it: astore, and the rest goes on without it -/
theorem Z_hand (C : Cx p s m args c cc nL own G A) {hh p1 p2 : List (Nat × Nat × Nat × Nat)} (htab : c.exceptionTable.toList = tableOf hh) {E : String} {a b hp t i5 pc9 : Nat} {L' : List (Nat × Value)} (hhe : hh = p1 ++ (a, b, hp, t) :: p2) (hpass : ∀ z ∈ p1, z.2.2.2 ≠ 0 ∧ ∃ nm : String, Cond.classLink own z.2.2.2 nm ∈ gA ∧ va_Nc E nm s) (hcov : covers ⟨a, b, hp, t⟩ pc = true) (ht : t ≠ 0) (hlk : Cond.classLink own t E ∈ gA) (hcast : Cond.castable E E ∈ nW) (hi : i5 < nL) (hd : decode cc hp = .ok (.astore i5, 2) ∧ pc9 = hp + 2 ∨ ∃ k3 : Fin 4, decode cc hp = .ok (.astore_n k3, 1) ∧ (k3 : Nat) = i5 ∧ pc9 = hp + 1)
    (hL' : ∀ q ∈ L', q ∈ L ∧ q.1 ≠ i5 ∧ q.2.category = 1)
    (kk : Z p l e R s m args below meth c nL G A h Q k n ws pc9 L' []) :
    ∀ (H1 : Heap) (locs1 : List Loc) (ls : Array Slot) (q : Addr) (ce : Cell), va_P G.1 cls (kW G h ws) H1 → va_D A (kW G h ws) → va_S A s.heap H1 locs1 → lv_has ls nL (kL h L) → H1[q]? = some ce → ce.vm = .none → s.vm.findClass E = some ce.cls → vx_W p l e R s m args below meth c H1 locs1 k n Q (F0 m pc ls (rest.map (kV h))) q := by
  intro H1 locs1 ls q ce hP hD hS hl hce hcv hcl
  have hts := C.2.2.2.2.1
  have hfil : ∀ ls' : Array Slot, lv_has ls' nL ((i5, Value.ref q) :: (kL h L).filter (fun q => !(q.1 == i5) && !(q.1 + 1 == i5 && q.2.category == 2))) → lv_has ls' nL (kL h L') := fun ls' h1 => ⟨h1.1, h1.2.1, fun z hz => by
    obtain ⟨z0, hz0, rfl⟩ := List.mem_map.mp hz
    obtain ⟨m1, m2, m3⟩ := hL' z0 hz0
    refine h1.2.2 _ (List.mem_cons_of_mem _ (List.mem_filter.mpr ⟨List.mem_map.mpr ⟨z0, m1, rfl⟩, ?_⟩))
    simp [kV_cat, m2, m3]⟩
  refine vx_catch (name := E) C.2.2.2.1 (tableOf p1) ⟨a, b, hp, t⟩ (tableOf p2) (by rw [htab, hhe]; simp [tableOf]) (fun z hz => ?_) hcov ht (hts _ hlk) (nW_use C.2.2.2.2.2.2.2 _ hcast) hce hcv hcl ?_
  · obtain ⟨z0, hz0, rfl⟩ := List.mem_map.mp hz
    obtain ⟨y1, nm, y2, y3⟩ := hpass z0 hz0
    exact Or.inr ⟨y1, nm, hts _ y2, y3⟩
  · show W p l e R s m args below meth c H1 locs1 k n Q (F0 m hp ls [.ref q])
    rcases hd with ⟨hd, rfl⟩ | ⟨k3, hd, hk3, rfl⟩
    · exact lv_astore C.1 C.2.1 hd hl hi rfl (fun ls' hl' => kk H1 locs1 ls' hP hD hS (hfil ls' hl'))
    · exact lv_astore_n C.1 C.2.1 hd hk3 hl hi rfl (fun ls' hl' => kk H1 locs1 ls' hP hD hS (hfil ls' hl'))
end ZX
/-- a method with handlers: it returns -/
abbrev wsH (y : MethodName) (b : ByteArray) (mL : Nat) (ret : Option FieldType) (hh : List (Nat × Nat × Nat × Nat)) : List Cond := Cond.codeWith y b mL ret hh :: gA
def CTH (y : MethodName) (b : ByteArray) (mL : Nat) (ret : Option FieldType) (hh : List (Nat × Nat × Nat × Nat)) (d mc ms : Nat) (av : List Value) (ws : List va_E) (r : Option Value) (ws' : List va_E) : Prop :=
  ∀ (l : Launch), l.stackTraces = false → ∀ (G : gG) (h : Nat → Nat) (sz : Nat), Met l y (wsH y b mL ret hh) (gRm d mc ms) (va_Pc (av.map (kV h)) (gBY G h sz ws)) (gQ G h (va_A (kW G h ws) sz) r ws') mc ms (va_A (kW G h ws) sz)
theorem CTH_of {y : MethodName} {b : ByteArray} {mL : Nat} {ret : Option FieldType} {hh : List (Nat × Nat × Nat × Nat)} {d mc ms : Nat} {av : List Value} {ws : List va_E} {r : Option Value} {ws' : List va_E} {L : List (Nat × Value)} (hy : plainName y.cls = true) (hL : ∀ h, lv_args 0 (av.map (kV h)) = kL h L) (hsl : ∀ h, (lg_sl (av.map (kV h))).length ≤ mL)
    (body : ∀ (p : Program) (l : Launch) (e : Env) (s : State) (m : MethodId) (args : Array Value) (below : List Frame) (meth : Method) (c : Code) (G : gG) (h : Nat → Nat) (A : Nat → Prop), Cx p s m args c b mL y.cls G A → l.stackTraces = false → gY A s s.heap → c.exceptionTable.toList = tableOf hh → meth.sig.returnType = ret → meth.locks = false →
      Z p l e (gRm d mc ms) s m args below meth c mL G A h (MQ below (gQ G h A r ws') args s mc ms A) 0 0 ws 0 L []) : CTH y b mL ret hh d mc ms av ws r ws' := by
  intro l hst G h sz
  refine va_MetW (hh := hh) (cc := b) (maxL := mL) (ret := ret) hy rfl ?_
  intro p e s m args below meth c s₁ B hml hv
  obtain ⟨rfl, ⟨hsz, hP, hK, hD0, hN⟩, hX⟩ := hv
  have hx := B.exec
  have hb := B.bytes
  have hr := B.returns
  have hts := atoms_spec (ws := wsH y b mL ret hh) B.pre
  have hown : s.vm.findClass y.cls = some m.cls := findClass_of_methodNamed B.named
  have hlocks := B.notSynchronized
  have htab : c.exceptionTable.toList = tableOf hh := vx_table (x := y) (hh := hh) B (hts _ List.mem_cons_self)
  subst hsz
  have hD := hD0.self (sz := s.heap.size)
  generalize hAe : va_A (kW G h ws) s.heap.size = A at hD hX ⊢
  have hA : ∀ q : Nat, s.heap.size ≤ q → A q := fun q h => by rw [← hAe]; exact Or.inr h
  have hl := lv_entry (av.map (kV h)) (n := mL) (hsl h)
  rw [lg_entry_eq]
  rw [hL h] at hl
  exact body p l e s m _ below meth c G h A ⟨hx, hb, hml, hown, fun w hw => hts w (List.mem_cons_of_mem _ hw), hK, hA, hN⟩ hst hX htab hr hlocks s.heap [] _ hP hD va_S.rf hl
def mH (y : MethodName) (b : ByteArray) (mL : Nat) (ret : Option FieldType) (hh : List (Nat × Nat × Nat × Nat)) (nA : Nat) : Prop := Cond.static y ∈ gA ∧ Cond.initialized y.cls ∈ gA ∧ Cond.codeWith y b mL ret hh ∈ gA ∧ (y.cls ≠ "java/lang/invoke/MethodHandle" ∧ y.cls ≠ "java/lang/invoke/VarHandle" ∧ (parseMethodDescriptor y.desc).map (fun d => d.parameters.length) = some nA)
section ZW
variable {p : Program} {l : Launch} {e : Env} {R : Room} {s : State} {m : MethodId} {args : Array Value} {below : List Frame} {meth : Method} {c : Code} {cc : ByteArray} {nL : Nat} {own : String} {G : gG} {A : Nat → Prop} {h : Nat → Nat} {Q : State → Prop} {k n : Nat} {ws ws' : List va_E} {pc : Nat} {L : List (Nat × Value)} {st st' rest : List Value}
theorem Z_callH (C : Cx p s m args c cc nL own G A) (hst0 : l.stackTraces = false) (hY : gY A s s.heap) {y : MethodName} {b : ByteArray} {mL dd mc ms nA index : Nat} {ret : Option FieldType} {hh : List (Nat × Nat × Nat × Nat)} {As : List Value} {cws cws' : List va_E} {r : Option Value} (is : List Nat) (hc : CTH y b mL ret hh dd mc ms As cws r cws') (M : mH y b mL ret hh nA) (hm : Cond.methodLink own index y ∈ gA) (d : decode cc pc = .ok (.invokestatic index, 3)) (hst : (As.map (rV is)).reverse ++ rest = st) (hs : subW is ws cws) (hs' : subW is ws' cws') (h2 : outW 0 is ws ws') {NW : Nat} (hNW : ws.length = NW) (hNW' : ws'.length = NW) (hnA : As.length = nA) (hnd : va_nd is = true) (hR : dd + 1 ≤ R.frames ∧ 8 + (mL + 11) + 30 * dd ≤ R.locals) (hcs : k + mc ≤ R.cells ∧ n + ms ≤ R.slots) (hW : (rest.map fun v => v.category).sum ≤ 8) (hst' : (r.map (rV is)).toList ++ rest = st')
    (kk : Z p l e R s m args below meth c nL G A h Q (k + mc) (n + ms) ws' (pc + 3) L st') : Z p l e R s m args below meth c nL G A h Q k n ws pc L st := fun H locs ls hP hD hS hl => by
  obtain ⟨M1, M2, M3, M5⟩ := M
  have hts := C.2.2.2.2.1
  have hG : GoodIn gA (va_wsS own index y (wsH y b mL ret hh)) := fun w hw => by
    have hw' : w ∈ gA := by
      rcases List.mem_append.mp (show w ∈ [Cond.methodLink own index y, Cond.static y, Cond.initialized y.cls] ++ wsH y b mL ret hh from hw) with hw | hw
      · simp only [List.mem_cons, List.not_mem_nil, or_false] at hw
        rcases hw with rfl | rfl | rfl
        · exact hm
        · exact M1
        · exact M2
      · rcases List.mem_cons.mp hw with rfl | hw
        · exact M3
        · exact hw
    exact ⟨hw', good_of_word (gA_g hw')⟩
  have hcw := vx_cwSW (R := R) (args := args) (index := index) (mc := mc) (ms := ms) (rm := gRm dd mc ms) nA hts hG rfl rfl rfl M5 hR
  have hDc := subW_D hs hnd hD
  have hPc : va_P G.1 cls (kW G (fun j => h (rN is j)) cws) H := hP.by (rN is) (subW_k hs)
  have hF : ∀ q, va_A (kW G (fun j => h (rN is j)) cws) H.size q → A q := fun q hq => by
    rcases hq with ⟨j, e', z⟩ | z
    · exact hD.2 _ _ (subW_k hs j _ z)
    · exact C.2.2.2.2.2.2.1 q (Nat.le_trans hS.1 z)
  refine Z_back C hP hD hS hl hs hs' h2 hNW hNW' (vx_runSW (As := As.map (kV (fun j => h (rN is j)))) ⟨C.1, C.2.1, C.2.2.1, C.2.2.2.1, hts⟩ (hc l hst0 G (fun j => h (rN is j)) H.size) hcw ⟨gBY_blind _ _ _ _ _, fun U hU hW => ⟨rfl, ⟨by rw [hU], by rw [hU]; exact hPc, va_K.moved hW.alike C.2.2.2.2.2.1, hDc.weaken (fun _ _ _ _ => trivial), gN_warm hW C.2.2.2.2.2.2.2⟩, gX_at hY.1 hS hF hU hW, gNc_moved hW.alike hY.2⟩⟩ rfl (by rw [List.length_map]; exact hnA) hl.1 ?_ (lv_room (by rw [kst_cat]; exact hW)) d hcs) hst' kk
  show st.map (kV h) = _
  rw [← hst, List.map_append, List.map_reverse, kst_r]
end ZW
