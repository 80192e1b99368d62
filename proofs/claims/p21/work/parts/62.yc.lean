/-! worlds by place: contracts and calls -/
/-- what every method of the law's finds: no stack traces, what a throw takes, the script -/
def Cs (l : Launch) (s : State) (A : Nat → Prop) (b N : Nat) (xs : Nat → Int32) : Prop := l.stackTraces = false ∧ gX A s s.heap ∧ va_X b N xs s s.heap ∧ b < s.heap.size ∧ ¬ A b
def gBm (G : gG) (sz : Nat) (ws : va_W) (b N : Nat) (xs : Nat → Int32) (U : State) : Prop := (U.heap.size = sz ∧ va_P G.1 cls ws U.heap ∧ va_K G.1 cls (gTy G) U ∧ va_D (fun _ => True) ws ∧ gN U) ∧ gX (va_A ws sz) U U.heap ∧ va_X b N xs U U.heap
def gQm (G : gG) (h : Nat → Nat) (A : Nat → Prop) (kp : Nat → Prop) (F : Option Value → WF → Prop) : Array Value → State → Outcome → State → Prop := fun _ st oc t => (∃ (h' : Nat → Nat) (ws' : va_W) (r : Option Value) (w' : WF), (∀ i, kp i → h' i = h i) ∧ F r w' ∧ oc = .returned (r.map (kV h')) ∧ va_P G.1 cls ws' t.heap ∧ va_D A ws' ∧ MW G h' w' ws') ∧ va_F A st t
/-- a contract over the caller's whole world: places in kp keep their addresses, F says what comes back -/
def CTm (y : MethodName) (bb : ByteArray) (mL : Nat) (ret : Option FieldType) (d mc ms : Nat) (av : List Value) (w : WF) (kp : Nat → Prop) (F : Option Value → WF → Prop) : Prop :=
  ∀ (l : Launch), l.stackTraces = false → ∀ (G : gG) (h : Nat → Nat) (sz : Nat) (ws : va_W) (b N : Nat) (xs : Nat → Int32), MW G h w ws → b < sz → ¬ va_A ws sz b → Met l y (wsY y bb mL ret) (gRm d mc ms) (va_Pc (av.map (kV h)) (gBm G sz ws b N xs)) (gQm G h (va_A ws sz) kp F) mc ms (va_A ws sz)
/-- the same, where the script is an argument -/
def CTs (y : MethodName) (bb : ByteArray) (mL : Nat) (ret : Option FieldType) (d mc ms : Nat) (av : List Value) (N : Nat) (xs : Nat → Int32) (w : WF) (kp : Nat → Prop) (F : Option Value → WF → Prop) : Prop :=
  ∀ (l : Launch), l.stackTraces = false → ∀ (G : gG) (h : Nat → Nat) (sz : Nat) (ws : va_W) (b : Nat), h 1000 = b → MW G h w ws → b < sz → ¬ va_A ws sz b → Met l y (wsY y bb mL ret) (gRm d mc ms) (va_Pc (av.map (kV h)) (gBm G sz ws b N xs)) (gQm G h (va_A ws sz) kp F) mc ms (va_A ws sz)
theorem CT_core {y : MethodName} {bb : ByteArray} {mL : Nat} {ret : Option FieldType} {d mc ms : Nat} {av : List Value} {w : WF} {kp : Nat → Prop} {F : Option Value → WF → Prop} {L : List (Nat × Value)} (hy : plainName y.cls = true) (hL : ∀ h, lv_args 0 (av.map (kV h)) = kL h L) (hsl : ∀ h, (lg_sl (av.map (kV h))).length ≤ mL) {l : Launch} (hst : l.stackTraces = false) {G : gG} {h : Nat → Nat} {sz : Nat} {ws : va_W} {b N : Nat} {xs : Nat → Int32} (hM : MW G h w ws) (hbs : b < sz) (hbA : ¬ va_A ws sz b)
    (body : ∀ (p : Program) (e : Env) (s : State) (m : MethodId) (args : Array Value) (below : List Frame) (meth : Method) (c : Code) (A : Nat → Prop), Cx p s m args c bb mL y.cls G A → Cs l s A b N xs → meth.sig.returnType = ret → meth.locks = false → meth.name = y.name →
      Y p l e (gRm d mc ms) s m args below meth c mL G A h (MQ below (gQm G h A kp F) args s mc ms A) 0 0 w 0 L []) : Met l y (wsY y bb mL ret) (gRm d mc ms) (va_Pc (av.map (kV h)) (gBm G sz ws b N xs)) (gQm G h (va_A ws sz) kp F) mc ms (va_A ws sz) := by
  refine Met.ofW (cc := bb) (maxL := mL) (ret := ret) hy rfl ?_
  intro p e s m args below meth c s₁ B hml hv
  obtain ⟨rfl, ⟨hsz, hP, hK, hD0, hN⟩, hX, hscr⟩ := hv
  have hx := B.exec
  have hb := B.bytes
  have hr := B.returns
  have hts := atoms_spec (ws := wsY y bb mL ret) B.pre
  have hown : s.vm.findClass y.cls = some m.cls := findClass_of_methodNamed B.named
  have hlocks := B.notSynchronized
  have hin : meth.name = y.name := (name_of_methodNamed B.named B.method).1
  subst hsz
  have hD := hD0.self (sz := s.heap.size)
  generalize hAe : va_A ws s.heap.size = A at hD hX hbA ⊢
  have hA : ∀ q : Nat, s.heap.size ≤ q → A q := fun q h => by rw [← hAe]; exact Or.inr h
  have hl := lv_entry (av.map (kV h)) (n := mL) (hsl h)
  rw [lg_entry_eq]
  rw [hL h] at hl
  exact body p e s m _ below meth c A ⟨hx, hb, hml, hown, fun w hw => hts w (List.mem_cons_of_mem _ hw), hK, hA, hN⟩ ⟨hst, hX, hscr, hbs, hbA⟩ hr hlocks hin s.heap [] _ ws hP hD hM va_S.rf hl
theorem CTm_of {y : MethodName} {bb : ByteArray} {mL : Nat} {ret : Option FieldType} {d mc ms : Nat} {av : List Value} {w : WF} {kp : Nat → Prop} {F : Option Value → WF → Prop} {L : List (Nat × Value)} (hy : plainName y.cls = true) (hL : ∀ h, lv_args 0 (av.map (kV h)) = kL h L) (hsl : ∀ h, (lg_sl (av.map (kV h))).length ≤ mL)
    (body : ∀ (p : Program) (l : Launch) (e : Env) (s : State) (m : MethodId) (args : Array Value) (below : List Frame) (meth : Method) (c : Code) (G : gG) (h : Nat → Nat) (A : Nat → Prop) (b N : Nat) (xs : Nat → Int32), Cx p s m args c bb mL y.cls G A → Cs l s A b N xs → meth.sig.returnType = ret → meth.locks = false → meth.name = y.name →
      Y p l e (gRm d mc ms) s m args below meth c mL G A h (MQ below (gQm G h A kp F) args s mc ms A) 0 0 w 0 L []) : CTm y bb mL ret d mc ms av w kp F :=
  fun l hst G h sz ws b N xs hM hbs hbA => CT_core hy hL hsl hst hM hbs hbA (fun p e s m args below meth c A C S hr hlk hnm => body p l e s m args below meth c G h A b N xs C S hr hlk hnm)
theorem CTs_of {y : MethodName} {bb : ByteArray} {mL : Nat} {ret : Option FieldType} {d mc ms N : Nat} {xs : Nat → Int32} {av : List Value} {w : WF} {kp : Nat → Prop} {F : Option Value → WF → Prop} {L : List (Nat × Value)} (hy : plainName y.cls = true) (hL : ∀ h, lv_args 0 (av.map (kV h)) = kL h L) (hsl : ∀ h, (lg_sl (av.map (kV h))).length ≤ mL)
    (body : ∀ (p : Program) (l : Launch) (e : Env) (s : State) (m : MethodId) (args : Array Value) (below : List Frame) (meth : Method) (c : Code) (G : gG) (h : Nat → Nat) (A : Nat → Prop) (b : Nat), h 1000 = b → Cx p s m args c bb mL y.cls G A → Cs l s A b N xs → meth.sig.returnType = ret → meth.locks = false → meth.name = y.name →
      Y p l e (gRm d mc ms) s m args below meth c mL G A h (MQ below (gQm G h A kp F) args s mc ms A) 0 0 w 0 L []) : CTs y bb mL ret d mc ms av N xs w kp F :=
  fun l hst G h sz ws b hh hM hbs hbA => CT_core hy hL hsl hst hM hbs hbA (fun p e s m args below meth c A C S hr hlk hnm => body p l e s m args below meth c G h A b hh C S hr hlk hnm)
theorem gBm_blind (G : gG) (sz : Nat) (ws : va_W) (b N : Nat) (xs : Nat → Int32) (av : List Value) : FrameBlind (va_Pc av (gBm G sz ws b N xs)) := fun a U g mk q => by
  obtain ⟨q0, ⟨q1, qP, qK, qD, qN⟩, ⟨x1, x2, x3⟩, x4⟩ := q
  exact ⟨q0, ⟨q1, qP, va_K.moved (u := U) (U := U.calling g mk a) (Vm.Alike.refl U.vm) qK, qD, gN_same (u := U) (U := U.calling g mk a) rfl qN⟩, ⟨vx_Zq.moved (u := U) (U := U.calling g mk a) (Vm.Alike.refl U.vm) x1, vx_Zq.moved (u := U) (U := U.calling g mk a) (Vm.Alike.refl U.vm) x2, gS_same (u := U) (U := U.calling g mk a) rfl x3⟩, va_X.moved (u := U) (U := U.calling g mk a) (Vm.Alike.refl U.vm) x4⟩
theorem gBX_blind (G : gG) (h : Nat → Nat) (sz : Nat) (cws : List va_E) (av : List Value) : FrameBlind (va_Pc av (gBX G h sz cws)) := fun a U g mk q => by
  obtain ⟨q0, ⟨q1, qP, qK, qD, qN⟩, x1, x2, x3⟩ := q
  exact ⟨q0, ⟨q1, qP, va_K.moved (u := U) (U := U.calling g mk a) (Vm.Alike.refl U.vm) qK, qD, gN_same (u := U) (U := U.calling g mk a) rfl qN⟩, vx_Zq.moved (u := U) (U := U.calling g mk a) (Vm.Alike.refl U.vm) x1, vx_Zq.moved (u := U) (U := U.calling g mk a) (Vm.Alike.refl U.vm) x2, gS_same (u := U) (U := U.calling g mk a) rfl x3⟩
theorem gX_at {A B : Nat → Prop} {s U : State} {H : Heap} {locs : List Loc} (hX : gX A s s.heap) (hS : va_S A s.heap H locs) (hB : ∀ q, B q → A q) (hU : U.heap = H) (hW : s.WarmedH U.vm) : gX B U U.heap := by
  obtain ⟨x1, x2, x3⟩ := hX
  rw [hU]
  exact ⟨vx_Zq.moved hW.alike ((x1.kept hS.2.1).narrow hB), vx_Zq.moved hW.alike ((x2.kept hS.2.1).narrow hB), gS_warm hW x3⟩
theorem scr_at {A : Nat → Prop} {s U : State} {H : Heap} {locs : List Loc} {b N : Nat} {xs : Nat → Int32} (hX : va_X b N xs s s.heap) (hbl : b < s.heap.size) (hbA : ¬ A b) (hS : va_S A s.heap H locs) (hU : U.heap = H) (hW : s.WarmedH U.vm) : va_X b N xs U U.heap := by
  rw [hU]
  exact va_X.moved hW.alike (hX.kept (hS.2.1 b hbl hbA))
theorem MW_D {A : Nat → Prop} {G : gG} {h : Nat → Nat} {w : WF} {ws : va_W} {cws : List va_E} (hM : MW G h w ws) (hD : va_D A ws) (hc : ∀ j e, cws[j]? = some e → w j = some e) : va_D A (kW G h cws) := by
  refine ⟨fun i j p q hp hq hh => ?_, fun i q hq => ?_⟩
  · obtain ⟨e1, h1, rfl⟩ := kW_of hp
    obtain ⟨e2, h2, rfl⟩ := kW_of hq
    exact hM.2 i j e1 e2 (hc i e1 h1) (hc j e2 h2) hh
  · obtain ⟨e1, h1, rfl⟩ := kW_of hq
    obtain ⟨j, hj⟩ := hM.1 i e1 (hc i e1 h1)
    exact hD.2 j _ hj
theorem MW_P {G : gG} {h : Nat → Nat} {w : WF} {ws : va_W} {H : Heap} {cws : List va_E} (hM : MW G h w ws) (hP : va_P G.1 cls ws H) (hc : ∀ j e, cws[j]? = some e → w j = some e) : va_P G.1 cls (kW G h cws) H := by
  intro i q hq
  obtain ⟨e1, h1, rfl⟩ := kW_of hq
  exact hM.lt hP (hc i e1 h1)
theorem kW_A {G : gG} {h : Nat → Nat} {w : WF} {ws : va_W} {A : Nat → Prop} {sz : Nat} {cws : List va_E} (hM : MW G h w ws) (hD : va_D A ws) (hc : ∀ j e, cws[j]? = some e → w j = some e) (hA : ∀ q, sz ≤ q → A q) : ∀ q, va_A (kW G h cws) sz q → A q := fun q hq => by
  rcases hq with ⟨j, e', z⟩ | z
  · exact (MW_D hM hD hc).2 _ _ z
  · exact hA q z
/-- behind a call that wrote the cells of places below m alone -/
theorem MW_back {A : Nat → Prop} {G : gG} {h : Nat → Nat} {w w' : WF} {ws : va_W} {cws cws' : List va_E} {H H1 : Heap} (hM : MW G h w ws) (hP : va_P G.1 cls ws H) (hD : va_D A ws) (hc : ∀ j e, cws[j]? = some e → w j = some e) (hlen : cws'.length = cws.length) (hP1 : va_P G.1 cls (kW G h cws') H1) (hk : ∀ q : Nat, q < H.size → ¬ va_A (kW G h cws) H.size q → H1[q]? = H[q]?) (hw' : ∀ i, w' i = if i < cws.length then cws'[i]? else w i) : ∃ ws' : va_W, va_P G.1 cls ws' H1 ∧ va_D A ws' ∧ MW G h w' ws' := by
  have key : ∀ m : Nat, m ≤ cws.length → ∃ ws' : va_W, va_D A ws' ∧ MW G h (fun i => if i < m then cws'[i]? else w i) ws' ∧ ∀ (k : Nat) (x : Nat × va_E), ws'[k]? = some x → (∃ j, j < m ∧ (kW G h cws')[j]? = some x) ∨ (ws[k]? = some x ∧ ∀ j, j < m → x.1 ≠ h j) := by
    intro m
    induction m with
    | zero => exact fun _ => ⟨ws, hD, by simpa using hM, fun k x hx => Or.inr ⟨hx, fun j hj => absurd hj (Nat.not_lt_zero _)⟩⟩
    | succ m ih =>
      intro hm
      obtain ⟨ws1, d1, m1, t1⟩ := ih (by omega)
      have hlt : m < cws.length := by omega
      have hw : w m = some cws[m] := hc m _ (List.getElem?_eq_getElem hlt)
      have hlt' : m < cws'.length := by omega
      have hwm : (fun i => if i < m then cws'[i]? else w i) m = some cws[m] := by
        show (if m < m then _ else w m) = _
        rw [if_neg (Nat.lt_irrefl m), hw]
      obtain ⟨j, hj⟩ := m1.1 m _ hwm
      have m2 := m1.set (e := cws'[m]) hwm hj
      refine ⟨ws1.set j (h m, kE G h cws'[m]), d1.set hj, ?_, fun k x hx => ?_⟩
      · have e : wU (fun i => if i < m then cws'[i]? else w i) m cws'[m] = fun i => if i < m + 1 then cws'[i]? else w i := by
          funext i
          by_cases h1 : i = m
          · subst h1
            rw [wU_s]
            show _ = if i < i + 1 then cws'[i]? else w i
            rw [if_pos (Nat.lt_succ_self i), List.getElem?_eq_getElem hlt']
          · rw [wU_n _ _ h1]
            show (if i < m then _ else _) = (if i < m + 1 then _ else _)
            by_cases h2 : i < m
            · rw [if_pos h2, if_pos (by omega)]
            · rw [if_neg h2, if_neg (by omega)]
        rw [e] at m2
        exact m2
      · have hjl : j < ws1.length := (List.getElem?_eq_some_iff.mp hj).1
        by_cases hkj : k = j
        · subst hkj
          rw [List.getElem?_set_self hjl] at hx
          cases hx
          exact Or.inl ⟨m, Nat.lt_succ_self m, kW_at (List.getElem?_eq_getElem hlt')⟩
        · rw [List.getElem?_set_ne (Ne.symm hkj)] at hx
          rcases t1 k x hx with ⟨i, hi, hq⟩ | ⟨hq, hn⟩
          · exact Or.inl ⟨i, by omega, hq⟩
          · refine Or.inr ⟨hq, fun i hi => ?_⟩
            by_cases him : i = m
            · subst him
              intro z
              exact hkj (d1.1 k j x _ hx hj z)
            · exact hn i (by omega)
  obtain ⟨ws1, d1, m1, t1⟩ := key cws.length (Nat.le_refl _)
  refine ⟨ws1, fun k x hx => ?_, d1, ?_⟩
  · rcases t1 k x hx with ⟨j, -, hq⟩ | ⟨hq, hn⟩
    · exact hP1 j x hq
    · have h1 := hP k x hq
      refine h1.kept (hk _ h1.lt (fun z => ?_))
      rcases z with ⟨j, e', z⟩ | z
      · obtain ⟨e0, he0, h2⟩ := kW_of z
        have hjl : j < cws.length := (List.getElem?_eq_some_iff.mp he0).1
        exact hn j hjl (congrArg Prod.fst h2)
      · exact absurd h1.lt (Nat.not_lt.mpr z)
  · have e : (fun i => if i < cws.length then cws'[i]? else w i) = w' := by
      funext i
      exact (hw' i).symm
    rw [← e]
    exact m1
section YC
variable {p : Program} {l : Launch} {e : Env} {R : Room} {s : State} {m : MethodId} {args : Array Value} {below : List Frame} {meth : Method} {c : Code} {cc : ByteArray} {nL : Nat} {own : String} {G : gG} {A : Nat → Prop} {h h0 : Nat → Nat} {Q : State → Prop} {k n : Nat} {w w' : WF} {pc : Nat} {L L' : List (Nat × Value)} {st st' rest : List Value} {b N : Nat} {xs : Nat → Int32} {kp : Nat → Prop} {F : Option Value → WF → Prop}
/-- returns -/
theorem Y_iret (C : Cx p s m args c cc nL own G A) (hr : meth.sig.returnType = some .int) (hlk : meth.locks = false) {v : Int32} (d : decode cc pc = .ok (.ireturn, 1)) (hag : ∀ i, kp i → h i = h0 i) (hF : F (some (.int v)) w) : Y p l e R s m args below meth c nL G A h (MQ below (gQm G h0 A kp F) args s k n A) k n w pc L [.int v] := fun H locs ls ws hP hD hM hS hl =>
  W.iret C.1 C.2.1 hr (fun t ht _ => ⟨⟨h, ws, some (.int v), w, hag, hF, rfl, by rw [ht]; exact hP, hD, hM⟩, hS.F ht⟩) hS.2.2 d (hlocks := hlk)
theorem Y_zret (C : Cx p s m args c cc nL own G A) (hr : meth.sig.returnType = some .boolean) (hlk : meth.locks = false) {v : Int32} (d : decode cc pc = .ok (.ireturn, 1)) (hn : narrow .boolean (.int v) = .int v) (hag : ∀ i, kp i → h i = h0 i) (hF : F (some (.int v)) w) : Y p l e R s m args below meth c nL G A h (MQ below (gQm G h0 A kp F) args s k n A) k n w pc L [.int v] := fun H locs ls ws hP hD hM hS hl =>
  W.zret C.1 C.2.1 hr hn (fun t ht _ => ⟨⟨h, ws, some (.int v), w, hag, hF, rfl, by rw [ht]; exact hP, hD, hM⟩, hS.F ht⟩) hS.2.2 d (hlocks := hlk)
theorem Y_vret (C : Cx p s m args c cc nL own G A) (hr : meth.sig.returnType = none) (hlk : meth.locks = false) (d : decode cc pc = .ok (.return_, 1)) (hag : ∀ i, kp i → h i = h0 i) (hF : F none w) : Y p l e R s m args below meth c nL G A h (MQ below (gQm G h0 A kp F) args s k n A) k n w pc L [] := fun H locs ls ws hP hD hM hS hl =>
  W.vret C.1 C.2.1 hr (fun t ht _ => ⟨⟨h, ws, none, w, hag, hF, rfl, by rw [ht]; exact hP, hD, hM⟩, hS.F ht⟩) hS.2.2 d (hlocks := hlk)
theorem Y_aret (C : Cx p s m args c cc nL own G A) {rt : FieldType} (hr : meth.sig.returnType = some rt) (hrt : (∃ n, rt = .object n) ∨ ∃ t, rt = .array t) (hlk : meth.locks = false) {i : Nat} (d : decode cc pc = .ok (.areturn, 1)) (hag : ∀ i, kp i → h i = h0 i) (hF : F (some (.ref i)) w) : Y p l e R s m args below meth c nL G A h (MQ below (gQm G h0 A kp F) args s k n A) k n w pc L [.ref i] := fun H locs ls ws hP hD hM hS hl =>
  W.aret (v := .ref (h i)) C.1 C.2.1 hr hrt (Or.inr ⟨_, rfl⟩) (fun t ht _ => ⟨⟨h, ws, some (.ref i), w, hag, hF, rfl, by rw [ht]; exact hP, hD, hM⟩, hS.F ht⟩) hS.2.2 d (hlocks := hlk)
/-- behind a run -/
theorem Y_ran {H : Heap} {locs : List Loc} {ls : Array Slot} {ws : va_W} {a : Array Value} {mc ms : Nat} {st0 : List Value} (C : Cx p s m args c cc nL own G A) (hD : va_D A ws) (hS : va_S A s.heap H locs) (hl : lv_has ls nL (kL h L)) (hL : lR kp L) (hrest : sR kp rest)
    (hr : va_Run p l e R s m args below meth c H locs k n mc ms (F0 m pc ls st0) (rest.map (kV h)) (gQm G h (va_A ws H.size) kp F a) (va_A ws H.size))
    (kk : ∀ (h' : Nat → Nat) (r : Option Value) (w' : WF), (∀ i, kp i → h' i = h i) → F r w' → Y p l e R s m args below meth c nL G A h' Q (k + mc) (n + ms) w' (pc + 3) L (r.toList ++ rest)) : W p l e R s m args below meth c H locs k n Q (F0 m pc ls st0) := by
  have hFr : ∀ q, va_A ws H.size q → A q := fun q hq => by
    rcases hq with ⟨j, e', z⟩ | z
    · exact hD.2 _ _ z
    · exact C.2.2.2.2.2.2.1 q (Nat.le_trans hS.1 z)
  intro T hT X
  obtain ⟨v, st₀, t, T', L9, h9, X', hL9, e1, e2, ⟨⟨h', ws', r, w', hag, hF, hv, hP1, hD1, hM1⟩, hz, hk⟩, st9⟩ := hr T hT X
  have hv' : v = r.map (kV h') := by injection hv
  subst hv'
  rw [h9] at hz hk
  rw [← e1] at hP1 hz hk
  obtain ⟨t2, a1, b1⟩ := kk h' r w' hag hF T'.heap (locs ++ L9) ls ws' hP1 (hD1.weaken (fun i q z _ => hFr _ (hD1.2 _ _ z))) hM1
    ⟨Nat.le_trans hS.1 hz, fun q h1 h2 => by rw [hk q (Nat.lt_of_lt_of_le h1 hS.1) (fun z => h2 (hFr q z))]; exact hS.2.1 q h1 h2, fun q hq => by
      rcases List.mem_append.mp hq with h | h
      · exact hS.2.2 q h
      · exact hFr _ (hL9 q h)⟩ (by rw [kL_P hag hL]; exact hl) T' rfl X'
  have est : (r.toList ++ rest).map (kV h') = (r.map (kV h')).toList ++ rest.map (kV h) := by
    rw [List.map_append, kVs_P hag hrest]
    cases r <;> rfl
  rw [est] at a1
  exact ⟨t2, st9 t2 a1, b1⟩
theorem gBm_at (C : Cx p s m args c cc nL own G A) (S : Cs l s A b N xs) {H : Heap} {locs : List Loc} {ws : va_W} (hP : va_P G.1 cls ws H) (hD : va_D A ws) (hS : va_S A s.heap H locs) {U : State} (hU : U.heap = H) (hW : s.WarmedH U.vm) : gBm G H.size ws b N xs U :=
  ⟨⟨by rw [hU], by rw [hU]; exact hP, va_K.moved hW.alike C.2.2.2.2.2.1, hD.weaken (fun _ _ _ _ => trivial), gN_warm hW C.2.2.2.2.2.2.2⟩, gX_at S.2.1 hS (fun q hq => by
    rcases hq with ⟨j, e', z⟩ | z
    · exact hD.2 _ _ z
    · exact C.2.2.2.2.2.2.1 q (Nat.le_trans hS.1 z)) hU hW, scr_at S.2.2.1 S.2.2.2.1 S.2.2.2.2 hS hU hW⟩
theorem nA_of (S : Cs l s A b N xs) {H : Heap} {locs : List Loc} {ws : va_W} (hD : va_D A ws) (hS : va_S A s.heap H locs) : b < H.size ∧ ¬ va_A ws H.size b := by
  have h1 := Nat.lt_of_lt_of_le S.2.2.2.1 hS.1
  refine ⟨h1, fun z => ?_⟩
  rcases z with ⟨j, e', z⟩ | z
  · exact S.2.2.2.2 (hD.2 _ _ z)
  · omega
theorem Y_callM (C : Cx p s m args c cc nL own G A) (S : Cs l s A b N xs) {y : MethodName} {bb : ByteArray} {mL dd mc ms nA index q ci NN : Nat} {ret : Option FieldType} {As : List Value} {T : u_T} {ty : Nat → FieldType} {fs : List Value} (hc : CTm y bb mL ret dd mc ms (.ref q :: As) w kp F) (M : mV y bb mL ret nA) (K : cK y.cls T NN ci ty) (hm : Cond.methodLink own index y ∈ gA) (d : decode cc pc = .ok (.invokevirtual index, 3)) (he : w q = some (.inr (ci, fs))) (hst : As.reverse ++ .ref q :: rest = st) (hnA : As.length = nA) (hR : dd + 1 ≤ R.frames ∧ 8 + (mL + 11) + 30 * dd ≤ R.locals) (hcs : k + mc ≤ R.cells ∧ n + ms ≤ R.slots) (hW : (rest.map fun v => v.category).sum ≤ 8) (hL : lR kp L) (hrest : sR kp rest)
    (kk : ∀ (h' : Nat → Nat) (r : Option Value) (w' : WF), (∀ i, kp i → h' i = h i) → F r w' → Y p l e R s m args below meth c nL G A h' Q (k + mc) (n + ms) w' (pc + 3) L (r.toList ++ rest)) : Y p l e R s m args below meth c nL G A h Q k n w pc L st := fun H locs ls ws hP hD hM hS hl => by
  obtain ⟨M1, M2, M3, M4, M5⟩ := M
  have hts := C.2.2.2.2.1
  have hG : GoodIn gA (wsV own index y.cls y (wsY y bb mL ret)) := fun w hw => by
    rcases List.mem_append.mp (show w ∈ [Cond.methodLink own index y, Cond.instanceMethod y, Cond.selects y.cls y y, Cond.initialized y.cls] ++ wsY y bb mL ret from hw) with hw | hw
    · have hw' : w ∈ gA := by
        simp only [List.mem_cons, List.not_mem_nil, or_false] at hw
        rcases hw with rfl | rfl | rfl | rfl
        · exact hm
        · exact M1
        · exact M2
        · exact M3
      exact ⟨hw', good_of_word (gA_g hw')⟩
    · exact gA_good M4 w hw
  have hcw : CallW R s args own y.cls index y bb mL ret (wsY y bb mL ret) (gRm dd mc ms) mc ms nA := cwV nA hts hG rfl rfl rfl M5 hR
  obtain ⟨i, hi⟩ := hM.1 q _ he
  obtain ⟨hb1, hb2⟩ := nA_of S hD hS
  refine Y_ran C hD hS hl hL hrest (va_runV (As := As.map (kV h)) (b := h q) ⟨C.1, C.2.1, C.2.2.1, C.2.2.2.1, hts⟩ (hc l S.1 G h H.size ws b N xs hM hb1 hb2) hcw ⟨gBm_blind _ _ _ _ _ _ _, va_recv C.2.2.2.2.2.1 hP K.2.1 hi, fun U hU hW => ⟨rfl, gBm_at C S hP hD hS hU hW⟩⟩ rfl (by rw [List.length_map]; exact hnA) hl.1 ?_ (lv_room (by rw [kst_cat]; exact hW)) d hcs) kk
  show st.map (kV h) = _
  rw [← hst, List.map_append, List.map_reverse]
  rfl
theorem Y_callMS (C : Cx p s m args c cc nL own G A) (S : Cs l s A b N xs) {y : MethodName} {bb : ByteArray} {mL dd mc ms nA index : Nat} {ret : Option FieldType} {As : List Value} (hc : CTm y bb mL ret dd mc ms As w kp F) (M : mS y bb mL ret nA) (hm : Cond.methodLink own index y ∈ gA) (d : decode cc pc = .ok (.invokestatic index, 3)) (hst : As.reverse ++ rest = st) (hnA : As.length = nA) (hR : dd + 1 ≤ R.frames ∧ 8 + (mL + 11) + 30 * dd ≤ R.locals) (hcs : k + mc ≤ R.cells ∧ n + ms ≤ R.slots) (hW : (rest.map fun v => v.category).sum ≤ 8) (hL : lR kp L) (hrest : sR kp rest)
    (kk : ∀ (h' : Nat → Nat) (r : Option Value) (w' : WF), (∀ i, kp i → h' i = h i) → F r w' → Y p l e R s m args below meth c nL G A h' Q (k + mc) (n + ms) w' (pc + 3) L (r.toList ++ rest)) : Y p l e R s m args below meth c nL G A h Q k n w pc L st := fun H locs ls ws hP hD hM hS hl => by
  obtain ⟨M1, M2, M3, M5⟩ := M
  have hts := C.2.2.2.2.1
  have hG : GoodIn gA (va_wsS own index y (wsY y bb mL ret)) := fun w hw => by
    rcases List.mem_append.mp (show w ∈ [Cond.methodLink own index y, Cond.static y, Cond.initialized y.cls] ++ wsY y bb mL ret from hw) with hw | hw
    · have hw' : w ∈ gA := by
        simp only [List.mem_cons, List.not_mem_nil, or_false] at hw
        rcases hw with rfl | rfl | rfl
        · exact hm
        · exact M1
        · exact M2
      exact ⟨hw', good_of_word (gA_g hw')⟩
    · exact gA_good M3 w hw
  have hcw := va_cwS (R := R) (args := args) (index := index) (mc := mc) (ms := ms) (rm := gRm dd mc ms) nA hts hG rfl rfl rfl M5.2 hR
  obtain ⟨hb1, hb2⟩ := nA_of S hD hS
  refine Y_ran C hD hS hl hL hrest (va_runS (As := As.map (kV h)) ⟨C.1, C.2.1, C.2.2.1, C.2.2.2.1, hts⟩ (hc l S.1 G h H.size ws b N xs hM hb1 hb2) hcw ⟨gBm_blind _ _ _ _ _ _ _, fun U hU hW => ⟨rfl, gBm_at C S hP hD hS hU hW⟩⟩ rfl (by rw [List.length_map]; exact hnA) hl.1 ?_ (lv_room (by rw [kst_cat]; exact hW)) d hcs) kk
  show st.map (kV h) = _
  rw [← hst, List.map_append, List.map_reverse]
theorem Y_callSs (C : Cx p s m args c cc nL own G A) (S : Cs l s A b N xs) (hh : h 1000 = b) {y : MethodName} {bb : ByteArray} {mL dd mc ms nA index : Nat} {ret : Option FieldType} {As : List Value} (hc : CTs y bb mL ret dd mc ms As N xs w kp F) (M : mS y bb mL ret nA) (hm : Cond.methodLink own index y ∈ gA) (d : decode cc pc = .ok (.invokestatic index, 3)) (hst : As.reverse ++ rest = st) (hnA : As.length = nA) (hR : dd + 1 ≤ R.frames ∧ 8 + (mL + 11) + 30 * dd ≤ R.locals) (hcs : k + mc ≤ R.cells ∧ n + ms ≤ R.slots) (hW : (rest.map fun v => v.category).sum ≤ 8) (hL : lR kp L) (hrest : sR kp rest)
    (kk : ∀ (h' : Nat → Nat) (r : Option Value) (w' : WF), (∀ i, kp i → h' i = h i) → F r w' → Y p l e R s m args below meth c nL G A h' Q (k + mc) (n + ms) w' (pc + 3) L (r.toList ++ rest)) : Y p l e R s m args below meth c nL G A h Q k n w pc L st := fun H locs ls ws hP hD hM hS hl => by
  obtain ⟨M1, M2, M3, M5⟩ := M
  have hts := C.2.2.2.2.1
  have hG : GoodIn gA (va_wsS own index y (wsY y bb mL ret)) := fun w hw => by
    rcases List.mem_append.mp (show w ∈ [Cond.methodLink own index y, Cond.static y, Cond.initialized y.cls] ++ wsY y bb mL ret from hw) with hw | hw
    · have hw' : w ∈ gA := by
        simp only [List.mem_cons, List.not_mem_nil, or_false] at hw
        rcases hw with rfl | rfl | rfl
        · exact hm
        · exact M1
        · exact M2
      exact ⟨hw', good_of_word (gA_g hw')⟩
    · exact gA_good M3 w hw
  have hcw := va_cwS (R := R) (args := args) (index := index) (mc := mc) (ms := ms) (rm := gRm dd mc ms) nA hts hG rfl rfl rfl M5.2 hR
  obtain ⟨hb1, hb2⟩ := nA_of S hD hS
  refine Y_ran C hD hS hl hL hrest (va_runS (As := As.map (kV h)) ⟨C.1, C.2.1, C.2.2.1, C.2.2.2.1, hts⟩ (hc l S.1 G h H.size ws b hh hM hb1 hb2) hcw ⟨gBm_blind _ _ _ _ _ _ _, fun U hU hW => ⟨rfl, gBm_at C S hP hD hS hU hW⟩⟩ rfl (by rw [List.length_map]; exact hnA) hl.1 ?_ (lv_room (by rw [kst_cat]; exact hW)) d hcs) kk
  show st.map (kV h) = _
  rw [← hst, List.map_append, List.map_reverse]
/-- a constructor of a nest mate's -/
theorem Y_callMI (C : Cx p s m args c cc nL own G A) (S : Cs l s A b N xs) {y : MethodName} {bb : ByteArray} {host : String} {mL dd mc ms index q : Nat} (hc : CTm y bb mL none dd mc ms [.ref q] w kp F) (M : iS y bb mL) (hm : Cond.methodLinkNest own index y host ∈ nW) (d : decode cc pc = .ok (.invokespecial index, 3)) (hR : dd + 1 ≤ R.frames ∧ 8 + (mL + 11) + 30 * dd ≤ R.locals) (hcs : k + mc ≤ R.cells ∧ n + ms ≤ R.slots) (hW : (rest.map fun v => v.category).sum ≤ 8) (hL : lR kp L) (hrest : sR kp rest)
    (kk : ∀ (h' : Nat → Nat) (r : Option Value) (w' : WF), (∀ i, kp i → h' i = h i) → F r w' → Y p l e R s m args below meth c nL G A h' Q (k + mc) (n + ms) w' (pc + 3) L (r.toList ++ rest)) : Y p l e R s m args below meth c nL G A h Q k n w pc L (.ref q :: rest) := fun H locs ls ws hP hD hM hS hl => by
  obtain ⟨M1, M3, M4, M6, M5⟩ := M
  have hts := C.2.2.2.2.1
  have hcw := va_cnB (R := R) (args := args) (index := index) (own := own) (mc := mc) (ms := ms) (rm := gRm dd mc ms) 0 hts (gA_good M4) rfl rfl rfl (C.2.2.2.2.2.2.2.1 _ hm) (hts _ M3) M5 hR
  obtain ⟨hb1, hb2⟩ := nA_of S hD hS
  exact Y_ran C hD hS hl hL hrest (va_runIN (As := []) (b := h q) ⟨C.1, C.2.1, C.2.2.1, C.2.2.2.1, hts⟩ (hc l S.1 G h H.size ws b N xs hM hb1 hb2) ⟨hcw, M6, hts _ M1⟩ ⟨gBm_blind _ _ _ _ _ _ _, fun U hU hW => ⟨rfl, gBm_at C S hP hD hS hU hW⟩⟩ rfl rfl hl.1 rfl (lv_room (by rw [kst_cat]; exact hW)) d hcs) kk
theorem Y_objI (C : Cx p s m args c cc nL own G A) {index q : Nat} (d : decode cc pc = .ok (.invokespecial index, 3)) (hlink : Cond.methodLink own index Lib.objectInit ∈ gA) (h2 : Cond.instanceMethod Lib.objectInit ∈ gA) (h3 : Cond.code Lib.objectInit ⟨#[0xb1]⟩ 1 none ∈ gA) (hR : 1 ≤ R.frames ∧ (st.map fun v => v.category).sum + 12 ≤ R.locals) (kk : Y p l e R s m args below meth c nL G A h Q k n w (pc + 3) L st) : Y p l e R s m args below meth c nL G A h Q k n w pc L (.ref q :: st) := fun H locs ls ws hP hD hM hS hl =>
  W.objInit (g := F0 m pc ls (.ref (h q) :: st.map (kV h))) C.1 C.2.1 C.2.2.2.1 (C.2.2.2.2.1 _ hlink) (C.2.2.2.2.1 _ h2) (C.2.2.2.2.1 _ h3) rfl (hl.1.trans C.2.2.1.symm) rfl d hR.1 (by show 2 * 0 + ((st.map (kV h)).map fun v => v.category).sum + 12 ≤ _; rw [kst_cat]; have := hR.2; omega) (kk H locs ls ws hP hD hM hS hl)
/-- the class's methods: they write the places of their own cells alone -/
theorem Y_callX (C : Cx p s m args c cc nL own G A) (S : Cs l s A b N xs) {y : MethodName} {bb : ByteArray} {mL dd mc ms nA index ci NN : Nat} {ret : Option FieldType} {As : List Value} {cws cws' : List va_E} {xE : Option String} {r : Option Value} {T : u_T} {ty : Nat → FieldType} {fs : List Value} (hc : CTX y bb mL ret dd mc ms (.ref 0 :: As) cws xE r cws') (hE : xE = none) (M : mV y bb mL ret nA) (K : cK y.cls T NN ci ty) (hm : Cond.methodLink own index y ∈ gA) (d : decode cc pc = .ok (.invokevirtual index, 3)) (hst : As.reverse ++ .ref 0 :: rest = st) (hw : ∀ j e, cws[j]? = some e → w j = some e) (hlen : cws'.length = cws.length) (hw' : ∀ i, w' i = if i < cws.length then cws'[i]? else w i) (hrc : cws[0]? = some (.inr (ci, fs))) (hnA : As.length = nA) (hR : dd + 1 ≤ R.frames ∧ 8 + (mL + 11) + 30 * dd ≤ R.locals) (hcs : k + mc ≤ R.cells ∧ n + ms ≤ R.slots) (hW : (rest.map fun v => v.category).sum ≤ 8)
    (kk : Y p l e R s m args below meth c nL G A h Q (k + mc) (n + ms) w' (pc + 3) L (r.toList ++ rest)) : Y p l e R s m args below meth c nL G A h Q k n w pc L st := fun H locs ls ws hP hD hM hS hl => by
  obtain ⟨M1, M2, M3, M4, M5⟩ := M
  have hts := C.2.2.2.2.1
  have hG : GoodIn gA (wsV own index y.cls y (wsY y bb mL ret)) := fun w hw => by
    rcases List.mem_append.mp (show w ∈ [Cond.methodLink own index y, Cond.instanceMethod y, Cond.selects y.cls y y, Cond.initialized y.cls] ++ wsY y bb mL ret from hw) with hw | hw
    · have hw' : w ∈ gA := by
        simp only [List.mem_cons, List.not_mem_nil, or_false] at hw
        rcases hw with rfl | rfl | rfl | rfl
        · exact hm
        · exact M1
        · exact M2
        · exact M3
      exact ⟨hw', good_of_word (gA_g hw')⟩
    · exact gA_good M4 w hw
  have hcw : CallW R s args own y.cls index y bb mL ret (wsY y bb mL ret) (gRm dd mc ms) mc ms nA := cwV nA hts hG rfl rfl rfl M5 hR
  have hPc := MW_P hM hP hw
  have hDc := MW_D hM hD hw
  have hF := kW_A (sz := H.size) hM hD hw (fun q z => C.2.2.2.2.2.2.1 q (Nat.le_trans hS.1 z))
  have hr := vx_runV (As := As.map (kV h)) (b := h 0) (rest := rest.map (kV h)) (locs := locs) (cells := k) (slots := n) (g := F0 m pc ls (st.map (kV h))) (l := l) (e := e) (below := below) (p := p) (meth := meth) ⟨C.1, C.2.1, C.2.2.1, C.2.2.2.1, hts⟩ (hc l S.1 G h H.size) hcw ⟨gBX_blind _ _ _ _ _, va_recv C.2.2.2.2.2.1 hPc K.2.1 (kW_at hrc), fun U hU hW => ⟨rfl, ⟨by rw [hU], by rw [hU]; exact hPc, va_K.moved hW.alike C.2.2.2.2.2.1, hDc.weaken (fun _ _ _ _ => trivial), gN_warm hW C.2.2.2.2.2.2.2⟩, gX_at S.2.1 hS hF hU hW⟩⟩ rfl (by rw [List.length_map]; exact hnA) hl.1 (by
    show st.map (kV h) = _
    rw [← hst, List.map_append, List.map_reverse]
    rfl) (lv_room (by rw [kst_cat]; exact hW)) d hcs
  intro T hT X
  rcases hr T hT X with ⟨v, st₀, t, T', L9, h9, X', hL9, e1, e2, ⟨hxn, ⟨hv, hP1⟩, hz, hk⟩, st9⟩ | ⟨q, st₀, t, T', L9, E, ce, h9, X', hL9, e1, e2, ⟨hxE, hP1, hz, hk⟩, hce, hcv, hcl, st9⟩
  · have hv' : v = r.map (kV h) := by injection hv
    subst hv'
    rw [h9] at hz hk
    rw [← e1] at hP1 hz hk
    obtain ⟨ws', q1, q2, q3⟩ := MW_back hM hP hD hw hlen hP1 hk hw'
    obtain ⟨t2, a1, b1⟩ := kk T'.heap (locs ++ L9) ls ws' q1 q2 q3
      ⟨Nat.le_trans hS.1 hz, fun q h1 h2 => by rw [hk q (Nat.lt_of_lt_of_le h1 hS.1) (fun z => h2 (hF q z))]; exact hS.2.1 q h1 h2, fun q hq => by
        rcases List.mem_append.mp hq with h | h
        · exact hS.2.2 q h
        · exact hF _ (hL9 q h)⟩ hl T' rfl X'
    have est : (r.toList ++ rest).map (kV h) = (r.map (kV h)).toList ++ rest.map (kV h) := by
      rw [List.map_append]
      cases r <;> rfl
    rw [est] at a1
    exact ⟨t2, st9 t2 a1, b1⟩
  · rw [hE] at hxE
    cases hxE
theorem Y_callT (C : Cx p s m args c cc nL own G A) {y : MethodName} {bb : ByteArray} {mL dd mc ms nA index ci NN : Nat} {ret : Option FieldType} {As : List Value} {cws cws' : List va_E} {r : Option Value} {T : u_T} {ty : Nat → FieldType} {fs : List Value} (hc : CT y bb mL ret dd mc ms (.ref 0 :: As) cws r cws') (M : mV y bb mL ret nA) (K : cK y.cls T NN ci ty) (hm : Cond.methodLink own index y ∈ gA) (d : decode cc pc = .ok (.invokevirtual index, 3)) (hst : As.reverse ++ .ref 0 :: rest = st) (hw : ∀ j e, cws[j]? = some e → w j = some e) (hlen : cws'.length = cws.length) (hw' : ∀ i, w' i = if i < cws.length then cws'[i]? else w i) (hrc : cws[0]? = some (.inr (ci, fs))) (hnA : As.length = nA) (hR : dd + 1 ≤ R.frames ∧ 8 + (mL + 11) + 30 * dd ≤ R.locals) (hcs : k + mc ≤ R.cells ∧ n + ms ≤ R.slots) (hW : (rest.map fun v => v.category).sum ≤ 8)
    (kk : Y p l e R s m args below meth c nL G A h Q (k + mc) (n + ms) w' (pc + 3) L (r.toList ++ rest)) : Y p l e R s m args below meth c nL G A h Q k n w pc L st := fun H locs ls ws hP hD hM hS hl => by
  obtain ⟨M1, M2, M3, M4, M5⟩ := M
  have hts := C.2.2.2.2.1
  have hG : GoodIn gA (wsV own index y.cls y (wsY y bb mL ret)) := fun w hw => by
    rcases List.mem_append.mp (show w ∈ [Cond.methodLink own index y, Cond.instanceMethod y, Cond.selects y.cls y y, Cond.initialized y.cls] ++ wsY y bb mL ret from hw) with hw | hw
    · have hw' : w ∈ gA := by
        simp only [List.mem_cons, List.not_mem_nil, or_false] at hw
        rcases hw with rfl | rfl | rfl | rfl
        · exact hm
        · exact M1
        · exact M2
        · exact M3
      exact ⟨hw', good_of_word (gA_g hw')⟩
    · exact gA_good M4 w hw
  have hcw : CallW R s args own y.cls index y bb mL ret (wsY y bb mL ret) (gRm dd mc ms) mc ms nA := cwV nA hts hG rfl rfl rfl M5 hR
  have hPc := MW_P hM hP hw
  have hDc := MW_D hM hD hw
  have hF := kW_A (sz := H.size) hM hD hw (fun q z => C.2.2.2.2.2.2.1 q (Nat.le_trans hS.1 z))
  have hr := va_runV (As := As.map (kV h)) (b := h 0) (rest := rest.map (kV h)) (locs := locs) (cells := k) (slots := n) (g := F0 m pc ls (st.map (kV h))) (l := l) (e := e) (below := below) (p := p) (meth := meth) ⟨C.1, C.2.1, C.2.2.1, C.2.2.2.1, hts⟩ (hc l G h H.size) hcw ⟨gB_blind _ _ _ _ _, va_recv C.2.2.2.2.2.1 hPc K.2.1 (kW_at hrc), fun U hU hW => ⟨rfl, by rw [hU], by rw [hU]; exact hPc, va_K.moved hW.alike C.2.2.2.2.2.1, hDc.weaken (fun _ _ _ _ => trivial), gN_warm hW C.2.2.2.2.2.2.2⟩⟩ rfl (by rw [List.length_map]; exact hnA) hl.1 (by
    show st.map (kV h) = _
    rw [← hst, List.map_append, List.map_reverse]
    rfl) (lv_room (by rw [kst_cat]; exact hW)) d hcs
  intro T hT X
  obtain ⟨v, st₀, t, T', L9, h9, X', hL9, e1, e2, ⟨⟨hv, hP1⟩, hz, hk⟩, st9⟩ := hr T hT X
  have hv' : v = r.map (kV h) := by injection hv
  subst hv'
  rw [h9] at hz hk
  rw [← e1] at hP1 hz hk
  obtain ⟨ws', q1, q2, q3⟩ := MW_back hM hP hD hw hlen hP1 hk hw'
  obtain ⟨t2, a1, b1⟩ := kk T'.heap (locs ++ L9) ls ws' q1 q2 q3
    ⟨Nat.le_trans hS.1 hz, fun q h1 h2 => by rw [hk q (Nat.lt_of_lt_of_le h1 hS.1) (fun z => h2 (hF q z))]; exact hS.2.1 q h1 h2, fun q hq => by
      rcases List.mem_append.mp hq with h | h
      · exact hS.2.2 q h
      · exact hF _ (hL9 q h)⟩ hl T' rfl X'
  have est : (r.toList ++ rest).map (kV h) = (r.map (kV h)).toList ++ rest.map (kV h) := by
    rw [List.map_append]
    cases r <;> rfl
  rw [est] at a1
  exact ⟨t2, st9 t2 a1, b1⟩
/-- from a world by index to one by place -/
theorem Z_toY {ws : List va_E} (kk : Y p l e R s m args below meth c nL G A h Q k n (fun i => ws[i]?) pc L st) : Z p l e R s m args below meth c nL G A h Q k n ws pc L st := fun H locs ls hP hD hS hl =>
  kk H locs ls _ hP hD ⟨fun i e hi => ⟨i, kW_at hi⟩, fun i j e f hi hj hh => hD.1 i j _ _ (kW_at hi) (kW_at hj) hh⟩ hS hl
end YC
