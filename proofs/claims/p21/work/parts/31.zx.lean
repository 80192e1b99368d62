/-! methods that return or throw -/
def strsX : List (Nat × String) := [(36, "no such weight, strength or power"), (47, "no more stones"), (57, "no such weight or strength, or both stones are the same"), (65, "no such stone"), (71, "no more stones, or one of them has fallen"), (77, "no such prop"), (79, "it has fallen"), (89, "no such power"), (98, "it does not hang by a spell, or the power is less than its load"), (103, "both are the same"), (106, "no more stairs, or one of them has fallen"), (113, "no such stair"), (119, "one of them is gone"), (124, "no such stair, or nothing to tell"), (133, "no such stone, or nothing to tell"), (141, "nothing to tell"), (146, "no such days")]
def gS (U : State) : Prop := ∀ q ∈ strsX, ∃ a : Nat, vk_R RX2 q.1 q.2 a U
theorem gS_same {u U : State} (h : U.vm = u.vm) (q : gS u) : gS U := fun x hx => (q x hx).imp (fun _ z => z.same h)
theorem gS_warm {s U : State} (hW : s.WarmedH U.vm) (q : gS s) : gS U := fun x hx => (q x hx).imp (fun _ z => z.warm hW)
def gX (A : Nat → Prop) (U : State) (H : Heap) : Prop := vx_Zq Bundle.tN "UNASSIGNED_STACK" Bundle.steD A U H ∧ vx_Zq Bundle.tN "SUPPRESSED_SENTINEL" Bundle.listD A U H ∧ gS U
def gBX (G : gG) (h : Nat → Nat) (sz : Nat) (ws : List va_E) (U : State) : Prop := gB G h sz ws U ∧ gX (va_A (kW G h ws) sz) U U.heap
/-- the answer of a method: it throws xE, or returns r -/
def gQx (G : gG) (h : Nat → Nat) (A : Nat → Prop) (xE : Option String) (r : Option Value) (ws' : List va_E) : Array Value → State → Outcome → State → Prop := fun a st oc t => xE = none ∧ gQ G h A r ws' a st oc t
def gXC (G : gG) (h : Nat → Nat) (A : Nat → Prop) (xE : Option String) (ws' : List va_E) : String → State → State → Prop := fun E st t => xE = some E ∧ va_P G.1 cls (kW G h ws') t.heap ∧ va_F A st t
def CTX (y : MethodName) (b : ByteArray) (mL : Nat) (ret : Option FieldType) (d mc ms : Nat) (av : List Value) (ws : List va_E) (xE : Option String) (r : Option Value) (ws' : List va_E) : Prop :=
  ∀ (l : Launch), l.stackTraces = false → ∀ (G : gG) (h : Nat → Nat) (sz : Nat), vx_Met l y (wsY y b mL ret) (gRm d mc ms) (va_Pc (av.map (kV h)) (gBX G h sz ws)) (gQx G h (va_A (kW G h ws) sz) xE r ws') (gXC G h (va_A (kW G h ws) sz) xE ws') mc ms (va_A (kW G h ws) sz)
theorem CTX_of {y : MethodName} {b : ByteArray} {mL : Nat} {ret : Option FieldType} {d mc ms : Nat} {av : List Value} {ws : List va_E} {xE : Option String} {r : Option Value} {ws' : List va_E} {L : List (Nat × Value)} (hy : plainName y.cls = true) (hL : ∀ h, lv_args 0 (av.map (kV h)) = kL h L) (hsl : ∀ h, (lg_sl (av.map (kV h))).length ≤ mL)
    (body : ∀ (p : Program) (l : Launch) (e : Env) (s : State) (m : MethodId) (args : Array Value) (below : List Frame) (meth : Method) (c : Code) (G : gG) (h : Nat → Nat) (A : Nat → Prop), Cx p s m args c b mL y.cls G A → l.stackTraces = false → gX A s s.heap → (∀ x ∈ c.exceptionTable.toList, False) → meth.sig.returnType = ret → meth.locks = false → meth.name = y.name →
      Z p l e (gRm d mc ms) s m args below meth c mL G A h (vx_MQ below (gQx G h A xE r ws') (gXC G h A xE ws') args s mc ms A) 0 0 ws 0 L []) : CTX y b mL ret d mc ms av ws xE r ws' := by
  intro l hst G h sz
  refine vx_ofW (cc := b) (maxL := mL) (ret := ret) hy rfl ?_
  intro p e s m args below meth c s₁ B hml hex hv
  obtain ⟨rfl, ⟨hsz, hP, hK, hD0, hN⟩, hX⟩ := hv
  have hx := B.exec
  have hb := B.bytes
  have hr := B.returns
  have hts := atoms_spec (ws := wsY y b mL ret) B.pre
  have hown : s.vm.findClass y.cls = some m.cls := findClass_of_methodNamed B.named
  have hlocks := B.notSynchronized
  have hin : meth.name = y.name := (name_of_methodNamed B.named B.method).1
  subst hsz
  have hD := hD0.self (sz := s.heap.size)
  generalize hAe : va_A (kW G h ws) s.heap.size = A at hD hX ⊢
  have hA : ∀ q : Nat, s.heap.size ≤ q → A q := fun q h => by rw [← hAe]; exact Or.inr h
  have hl := lv_entry (av.map (kV h)) (n := mL) (hsl h)
  rw [lg_entry_eq]
  rw [hL h] at hl
  exact body p l e s m _ below meth c G h A ⟨hx, hb, hml, hown, fun w hw => hts w (List.mem_cons_of_mem _ hw), hK, hA, hN⟩ hst hX hex hr hlocks hin s.heap [] _ hP hD va_S.rf hl
theorem nW_use {s : State} {args : Array Value} (q : gN s) : ∀ w ∈ nW, w.before args s = true := fun w hw => (q.1 w hw).use (by
  simp only [nW, List.mem_cons, List.not_mem_nil, or_false] at hw
  rcases hw with rfl | rfl | rfl | rfl | rfl | rfl | rfl | rfl | rfl | rfl | rfl | rfl | rfl | rfl | rfl | rfl | rfl | rfl <;> rfl)
/-- what a throw of cls, made at ic, takes of the tables -/
def namesX : List String := ["java/lang/RuntimeException", "java/lang/Exception"]
def atX (ik ic : Nat) (E : String) : Prop := ((vx_atS RX2 ic E namesX).filter goodWord).all (fun w => decide (w ∈ gA)) = true ∧ ((vx_atS RX2 ic E namesX).filter (fun w => !goodWord w)).all (fun w => decide (w ∈ nW)) = true ∧ (Cond.classLink RX2 ik E :: Cond.initialized E :: vx_atS RX2 ic E namesX).all vx_ot = true ∧ Cond.classLink RX2 ik E ∈ gA ∧ Cond.initialized E ∈ gA ∧ Bundle.fit E = true ∧ ∀ n ∈ namesX, Bundle.fit n = true
theorem atX_38 : atX 34 38 "java/lang/IllegalArgumentException" := ⟨by decide +kernel, by decide +kernel, by decide +kernel, g_289, g_22, by decide +kernel, by decide +kernel⟩
theorem atX_49 : atX 45 49 "java/lang/IllegalStateException" := ⟨by decide +kernel, by decide +kernel, by decide +kernel, g_485, g_23, by decide +kernel, by decide +kernel⟩
theorem atX_67 : atX 63 67 "java/lang/IndexOutOfBoundsException" := ⟨by decide +kernel, by decide +kernel, by decide +kernel, g_127, g_25, by decide +kernel, by decide +kernel⟩
