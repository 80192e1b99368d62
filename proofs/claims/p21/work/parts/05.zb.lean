section ZS
variable {p : Program} {l : Launch} {e : Env} {R : Room} {s : State} {m : MethodId} {args : Array Value} {below : List Frame} {meth : Method} {c : Code} {cc : ByteArray} {nL : Nat} {own : String} {G : gG} {A : Nat → Prop} {h : Nat → Nat} {Q : State → Prop} {k n : Nat} {ws ws' : List va_E} {pc : Nat} {L L' : List (Nat × Value)} {st : List Value}
theorem Z_get (C : Cx p s m args c cc nL own G A) {Cn ref : String} {T : u_T} {N ci : Nat} {ty : Nat → FieldType} (K : cK Cn T N ci ty) {index q : Nat} (j : Nat) {fs : List Value} {v : Value} (d : decode cc pc = .ok (.getfield index, 3)) (he : ws[q]? = some (.inr (ci, fs))) (hj : j < N) (hlink : Cond.fieldLink own index ref (T j).2.1 (T j).2.2.1 ∈ gA) (hr : (T j).1 = ref) (hv : fs[j]? = some v) (kk : Z p l e R s m args below meth c nL G A h Q k n ws (pc + 3) L (v :: st)) : Z p l e R s m args below meth c nL G A h Q k n ws pc L (.ref q :: st) := fun H locs ls hP hD hS hl =>
  va_get (D := G.1) (ci := ci) (v := kV h v) (C := Cn) (T := T) (N := N) C.1 C.2.1 C.2.2.2.2.1 K.1 C.2.2.2.1 C.2.2.2.2.2.1 hP q (kW_at he) K.2.1 j hj (C.2.2.2.2.1 _ hlink) (fun _ h9 => by rw [← hr]; exact h9) (by rw [List.getElem?_map, hv]; rfl) d (kk H locs ls hP hD hS hl)
theorem Z_put (C : Cx p s m args c cc nL own G A) {Cn ref : String} {T : u_T} {N ci : Nat} {ty : Nat → FieldType} (K : cK Cn T N ci ty) {index q : Nat} (j : Nat) {fs : List Value} {v : Value} {ty1 : FieldType} (d : decode cc pc = .ok (.putfield index, 3)) (he : ws[q]? = some (.inr (ci, fs))) (hj : j < N) (hlink : Cond.fieldLink own index ref (T j).2.1 (T j).2.2.1 ∈ gA) (hr : (T j).1 = ref) (hfin : (T j).2.2.2 = false) (hd : parseFieldDescriptor (T j).2.2.1 = some ty1) (hn : narrow ty1 (kV h v) = kV h v) (hfit : fits ty1 (kV h v) = true) (hl1 : j < fs.length) (hw : ws.set q (.inr (ci, fs.set j v)) = ws') (kk : Z p l e R s m args below meth c nL G A h Q k n ws' (pc + 3) L st) : Z p l e R s m args below meth c nL G A h Q k n ws pc L (v :: .ref q :: st) := fun H locs ls hP hD hS hl =>
  va_put (D := G.1) (ci := ci) (v := kV h v) (C := Cn) (T := T) (N := N) C.1 C.2.1 C.2.2.2.2.1 K.1 ty K.2.2.1 K.2.2.2 C.2.2.2.1 C.2.2.2.2.2.1 hP hD hS q (kW_at he) K.2.1 j hj (C.2.2.2.2.1 _ hlink) (fun _ h9 => by rw [← hr]; exact h9) hfin hd hn hfit (by rw [List.length_map]; exact hl1) d (fun H1 locs1 hP1 hD1 hS1 => by
    have e1 : (kW G h ws).set q (h q, .inr (ci, (fs.map (kV h)).set j (kV h v))) = kW G h ws' := by
      rw [← List.map_set, ← hw]
      exact kW_set G h ws q (.inr (ci, fs.set j v))
    rw [e1] at hP1 hD1
    exact kk H1 locs1 ls hP1 hD1 hS1 hl)
theorem Z_putF (C : Cx p s m args c cc nL own G A) (hin : meth.name = "<init>") {Cn ref : String} {T : u_T} {N ci : Nat} {ty : Nat → FieldType} (K : cK Cn T N ci ty) {index q : Nat} (j : Nat) {fs : List Value} {v : Value} {ty1 : FieldType} (d : decode cc pc = .ok (.putfield index, 3)) (he : ws[q]? = some (.inr (ci, fs))) (hj : j < N) (hlink : Cond.fieldLink own index ref (T j).2.1 (T j).2.2.1 ∈ gA) (hr : (T j).1 = ref) (hfin : (T j).2.2.2 = true) (hdecl : (T j).1 = own) (hd : parseFieldDescriptor (T j).2.2.1 = some ty1) (hn : narrow ty1 (kV h v) = kV h v) (hfit : fits ty1 (kV h v) = true) (hl1 : j < fs.length) (hw : ws.set q (.inr (ci, fs.set j v)) = ws') (kk : Z p l e R s m args below meth c nL G A h Q k n ws' (pc + 3) L st) : Z p l e R s m args below meth c nL G A h Q k n ws pc L (v :: .ref q :: st) := fun H locs ls hP hD hS hl =>
  va_putF (D := G.1) (ci := ci) (v := kV h v) (C := Cn) (T := T) (N := N) C.1 C.2.1 C.2.2.2.2.1 K.1 ty K.2.2.1 K.2.2.2 C.2.2.2.1 C.2.2.2.2.2.1 hP hD hS q (kW_at he) K.2.1 j hj (C.2.2.2.2.1 _ hlink) (fun _ h9 => by rw [← hr]; exact h9) hfin hin hdecl hd hn hfit (by rw [List.length_map]; exact hl1) d (fun H1 locs1 hP1 hD1 hS1 => by
    have e1 : (kW G h ws).set q (h q, .inr (ci, (fs.map (kV h)).set j (kV h v))) = kW G h ws' := by
      rw [← List.map_set, ← hw]
      exact kW_set G h ws q (.inr (ci, fs.set j v))
    rw [e1] at hP1 hD1
    exact kk H1 locs1 ls hP1 hD1 hS1 hl)
theorem Z_iald (C : Cx p s m args c cc nL own G A) {q N : Nat} {f : Nat → Int32} {i v : Int32} (d : decode cc pc = .ok (.iaload, 1)) (he : ws[q]? = some (.inl (0, N, .inl f))) (hin : vp_in i N) (hv : f i.toNatClampNeg = v) (kk : Z p l e R s m args below meth c nL G A h Q k n ws (pc + 1) L (.int v :: st)) : Z p l e R s m args below meth c nL G A h Q k n ws pc L (.int i :: .ref q :: st) := fun H locs ls hP hD hS hl =>
  va_iald (D := G.1) C.1 C.2.1 C.2.2.2.2.2.1 hP q 0 (kW_at he) rfl hin d (by rw [hv]; exact kk H locs ls hP hD hS hl)
theorem Z_zald (C : Cx p s m args c cc nL own G A) {q N : Nat} {f : Nat → Int32} {i v : Int32} (d : decode cc pc = .ok (.baload, 1)) (he : ws[q]? = some (.inl (1, N, .inl f))) (hin : vp_in i N) (hv : f i.toNatClampNeg = v) (kk : Z p l e R s m args below meth c nL G A h Q k n ws (pc + 1) L (.int v :: st)) : Z p l e R s m args below meth c nL G A h Q k n ws pc L (.int i :: .ref q :: st) := fun H locs ls hP hD hS hl =>
  va_zald (D := G.1) C.1 C.2.1 C.2.2.2.2.2.1 hP q 1 (kW_at he) rfl hin d (by rw [hv]; exact kk H locs ls hP hD hS hl)
theorem Z_iast (C : Cx p s m args c cc nL own G A) {q N : Nat} {f f' : Nat → Int32} {i x : Int32} (d : decode cc pc = .ok (.iastore, 1)) (he : ws[q]? = some (.inl (0, N, .inl f))) (hin : vp_in i N) (hf : upd f i.toNatClampNeg x = f') (hw : ws.set q (.inl (0, N, .inl f')) = ws') (kk : Z p l e R s m args below meth c nL G A h Q k n ws' (pc + 1) L st) : Z p l e R s m args below meth c nL G A h Q k n ws pc L (.int x :: .int i :: .ref q :: st) := fun H locs ls hP hD hS hl =>
  va_iast (D := G.1) C.1 C.2.1 C.2.2.2.2.2.1 hP hD hS q 0 (kW_at he) rfl hin d (fun H1 locs1 hP1 hD1 hS1 => by
    have e1 : (kW G h ws).set q (h q, .inl (G.2 0, N, .inl (upd f i.toNatClampNeg x))) = kW G h ws' := by
      rw [hf, ← hw]
      exact kW_set G h ws q (.inl (0, N, .inl f'))
    rw [e1] at hP1 hD1
    exact kk H1 locs1 ls hP1 hD1 hS1 hl)
theorem Z_zast (C : Cx p s m args c cc nL own G A) {q N : Nat} {f f' : Nat → Int32} {i x : Int32} (d : decode cc pc = .ok (.bastore, 1)) (he : ws[q]? = some (.inl (1, N, .inl f))) (hin : vp_in i N) (hf : upd f i.toNatClampNeg (vp_nar .boolean x) = f') (hw : ws.set q (.inl (1, N, .inl f')) = ws') (kk : Z p l e R s m args below meth c nL G A h Q k n ws' (pc + 1) L st) : Z p l e R s m args below meth c nL G A h Q k n ws pc L (.int x :: .int i :: .ref q :: st) := fun H locs ls hP hD hS hl =>
  va_zast (D := G.1) C.1 C.2.1 C.2.2.2.2.2.1 hP hD hS q 1 (kW_at he) rfl hin d (fun H1 locs1 hP1 hD1 hS1 => by
    have e1 : (kW G h ws).set q (h q, .inl (G.2 1, N, .inl (upd f i.toNatClampNeg (vp_nar .boolean x)))) = kW G h ws' := by
      rw [hf, ← hw]
      exact kW_set G h ws q (.inl (1, N, .inl f'))
    rw [e1] at hP1 hD1
    exact kk H1 locs1 ls hP1 hD1 hS1 hl)
theorem kA_1 (h : Nat → Nat) (x : vp_A) : (kA h x).1 = x.1 := by obtain ⟨N, f | f | f | f | f⟩ := x <;> rfl
theorem Z_alen (C : Cx p s m args c cc nL own G A) {q i : Nat} {x : vp_A} {v : Int32} (d : decode cc pc = .ok (.arraylength, 1)) (he : ws[q]? = some (.inl (i, x))) {ty1 : FieldType} (hi : (gTy G)[i]? = some (G.2 i, ty1)) (hv : Int32.ofNat x.1 = v) (kk : Z p l e R s m args below meth c nL G A h Q k n ws (pc + 1) L (.int v :: st)) : Z p l e R s m args below meth c nL G A h Q k n ws pc L (.ref q :: st) := fun H locs ls hP hD hS hl =>
  va_alen (D := G.1) C.1 C.2.1 C.2.2.2.2.2.1 hP q i (kW_at he) hi (by rw [kA_1]; exact hv) d (kk H locs ls hP hD hS hl)
theorem Z_mmax (C : Cx p s m args c cc nL own G A) {index : Nat} {x y v : Int32} (d : decode cc pc = .ok (.invokestatic index, 3)) (hlink : Cond.methodLink own index Lib.Math.max.name ∈ gA) (h2 : Cond.static Lib.Math.max.name ∈ gA) (h3 : Cond.initialized "java/lang/Math" ∈ gA) (h4 : Cond.code Lib.Math.max.name Lib.Math.max.code 2 (some .int) ∈ gA) (hf : 1 ≤ R.frames) (hlo : (st.map fun v => v.category).sum + 13 ≤ R.locals) (hcs : k ≤ R.cells ∧ n ≤ R.slots) (hv : (if x < y then y else x) = v) (kk : Z p l e R s m args below meth c nL G A h Q k n ws (pc + 3) L (.int v :: st)) : Z p l e R s m args below meth c nL G A h Q k n ws pc L (.int y :: .int x :: st) := fun H locs ls hP hD hS hl =>
  va_mmax C.1 C.2.1 (C.2.2.1.trans hl.1.symm) C.2.2.2.1 (C.2.2.2.2.1 _ hlink) (C.2.2.2.2.1 _ h2) (C.2.2.2.2.1 _ h3) (C.2.2.2.2.1 _ h4) hf (by
    have : ((st.map (kV h)).map fun v => v.category) = st.map fun v => v.category := by rw [List.map_map]; exact List.map_congr_left (fun v _ => kV_cat h v)
    rw [this]; exact hlo) hcs.1 hcs.2 d (by rw [hv]; exact kk H locs ls hP hD hS hl)
theorem Z_mmin (C : Cx p s m args c cc nL own G A) {index : Nat} {x y v : Int32} (d : decode cc pc = .ok (.invokestatic index, 3)) (hlink : Cond.methodLink own index Lib.Math.min.name ∈ gA) (h2 : Cond.static Lib.Math.min.name ∈ gA) (h3 : Cond.initialized "java/lang/Math" ∈ gA) (h4 : Cond.code Lib.Math.min.name Lib.Math.min.code 2 (some .int) ∈ gA) (hf : 1 ≤ R.frames) (hlo : (st.map fun v => v.category).sum + 13 ≤ R.locals) (hcs : k ≤ R.cells ∧ n ≤ R.slots) (hv : (if y < x then y else x) = v) (kk : Z p l e R s m args below meth c nL G A h Q k n ws (pc + 3) L (.int v :: st)) : Z p l e R s m args below meth c nL G A h Q k n ws pc L (.int y :: .int x :: st) := fun H locs ls hP hD hS hl =>
  va_mmin C.1 C.2.1 (C.2.2.1.trans hl.1.symm) C.2.2.2.1 (C.2.2.2.2.1 _ hlink) (C.2.2.2.2.1 _ h2) (C.2.2.2.2.1 _ h3) (C.2.2.2.2.1 _ h4) hf (by
    have : ((st.map (kV h)).map fun v => v.category) = st.map fun v => v.category := by rw [List.map_map]; exact List.map_congr_left (fun v _ => kV_cat h v)
    rw [this]; exact hlo) hcs.1 hcs.2 d (by rw [hv]; exact kk H locs ls hP hD hS hl)
end ZS
/-- a contract: the method y returns r, its world ws becomes ws'; mc cells of ms slots are new, and of no world -/
def gRm (d mc ms : Nat) : Room := { frames := d, cells := mc, slots := ms, locals := 30 * d }
def gB (G : gG) (h : Nat → Nat) (sz : Nat) (ws : List va_E) (U : State) : Prop := U.heap.size = sz ∧ va_P G.1 cls (kW G h ws) U.heap ∧ va_K G.1 cls (gTy G) U ∧ va_D (fun _ => True) (kW G h ws) ∧ gN U
def gQ (G : gG) (h : Nat → Nat) (A : Nat → Prop) (r : Option Value) (ws' : List va_E) : Array Value → State → Outcome → State → Prop := fun _ st oc t => (oc = .returned (r.map (kV h)) ∧ va_P G.1 cls (kW G h ws') t.heap) ∧ va_F A st t
def CT (y : MethodName) (b : ByteArray) (mL : Nat) (ret : Option FieldType) (d mc ms : Nat) (av : List Value) (ws : List va_E) (r : Option Value) (ws' : List va_E) : Prop :=
  ∀ (l : Launch) (G : gG) (h : Nat → Nat) (sz : Nat), Met l y (wsY y b mL ret) (gRm d mc ms) (va_Pc (av.map (kV h)) (gB G h sz ws)) (gQ G h (va_A (kW G h ws) sz) r ws') mc ms (va_A (kW G h ws) sz)
theorem CT_of {y : MethodName} {b : ByteArray} {mL : Nat} {ret : Option FieldType} {d mc ms : Nat} {av : List Value} {ws : List va_E} {r : Option Value} {ws' : List va_E} {L : List (Nat × Value)} (hy : plainName y.cls = true) (hL : ∀ h, lv_args 0 (av.map (kV h)) = kL h L) (hsl : ∀ h, (lg_sl (av.map (kV h))).length ≤ mL)
    (body : ∀ (p : Program) (l : Launch) (e : Env) (s : State) (m : MethodId) (args : Array Value) (below : List Frame) (meth : Method) (c : Code) (G : gG) (h : Nat → Nat) (A : Nat → Prop), Cx p s m args c b mL y.cls G A → meth.sig.returnType = ret → meth.locks = false → meth.name = y.name →
      Z p l e (gRm d mc ms) s m args below meth c mL G A h (MQ below (gQ G h A r ws') args s mc ms A) 0 0 ws 0 L []) : CT y b mL ret d mc ms av ws r ws' := by
  intro l G h sz
  refine Met.ofW (cc := b) (maxL := mL) (ret := ret) hy rfl ?_
  intro p e s m args below meth c s₁ B hml hv
  obtain ⟨rfl, hsz, hP, hK, hD0, hN⟩ := hv
  have hx := B.exec
  have hb := B.bytes
  have hr := B.returns
  have hts := atoms_spec (ws := wsY y b mL ret) B.pre
  have hown : s.vm.findClass y.cls = some m.cls := findClass_of_methodNamed B.named
  have hlocks := B.notSynchronized
  have hin : meth.name = y.name := (name_of_methodNamed B.named B.method).1
  subst hsz
  have hD := hD0.self (sz := s.heap.size)
  generalize hAe : va_A (kW G h ws) s.heap.size = A at hD ⊢
  have hA : ∀ q : Nat, s.heap.size ≤ q → A q := fun q h => by rw [← hAe]; exact Or.inr h
  have hl := lv_entry (av.map (kV h)) (n := mL) (hsl h)
  rw [lg_entry_eq]
  rw [hL h] at hl
  exact body p l e s m _ below meth c G h A ⟨hx, hb, hml, hown, fun w hw => hts w (List.mem_cons_of_mem _ hw), hK, hA, hN⟩ hr hlocks hin s.heap [] _ hP hD va_S.rf hl
section ZE
variable {p : Program} {l : Launch} {e : Env} {R : Room} {s : State} {m : MethodId} {args : Array Value} {below : List Frame} {meth : Method} {c : Code} {cc : ByteArray} {nL : Nat} {own : String} {G : gG} {A : Nat → Prop} {h : Nat → Nat} {k n : Nat} {ws ws' : List va_E} {pc : Nat} {L : List (Nat × Value)} {r : Option Value}
theorem Z_iret (C : Cx p s m args c cc nL own G A) (hr : meth.sig.returnType = some .int) (hlk : meth.locks = false) {v : Int32} (d : decode cc pc = .ok (.ireturn, 1)) (hv : r = some (.int v)) (hw : ws = ws') : Z p l e R s m args below meth c nL G A h (MQ below (gQ G h A r ws') args s k n A) k n ws pc L [.int v] := fun H locs ls hP hD hS hl => by
  subst hw; subst hv
  exact W.iret C.1 C.2.1 hr (fun t ht _ => ⟨⟨rfl, by rw [ht]; exact hP⟩, hS.F ht⟩) hS.2.2 d (hlocks := hlk)
theorem Z_zret (C : Cx p s m args c cc nL own G A) (hr : meth.sig.returnType = some .boolean) (hlk : meth.locks = false) {v : Int32} (d : decode cc pc = .ok (.ireturn, 1)) (hn : narrow .boolean (.int v) = .int v) (hv : r = some (.int v)) (hw : ws = ws') : Z p l e R s m args below meth c nL G A h (MQ below (gQ G h A r ws') args s k n A) k n ws pc L [.int v] := fun H locs ls hP hD hS hl => by
  subst hw; subst hv
  exact W.zret C.1 C.2.1 hr hn (fun t ht _ => ⟨⟨rfl, by rw [ht]; exact hP⟩, hS.F ht⟩) hS.2.2 d (hlocks := hlk)
theorem Z_vret (C : Cx p s m args c cc nL own G A) (hr : meth.sig.returnType = none) (hlk : meth.locks = false) (d : decode cc pc = .ok (.return_, 1)) (hv : r = none) (hw : ws = ws') : Z p l e R s m args below meth c nL G A h (MQ below (gQ G h A r ws') args s k n A) k n ws pc L [] := fun H locs ls hP hD hS hl => by
  subst hw; subst hv
  exact W.vret C.1 C.2.1 hr (fun t ht _ => ⟨⟨rfl, by rw [ht]; exact hP⟩, hS.F ht⟩) hS.2.2 d (hlocks := hlk)
theorem Z_lret (C : Cx p s m args c cc nL own G A) (hr : meth.sig.returnType = some .long) (hlk : meth.locks = false) {v : Int64} (d : decode cc pc = .ok (.lreturn, 1)) (hv : r = some (.long v)) (hw : ws = ws') : Z p l e R s m args below meth c nL G A h (MQ below (gQ G h A r ws') args s k n A) k n ws pc L [.long v] := fun H locs ls hP hD hS hl => by
  subst hw; subst hv
  exact W.lret C.1 C.2.1 hr (fun t ht _ => ⟨⟨rfl, by rw [ht]; exact hP⟩, hS.F ht⟩) hS.2.2 d (hlocks := hlk)
end ZE
