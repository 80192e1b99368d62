/-! new cells: the world grows, h grows with it -/
def vF (N : Nat) (v : Value) : Bool := match v with
  | .ref a => decide (a < N)
  | _ => true
def eF (N : Nat) (e : va_E) : Prop := match e with
  | .inl (_, (_, .inr (.inr (.inr (.inr f))))) => ∀ j a, f j = some a → a < N
  | .inl _ => True
  | .inr (_, fs) => fs.all (vF N) = true
def eFs (N : Nat) : List va_E → Prop
  | [] => True
  | e :: t => eF N e ∧ eFs N t
theorem kV_ag {N : Nat} {h h' : Nat → Nat} (hag : ∀ i, i < N → h' i = h i) {v : Value} (hv : vF N v = true) : kV h' v = kV h v := by
  cases v with
  | ref a => exact congrArg Value.ref (hag a (by simpa [vF] using hv))
  | _ => rfl
theorem kVs_ag {N : Nat} {h h' : Nat → Nat} (hag : ∀ i, i < N → h' i = h i) {fs : List Value} (hv : fs.all (vF N) = true) : fs.map (kV h') = fs.map (kV h) :=
  List.map_congr_left (fun v hm => kV_ag hag (List.all_eq_true.mp hv v hm))
theorem kE_ag {N : Nat} {G : gG} {h h' : Nat → Nat} (hag : ∀ i, i < N → h' i = h i) {e : va_E} (he : eF N e) : kE G h' e = kE G h e := by
  cases e with
  | inl a =>
    obtain ⟨i, n, f | f | f | f | f⟩ := a
    · rfl
    · rfl
    · rfl
    · rfl
    · have e : (fun j => (f j).map h') = fun j => (f j).map h := by
        funext j
        cases hf : f j with
        | none => rfl
        | some a => exact congrArg some (hag a (he j a hf))
      exact congrArg (fun z => (Sum.inl (G.2 i, (n, Sum.inr (Sum.inr (Sum.inr (Sum.inr z))))) : va_E)) e
  | inr o =>
    obtain ⟨ci, fs⟩ := o
    show Sum.inr (ci, _) = Sum.inr (ci, _)
    rw [kVs_ag hag he]
theorem eFs_at {N : Nat} : ∀ {ws : List va_E} {i : Nat} {e : va_E}, eFs N ws → ws[i]? = some e → eF N e
  | [], _, _, _, h => by simp at h
  | x :: t, 0, e, hf, h => by cases h; exact hf.1
  | x :: t, i + 1, e, hf, h => eFs_at hf.2 (by simpa using h)
theorem kW_ag {G : gG} {h h' : Nat → Nat} {ws : List va_E} {N : Nat} (hN : ws.length = N) (hag : ∀ i, i < N → h' i = h i) (hf : eFs N ws) : kW G h' ws = kW G h ws := by
  apply List.ext_getElem?
  intro i
  rw [kW_get, kW_get]
  cases he : ws[i]? with
  | none => rfl
  | some e =>
    have hi : i < ws.length := (List.getElem?_eq_some_iff.mp he).1
    show some (h' i, kE G h' e) = some (h i, kE G h e)
    rw [hag i (by omega), kE_ag hag (eFs_at hf he)]
theorem kW_push {G : gG} {h : Nat → Nat} {ws : List va_E} {N q : Nat} {e : va_E} (hN : ws.length = N) (hf : eFs N ws) (he : eF N e) : kW G h ws ++ [(q, kE G h e)] = kW G (va_up h N q) (ws ++ [e]) := by
  have hag : ∀ i, i < N → va_up h N q i = h i := fun i hi => if_neg (by omega)
  have hu : va_up h N q N = q := if_pos rfl
  apply List.ext_getElem?
  intro i
  rw [kW_get]
  by_cases hi : i < ws.length
  · rw [List.getElem?_append_left (by rw [kW_len]; exact hi), List.getElem?_append_left hi, ← kW_get, kW_ag hN hag hf]
  · rw [List.getElem?_append_right (by rw [kW_len]; omega), List.getElem?_append_right (by omega), kW_len]
    cases hd : i - ws.length with
    | zero =>
      have : i = N := by omega
      subst this
      show some (q, kE G h e) = some (va_up h i q i, kE G (va_up h i q) e)
      rw [hu, kE_ag hag he]
    | succ d => rfl
section ZX
variable {p : Program} {l : Launch} {e : Env} {R : Room} {s : State} {m : MethodId} {args : Array Value} {below : List Frame} {meth : Method} {c : Code} {cc : ByteArray} {nL : Nat} {own : String} {G : gG} {A : Nat → Prop} {h : Nat → Nat} {Q : State → Prop} {k n : Nat} {ws ws' : List va_E} {pc : Nat} {L : List (Nat × Value)} {st st' rest : List Value}
theorem kL_ag {N : Nat} {h h' : Nat → Nat} (hag : ∀ i, i < N → h' i = h i) {L : List (Nat × Value)} (hv : L.all (fun q => vF N q.2) = true) : kL h' L = kL h L :=
  List.map_congr_left (fun q hm => by rw [kV_ag hag (List.all_eq_true.mp hv q hm)])
theorem Z_newi (C : Cx p s m args c cc nL own G A) {x : Int32} {N W9 : Nat} (d : decode cc pc = .ok (.newarray .int, 2)) (harr : Cond.arrayClass .int ∈ gA) (hx0 : ¬ x < 0) (hN : x.toNatClampNeg = N) (hb : N * componentBytes .int ≤ 536870912) (hcs : k + 1 ≤ R.cells ∧ n + N ≤ R.slots) (hW : ws.length = W9) (hf : eFs W9 ws) (hL : L.all (fun q => vF W9 q.2) = true) (hst : st.all (vF W9) = true)
    (kk : ∀ h' : Nat → Nat, (∀ i, i < W9 → h' i = h i) → Z p l e R s m args below meth c nL G A h' Q (k + 1) (n + N) (ws ++ [.inl (0, N, .inl (fun _ => 0))]) (pc + 2) L (.ref W9 :: st)) : Z p l e R s m args below meth c nL G A h Q k n ws pc L (.int x :: st) := fun H locs ls hP hD hS hl =>
  va_newa (D := G.1) (a0 := (N, .inl (fun _ => 0))) (atype := .int) (ty := .int) C.1 C.2.1 (C.2.2.2.2.1 _ harr) rfl C.2.2.2.2.2.1 hP hD hS C.2.2.2.2.2.2.1 (fun cA => rfl) hx0 hN hb hcs.1 hcs.2 d (fun q cA H1 hK1 hP1 hD1 hS1 => by
    have e1 := hK1.2 4 _ rfl
    have e2 := C.2.2.2.2.2.1.2 0 _ rfl
    have ec : cA = G.2 0 := Option.some.inj (e1.2.symm.trans e2.2)
    subst ec
    have hag : ∀ i, i < W9 → va_up h W9 q i = h i := fun i hi => if_neg (by omega)
    have ew : kW G h ws ++ [(q, Sum.inl (G.2 0, (N, Sum.inl (fun _ => (0 : Int32)))))] = kW G (va_up h W9 q) (ws ++ [.inl (0, N, .inl (fun _ => 0))]) := kW_push (e := .inl (0, N, .inl (fun _ => 0))) hW hf (show eF W9 (.inl (0, N, .inl (fun _ => 0))) from trivial)
    rw [ew] at hP1 hD1
    have h3 := kk (va_up h W9 q) hag H1 locs ls hP1 hD1 hS1 (by rw [kL_ag hag hL]; exact hl)
    have est : (Value.ref W9 :: st).map (kV (va_up h W9 q)) = .ref q :: st.map (kV h) := by
      show .ref (va_up h W9 q W9) :: st.map (kV (va_up h W9 q)) = _
      rw [kVs_ag hag hst, show va_up h W9 q W9 = q from if_pos rfl]
    rw [est] at h3
    exact h3)
theorem Z_copyi (C : Cx p s m args c cc nL own G A) {index q0 q1 n0 n1 : Nat} {f g g' : Nat → Int32} {sp dp cn : Int32} (d : decode cc pc = .ok (.invokestatic index, 3)) (hlink : Cond.methodLink own index arraycopyName ∈ gA) (h1 : Cond.native arraycopyName ∈ gA) (h2 : Cond.static arraycopyName ∈ gA) (h3 : Cond.initialized "java/lang/System" ∈ gA) (he0 : ws[q0]? = some (.inl (0, n0, .inl f))) (he1 : ws[q1]? = some (.inl (0, n1, .inl g)))
    (g1 : ¬ sp < 0) (g2 : ¬ dp < 0) (g3 : ¬ cn < 0) (g4 : sp.toNatClampNeg + cn.toNatClampNeg ≤ n0) (g5 : dp.toNatClampNeg + cn.toNatClampNeg ≤ n1) (hg : va_cpy f g sp.toNatClampNeg dp.toNatClampNeg cn.toNatClampNeg = g') (hw : ws.set q1 (.inl (0, n1, .inl g')) = ws') (hR : 1 ≤ R.frames ∧ (st.map fun v => v.category).sum + (nativeFrameWords "java/lang/System" "arraycopy" 5 + 11) ≤ R.locals) (kk : Z p l e R s m args below meth c nL G A h Q k n ws' (pc + 3) L st) : Z p l e R s m args below meth c nL G A h Q k n ws pc L (.int cn :: .int dp :: .ref q1 :: .int sp :: .ref q0 :: st) := fun H locs ls hP hD hS hl => by
  refine va_copyi (D := G.1) (rest := st.map (kV h)) (ty := .int) C.1 C.2.1 (C.2.2.1.trans hl.1.symm) C.2.2.2.1 (C.2.2.2.2.1 _ hlink) (C.2.2.2.2.1 _ h1) (C.2.2.2.2.1 _ h2) (C.2.2.2.2.1 _ h3) C.2.2.2.2.2.1 hP hD hS q0 q1 0 0 (kW_at he0) (kW_at he1) rfl rfl rfl g1 g2 g3 g4 g5 (fun i _ => rfl) hR.1 (by rw [kst_cat]; exact hR.2) d (fun H1 locs1 hP1 hD1 hS1 => ?_)
  have e1 : (kW G h ws).set q1 (h q1, .inl (G.2 0, n1, .inl (va_cpy f g sp.toNatClampNeg dp.toNatClampNeg cn.toNatClampNeg))) = kW G h ws' := by
    rw [hg, ← hw]
    exact kW_set G h ws q1 (.inl (0, n1, .inl g'))
  rw [e1] at hP1 hD1
  exact kk H1 locs1 ls hP1 hD1 hS1 hl
end ZX
