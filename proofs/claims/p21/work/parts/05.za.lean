/-! WORLDS BY INDEX: a method's world is a list of cells; a reference is a place in that list; h gives the addresses. G: the numbers of the classes (G.1) and of the array classes (G.2: 0 int, 1 boolean, 2 arrays of the law's stones, 3 arrays of int). -/
abbrev gG : Type := va_G × (Nat → ClassId)
def gTy (G : gG) : List (ClassId × FieldType) := [(G.2 0, .int), (G.2 1, .boolean), (G.2 2, .object RX4), (G.2 3, .array .int)]
abbrev cls : List vw_C := [(RX0, TX0, 4), (RX1, TX1, 13), (RX2, TX2, 3), (RX3, TX3, 3), (RX4, TX4, 6)]
def kV (h : Nat → Nat) (v : Value) : Value := match v with
  | .ref a => .ref (h a)
  | v => v
def kA (h : Nat → Nat) (x : vp_A) : vp_A := match x with
  | (n, .inr (.inr (.inr (.inr f)))) => (n, .inr (.inr (.inr (.inr (fun j => (f j).map h)))))
  | x => x
def kE (G : gG) (h : Nat → Nat) (e : va_E) : va_E := match e with
  | .inl (i, x) => .inl (G.2 i, kA h x)
  | .inr (ci, fs) => .inr (ci, fs.map (kV h))
def kW (G : gG) (h : Nat → Nat) (ws : List va_E) : va_W := ws.mapIdx (fun k e => (h k, kE G h e))
/-- renumbering by a list of places -/
def rN (is : List Nat) (j : Nat) : Nat := is.getD j 0
def rV (is : List Nat) (v : Value) : Value := match v with
  | .ref a => .ref (rN is a)
  | v => v
def rE (is : List Nat) (e : va_E) : va_E := match e with
  | .inl (i, x) => .inl (i, kA (rN is) x)
  | .inr (ci, fs) => .inr (ci, fs.map (rV is))
theorem kV_rV (h : Nat → Nat) (is : List Nat) (v : Value) : kV h (rV is v) = kV (fun j => h (rN is j)) v := by cases v <;> rfl
theorem kA_kA (h g : Nat → Nat) (x : vp_A) : kA h (kA g x) = kA (fun j => h (g j)) x := by
  obtain ⟨n, f | f | f | f | f⟩ := x
  · rfl
  · rfl
  · rfl
  · rfl
  · show (n, _) = (n, _)
    simp only [Option.map_map]
    rfl
theorem kE_rE (G : gG) (h : Nat → Nat) (is : List Nat) (e : va_E) : kE G h (rE is e) = kE G (fun j => h (rN is j)) e := by
  cases e with
  | inl a => obtain ⟨i, x⟩ := a; exact congrArg (fun z => Sum.inl (G.2 i, z)) (kA_kA h (rN is) x)
  | inr o =>
    obtain ⟨ci, fs⟩ := o
    show Sum.inr (ci, _) = Sum.inr (ci, _)
    rw [List.map_map]
    congr 2
    apply List.map_congr_left
    intro v _
    exact kV_rV h is v
theorem kV_cat (h : Nat → Nat) (v : Value) : (kV h v).category = v.category := by cases v <;> rfl
theorem kW_get (G : gG) (h : Nat → Nat) (ws : List va_E) (i : Nat) : (kW G h ws)[i]? = (ws[i]?).map (fun e => (h i, kE G h e)) := by simp [kW, List.getElem?_mapIdx]
theorem kW_len (G : gG) (h : Nat → Nat) (ws : List va_E) : (kW G h ws).length = ws.length := by simp [kW]
theorem kW_at {G : gG} {h : Nat → Nat} {ws : List va_E} {i : Nat} {e : va_E} (he : ws[i]? = some e) : (kW G h ws)[i]? = some (h i, kE G h e) := by rw [kW_get, he]; rfl
theorem kW_of {G : gG} {h : Nat → Nat} {ws : List va_E} {i : Nat} {q : Nat × va_E} (hq : (kW G h ws)[i]? = some q) : ∃ e, ws[i]? = some e ∧ q = (h i, kE G h e) := by
  rw [kW_get] at hq
  cases he : ws[i]? with
  | none => rw [he] at hq; cases hq
  | some e => rw [he] at hq; exact ⟨e, rfl, (Option.some.inj hq).symm⟩
theorem kW_set (G : gG) (h : Nat → Nat) (ws : List va_E) (i : Nat) (e : va_E) : (kW G h ws).set i (h i, kE G h e) = kW G h (ws.set i e) := by
  apply List.ext_getElem?
  intro j
  rw [List.getElem?_set, kW_get, kW_get, List.getElem?_set, kW_len]
  by_cases hj : i = j
  · subst hj
    by_cases hl : i < ws.length <;> simp [hl]
  · simp [hj]
/-- worlds that agree: the same length -/
theorem kD_len {A : Nat → Prop} {G : gG} {h : Nat → Nat} {ws ws' : List va_E} (hD : va_D A (kW G h ws)) (hl : ws'.length = ws.length) : va_D A (kW G h ws') := by
  have key : ∀ (k : Nat) (q : Nat × va_E), (kW G h ws')[k]? = some q → ∃ q', (kW G h ws)[k]? = some q' ∧ q'.1 = q.1 := by
    intro k q hk
    obtain ⟨e, he, rfl⟩ := kW_of hk
    have hlt : k < ws.length := by rw [← hl]; exact (List.getElem?_eq_some_iff.mp he).1
    exact ⟨_, kW_at (List.getElem?_eq_getElem hlt), rfl⟩
  refine ⟨fun i j x y hx hy hxy => ?_, fun k q hk => ?_⟩
  · obtain ⟨x', a1, a2⟩ := key i x hx
    obtain ⟨y', b1, b2⟩ := key j y hy
    exact hD.1 i j x' y' a1 b1 (by rw [a2, b2]; exact hxy)
  · obtain ⟨q', a1, a2⟩ := key k q hk
    rw [← a2]
    exact hD.2 k q' a1
def lk : List (Nat × Value) → Nat → Option Value
  | [], _ => none
  | (a, v) :: t, i => if a = i then some v else lk t i
theorem lk_mem : ∀ {L : List (Nat × Value)} {i : Nat} {v : Value}, lk L i = some v → (i, v) ∈ L
  | [], _, _, h => by cases h
  | (a, w) :: t, i, v, h => by
    unfold lk at h
    by_cases ha : a = i
    · rw [if_pos ha] at h
      cases h
      subst ha
      exact List.mem_cons_self
    · rw [if_neg ha] at h
      exact List.mem_cons_of_mem _ (lk_mem h)
abbrev kL (h : Nat → Nat) (L : List (Nat × Value)) : List (Nat × Value) := L.map (fun q => (q.1, kV h q.2))
theorem lk_at {ls : Array Slot} {nL : Nat} {h : Nat → Nat} {L : List (Nat × Value)} {i : Nat} {v : Value} (hl : lv_has ls nL (kL h L)) (hk : lk L i = some v) : ls[i]? = some (.val (kV h v)) :=
  hl.2.2 (i, kV h v) (List.mem_map.mpr ⟨(i, v), lk_mem hk, rfl⟩)
def stL (i : Nat) (v : Value) (L : List (Nat × Value)) : List (Nat × Value) := (i, v) :: L.filter (fun q => !(q.1 == i) && !(q.1 + 1 == i && q.2.category == 2))
theorem stL_k (h : Nat → Nat) (i : Nat) (v : Value) (L : List (Nat × Value)) : (i, kV h v) :: (kL h L).filter (fun q => !(q.1 == i) && !(q.1 + 1 == i && q.2.category == 2)) = kL h (stL i v L) := by
  unfold stL kL
  rw [List.map_cons, List.filter_map]
  congr 2
  apply List.filter_congr
  intro q _
  show (_ && !(_ && (kV h q.2).category == 2)) = _
  rw [kV_cat]
def stL2 (i : Nat) (v : Value) (L : List (Nat × Value)) : List (Nat × Value) := (i, v) :: L.filter (fun q => !(q.1 == i) && (!(q.1 == i + 1) && !(q.1 + 1 == i && q.2.category == 2)))
theorem stL2_k (h : Nat → Nat) (i : Nat) (v : Value) (L : List (Nat × Value)) : (i, kV h v) :: (kL h L).filter (fun q => !(q.1 == i) && (!(q.1 == i + 1) && !(q.1 + 1 == i && q.2.category == 2))) = kL h (stL2 i v L) := by
  unfold stL2 kL
  rw [List.map_cons, List.filter_map]
  congr 2
  apply List.filter_congr
  intro q _
  show (_ && (_ && !(_ && (kV h q.2).category == 2))) = _
  rw [kV_cat]
/-- words of the tables that are no good words for every later state, but move along warm states -/
def nW : List Cond := [.castable "java/lang/IllegalArgumentException" "java/lang/IllegalArgumentException", .castable "java/lang/IllegalStateException" "java/lang/IllegalStateException", .castable "java/lang/IndexOutOfBoundsException" "java/lang/IndexOutOfBoundsException", .fieldLinkNest RX2 100 RX1 "power" "[I" RX2, .fieldLinkNest RX2 94 RX1 "load" "[I" RX2, .fieldLinkNest RX2 172 RX1 "hung" "I" RX2, .fieldLinkNest RX2 81 RX1 "hanging" "I" RX2, .fieldLinkNest RX2 196 RX1 "day" "I" RX2, .methodLinkNest RX2 9 yX1_init RX2, .methodLinkNest RX2 21 yX0_init RX2, .methodLinkNest RX3 34 yX4_init RL, .methodLinkNest RL 77 yX3_init RL, .declares ⟨"java/lang/RuntimeException", "<init>", "()V"⟩, .declares ⟨"java/lang/RuntimeException", "<init>", "(Ljava/lang/String;)V"⟩, .declares ⟨"java/lang/Exception", "<init>", "()V"⟩, .declares ⟨"java/lang/Exception", "<init>", "(Ljava/lang/String;)V"⟩, .declares ⟨"java/lang/Throwable", "<init>", "()V"⟩, .declares ⟨"java/lang/Throwable", "<init>", "(Ljava/lang/String;)V"⟩]
def AOA (U : State) : Prop := (Cond.arrayOver (.array .int)).before #[] U = true
theorem AOA_moved {u U : State} (hvm : u.vm.Alike U.vm) (h : AOA u) : AOA U := by
  obtain ⟨comp, c, k, h1, h2, h3, h4, h5⟩ := arrayOverA_spec h
  obtain ⟨k', hk', he⟩ := hvm.2.2 _ _ h3
  have hi : (U.vm.classes.findIdx? fun (x : Class) => match x.kind with | .array component _ => component == comp | _ => false) = some c := by
    refine (va_idx_bare U.vm comp).symm.trans ?_
    first | rw [hvm.bare_eq] | rw [← hvm.bare_eq]
    exact (va_idx_bare u.vm comp).trans h2
  have hkind : k'.kind = .array comp (.array .int) := by rw [he]; exact h4
  have f1 : U.vm.findClass (FieldType.array .int).toString = some comp := by rw [hvm.findClass]; exact h1
  have f2 : U.vm.findClass ("[" ++ (FieldType.array .int).toString) = some c := by rw [hvm.findClass]; exact h5
  unfold AOA Cond.before Cond.holds
  simp only [Cond.value]
  rw [f1, Option.bind_some]
  refine (congrArg (fun o : Option Nat => (o.bind (fun c => (U.vm.classes[c]?).map fun (k : Class) => match k.kind with | .array _ ty => decide (ty = FieldType.array .int) && decide (U.vm.findClass ("[" ++ (FieldType.array .int).toString) = some c) | _ => false) == some true)) hi).trans ?_
  simp [hk', hkind, f2]
def gN (U : State) : Prop := (∀ w ∈ nW, va_Nw w U) ∧ AOA U ∧ va_AO RX4 U
theorem gN_same {u U : State} (h : u.vm = U.vm) (q : gN u) : gN U := ⟨fun w hw => (q.1 w hw).same (by
  simp only [nW, List.mem_cons, List.not_mem_nil, or_false] at hw
  rcases hw with rfl | rfl | rfl | rfl | rfl | rfl | rfl | rfl | rfl | rfl | rfl | rfl | rfl | rfl | rfl | rfl | rfl | rfl <;> rfl) h, AOA_moved (by rw [h]; exact Vm.Alike.refl _) q.2.1, va_AO.moved (by rw [h]; exact Vm.Alike.refl _) q.2.2⟩
theorem gN_warm {s U : State} (hW : s.WarmedH U.vm) (q : gN s) : gN U := ⟨fun w hw => by
  have h := q.1 w hw
  simp only [nW, List.mem_cons, List.not_mem_nil, or_false] at hw
  rcases hw with rfl | rfl | rfl | rfl | rfl | rfl | rfl | rfl | rfl | rfl | rfl | rfl | rfl | rfl | rfl | rfl | rfl | rfl <;> first | exact h.warmF hW | exact h.warmM hW | exact h.warmC hW | exact h.warmD hW, AOA_moved hW.alike q.2.1, va_AO.moved hW.alike q.2.2⟩
def Cx (p : Program) (s : State) (m : MethodId) (args : Array Value) (c : Code) (cc : ByteArray) (nL : Nat) (own : String) (G : gG) (A : Nat → Prop) : Prop :=
  p.tables.exec = Jvm.exec ∧ c.code = cc ∧ c.maxLocals = nL ∧ s.vm.findClass own = some m.cls ∧ (∀ w ∈ gA, w.before args s = true) ∧ va_K G.1 cls (gTy G) s ∧ (∀ q : Nat, s.heap.size ≤ q → A q) ∧ gN s
def Z (p : Program) (l : Launch) (e : Env) (R : Room) (s : State) (m : MethodId) (args : Array Value) (below : List Frame) (meth : Method) (c : Code) (nL : Nat) (G : gG) (A : Nat → Prop) (h : Nat → Nat) (Q : State → Prop) (k n : Nat) (ws : List va_E) (pc : Nat) (L : List (Nat × Value)) (st : List Value) : Prop :=
  ∀ (H : Heap) (locs : List Loc) (ls : Array Slot), va_P G.1 cls (kW G h ws) H → va_D A (kW G h ws) → va_S A s.heap H locs → lv_has ls nL (kL h L) → W p l e R s m args below meth c H locs k n Q (F0 m pc ls (st.map (kV h)))
def cK (Cn : String) (T : u_T) (N ci : Nat) (ty : Nat → FieldType) : Prop := (∀ w ∈ u_ws Cn T N, w ∈ gA) ∧ cls[ci]? = some (Cn, T, N) ∧ (∀ k, k < N → parseFieldDescriptor (T k).2.2.1 = some (ty k)) ∧ (∀ a, a < N → ∀ b, b < N → a ≠ b → (T a).2.1 ≠ (T b).2.1)
theorem gA_mem {ws : List Cond} (h : ws.all (fun w => decide (w ∈ gA)) = true) : ∀ w ∈ ws, w ∈ gA := fun w hw => by
  have h1 := List.all_eq_true.mp h w hw
  simpa using h1
theorem K0 : cK RX0 TX0 4 0 tyX0 := ⟨gA_mem (by decide +kernel), rfl, tyX0_ok, nmX0⟩
theorem K1 : cK RX1 TX1 13 1 tyX1 := ⟨gA_mem (by decide +kernel), rfl, tyX1_ok, nmX1⟩
theorem K2 : cK RX2 TX2 3 2 tyX2 := ⟨gA_mem (by decide +kernel), rfl, tyX2_ok, nmX2⟩
theorem K3 : cK RX3 TX3 3 3 tyX3 := ⟨gA_mem (by decide +kernel), rfl, tyX3_ok, nmX3⟩
theorem K4 : cK RX4 TX4 6 4 tyX4 := ⟨gA_mem (by decide +kernel), rfl, tyX4_ok, nmX4⟩
section ZR
variable {p : Program} {l : Launch} {e : Env} {R : Room} {s : State} {m : MethodId} {args : Array Value} {below : List Frame} {meth : Method} {c : Code} {cc : ByteArray} {nL : Nat} {own : String} {G : gG} {A : Nat → Prop} {h : Nat → Nat} {Q : State → Prop} {k n : Nat} {ws ws' : List va_E} {pc : Nat} {L L' : List (Nat × Value)} {st : List Value}
theorem Z_widen {k' n' : Nat} (h1 : k ≤ k') (h2 : n ≤ n') (kk : Z p l e R s m args below meth c nL G A h Q k' n' ws pc L st) : Z p l e R s m args below meth c nL G A h Q k n ws pc L st := fun H locs ls hP hD hS hl => W.widen h1 h2 (kk H locs ls hP hD hS hl)
theorem Z_sub (hL : ∀ q ∈ L', q ∈ L) (kk : Z p l e R s m args below meth c nL G A h Q k n ws pc L' st) : Z p l e R s m args below meth c nL G A h Q k n ws pc L st := fun H locs ls hP hD hS hl => kk H locs ls hP hD hS ⟨hl.1, hl.2.1, fun q hq => by
  obtain ⟨r, hr, rfl⟩ := List.mem_map.mp hq
  exact hl.2.2 _ (List.mem_map.mpr ⟨r, hL r hr, rfl⟩)⟩
theorem Z_iconst (C : Cx p s m args c cc nL own G A) {z : Int} {v : Int32} (d : decode cc pc = .ok (.iconst z, 1)) (hv : Int32.ofInt z = v) (kk : Z p l e R s m args below meth c nL G A h Q k n ws (pc + 1) L (.int v :: st)) : Z p l e R s m args below meth c nL G A h Q k n ws pc L st := fun H locs ls hP hD hS hl => lv_iconst C.1 C.2.1 d hv (kk H locs ls hP hD hS hl)
theorem Z_bipush (C : Cx p s m args c cc nL own G A) {z : Int} {v : Int32} (d : decode cc pc = .ok (.bipush z, 2)) (hv : (Int8.ofInt z).toInt32 = v) (kk : Z p l e R s m args below meth c nL G A h Q k n ws (pc + 2) L (.int v :: st)) : Z p l e R s m args below meth c nL G A h Q k n ws pc L st := fun H locs ls hP hD hS hl => lv_bipush C.1 C.2.1 d hv (kk H locs ls hP hD hS hl)
theorem Z_sipush (C : Cx p s m args c cc nL own G A) {z : Int} {v : Int32} (d : decode cc pc = .ok (.sipush z, 3)) (hv : (Int16.ofInt z).toInt32 = v) (kk : Z p l e R s m args below meth c nL G A h Q k n ws (pc + 3) L (.int v :: st)) : Z p l e R s m args below meth c nL G A h Q k n ws pc L st := fun H locs ls hP hD hS hl => lv_sipush C.1 C.2.1 d hv (kk H locs ls hP hD hS hl)
theorem Z_lconst (C : Cx p s m args c cc nL own G A) {z : Fin 2} {v : Int64} (d : decode cc pc = .ok (.lconst z, 1)) (hv : Int64.ofNat (z : Nat) = v) (kk : Z p l e R s m args below meth c nL G A h Q k n ws (pc + 1) L (.long v :: st)) : Z p l e R s m args below meth c nL G A h Q k n ws pc L st := fun H locs ls hP hD hS hl => lv_lconst C.1 C.2.1 d hv (kk H locs ls hP hD hS hl)
theorem Z_ldc2 (C : Cx p s m args c cc nL own G A) {index : Nat} {v : Int64} (d : decode cc pc = .ok (.ldc2_w index, 3)) (hc : Jvm.Cond.constantLong own index v ∈ gA) (kk : Z p l e R s m args below meth c nL G A h Q k n ws (pc + 3) L (.long v :: st)) : Z p l e R s m args below meth c nL G A h Q k n ws pc L st := fun H locs ls hP hD hS hl => lv_ldc2 C.1 C.2.1 C.2.2.2.1 (C.2.2.2.2.1 _ hc) d (kk H locs ls hP hD hS hl)
theorem Z_iload_n (C : Cx p s m args c cc nL own G A) {kf : Fin 4} {i : Nat} {x : Int32} (d : decode cc pc = .ok (.iload_n kf, 1)) (hi : (kf : Nat) = i) (hk : lk L i = some (.int x)) (kk : Z p l e R s m args below meth c nL G A h Q k n ws (pc + 1) L (.int x :: st)) : Z p l e R s m args below meth c nL G A h Q k n ws pc L st := fun H locs ls hP hD hS hl => lv_iload_n C.1 C.2.1 d hi (lk_at hl hk) (kk H locs ls hP hD hS hl)
theorem Z_iload (C : Cx p s m args c cc nL own G A) {i : Nat} {x : Int32} (d : decode cc pc = .ok (.iload i, 2)) (hk : lk L i = some (.int x)) (kk : Z p l e R s m args below meth c nL G A h Q k n ws (pc + 2) L (.int x :: st)) : Z p l e R s m args below meth c nL G A h Q k n ws pc L st := fun H locs ls hP hD hS hl => lv_iload C.1 C.2.1 d (lk_at hl hk) (kk H locs ls hP hD hS hl)
theorem Z_lload_n (C : Cx p s m args c cc nL own G A) {kf : Fin 4} {i : Nat} {x : Int64} (d : decode cc pc = .ok (.lload_n kf, 1)) (hi : (kf : Nat) = i) (hk : lk L i = some (.long x)) (kk : Z p l e R s m args below meth c nL G A h Q k n ws (pc + 1) L (.long x :: st)) : Z p l e R s m args below meth c nL G A h Q k n ws pc L st := fun H locs ls hP hD hS hl => lv_lload_n C.1 C.2.1 d hi (lk_at hl hk) (kk H locs ls hP hD hS hl)
theorem Z_aload_n (C : Cx p s m args c cc nL own G A) {kf : Fin 4} {i : Nat} {x : Nat} (d : decode cc pc = .ok (.aload_n kf, 1)) (hi : (kf : Nat) = i) (hk : lk L i = some (.ref x)) (kk : Z p l e R s m args below meth c nL G A h Q k n ws (pc + 1) L (.ref x :: st)) : Z p l e R s m args below meth c nL G A h Q k n ws pc L st := fun H locs ls hP hD hS hl => lv_aload_n C.1 C.2.1 d hi (lk_at hl hk) (kk H locs ls hP hD hS hl)
theorem Z_aload (C : Cx p s m args c cc nL own G A) {i : Nat} {x : Nat} (d : decode cc pc = .ok (.aload i, 2)) (hk : lk L i = some (.ref x)) (kk : Z p l e R s m args below meth c nL G A h Q k n ws (pc + 2) L (.ref x :: st)) : Z p l e R s m args below meth c nL G A h Q k n ws pc L st := fun H locs ls hP hD hS hl => lv_aload C.1 C.2.1 d (lk_at hl hk) (kk H locs ls hP hD hS hl)
theorem Z_istore_n (C : Cx p s m args c cc nL own G A) {kf : Fin 4} {i : Nat} {x : Int32} (d : decode cc pc = .ok (.istore_n kf, 1)) (hi : (kf : Nat) = i) (hn : i < nL) (hL : stL i (.int x) L = L') (kk : Z p l e R s m args below meth c nL G A h Q k n ws (pc + 1) L' st) : Z p l e R s m args below meth c nL G A h Q k n ws pc L (.int x :: st) := fun H locs ls hP hD hS hl => lv_istore_n (lv' := kL h L') C.1 C.2.1 d hi hl hn (by subst hL; exact stL_k h i (.int x) L) (fun ls hl => kk H locs ls hP hD hS hl)
theorem Z_istore (C : Cx p s m args c cc nL own G A) {i : Nat} {x : Int32} (d : decode cc pc = .ok (.istore i, 2)) (hn : i < nL) (hL : stL i (.int x) L = L') (kk : Z p l e R s m args below meth c nL G A h Q k n ws (pc + 2) L' st) : Z p l e R s m args below meth c nL G A h Q k n ws pc L (.int x :: st) := fun H locs ls hP hD hS hl => lv_istore (lv' := kL h L') C.1 C.2.1 d hl hn (by subst hL; exact stL_k h i (.int x) L) (fun ls hl => kk H locs ls hP hD hS hl)
theorem Z_lstore_n (C : Cx p s m args c cc nL own G A) {kf : Fin 4} {i : Nat} {x : Int64} (d : decode cc pc = .ok (.lstore_n kf, 1)) (hi : (kf : Nat) = i) (hn : i + 1 < nL) (hL : stL2 i (.long x) L = L') (kk : Z p l e R s m args below meth c nL G A h Q k n ws (pc + 1) L' st) : Z p l e R s m args below meth c nL G A h Q k n ws pc L (.long x :: st) := fun H locs ls hP hD hS hl => lv_lstore_n (lv' := kL h L') C.1 C.2.1 d hi hl hn (by subst hL; exact stL2_k h i (.long x) L) (fun ls hl => kk H locs ls hP hD hS hl)
theorem Z_astore_n (C : Cx p s m args c cc nL own G A) {kf : Fin 4} {i : Nat} {x : Nat} (d : decode cc pc = .ok (.astore_n kf, 1)) (hi : (kf : Nat) = i) (hn : i < nL) (hL : stL i (.ref x) L = L') (kk : Z p l e R s m args below meth c nL G A h Q k n ws (pc + 1) L' st) : Z p l e R s m args below meth c nL G A h Q k n ws pc L (.ref x :: st) := fun H locs ls hP hD hS hl => lv_astore_n (lv' := kL h L') C.1 C.2.1 d hi hl hn (by subst hL; exact stL_k h i (.ref x) L) (fun ls hl => kk H locs ls hP hD hS hl)
theorem Z_astore (C : Cx p s m args c cc nL own G A) {i : Nat} {x : Nat} (d : decode cc pc = .ok (.astore i, 2)) (hn : i < nL) (hL : stL i (.ref x) L = L') (kk : Z p l e R s m args below meth c nL G A h Q k n ws (pc + 2) L' st) : Z p l e R s m args below meth c nL G A h Q k n ws pc L (.ref x :: st) := fun H locs ls hP hD hS hl => lv_astore (lv' := kL h L') C.1 C.2.1 d hl hn (by subst hL; exact stL_k h i (.ref x) L) (fun ls hl => kk H locs ls hP hD hS hl)
theorem lk_pos : ∀ {L : List (Nat × Value)} {i : Nat} {v : Value}, lk L i = some v → ∃ j : Nat, L[j]? = some (i, v) := fun hk => List.getElem?_of_mem (lk_mem hk)
theorem Z_iinc (C : Cx p s m args c cc nL own G A) {i : Nat} {z : Int} {x v : Int32} (d : decode cc pc = .ok (.iinc i z, 3)) (hk : lk L i = some (.int x)) (hv : x + Int32.ofInt z = v) (hn : i < nL) (hL : stL i (.int v) L = L') (kk : Z p l e R s m args below meth c nL G A h Q k n ws (pc + 3) L' st) : Z p l e R s m args below meth c nL G A h Q k n ws pc L st := fun H locs ls hP hD hS hl => by
  obtain ⟨j, hj⟩ := lk_pos hk
  exact lv_iinc (lv' := kL h L') C.1 C.2.1 d hl (k := j) (x := x) (by rw [List.getElem?_map, hj]; rfl) hv hn (by subst hL; exact stL_k h i (.int v) L) (fun ls hl => kk H locs ls hP hD hS hl)
theorem Z_iadd (C : Cx p s m args c cc nL own G A) {x y v : Int32} (d : decode cc pc = .ok (.iadd, 1)) (hv : x + y = v) (kk : Z p l e R s m args below meth c nL G A h Q k n ws (pc + 1) L (.int v :: st)) : Z p l e R s m args below meth c nL G A h Q k n ws pc L (.int y :: .int x :: st) := fun H locs ls hP hD hS hl => lv_iadd C.1 C.2.1 d (by subst hv; exact kk H locs ls hP hD hS hl)
theorem Z_isub (C : Cx p s m args c cc nL own G A) {x y v : Int32} (d : decode cc pc = .ok (.isub, 1)) (hv : x - y = v) (kk : Z p l e R s m args below meth c nL G A h Q k n ws (pc + 1) L (.int v :: st)) : Z p l e R s m args below meth c nL G A h Q k n ws pc L (.int y :: .int x :: st) := fun H locs ls hP hD hS hl => lv_isub C.1 C.2.1 d (by subst hv; exact kk H locs ls hP hD hS hl)
theorem Z_imul (C : Cx p s m args c cc nL own G A) {x y v : Int32} (d : decode cc pc = .ok (.imul, 1)) (hv : x * y = v) (kk : Z p l e R s m args below meth c nL G A h Q k n ws (pc + 1) L (.int v :: st)) : Z p l e R s m args below meth c nL G A h Q k n ws pc L (.int y :: .int x :: st) := fun H locs ls hP hD hS hl => lv_imul C.1 C.2.1 d (by subst hv; exact kk H locs ls hP hD hS hl)
theorem Z_idiv (C : Cx p s m args c cc nL own G A) {x y v : Int32} (d : decode cc pc = .ok (.idiv, 1)) (hne : ¬ y = 0) (hv : x / y = v) (kk : Z p l e R s m args below meth c nL G A h Q k n ws (pc + 1) L (.int v :: st)) : Z p l e R s m args below meth c nL G A h Q k n ws pc L (.int y :: .int x :: st) := fun H locs ls hP hD hS hl => lv_idiv C.1 C.2.1 d hne (by subst hv; exact kk H locs ls hP hD hS hl)
theorem Z_iand (C : Cx p s m args c cc nL own G A) {x y v : Int32} (d : decode cc pc = .ok (.iand, 1)) (hv : x &&& y = v) (kk : Z p l e R s m args below meth c nL G A h Q k n ws (pc + 1) L (.int v :: st)) : Z p l e R s m args below meth c nL G A h Q k n ws pc L (.int y :: .int x :: st) := fun H locs ls hP hD hS hl => lv_iand C.1 C.2.1 d (by subst hv; exact kk H locs ls hP hD hS hl)
theorem Z_ior (C : Cx p s m args c cc nL own G A) {x y v : Int32} (d : decode cc pc = .ok (.ior, 1)) (hv : x ||| y = v) (kk : Z p l e R s m args below meth c nL G A h Q k n ws (pc + 1) L (.int v :: st)) : Z p l e R s m args below meth c nL G A h Q k n ws pc L (.int y :: .int x :: st) := fun H locs ls hP hD hS hl => lv_ior C.1 C.2.1 d (by subst hv; exact kk H locs ls hP hD hS hl)
theorem Z_ladd (C : Cx p s m args c cc nL own G A) {x y v : Int64} (d : decode cc pc = .ok (.ladd, 1)) (hv : x + y = v) (kk : Z p l e R s m args below meth c nL G A h Q k n ws (pc + 1) L (.long v :: st)) : Z p l e R s m args below meth c nL G A h Q k n ws pc L (.long y :: .long x :: st) := fun H locs ls hP hD hS hl => lv_ladd C.1 C.2.1 d (by subst hv; exact kk H locs ls hP hD hS hl)
theorem Z_lmul (C : Cx p s m args c cc nL own G A) {x y v : Int64} (d : decode cc pc = .ok (.lmul, 1)) (hv : x * y = v) (kk : Z p l e R s m args below meth c nL G A h Q k n ws (pc + 1) L (.long v :: st)) : Z p l e R s m args below meth c nL G A h Q k n ws pc L (.long y :: .long x :: st) := fun H locs ls hP hD hS hl => lv_lmul C.1 C.2.1 d (by subst hv; exact kk H locs ls hP hD hS hl)
theorem Z_i2l (C : Cx p s m args c cc nL own G A) {x : Int32} {v : Int64} (d : decode cc pc = .ok (.i2l, 1)) (hv : x.toInt64 = v) (kk : Z p l e R s m args below meth c nL G A h Q k n ws (pc + 1) L (.long v :: st)) : Z p l e R s m args below meth c nL G A h Q k n ws pc L (.int x :: st) := fun H locs ls hP hD hS hl => lv_i2l C.1 C.2.1 d hv (kk H locs ls hP hD hS hl)
theorem Z_dup (C : Cx p s m args c cc nL own G A) {v : Value} (d : decode cc pc = .ok (.dup, 1)) (hc : v.category = 1) (kk : Z p l e R s m args below meth c nL G A h Q k n ws (pc + 1) L (v :: v :: st)) : Z p l e R s m args below meth c nL G A h Q k n ws pc L (v :: st) := fun H locs ls hP hD hS hl => lv_dup C.1 C.2.1 d (by rw [kV_cat]; exact hc) (kk H locs ls hP hD hS hl)
theorem Z_pop (C : Cx p s m args c cc nL own G A) {v : Value} (d : decode cc pc = .ok (.pop, 1)) (hc : v.category = 1) (kk : Z p l e R s m args below meth c nL G A h Q k n ws (pc + 1) L st) : Z p l e R s m args below meth c nL G A h Q k n ws pc L (v :: st) := fun H locs ls hP hD hS hl => lv_pop C.1 C.2.1 d (by rw [kV_cat]; exact hc) (kk H locs ls hP hD hS hl)
theorem Z_dup_x1 (C : Cx p s m args c cc nL own G A) {v w : Value} (d : decode cc pc = .ok (.dup_x1, 1)) (hc : v.category = 1) (hc2 : w.category = 1) (kk : Z p l e R s m args below meth c nL G A h Q k n ws (pc + 1) L (v :: w :: v :: st)) : Z p l e R s m args below meth c nL G A h Q k n ws pc L (v :: w :: st) := fun H locs ls hP hD hS hl => lv_dup_x1 C.1 C.2.1 d (by rw [kV_cat]; exact hc) (by rw [kV_cat]; exact hc2) (kk H locs ls hP hD hS hl)
theorem Z_dup2_11 (C : Cx p s m args c cc nL own G A) {v w : Value} (d : decode cc pc = .ok (.dup2, 1)) (hc : v.category = 1) (hc2 : w.category = 1) (kk : Z p l e R s m args below meth c nL G A h Q k n ws (pc + 1) L (v :: w :: v :: w :: st)) : Z p l e R s m args below meth c nL G A h Q k n ws pc L (v :: w :: st) := fun H locs ls hP hD hS hl => lv_dup2_11 C.1 C.2.1 d (by rw [kV_cat]; exact hc) (by rw [kV_cat]; exact hc2) (kk H locs ls hP hD hS hl)
theorem Z_goto (C : Cx p s m args c cc nL own G A) {off : Int} (tgt : Nat) (d : decode cc pc = .ok (.goto off, 3)) (ht : (pc : Int) + off = (tgt : Int)) (kk : Z p l e R s m args below meth c nL G A h Q k n ws tgt L st) : Z p l e R s m args below meth c nL G A h Q k n ws pc L st := fun H locs ls hP hD hS hl => lv_goto C.1 C.2.1 d ht (kk H locs ls hP hD hS hl)
theorem Z_if_eq (C : Cx p s m args c cc nL own G A) {x : Int32} {off : Int} (tgt : Nat) (d : decode cc pc = .ok (.ifCond .eq off, 3)) (ht : (pc : Int) + off = (tgt : Int)) (kt : x = 0 → Z p l e R s m args below meth c nL G A h Q k n ws tgt L st) (kf : ¬ x = 0 → Z p l e R s m args below meth c nL G A h Q k n ws (pc + 3) L st) : Z p l e R s m args below meth c nL G A h Q k n ws pc L (.int x :: st) := fun H locs ls hP hD hS hl => lv_if_eq C.1 C.2.1 d ht (fun q => kt q H locs ls hP hD hS hl) (fun q => kf q H locs ls hP hD hS hl)
theorem Z_icmp_eq (C : Cx p s m args c cc nL own G A) {x y : Int32} {off : Int} (tgt : Nat) (d : decode cc pc = .ok (.if_icmp .eq off, 3)) (ht : (pc : Int) + off = (tgt : Int)) (kt : x = y → Z p l e R s m args below meth c nL G A h Q k n ws tgt L st) (kf : ¬ x = y → Z p l e R s m args below meth c nL G A h Q k n ws (pc + 3) L st) : Z p l e R s m args below meth c nL G A h Q k n ws pc L (.int y :: .int x :: st) := fun H locs ls hP hD hS hl => lv_icmp_eq C.1 C.2.1 d ht (fun q => kt q H locs ls hP hD hS hl) (fun q => kf q H locs ls hP hD hS hl)
theorem Z_if_ne (C : Cx p s m args c cc nL own G A) {x : Int32} {off : Int} (tgt : Nat) (d : decode cc pc = .ok (.ifCond .ne off, 3)) (ht : (pc : Int) + off = (tgt : Int)) (kt : ¬ x = 0 → Z p l e R s m args below meth c nL G A h Q k n ws tgt L st) (kf : x = 0 → Z p l e R s m args below meth c nL G A h Q k n ws (pc + 3) L st) : Z p l e R s m args below meth c nL G A h Q k n ws pc L (.int x :: st) := fun H locs ls hP hD hS hl => lv_if_ne C.1 C.2.1 d ht (fun q => kt q H locs ls hP hD hS hl) (fun q => kf q H locs ls hP hD hS hl)
theorem Z_icmp_ne (C : Cx p s m args c cc nL own G A) {x y : Int32} {off : Int} (tgt : Nat) (d : decode cc pc = .ok (.if_icmp .ne off, 3)) (ht : (pc : Int) + off = (tgt : Int)) (kt : ¬ x = y → Z p l e R s m args below meth c nL G A h Q k n ws tgt L st) (kf : x = y → Z p l e R s m args below meth c nL G A h Q k n ws (pc + 3) L st) : Z p l e R s m args below meth c nL G A h Q k n ws pc L (.int y :: .int x :: st) := fun H locs ls hP hD hS hl => lv_icmp_ne C.1 C.2.1 d ht (fun q => kt q H locs ls hP hD hS hl) (fun q => kf q H locs ls hP hD hS hl)
theorem Z_if_lt (C : Cx p s m args c cc nL own G A) {x : Int32} {off : Int} (tgt : Nat) (d : decode cc pc = .ok (.ifCond .lt off, 3)) (ht : (pc : Int) + off = (tgt : Int)) (kt : x < 0 → Z p l e R s m args below meth c nL G A h Q k n ws tgt L st) (kf : ¬ x < 0 → Z p l e R s m args below meth c nL G A h Q k n ws (pc + 3) L st) : Z p l e R s m args below meth c nL G A h Q k n ws pc L (.int x :: st) := fun H locs ls hP hD hS hl => lv_if_lt C.1 C.2.1 d ht (fun q => kt q H locs ls hP hD hS hl) (fun q => kf q H locs ls hP hD hS hl)
theorem Z_icmp_lt (C : Cx p s m args c cc nL own G A) {x y : Int32} {off : Int} (tgt : Nat) (d : decode cc pc = .ok (.if_icmp .lt off, 3)) (ht : (pc : Int) + off = (tgt : Int)) (kt : x < y → Z p l e R s m args below meth c nL G A h Q k n ws tgt L st) (kf : ¬ x < y → Z p l e R s m args below meth c nL G A h Q k n ws (pc + 3) L st) : Z p l e R s m args below meth c nL G A h Q k n ws pc L (.int y :: .int x :: st) := fun H locs ls hP hD hS hl => lv_icmp_lt C.1 C.2.1 d ht (fun q => kt q H locs ls hP hD hS hl) (fun q => kf q H locs ls hP hD hS hl)
theorem Z_if_ge (C : Cx p s m args c cc nL own G A) {x : Int32} {off : Int} (tgt : Nat) (d : decode cc pc = .ok (.ifCond .ge off, 3)) (ht : (pc : Int) + off = (tgt : Int)) (kt : 0 ≤ x → Z p l e R s m args below meth c nL G A h Q k n ws tgt L st) (kf : ¬ 0 ≤ x → Z p l e R s m args below meth c nL G A h Q k n ws (pc + 3) L st) : Z p l e R s m args below meth c nL G A h Q k n ws pc L (.int x :: st) := fun H locs ls hP hD hS hl => lv_if_ge C.1 C.2.1 d ht (fun q => kt q H locs ls hP hD hS hl) (fun q => kf q H locs ls hP hD hS hl)
theorem Z_icmp_ge (C : Cx p s m args c cc nL own G A) {x y : Int32} {off : Int} (tgt : Nat) (d : decode cc pc = .ok (.if_icmp .ge off, 3)) (ht : (pc : Int) + off = (tgt : Int)) (kt : y ≤ x → Z p l e R s m args below meth c nL G A h Q k n ws tgt L st) (kf : ¬ y ≤ x → Z p l e R s m args below meth c nL G A h Q k n ws (pc + 3) L st) : Z p l e R s m args below meth c nL G A h Q k n ws pc L (.int y :: .int x :: st) := fun H locs ls hP hD hS hl => lv_icmp_ge C.1 C.2.1 d ht (fun q => kt q H locs ls hP hD hS hl) (fun q => kf q H locs ls hP hD hS hl)
theorem Z_if_gt (C : Cx p s m args c cc nL own G A) {x : Int32} {off : Int} (tgt : Nat) (d : decode cc pc = .ok (.ifCond .gt off, 3)) (ht : (pc : Int) + off = (tgt : Int)) (kt : 0 < x → Z p l e R s m args below meth c nL G A h Q k n ws tgt L st) (kf : ¬ 0 < x → Z p l e R s m args below meth c nL G A h Q k n ws (pc + 3) L st) : Z p l e R s m args below meth c nL G A h Q k n ws pc L (.int x :: st) := fun H locs ls hP hD hS hl => lv_if_gt C.1 C.2.1 d ht (fun q => kt q H locs ls hP hD hS hl) (fun q => kf q H locs ls hP hD hS hl)
theorem Z_icmp_gt (C : Cx p s m args c cc nL own G A) {x y : Int32} {off : Int} (tgt : Nat) (d : decode cc pc = .ok (.if_icmp .gt off, 3)) (ht : (pc : Int) + off = (tgt : Int)) (kt : y < x → Z p l e R s m args below meth c nL G A h Q k n ws tgt L st) (kf : ¬ y < x → Z p l e R s m args below meth c nL G A h Q k n ws (pc + 3) L st) : Z p l e R s m args below meth c nL G A h Q k n ws pc L (.int y :: .int x :: st) := fun H locs ls hP hD hS hl => lv_icmp_gt C.1 C.2.1 d ht (fun q => kt q H locs ls hP hD hS hl) (fun q => kf q H locs ls hP hD hS hl)
theorem Z_if_le (C : Cx p s m args c cc nL own G A) {x : Int32} {off : Int} (tgt : Nat) (d : decode cc pc = .ok (.ifCond .le off, 3)) (ht : (pc : Int) + off = (tgt : Int)) (kt : x ≤ 0 → Z p l e R s m args below meth c nL G A h Q k n ws tgt L st) (kf : ¬ x ≤ 0 → Z p l e R s m args below meth c nL G A h Q k n ws (pc + 3) L st) : Z p l e R s m args below meth c nL G A h Q k n ws pc L (.int x :: st) := fun H locs ls hP hD hS hl => lv_if_le C.1 C.2.1 d ht (fun q => kt q H locs ls hP hD hS hl) (fun q => kf q H locs ls hP hD hS hl)
theorem Z_icmp_le (C : Cx p s m args c cc nL own G A) {x y : Int32} {off : Int} (tgt : Nat) (d : decode cc pc = .ok (.if_icmp .le off, 3)) (ht : (pc : Int) + off = (tgt : Int)) (kt : x ≤ y → Z p l e R s m args below meth c nL G A h Q k n ws tgt L st) (kf : ¬ x ≤ y → Z p l e R s m args below meth c nL G A h Q k n ws (pc + 3) L st) : Z p l e R s m args below meth c nL G A h Q k n ws pc L (.int y :: .int x :: st) := fun H locs ls hP hD hS hl => lv_icmp_le C.1 C.2.1 d ht (fun q => kt q H locs ls hP hD hS hl) (fun q => kf q H locs ls hP hD hS hl)
end ZR
