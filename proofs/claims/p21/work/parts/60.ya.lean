/-! WORLDS BY PLACE: a world is a function from places to cells (none: nothing is known there); h gives the addresses; the heap's list of cells holds each of them -/
abbrev WF : Type := Nat → Option va_E
def MW (G : gG) (h : Nat → Nat) (w : WF) (ws : va_W) : Prop := (∀ i e, w i = some e → ∃ j : Nat, ws[j]? = some (h i, kE G h e)) ∧ ∀ i j e f, w i = some e → w j = some f → h i = h j → i = j
def Y (p : Program) (l : Launch) (e : Env) (R : Room) (s : State) (m : MethodId) (args : Array Value) (below : List Frame) (meth : Method) (c : Code) (nL : Nat) (G : gG) (A : Nat → Prop) (h : Nat → Nat) (Q : State → Prop) (k n : Nat) (w : WF) (pc : Nat) (L : List (Nat × Value)) (st : List Value) : Prop :=
  ∀ (H : Heap) (locs : List Loc) (ls : Array Slot) (ws : va_W), va_P G.1 cls ws H → va_D A ws → MW G h w ws → va_S A s.heap H locs → lv_has ls nL (kL h L) → W p l e R s m args below meth c H locs k n Q (F0 m pc ls (st.map (kV h)))
/-- references of a value, of a cell, of locals: all of them are P -/
def vR (P : Nat → Prop) : Value → Prop
  | .ref a => P a
  | _ => True
def sR (P : Nat → Prop) : List Value → Prop
  | [] => True
  | v :: t => vR P v ∧ sR P t
def lR (P : Nat → Prop) : List (Nat × Value) → Prop
  | [] => True
  | q :: t => vR P q.2 ∧ lR P t
def eR (P : Nat → Prop) : va_E → Prop
  | .inl (_, (_, .inr (.inr (.inr (.inr f))))) => ∀ j a, f j = some a → P a
  | .inl _ => True
  | .inr (_, fs) => sR P fs
def wR (P : Nat → Prop) (w : WF) : Prop := ∀ i e, w i = some e → eR P e
theorem vR.imp {P P' : Nat → Prop} (h : ∀ a, P a → P' a) {v : Value} (q : vR P v) : vR P' v := by
  cases v with
  | ref a => exact h a q
  | _ => trivial
theorem sR.imp {P P' : Nat → Prop} (h : ∀ a, P a → P' a) : ∀ {fs : List Value}, sR P fs → sR P' fs
  | [], _ => trivial
  | _ :: _, q => ⟨q.1.imp h, sR.imp h q.2⟩
theorem eR.imp {P P' : Nat → Prop} (h : ∀ a, P a → P' a) {e : va_E} (q : eR P e) : eR P' e := by
  cases e with
  | inl a =>
    obtain ⟨i, n, f | f | f | f | f⟩ := a
    · trivial
    · trivial
    · trivial
    · trivial
    · exact fun j a z => h a (q j a z)
  | inr o => exact sR.imp h q
theorem kV_P {P : Nat → Prop} {h h' : Nat → Nat} (hag : ∀ a, P a → h' a = h a) {v : Value} (hv : vR P v) : kV h' v = kV h v := by
  cases v with
  | ref a => exact congrArg Value.ref (hag a hv)
  | _ => rfl
theorem kVs_P {P : Nat → Prop} {h h' : Nat → Nat} (hag : ∀ a, P a → h' a = h a) : ∀ {fs : List Value}, sR P fs → fs.map (kV h') = fs.map (kV h)
  | [], _ => rfl
  | _ :: _, q => by rw [List.map_cons, List.map_cons, kV_P hag q.1, kVs_P hag q.2]
theorem kL_P {P : Nat → Prop} {h h' : Nat → Nat} (hag : ∀ a, P a → h' a = h a) : ∀ {L : List (Nat × Value)}, lR P L → kL h' L = kL h L
  | [], _ => rfl
  | q :: t, z => by
    show (q.1, kV h' q.2) :: kL h' t = (q.1, kV h q.2) :: kL h t
    rw [kV_P hag z.1, kL_P hag z.2]
theorem kE_P {P : Nat → Prop} {G : gG} {h h' : Nat → Nat} (hag : ∀ a, P a → h' a = h a) {e : va_E} (he : eR P e) : kE G h' e = kE G h e := by
  cases e with
  | inl a =>
    obtain ⟨i, n, f | f | f | f | f⟩ := a
    · rfl
    · rfl
    · rfl
    · rfl
    · have e : (fun j => (f j).map h') = fun j => (f j).map h := by
        funext j
        cases hf : f j with
        | none => rfl
        | some a => exact congrArg some (hag a (he j a hf))
      exact congrArg (fun z => (Sum.inl (G.2 i, (n, Sum.inr (Sum.inr (Sum.inr (Sum.inr z))))) : va_E)) e
  | inr o =>
    obtain ⟨ci, fs⟩ := o
    show Sum.inr (ci, _) = Sum.inr (ci, _)
    rw [kVs_P hag he]
/-- one place written -/
def wU (w : WF) (q : Nat) (e : va_E) : WF := fun i => if i = q then some e else w i
theorem wU_s (w : WF) (q : Nat) (e : va_E) : wU w q e q = some e := if_pos rfl
theorem wU_n (w : WF) {q i : Nat} (e : va_E) (h : i ≠ q) : wU w q e i = w i := if_neg h
theorem MW.set {G : gG} {h : Nat → Nat} {w : WF} {ws : va_W} {q j : Nat} {e0 e : va_E} (hM : MW G h w ws) (hq : w q = some e0) (hj : ws[j]? = some (h q, kE G h e0)) : MW G h (wU w q e) (ws.set j (h q, kE G h e)) := by
  have hlt : j < ws.length := (List.getElem?_eq_some_iff.mp hj).1
  refine ⟨fun i f hi => ?_, fun i i2 f f2 hi hi2 hh => ?_⟩
  · by_cases hiq : i = q
    · subst hiq
      rw [wU_s] at hi
      cases hi
      exact ⟨j, by rw [List.getElem?_set_self hlt]⟩
    · rw [wU_n _ _ hiq] at hi
      obtain ⟨j2, hj2⟩ := hM.1 i f hi
      refine ⟨j2, ?_⟩
      rw [List.getElem?_set_ne (fun z => ?_)]
      · exact hj2
      · subst z
        rw [hj] at hj2
        have h1 : h q = h i := congrArg Prod.fst (Option.some.inj hj2)
        exact hiq (hM.2 i q f e0 hi hq h1.symm)
  · have key : ∀ a f, wU w q e a = some f → ∃ f', w a = some f' := fun a f ha => by
      by_cases haq : a = q
      · subst haq; exact ⟨e0, hq⟩
      · rw [wU_n _ _ haq] at ha; exact ⟨f, ha⟩
    obtain ⟨g1, e1⟩ := key i f hi
    obtain ⟨g2, e2⟩ := key i2 f2 hi2
    exact hM.2 i i2 g1 g2 e1 e2 hh
/-- a new cell, at a place that nothing refers to -/
theorem MW.push {G : gG} {A : Nat → Prop} {h : Nat → Nat} {w : WF} {ws : va_W} {q a : Nat} {e : va_E} (hM : MW G h w ws) (hR : wR (fun x => x ≠ q) w) (he : eR (fun x => x ≠ q) e) (hD : va_D A (ws ++ [(a, kE G h e)])) : MW G (va_up h q a) (wU w q e) (ws ++ [(a, kE G h e)]) := by
  have hag : ∀ x, x ≠ q → va_up h q a x = h x := fun x hx => if_neg hx
  have hqq : va_up h q a q = a := if_pos rfl
  have hlast : (ws ++ [(a, kE G h e)])[ws.length]? = some (a, kE G h e) := by rw [List.getElem?_append_right (Nat.le_refl _), Nat.sub_self]; rfl
  have hold : ∀ i f, i ≠ q → w i = some f → ∃ j : Nat, j < ws.length ∧ (ws ++ [(a, kE G h e)])[j]? = some (h i, kE G h f) := fun i f _ hi => by
    obtain ⟨j, hj⟩ := hM.1 i f hi
    have hlt : j < ws.length := (List.getElem?_eq_some_iff.mp hj).1
    exact ⟨j, hlt, by rw [List.getElem?_append_left hlt]; exact hj⟩
  refine ⟨fun i f hi => ?_, fun i i2 f f2 hi hi2 hh => ?_⟩
  · by_cases hiq : i = q
    · subst hiq
      rw [wU_s] at hi
      cases hi
      refine ⟨ws.length, ?_⟩
      rw [hqq, kE_P hag he]
      exact hlast
    · rw [wU_n _ _ hiq] at hi
      obtain ⟨j, -, hj⟩ := hold i f hiq hi
      exact ⟨j, by rw [hag i hiq, kE_P hag (hR i f hi)]; exact hj⟩
  · by_cases h1 : i = q
    · by_cases h2 : i2 = q
      · rw [h1, h2]
      · exfalso
        subst h1
        rw [wU_n _ _ h2] at hi2
        rw [hqq, hag i2 h2] at hh
        obtain ⟨j, hlt, hj⟩ := hold i2 f2 h2 hi2
        have := hD.1 _ _ _ _ hlast hj hh
        omega
    · by_cases h2 : i2 = q
      · exfalso
        subst h2
        rw [wU_n _ _ h1] at hi
        rw [hqq, hag i h1] at hh
        obtain ⟨j, hlt, hj⟩ := hold i f h1 hi
        have := hD.1 _ _ _ _ hj hlast hh
        omega
      · rw [wU_n _ _ h1] at hi
        rw [wU_n _ _ h2] at hi2
        rw [hag i h1, hag i2 h2] at hh
        exact hM.2 i i2 f f2 hi hi2 hh
theorem MW.less {G : gG} {h : Nat → Nat} {w w' : WF} {ws : va_W} (hM : MW G h w ws) (hl : ∀ i e, w' i = some e → w i = some e) : MW G h w' ws := ⟨fun i e hi => hM.1 i e (hl i e hi), fun i j e f hi hj => hM.2 i j e f (hl i e hi) (hl j f hj)⟩
/-- places renamed -/
theorem MW.ren {G : gG} {h : Nat → Nat} {w w' : WF} {ws : va_W} (hM : MW G h w ws) (r : Nat → Nat) (hl : ∀ i e, w' i = some e → w (r i) = some (rEf r e)) (hi : ∀ i j e f, w' i = some e → w' j = some f → r i = r j → i = j) : MW G (fun i => h (r i)) w' ws := by
  refine ⟨fun i e he => ?_, fun i j e f he hf hh => ?_⟩
  · obtain ⟨j, hj⟩ := hM.1 (r i) _ (hl i e he)
    exact ⟨j, by rw [hj, kE_rEf]⟩
  · exact hi i j e f he hf (hM.2 (r i) (r j) _ _ (hl i e he) (hl j f hf) hh)
theorem MW.lt {G : gG} {h : Nat → Nat} {w : WF} {ws : va_W} {H : Heap} (hM : MW G h w ws) (hP : va_P G.1 cls ws H) {i : Nat} {e : va_E} (hi : w i = some e) : va_at G.1 cls (h i, kE G h e) H := by
  obtain ⟨j, hj⟩ := hM.1 i e hi
  exact hP j _ hj
section YR
variable {p : Program} {l : Launch} {e : Env} {R : Room} {s : State} {m : MethodId} {args : Array Value} {below : List Frame} {meth : Method} {c : Code} {cc : ByteArray} {nL : Nat} {own : String} {G : gG} {A : Nat → Prop} {h h0 : Nat → Nat} {Q : State → Prop} {k n : Nat} {w w' : WF} {pc : Nat} {L L' : List (Nat × Value)} {st st' rest : List Value}
theorem Y_widen {k' n' : Nat} (h1 : k ≤ k') (h2 : n ≤ n') (kk : Y p l e R s m args below meth c nL G A h Q k' n' w pc L st) : Y p l e R s m args below meth c nL G A h Q k n w pc L st := fun H locs ls ws hP hD hM hS hl => W.widen h1 h2 (kk H locs ls ws hP hD hM hS hl)
theorem Y_sub (hL : ∀ q ∈ L', q ∈ L) (kk : Y p l e R s m args below meth c nL G A h Q k n w pc L' st) : Y p l e R s m args below meth c nL G A h Q k n w pc L st := fun H locs ls ws hP hD hM hS hl => kk H locs ls ws hP hD hM hS ⟨hl.1, hl.2.1, fun q hq => by
  obtain ⟨r, hr, rfl⟩ := List.mem_map.mp hq
  exact hl.2.2 _ (List.mem_map.mpr ⟨r, hL r hr, rfl⟩)⟩
theorem Y_iconst (C : Cx p s m args c cc nL own G A) {z : Int} {v : Int32} (d : decode cc pc = .ok (.iconst z, 1)) (hv : Int32.ofInt z = v) (kk : Y p l e R s m args below meth c nL G A h Q k n w (pc + 1) L (.int v :: st)) : Y p l e R s m args below meth c nL G A h Q k n w pc L st := fun H locs ls ws hP hD hM hS hl => lv_iconst C.1 C.2.1 d hv (kk H locs ls ws hP hD hM hS hl)
theorem Y_bipush (C : Cx p s m args c cc nL own G A) {z : Int} {v : Int32} (d : decode cc pc = .ok (.bipush z, 2)) (hv : (Int8.ofInt z).toInt32 = v) (kk : Y p l e R s m args below meth c nL G A h Q k n w (pc + 2) L (.int v :: st)) : Y p l e R s m args below meth c nL G A h Q k n w pc L st := fun H locs ls ws hP hD hM hS hl => lv_bipush C.1 C.2.1 d hv (kk H locs ls ws hP hD hM hS hl)
theorem Y_sipush (C : Cx p s m args c cc nL own G A) {z : Int} {v : Int32} (d : decode cc pc = .ok (.sipush z, 3)) (hv : (Int16.ofInt z).toInt32 = v) (kk : Y p l e R s m args below meth c nL G A h Q k n w (pc + 3) L (.int v :: st)) : Y p l e R s m args below meth c nL G A h Q k n w pc L st := fun H locs ls ws hP hD hM hS hl => lv_sipush C.1 C.2.1 d hv (kk H locs ls ws hP hD hM hS hl)
theorem Y_iload_n (C : Cx p s m args c cc nL own G A) {kf : Fin 4} {i : Nat} {x : Int32} (d : decode cc pc = .ok (.iload_n kf, 1)) (hi : (kf : Nat) = i) (hk : lk L i = some (.int x)) (kk : Y p l e R s m args below meth c nL G A h Q k n w (pc + 1) L (.int x :: st)) : Y p l e R s m args below meth c nL G A h Q k n w pc L st := fun H locs ls ws hP hD hM hS hl => lv_iload_n C.1 C.2.1 d hi (lk_at hl hk) (kk H locs ls ws hP hD hM hS hl)
theorem Y_iload (C : Cx p s m args c cc nL own G A) {i : Nat} {x : Int32} (d : decode cc pc = .ok (.iload i, 2)) (hk : lk L i = some (.int x)) (kk : Y p l e R s m args below meth c nL G A h Q k n w (pc + 2) L (.int x :: st)) : Y p l e R s m args below meth c nL G A h Q k n w pc L st := fun H locs ls ws hP hD hM hS hl => lv_iload C.1 C.2.1 d (lk_at hl hk) (kk H locs ls ws hP hD hM hS hl)
theorem Y_aload_n (C : Cx p s m args c cc nL own G A) {kf : Fin 4} {i : Nat} {x : Nat} (d : decode cc pc = .ok (.aload_n kf, 1)) (hi : (kf : Nat) = i) (hk : lk L i = some (.ref x)) (kk : Y p l e R s m args below meth c nL G A h Q k n w (pc + 1) L (.ref x :: st)) : Y p l e R s m args below meth c nL G A h Q k n w pc L st := fun H locs ls ws hP hD hM hS hl => lv_aload_n C.1 C.2.1 d hi (lk_at hl hk) (kk H locs ls ws hP hD hM hS hl)
theorem Y_aload (C : Cx p s m args c cc nL own G A) {i : Nat} {x : Nat} (d : decode cc pc = .ok (.aload i, 2)) (hk : lk L i = some (.ref x)) (kk : Y p l e R s m args below meth c nL G A h Q k n w (pc + 2) L (.ref x :: st)) : Y p l e R s m args below meth c nL G A h Q k n w pc L st := fun H locs ls ws hP hD hM hS hl => lv_aload C.1 C.2.1 d (lk_at hl hk) (kk H locs ls ws hP hD hM hS hl)
theorem Y_istore_n (C : Cx p s m args c cc nL own G A) {kf : Fin 4} {i : Nat} {x : Int32} (d : decode cc pc = .ok (.istore_n kf, 1)) (hi : (kf : Nat) = i) (hn : i < nL) (hL : stL i (.int x) L = L') (kk : Y p l e R s m args below meth c nL G A h Q k n w (pc + 1) L' st) : Y p l e R s m args below meth c nL G A h Q k n w pc L (.int x :: st) := fun H locs ls ws hP hD hM hS hl => lv_istore_n (lv' := kL h L') C.1 C.2.1 d hi hl hn (by subst hL; exact stL_k h i (.int x) L) (fun ls hl => kk H locs ls ws hP hD hM hS hl)
theorem Y_istore (C : Cx p s m args c cc nL own G A) {i : Nat} {x : Int32} (d : decode cc pc = .ok (.istore i, 2)) (hn : i < nL) (hL : stL i (.int x) L = L') (kk : Y p l e R s m args below meth c nL G A h Q k n w (pc + 2) L' st) : Y p l e R s m args below meth c nL G A h Q k n w pc L (.int x :: st) := fun H locs ls ws hP hD hM hS hl => lv_istore (lv' := kL h L') C.1 C.2.1 d hl hn (by subst hL; exact stL_k h i (.int x) L) (fun ls hl => kk H locs ls ws hP hD hM hS hl)
theorem Y_astore_n (C : Cx p s m args c cc nL own G A) {kf : Fin 4} {i : Nat} {x : Nat} (d : decode cc pc = .ok (.astore_n kf, 1)) (hi : (kf : Nat) = i) (hn : i < nL) (hL : stL i (.ref x) L = L') (kk : Y p l e R s m args below meth c nL G A h Q k n w (pc + 1) L' st) : Y p l e R s m args below meth c nL G A h Q k n w pc L (.ref x :: st) := fun H locs ls ws hP hD hM hS hl => lv_astore_n (lv' := kL h L') C.1 C.2.1 d hi hl hn (by subst hL; exact stL_k h i (.ref x) L) (fun ls hl => kk H locs ls ws hP hD hM hS hl)
theorem Y_astore (C : Cx p s m args c cc nL own G A) {i : Nat} {x : Nat} (d : decode cc pc = .ok (.astore i, 2)) (hn : i < nL) (hL : stL i (.ref x) L = L') (kk : Y p l e R s m args below meth c nL G A h Q k n w (pc + 2) L' st) : Y p l e R s m args below meth c nL G A h Q k n w pc L (.ref x :: st) := fun H locs ls ws hP hD hM hS hl => lv_astore (lv' := kL h L') C.1 C.2.1 d hl hn (by subst hL; exact stL_k h i (.ref x) L) (fun ls hl => kk H locs ls ws hP hD hM hS hl)
theorem Y_iinc (C : Cx p s m args c cc nL own G A) {i : Nat} {z : Int} {x v : Int32} (d : decode cc pc = .ok (.iinc i z, 3)) (hk : lk L i = some (.int x)) (hv : x + Int32.ofInt z = v) (hn : i < nL) (hL : stL i (.int v) L = L') (kk : Y p l e R s m args below meth c nL G A h Q k n w (pc + 3) L' st) : Y p l e R s m args below meth c nL G A h Q k n w pc L st := fun H locs ls ws hP hD hM hS hl => by
  obtain ⟨j, hj⟩ := lk_pos hk
  exact lv_iinc (lv' := kL h L') C.1 C.2.1 d hl (k := j) (x := x) (by rw [List.getElem?_map, hj]; rfl) hv hn (by subst hL; exact stL_k h i (.int v) L) (fun ls hl => kk H locs ls ws hP hD hM hS hl)
theorem Y_iadd (C : Cx p s m args c cc nL own G A) {x y v : Int32} (d : decode cc pc = .ok (.iadd, 1)) (hv : x + y = v) (kk : Y p l e R s m args below meth c nL G A h Q k n w (pc + 1) L (.int v :: st)) : Y p l e R s m args below meth c nL G A h Q k n w pc L (.int y :: .int x :: st) := fun H locs ls ws hP hD hM hS hl => lv_iadd C.1 C.2.1 d (by subst hv; exact kk H locs ls ws hP hD hM hS hl)
theorem Y_isub (C : Cx p s m args c cc nL own G A) {x y v : Int32} (d : decode cc pc = .ok (.isub, 1)) (hv : x - y = v) (kk : Y p l e R s m args below meth c nL G A h Q k n w (pc + 1) L (.int v :: st)) : Y p l e R s m args below meth c nL G A h Q k n w pc L (.int y :: .int x :: st) := fun H locs ls ws hP hD hM hS hl => lv_isub C.1 C.2.1 d (by subst hv; exact kk H locs ls ws hP hD hM hS hl)
theorem Y_imul (C : Cx p s m args c cc nL own G A) {x y v : Int32} (d : decode cc pc = .ok (.imul, 1)) (hv : x * y = v) (kk : Y p l e R s m args below meth c nL G A h Q k n w (pc + 1) L (.int v :: st)) : Y p l e R s m args below meth c nL G A h Q k n w pc L (.int y :: .int x :: st) := fun H locs ls ws hP hD hM hS hl => lv_imul C.1 C.2.1 d (by subst hv; exact kk H locs ls ws hP hD hM hS hl)
theorem Y_idiv (C : Cx p s m args c cc nL own G A) {x y v : Int32} (d : decode cc pc = .ok (.idiv, 1)) (hne : ¬ y = 0) (hv : x / y = v) (kk : Y p l e R s m args below meth c nL G A h Q k n w (pc + 1) L (.int v :: st)) : Y p l e R s m args below meth c nL G A h Q k n w pc L (.int y :: .int x :: st) := fun H locs ls ws hP hD hM hS hl => lv_idiv C.1 C.2.1 d hne (by subst hv; exact kk H locs ls ws hP hD hM hS hl)
theorem Y_iand (C : Cx p s m args c cc nL own G A) {x y v : Int32} (d : decode cc pc = .ok (.iand, 1)) (hv : x &&& y = v) (kk : Y p l e R s m args below meth c nL G A h Q k n w (pc + 1) L (.int v :: st)) : Y p l e R s m args below meth c nL G A h Q k n w pc L (.int y :: .int x :: st) := fun H locs ls ws hP hD hM hS hl => lv_iand C.1 C.2.1 d (by subst hv; exact kk H locs ls ws hP hD hM hS hl)
theorem Y_ior (C : Cx p s m args c cc nL own G A) {x y v : Int32} (d : decode cc pc = .ok (.ior, 1)) (hv : x ||| y = v) (kk : Y p l e R s m args below meth c nL G A h Q k n w (pc + 1) L (.int v :: st)) : Y p l e R s m args below meth c nL G A h Q k n w pc L (.int y :: .int x :: st) := fun H locs ls ws hP hD hM hS hl => lv_ior C.1 C.2.1 d (by subst hv; exact kk H locs ls ws hP hD hM hS hl)
theorem Y_dup (C : Cx p s m args c cc nL own G A) {v : Value} (d : decode cc pc = .ok (.dup, 1)) (hc : v.category = 1) (kk : Y p l e R s m args below meth c nL G A h Q k n w (pc + 1) L (v :: v :: st)) : Y p l e R s m args below meth c nL G A h Q k n w pc L (v :: st) := fun H locs ls ws hP hD hM hS hl => lv_dup C.1 C.2.1 d (by rw [kV_cat]; exact hc) (kk H locs ls ws hP hD hM hS hl)
theorem Y_dup2_11 (C : Cx p s m args c cc nL own G A) {v v2 : Value} (d : decode cc pc = .ok (.dup2, 1)) (hc : v.category = 1) (hc2 : v2.category = 1) (kk : Y p l e R s m args below meth c nL G A h Q k n w (pc + 1) L (v :: v2 :: v :: v2 :: st)) : Y p l e R s m args below meth c nL G A h Q k n w pc L (v :: v2 :: st) := fun H locs ls ws hP hD hM hS hl => lv_dup2_11 C.1 C.2.1 d (by rw [kV_cat]; exact hc) (by rw [kV_cat]; exact hc2) (kk H locs ls ws hP hD hM hS hl)
theorem Y_goto (C : Cx p s m args c cc nL own G A) {off : Int} (tgt : Nat) (d : decode cc pc = .ok (.goto off, 3)) (ht : (pc : Int) + off = (tgt : Int)) (kk : Y p l e R s m args below meth c nL G A h Q k n w tgt L st) : Y p l e R s m args below meth c nL G A h Q k n w pc L st := fun H locs ls ws hP hD hM hS hl => lv_goto C.1 C.2.1 d ht (kk H locs ls ws hP hD hM hS hl)
theorem Y_if_eq (C : Cx p s m args c cc nL own G A) {x : Int32} {off : Int} (tgt : Nat) (d : decode cc pc = .ok (.ifCond .eq off, 3)) (ht : (pc : Int) + off = (tgt : Int)) (kt : x = 0 → Y p l e R s m args below meth c nL G A h Q k n w tgt L st) (kf : ¬ x = 0 → Y p l e R s m args below meth c nL G A h Q k n w (pc + 3) L st) : Y p l e R s m args below meth c nL G A h Q k n w pc L (.int x :: st) := fun H locs ls ws hP hD hM hS hl => lv_if_eq C.1 C.2.1 d ht (fun q => kt q H locs ls ws hP hD hM hS hl) (fun q => kf q H locs ls ws hP hD hM hS hl)
theorem Y_icmp_eq (C : Cx p s m args c cc nL own G A) {x y : Int32} {off : Int} (tgt : Nat) (d : decode cc pc = .ok (.if_icmp .eq off, 3)) (ht : (pc : Int) + off = (tgt : Int)) (kt : x = y → Y p l e R s m args below meth c nL G A h Q k n w tgt L st) (kf : ¬ x = y → Y p l e R s m args below meth c nL G A h Q k n w (pc + 3) L st) : Y p l e R s m args below meth c nL G A h Q k n w pc L (.int y :: .int x :: st) := fun H locs ls ws hP hD hM hS hl => lv_icmp_eq C.1 C.2.1 d ht (fun q => kt q H locs ls ws hP hD hM hS hl) (fun q => kf q H locs ls ws hP hD hM hS hl)
theorem Y_if_ne (C : Cx p s m args c cc nL own G A) {x : Int32} {off : Int} (tgt : Nat) (d : decode cc pc = .ok (.ifCond .ne off, 3)) (ht : (pc : Int) + off = (tgt : Int)) (kt : ¬ x = 0 → Y p l e R s m args below meth c nL G A h Q k n w tgt L st) (kf : x = 0 → Y p l e R s m args below meth c nL G A h Q k n w (pc + 3) L st) : Y p l e R s m args below meth c nL G A h Q k n w pc L (.int x :: st) := fun H locs ls ws hP hD hM hS hl => lv_if_ne C.1 C.2.1 d ht (fun q => kt q H locs ls ws hP hD hM hS hl) (fun q => kf q H locs ls ws hP hD hM hS hl)
theorem Y_icmp_ne (C : Cx p s m args c cc nL own G A) {x y : Int32} {off : Int} (tgt : Nat) (d : decode cc pc = .ok (.if_icmp .ne off, 3)) (ht : (pc : Int) + off = (tgt : Int)) (kt : ¬ x = y → Y p l e R s m args below meth c nL G A h Q k n w tgt L st) (kf : x = y → Y p l e R s m args below meth c nL G A h Q k n w (pc + 3) L st) : Y p l e R s m args below meth c nL G A h Q k n w pc L (.int y :: .int x :: st) := fun H locs ls ws hP hD hM hS hl => lv_icmp_ne C.1 C.2.1 d ht (fun q => kt q H locs ls ws hP hD hM hS hl) (fun q => kf q H locs ls ws hP hD hM hS hl)
theorem Y_if_lt (C : Cx p s m args c cc nL own G A) {x : Int32} {off : Int} (tgt : Nat) (d : decode cc pc = .ok (.ifCond .lt off, 3)) (ht : (pc : Int) + off = (tgt : Int)) (kt : x < 0 → Y p l e R s m args below meth c nL G A h Q k n w tgt L st) (kf : ¬ x < 0 → Y p l e R s m args below meth c nL G A h Q k n w (pc + 3) L st) : Y p l e R s m args below meth c nL G A h Q k n w pc L (.int x :: st) := fun H locs ls ws hP hD hM hS hl => lv_if_lt C.1 C.2.1 d ht (fun q => kt q H locs ls ws hP hD hM hS hl) (fun q => kf q H locs ls ws hP hD hM hS hl)
theorem Y_icmp_lt (C : Cx p s m args c cc nL own G A) {x y : Int32} {off : Int} (tgt : Nat) (d : decode cc pc = .ok (.if_icmp .lt off, 3)) (ht : (pc : Int) + off = (tgt : Int)) (kt : x < y → Y p l e R s m args below meth c nL G A h Q k n w tgt L st) (kf : ¬ x < y → Y p l e R s m args below meth c nL G A h Q k n w (pc + 3) L st) : Y p l e R s m args below meth c nL G A h Q k n w pc L (.int y :: .int x :: st) := fun H locs ls ws hP hD hM hS hl => lv_icmp_lt C.1 C.2.1 d ht (fun q => kt q H locs ls ws hP hD hM hS hl) (fun q => kf q H locs ls ws hP hD hM hS hl)
theorem Y_if_ge (C : Cx p s m args c cc nL own G A) {x : Int32} {off : Int} (tgt : Nat) (d : decode cc pc = .ok (.ifCond .ge off, 3)) (ht : (pc : Int) + off = (tgt : Int)) (kt : 0 ≤ x → Y p l e R s m args below meth c nL G A h Q k n w tgt L st) (kf : ¬ 0 ≤ x → Y p l e R s m args below meth c nL G A h Q k n w (pc + 3) L st) : Y p l e R s m args below meth c nL G A h Q k n w pc L (.int x :: st) := fun H locs ls ws hP hD hM hS hl => lv_if_ge C.1 C.2.1 d ht (fun q => kt q H locs ls ws hP hD hM hS hl) (fun q => kf q H locs ls ws hP hD hM hS hl)
theorem Y_icmp_ge (C : Cx p s m args c cc nL own G A) {x y : Int32} {off : Int} (tgt : Nat) (d : decode cc pc = .ok (.if_icmp .ge off, 3)) (ht : (pc : Int) + off = (tgt : Int)) (kt : y ≤ x → Y p l e R s m args below meth c nL G A h Q k n w tgt L st) (kf : ¬ y ≤ x → Y p l e R s m args below meth c nL G A h Q k n w (pc + 3) L st) : Y p l e R s m args below meth c nL G A h Q k n w pc L (.int y :: .int x :: st) := fun H locs ls ws hP hD hM hS hl => lv_icmp_ge C.1 C.2.1 d ht (fun q => kt q H locs ls ws hP hD hM hS hl) (fun q => kf q H locs ls ws hP hD hM hS hl)
theorem Y_if_gt (C : Cx p s m args c cc nL own G A) {x : Int32} {off : Int} (tgt : Nat) (d : decode cc pc = .ok (.ifCond .gt off, 3)) (ht : (pc : Int) + off = (tgt : Int)) (kt : 0 < x → Y p l e R s m args below meth c nL G A h Q k n w tgt L st) (kf : ¬ 0 < x → Y p l e R s m args below meth c nL G A h Q k n w (pc + 3) L st) : Y p l e R s m args below meth c nL G A h Q k n w pc L (.int x :: st) := fun H locs ls ws hP hD hM hS hl => lv_if_gt C.1 C.2.1 d ht (fun q => kt q H locs ls ws hP hD hM hS hl) (fun q => kf q H locs ls ws hP hD hM hS hl)
theorem Y_icmp_gt (C : Cx p s m args c cc nL own G A) {x y : Int32} {off : Int} (tgt : Nat) (d : decode cc pc = .ok (.if_icmp .gt off, 3)) (ht : (pc : Int) + off = (tgt : Int)) (kt : y < x → Y p l e R s m args below meth c nL G A h Q k n w tgt L st) (kf : ¬ y < x → Y p l e R s m args below meth c nL G A h Q k n w (pc + 3) L st) : Y p l e R s m args below meth c nL G A h Q k n w pc L (.int y :: .int x :: st) := fun H locs ls ws hP hD hM hS hl => lv_icmp_gt C.1 C.2.1 d ht (fun q => kt q H locs ls ws hP hD hM hS hl) (fun q => kf q H locs ls ws hP hD hM hS hl)
theorem Y_if_le (C : Cx p s m args c cc nL own G A) {x : Int32} {off : Int} (tgt : Nat) (d : decode cc pc = .ok (.ifCond .le off, 3)) (ht : (pc : Int) + off = (tgt : Int)) (kt : x ≤ 0 → Y p l e R s m args below meth c nL G A h Q k n w tgt L st) (kf : ¬ x ≤ 0 → Y p l e R s m args below meth c nL G A h Q k n w (pc + 3) L st) : Y p l e R s m args below meth c nL G A h Q k n w pc L (.int x :: st) := fun H locs ls ws hP hD hM hS hl => lv_if_le C.1 C.2.1 d ht (fun q => kt q H locs ls ws hP hD hM hS hl) (fun q => kf q H locs ls ws hP hD hM hS hl)
theorem Y_icmp_le (C : Cx p s m args c cc nL own G A) {x y : Int32} {off : Int} (tgt : Nat) (d : decode cc pc = .ok (.if_icmp .le off, 3)) (ht : (pc : Int) + off = (tgt : Int)) (kt : x ≤ y → Y p l e R s m args below meth c nL G A h Q k n w tgt L st) (kf : ¬ x ≤ y → Y p l e R s m args below meth c nL G A h Q k n w (pc + 3) L st) : Y p l e R s m args below meth c nL G A h Q k n w pc L (.int y :: .int x :: st) := fun H locs ls ws hP hD hM hS hl => lv_icmp_le C.1 C.2.1 d ht (fun q => kt q H locs ls ws hP hD hM hS hl) (fun q => kf q H locs ls ws hP hD hM hS hl)
theorem Y_tIn (C : Cx p s m args c cc nL own G A) {dflt lo hi off : Int} {offs : Array Int} {len : Nat} {x : Int32} (z : Int) (tgt : Nat) (d : decode cc pc = .ok (.tableswitch dflt lo hi offs, len)) (hx : x.toInt = z) (h1 : ¬ z < lo) (h2 : ¬ hi < z) (ho : offs[(z - lo).toNat]? = some off) (ht : (pc : Int) + off = (tgt : Int)) (kk : Y p l e R s m args below meth c nL G A h Q k n w tgt L st) : Y p l e R s m args below meth c nL G A h Q k n w pc L (.int x :: st) := fun H locs ls ws hP hD hM hS hl => lv_tableIn C.1 C.2.1 d (by rw [hx]; exact h1) (by rw [hx]; exact h2) (by rw [hx]; exact ho) ht (kk H locs ls ws hP hD hM hS hl)
theorem Y_tOut (C : Cx p s m args c cc nL own G A) {dflt lo hi : Int} {offs : Array Int} {len : Nat} {x : Int32} (tgt : Nat) (d : decode cc pc = .ok (.tableswitch dflt lo hi offs, len)) (h1 : x.toInt < lo ∨ hi < x.toInt) (ht : (pc : Int) + dflt = (tgt : Int)) (kk : Y p l e R s m args below meth c nL G A h Q k n w tgt L st) : Y p l e R s m args below meth c nL G A h Q k n w pc L (.int x :: st) := fun H locs ls ws hP hD hM hS hl => lv_tableOut C.1 C.2.1 d h1 ht (kk H locs ls ws hP hD hM hS hl)
theorem Y_less (hl : ∀ i e, w' i = some e → w i = some e) (kk : Y p l e R s m args below meth c nL G A h Q k n w' pc L st) : Y p l e R s m args below meth c nL G A h Q k n w pc L st := fun H locs ls ws hP hD hM hS hl2 => kk H locs ls ws hP hD (hM.less hl) hS hl2
theorem Y_eq (hw : w = w') (kk : Y p l e R s m args below meth c nL G A h Q k n w' pc L st) : Y p l e R s m args below meth c nL G A h Q k n w pc L st := by rw [hw]; exact kk
theorem Y_pc (hL : L' = L) (kk : Y p l e R s m args below meth c nL G A h Q k n w pc L st) : Y p l e R s m args below meth c nL G A h Q k n w pc L' st := hL ▸ kk
theorem Y_nop {P : Prop} (hp : P) (kk : P → Y p l e R s m args below meth c nL G A h Q k n w pc L st) : Y p l e R s m args below meth c nL G A h Q k n w pc L st := kk hp
theorem Y_irem (C : Cx p s m args c cc nL own G A) {x y v : Int32} (d : decode cc pc = .ok (.irem, 1)) (hne : ¬ y = 0) (hv : x - x / y * y = v) (kk : Y p l e R s m args below meth c nL G A h Q k n w (pc + 1) L (.int v :: st)) : Y p l e R s m args below meth c nL G A h Q k n w pc L (.int y :: .int x :: st) := fun H locs ls ws hP hD hM hS hl => lv_irem C.1 C.2.1 d hne (by subst hv; exact kk H locs ls ws hP hD hM hS hl)
theorem Y_ishr (C : Cx p s m args c cc nL own G A) {x y v : Int32} (d : decode cc pc = .ok (.ishr, 1)) (hv : x >>> (y &&& 31) = v) (kk : Y p l e R s m args below meth c nL G A h Q k n w (pc + 1) L (.int v :: st)) : Y p l e R s m args below meth c nL G A h Q k n w pc L (.int y :: .int x :: st) := fun H locs ls ws hP hD hM hS hl => lv_ishr C.1 C.2.1 d (by subst hv; exact kk H locs ls ws hP hD hM hS hl)
theorem Y_ldc (C : Cx p s m args c cc nL own G A) {index : Nat} {v : Int32} (d : decode cc pc = .ok (.ldc index, 2)) (hc : Jvm.Cond.constant own index v ∈ gA) (kk : Y p l e R s m args below meth c nL G A h Q k n w (pc + 2) L (.int v :: st)) : Y p l e R s m args below meth c nL G A h Q k n w pc L st := fun H locs ls ws hP hD hM hS hl => lv_ldc C.1 C.2.1 C.2.2.2.1 (C.2.2.2.2.1 _ hc) d (kk H locs ls ws hP hD hM hS hl)
theorem Y_nonnull (C : Cx p s m args c cc nL own G A) {x : Nat} {off : Int} (tgt : Nat) (d : decode cc pc = .ok (.ifnonnull off, 3)) (ht : (pc : Int) + off = (tgt : Int)) (kk : Y p l e R s m args below meth c nL G A h Q k n w tgt L st) : Y p l e R s m args below meth c nL G A h Q k n w pc L (.ref x :: st) := fun H locs ls ws hP hD hM hS hl => lv_ifnonnull C.1 C.2.1 d ht (kk H locs ls ws hP hD hM hS hl)
theorem Y_i2d (C : Cx p s m args c cc nL own G A) {x : Int32} {v : UInt64} (d : decode cc pc = .ok (.i2d, 1)) (hv : FP.i2d x = v) (kk : Y p l e R s m args below meth c nL G A h Q k n w (pc + 1) L (.double v :: st)) : Y p l e R s m args below meth c nL G A h Q k n w pc L (.int x :: st) := fun H locs ls ws hP hD hM hS hl => lv_i2d C.1 C.2.1 d (by subst hv; exact kk H locs ls ws hP hD hM hS hl)
theorem Y_ddiv (C : Cx p s m args c cc nL own G A) {x y v : UInt64} (d : decode cc pc = .ok (.ddiv, 1)) (hne : vf_n64 (FP.ddiv x y)) (hv : FP.ddiv x y = v) (kk : Y p l e R s m args below meth c nL G A h Q k n w (pc + 1) L (.double v :: st)) : Y p l e R s m args below meth c nL G A h Q k n w pc L (.double y :: .double x :: st) := fun H locs ls ws hP hD hM hS hl => lv_ddiv C.1 C.2.1 d hne (by subst hv; exact kk H locs ls ws hP hD hM hS hl)
theorem Y_dconst0 (C : Cx p s m args c cc nL own G A) (d : decode cc pc = .ok (.dconst 0, 1)) (kk : Y p l e R s m args below meth c nL G A h Q k n w (pc + 1) L (.double FP.dconst0 :: st)) : Y p l e R s m args below meth c nL G A h Q k n w pc L st := fun H locs ls ws hP hD hM hS hl => lv_dconst0 C.1 C.2.1 d (kk H locs ls ws hP hD hM hS hl)
theorem Y_dcmp (C : Cx p s m args c cc nL own G A) {x y : UInt64} {op : CmpOp} {v : Int32} (d : decode cc pc = .ok (.dcmp op, 1)) (hv : Op.cmpValue (FP.dcmp x y) op = v) (kk : Y p l e R s m args below meth c nL G A h Q k n w (pc + 1) L (.int v :: st)) : Y p l e R s m args below meth c nL G A h Q k n w pc L (.double y :: .double x :: st) := fun H locs ls ws hP hD hM hS hl => lv_dcmp C.1 C.2.1 d (by rw [hv]; exact kk H locs ls ws hP hD hM hS hl)
end YR
