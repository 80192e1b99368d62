/-! worlds by place: the rows that read and write cells -/
theorem va_oA {s : State} {cA : ClassId} (h : ArrOfT s cA (.object RX4) ∧ va_RA s cA (.object RX4)) : s.vm.findClass ("[" ++ (FieldType.object RX4).toString) = some cA := by
  obtain ⟨-, kA, comp, -, -, -, h⟩ := h
  exact h
section YS
variable {p : Program} {l : Launch} {e : Env} {R : Room} {s : State} {m : MethodId} {args : Array Value} {below : List Frame} {meth : Method} {c : Code} {cc : ByteArray} {nL : Nat} {own : String} {G : gG} {A : Nat → Prop} {h h0 : Nat → Nat} {Q : State → Prop} {k n : Nat} {w w' : WF} {pc : Nat} {L L' : List (Nat × Value)} {st st' rest : List Value}
theorem Y_get (C : Cx p s m args c cc nL own G A) {Cn ref : String} {T : u_T} {N ci : Nat} {ty : Nat → FieldType} (K : cK Cn T N ci ty) {index q : Nat} (j : Nat) {fs : List Value} {v : Value} (d : decode cc pc = .ok (.getfield index, 3)) (he : w q = some (.inr (ci, fs))) (hj : j < N) (hlink : Cond.fieldLink own index ref (T j).2.1 (T j).2.2.1 ∈ gA) (hr : (T j).1 = ref) (hv : fs[j]? = some v) (kk : Y p l e R s m args below meth c nL G A h Q k n w (pc + 3) L (v :: st)) : Y p l e R s m args below meth c nL G A h Q k n w pc L (.ref q :: st) := fun H locs ls ws hP hD hM hS hl => by
  obtain ⟨i, hi⟩ := hM.1 q _ he
  exact va_get (D := G.1) (ci := ci) (v := kV h v) (C := Cn) (T := T) (N := N) C.1 C.2.1 C.2.2.2.2.1 K.1 C.2.2.2.1 C.2.2.2.2.2.1 hP i hi K.2.1 j hj (C.2.2.2.2.1 _ hlink) (fun _ h9 => by rw [← hr]; exact h9) (by rw [List.getElem?_map, hv]; rfl) d (kk H locs ls ws hP hD hM hS hl)
theorem Y_put (C : Cx p s m args c cc nL own G A) {Cn ref : String} {T : u_T} {N ci : Nat} {ty : Nat → FieldType} (K : cK Cn T N ci ty) {index q : Nat} (j : Nat) {fs : List Value} {v : Value} {ty1 : FieldType} (d : decode cc pc = .ok (.putfield index, 3)) (he : w q = some (.inr (ci, fs))) (hj : j < N) (hlink : Cond.fieldLink own index ref (T j).2.1 (T j).2.2.1 ∈ gA) (hr : (T j).1 = ref) (hfin : (T j).2.2.2 = false) (hd : parseFieldDescriptor (T j).2.2.1 = some ty1) (hn : narrow ty1 (kV h v) = kV h v) (hfit : fits ty1 (kV h v) = true) (hl1 : j < fs.length) (hw : wU w q (.inr (ci, fs.set j v)) = w') (kk : Y p l e R s m args below meth c nL G A h Q k n w' (pc + 3) L st) : Y p l e R s m args below meth c nL G A h Q k n w pc L (v :: .ref q :: st) := fun H locs ls ws hP hD hM hS hl => by
  obtain ⟨i, hi⟩ := hM.1 q _ he
  subst hw
  refine va_put (D := G.1) (ci := ci) (v := kV h v) (C := Cn) (T := T) (N := N) C.1 C.2.1 C.2.2.2.2.1 K.1 ty K.2.2.1 K.2.2.2 C.2.2.2.1 C.2.2.2.2.2.1 hP hD hS i hi K.2.1 j hj (C.2.2.2.2.1 _ hlink) (fun _ h9 => by rw [← hr]; exact h9) hfin hd hn hfit (by rw [List.length_map]; exact hl1) d (fun H1 locs1 hP1 hD1 hS1 => ?_)
  have e1 : ws.set i (h q, .inr (ci, (fs.map (kV h)).set j (kV h v))) = ws.set i (h q, kE G h (.inr (ci, fs.set j v))) := by
    show _ = ws.set i (h q, Sum.inr (ci, (fs.set j v).map (kV h)))
    rw [List.map_set]
  rw [e1] at hP1 hD1
  exact kk H1 locs1 ls _ hP1 hD1 (hM.set he hi) hS1 hl
theorem Y_iald (C : Cx p s m args c cc nL own G A) {q N : Nat} {f : Nat → Int32} {i v : Int32} (d : decode cc pc = .ok (.iaload, 1)) (he : w q = some (.inl (0, N, .inl f))) (hin : vp_in i N) (hv : f i.toNatClampNeg = v) (kk : Y p l e R s m args below meth c nL G A h Q k n w (pc + 1) L (.int v :: st)) : Y p l e R s m args below meth c nL G A h Q k n w pc L (.int i :: .ref q :: st) := fun H locs ls ws hP hD hM hS hl => by
  obtain ⟨j, hj⟩ := hM.1 q _ he
  exact va_iald (D := G.1) C.1 C.2.1 C.2.2.2.2.2.1 hP j 0 hj rfl hin d (by rw [hv]; exact kk H locs ls ws hP hD hM hS hl)
theorem Y_zald (C : Cx p s m args c cc nL own G A) {q N : Nat} {f : Nat → Int32} {i v : Int32} (d : decode cc pc = .ok (.baload, 1)) (he : w q = some (.inl (1, N, .inl f))) (hin : vp_in i N) (hv : f i.toNatClampNeg = v) (kk : Y p l e R s m args below meth c nL G A h Q k n w (pc + 1) L (.int v :: st)) : Y p l e R s m args below meth c nL G A h Q k n w pc L (.int i :: .ref q :: st) := fun H locs ls ws hP hD hM hS hl => by
  obtain ⟨j, hj⟩ := hM.1 q _ he
  exact va_zald (D := G.1) C.1 C.2.1 C.2.2.2.2.2.1 hP j 1 hj rfl hin d (by rw [hv]; exact kk H locs ls ws hP hD hM hS hl)
theorem Y_iast (C : Cx p s m args c cc nL own G A) {q N : Nat} {f f' : Nat → Int32} {i x : Int32} (d : decode cc pc = .ok (.iastore, 1)) (he : w q = some (.inl (0, N, .inl f))) (hin : vp_in i N) (hf : upd f i.toNatClampNeg x = f') (hw : wU w q (.inl (0, N, .inl f')) = w') (kk : Y p l e R s m args below meth c nL G A h Q k n w' (pc + 1) L st) : Y p l e R s m args below meth c nL G A h Q k n w pc L (.int x :: .int i :: .ref q :: st) := fun H locs ls ws hP hD hM hS hl => by
  obtain ⟨j, hj⟩ := hM.1 q _ he
  subst hw; subst hf
  refine va_iast (D := G.1) C.1 C.2.1 C.2.2.2.2.2.1 hP hD hS j 0 hj rfl hin d (fun H1 locs1 hP1 hD1 hS1 => ?_)
  exact kk H1 locs1 ls _ hP1 hD1 (hM.set (e := .inl (0, N, .inl (upd f i.toNatClampNeg x))) he hj) hS1 hl
theorem Y_zast (C : Cx p s m args c cc nL own G A) {q N : Nat} {f f' : Nat → Int32} {i x : Int32} (d : decode cc pc = .ok (.bastore, 1)) (he : w q = some (.inl (1, N, .inl f))) (hin : vp_in i N) (hf : upd f i.toNatClampNeg (vp_nar .boolean x) = f') (hw : wU w q (.inl (1, N, .inl f')) = w') (kk : Y p l e R s m args below meth c nL G A h Q k n w' (pc + 1) L st) : Y p l e R s m args below meth c nL G A h Q k n w pc L (.int x :: .int i :: .ref q :: st) := fun H locs ls ws hP hD hM hS hl => by
  obtain ⟨j, hj⟩ := hM.1 q _ he
  subst hw; subst hf
  refine va_zast (D := G.1) C.1 C.2.1 C.2.2.2.2.2.1 hP hD hS j 1 hj rfl hin d (fun H1 locs1 hP1 hD1 hS1 => ?_)
  exact kk H1 locs1 ls _ hP1 hD1 (hM.set (e := .inl (1, N, .inl (upd f i.toNatClampNeg (vp_nar .boolean x)))) he hj) hS1 hl
theorem Y_alen (C : Cx p s m args c cc nL own G A) {q i : Nat} {x : vp_A} {v : Int32} (d : decode cc pc = .ok (.arraylength, 1)) (he : w q = some (.inl (i, x))) {ty1 : FieldType} (hi : (gTy G)[i]? = some (G.2 i, ty1)) (hv : Int32.ofNat x.1 = v) (kk : Y p l e R s m args below meth c nL G A h Q k n w (pc + 1) L (.int v :: st)) : Y p l e R s m args below meth c nL G A h Q k n w pc L (.ref q :: st) := fun H locs ls ws hP hD hM hS hl => by
  obtain ⟨j, hj⟩ := hM.1 q _ he
  exact va_alen (D := G.1) C.1 C.2.1 C.2.2.2.2.2.1 hP j i hj hi (by rw [kA_1]; exact hv) d (kk H locs ls ws hP hD hM hS hl)
/-- an array of the law's stones: read, written -/
theorem Y_aaldq (C : Cx p s m args c cc nL own G A) {q N j : Nat} {f : Nat → Option Nat} {i : Int32} (d : decode cc pc = .ok (.aaload, 1)) (he : w q = some (.inl (2, N, .inr (.inr (.inr (.inr f)))))) (hin : vp_in i N) (hf : f i.toNatClampNeg = some j) (kk : Y p l e R s m args below meth c nL G A h Q k n w (pc + 1) L (.ref j :: st)) : Y p l e R s m args below meth c nL G A h Q k n w pc L (.int i :: .ref q :: st) := fun H locs ls ws hP hD hM hS hl => by
  obtain ⟨a, ha⟩ := hM.1 q _ he
  refine va_aldq (D := G.1) (rest := st.map (kV h)) C.1 C.2.1 C.2.2.2.2.2.1 hP a 2 ha rfl hin d ?_
  have h1 := kk H locs ls ws hP hD hM hS hl
  show W p l e R s m args below meth c H locs k n Q (F0 m (pc + 1) ls (va_rf ((f i.toNatClampNeg).map h) :: st.map (kV h)))
  rw [hf]
  exact h1
theorem Y_aastq (C : Cx p s m args c cc nL own G A) {q N v : Nat} {f f' : Nat → Option Nat} {fs : List Value} {i : Int32} (d : decode cc pc = .ok (.aastore, 1)) (he : w q = some (.inl (2, N, .inr (.inr (.inr (.inr f)))))) (hv : w v = some (.inr (4, fs))) (hin : vp_in i N) (hf : va_up f i.toNatClampNeg (some v) = f') (hw : wU w q (.inl (2, N, .inr (.inr (.inr (.inr f'))))) = w') (kk : Y p l e R s m args below meth c nL G A h Q k n w' (pc + 1) L st) : Y p l e R s m args below meth c nL G A h Q k n w pc L (.ref v :: .int i :: .ref q :: st) := fun H locs ls ws hP hD hM hS hl => by
  obtain ⟨a, ha⟩ := hM.1 q _ he
  obtain ⟨b, hb⟩ := hM.1 v _ hv
  subst hw; subst hf
  refine va_astq (D := G.1) (r := (RX4, TX4, 6)) (rest := st.map (kV h)) C.1 C.2.1 C.2.2.2.2.2.1 hP hD hS a 2 b 4 ha rfl hb rfl hin d (fun H1 locs1 hP1 hD1 hS1 => ?_)
  have e1 : (Sum.inl (G.2 2, (N, Sum.inr (Sum.inr (Sum.inr (Sum.inr (va_up (fun j => (f j).map h) i.toNatClampNeg (some (h v)))))))) : va_E) = kE G h (.inl (2, N, .inr (.inr (.inr (.inr (va_up f i.toNatClampNeg (some v))))))) := by
    show _ = (Sum.inl (G.2 2, (N, Sum.inr (Sum.inr (Sum.inr (Sum.inr (fun j => (va_up f i.toNatClampNeg (some v) j).map h)))))) : va_E)
    have e2 : va_up (fun j => (f j).map h) i.toNatClampNeg (some (h v)) = fun j => (va_up f i.toNatClampNeg (some v) j).map h := by
      funext j
      unfold va_up
      by_cases hj : j = i.toNatClampNeg
      · rw [if_pos hj, if_pos hj]; rfl
      · rw [if_neg hj, if_neg hj]
    rw [e2]
  rw [e1] at hP1 hD1
  exact kk H1 locs1 ls _ hP1 hD1 (hM.set he ha) hS1 hl
/-- an array of arrays of int: read, written -/
theorem Y_aald (C : Cx p s m args c cc nL own G A) {q N j : Nat} {f : Nat → Option Nat} {i : Int32} (d : decode cc pc = .ok (.aaload, 1)) (he : w q = some (.inl (3, N, .inr (.inr (.inr (.inr f)))))) (hin : vp_in i N) (hf : f i.toNatClampNeg = some j) (kk : Y p l e R s m args below meth c nL G A h Q k n w (pc + 1) L (.ref j :: st)) : Y p l e R s m args below meth c nL G A h Q k n w pc L (.int i :: .ref q :: st) := fun H locs ls ws hP hD hM hS hl => by
  obtain ⟨a, ha⟩ := hM.1 q _ he
  have hlt : i.toNatClampNeg < N := Nat.not_le.mp fun q => hin (Or.inr q)
  refine W.aald (v := .ref (h j)) (ty := .array .int) C.1 C.2.1 (hP a _ ha) ((C.2.2.2.2.2.1.2 3 _ rfl).1 N (fun j => va_rf ((f j).map h))) rfl (fun q => by cases q) (by show ¬ (i < 0 ∨ (arrV _ _ _).slots.size ≤ _); rw [arrV_size]; exact hin) (by show (arrV (G.2 3) N (fun j => va_rf ((f j).map h))).slots[_]? = _; rw [arrV_read _ _ hlt]; show some (va_rf ((f i.toNatClampNeg).map h)) = _; rw [hf]; rfl) rfl rfl d (kk H locs ls ws hP hD hM hS hl)
theorem Y_aast (C : Cx p s m args c cc nL own G A) {q N v N2 : Nat} {f f' : Nat → Option Nat} {g : Nat → Int32} {i : Int32} (d : decode cc pc = .ok (.aastore, 1)) (he : w q = some (.inl (3, N, .inr (.inr (.inr (.inr f)))))) (hv : w v = some (.inl (0, N2, .inl g))) (hin : vp_in i N) (hf : va_up f i.toNatClampNeg (some v) = f') (hw : wU w q (.inl (3, N, .inr (.inr (.inr (.inr f'))))) = w') (kk : Y p l e R s m args below meth c nL G A h Q k n w' (pc + 1) L st) : Y p l e R s m args below meth c nL G A h Q k n w pc L (.ref v :: .int i :: .ref q :: st) := fun H locs ls ws hP hD hM hS hl => by
  obtain ⟨z0, hz0⟩ := hM.1 q _ he
  obtain ⟨z1, hz1⟩ := hM.1 v _ hv
  have hlt : i.toNatClampNeg < N := Nat.not_le.mp fun q => hin (Or.inr q)
  have h0 : ¬ i < 0 := fun q => hin (Or.inl q)
  have hK := C.2.2.2.2.2.1
  obtain ⟨comp, cq, kq, a1, -, a3, a4, a5⟩ := arrayOverA_spec C.2.2.2.2.2.2.2.2.1
  have ec : cq = G.2 3 := Option.some.inj (a5.symm.trans (hK.2 3 _ rfl).2)
  have ei : "[" ++ FieldType.int.toString = (FieldType.array .int).toString := by decide +kernel
  have en : s.vm.findClass ("[" ++ FieldType.int.toString) = some (G.2 0) := (hK.2 0 _ rfl).2
  rw [ei] at en
  have eo : comp = G.2 0 := Option.some.inj (a1.symm.trans en)
  subst ec; subst eo
  obtain ⟨kC, hkC, -⟩ := Vm.findClass_spec a1
  refine W.aast C.1 C.2.1 (hP z0 _ hz0) (fun q h => by cases h) (fun h => by cases h) a3 a4 rfl hkC ⟨h0, by show _ < (arrV _ _ _).slots.size; rw [arrV_size]; exact hlt⟩ (hP z1 _ hz1) (fun q h => by cases h) hkC (va_asg _ _) rfl rfl d fun H1 e z oq => ?_
  have hat : va_at G.1 cls (h q, kE G h (.inl (3, N, .inr (.inr (.inr (.inr f')))))) H1 := by
    show H1[h q]? = some (vp_cell _ _)
    rw [e]
    show some (Cell.setSlot (vp_cell (G.2 3) (N, .inr (.inr (.inr (.inr (fun j => (f j).map h)))))) _ _) = some (vp_cell (G.2 3) (N, .inr (.inr (.inr (.inr (fun j => (f' j).map h))))))
    rw [vp_cell_q, vp_cell_q, arrV_store]
    congr 2
    funext y
    rw [← hf]
    by_cases hq : y = i.toNatClampNeg
    · subst hq
      simp [updV, va_up, va_rf]
    · simp [updV, va_up, hq]
  subst hw
  exact kk H1 _ ls _ (hP.set hD hz0 hat oq) (hD.set hz0) (hM.set he hz0) (hS.put z oq (hD.2 _ _ hz0)) hl
theorem kst_P {P : Nat → Prop} {h h' : Nat → Nat} (hag : ∀ a, P a → h' a = h a) {N q : Nat} {st : List Value} (hst : sR P st) (hq : h' N = q) : (Value.ref N :: st).map (kV h') = .ref q :: st.map (kV h) := by
  show .ref (h' N) :: st.map (kV h') = _
  rw [kVs_P hag hst, hq]
/-- new cells -/
theorem Y_pushed {q a : Nat} {H1 : Heap} {locs1 : List Loc} {ls : Array Slot} {ws : va_W} {o : va_E} {g k1 n1 : Nat} (hM : MW G h w ws) (hR : wR (fun x => x ≠ q) w) (ho : eR (fun x => x ≠ q) o) (hL : lR (fun x => x ≠ q) L) (hst : sR (fun x => x ≠ q) st) (hP1 : va_P G.1 cls (ws ++ [(a, kE G h o)]) H1) (hD1 : va_D A (ws ++ [(a, kE G h o)])) (hS1 : va_S A s.heap H1 locs1) (hl : lv_has ls nL (kL h L))
    (kk : ∀ h' : Nat → Nat, (∀ x, x ≠ q → h' x = h x) → Y p l e R s m args below meth c nL G A h' Q k1 n1 (wU w q o) g L (.ref q :: st)) : W p l e R s m args below meth c H1 locs1 k1 n1 Q (F0 m g ls (.ref a :: st.map (kV h))) := by
  have hag : ∀ x, x ≠ q → va_up h q a x = h x := fun x hx => if_neg hx
  have h3 := kk (va_up h q a) hag H1 locs1 ls _ hP1 hD1 (hM.push hR ho hD1) hS1 (by rw [kL_P hag hL]; exact hl)
  rw [kst_P hag hst (if_pos rfl : va_up h q a q = a)] at h3
  exact h3
theorem Y_newi (C : Cx p s m args c cc nL own G A) {x : Int32} {N : Nat} (q : Nat) (d : decode cc pc = .ok (.newarray .int, 2)) (harr : Cond.arrayClass .int ∈ gA) (hx0 : ¬ x < 0) (hN : x.toNatClampNeg = N) (hb : N * componentBytes .int ≤ 536870912) (hcs : k + 1 ≤ R.cells ∧ n + N ≤ R.slots) (hR : wR (fun x => x ≠ q) w) (hL : lR (fun x => x ≠ q) L) (hst : sR (fun x => x ≠ q) st)
    (kk : ∀ h' : Nat → Nat, (∀ x, x ≠ q → h' x = h x) → Y p l e R s m args below meth c nL G A h' Q (k + 1) (n + N) (wU w q (.inl (0, N, .inl (fun _ => 0)))) (pc + 2) L (.ref q :: st)) : Y p l e R s m args below meth c nL G A h Q k n w pc L (.int x :: st) := fun H locs ls ws hP hD hM hS hl =>
  va_newa (D := G.1) (a0 := (N, .inl (fun _ => 0))) (atype := .int) (ty := .int) C.1 C.2.1 (C.2.2.2.2.1 _ harr) rfl C.2.2.2.2.2.1 hP hD hS C.2.2.2.2.2.2.1 (fun cA => rfl) hx0 hN hb hcs.1 hcs.2 d (fun a cA H1 hK1 hP1 hD1 hS1 => by
    have e1 := hK1.2 4 _ rfl
    have e2 := C.2.2.2.2.2.1.2 0 _ rfl
    have ec : cA = G.2 0 := Option.some.inj (e1.2.symm.trans e2.2)
    subst ec
    exact Y_pushed (o := .inl (0, N, .inl (fun _ => 0))) hM hR trivial hL hst hP1 hD1 hS1 hl kk)
theorem Y_newz (C : Cx p s m args c cc nL own G A) {x : Int32} {N : Nat} (q : Nat) (d : decode cc pc = .ok (.newarray .boolean, 2)) (harr : Cond.arrayClass .boolean ∈ gA) (hx0 : ¬ x < 0) (hN : x.toNatClampNeg = N) (hb : N * componentBytes .boolean ≤ 536870912) (hcs : k + 1 ≤ R.cells ∧ n + N ≤ R.slots) (hR : wR (fun x => x ≠ q) w) (hL : lR (fun x => x ≠ q) L) (hst : sR (fun x => x ≠ q) st)
    (kk : ∀ h' : Nat → Nat, (∀ x, x ≠ q → h' x = h x) → Y p l e R s m args below meth c nL G A h' Q (k + 1) (n + N) (wU w q (.inl (1, N, .inl (fun _ => 0)))) (pc + 2) L (.ref q :: st)) : Y p l e R s m args below meth c nL G A h Q k n w pc L (.int x :: st) := fun H locs ls ws hP hD hM hS hl =>
  va_newa (D := G.1) (a0 := (N, .inl (fun _ => 0))) (atype := .boolean) (ty := .boolean) C.1 C.2.1 (C.2.2.2.2.1 _ harr) rfl C.2.2.2.2.2.1 hP hD hS C.2.2.2.2.2.2.1 (fun cA => rfl) hx0 hN hb hcs.1 hcs.2 d (fun a cA H1 hK1 hP1 hD1 hS1 => by
    have e1 := hK1.2 4 _ rfl
    have e2 := C.2.2.2.2.2.1.2 1 _ rfl
    have ec : cA = G.2 1 := Option.some.inj (e1.2.symm.trans e2.2)
    subst ec
    exact Y_pushed (o := .inl (1, N, .inl (fun _ => 0))) hM hR trivial hL hst hP1 hD1 hS1 hl kk)
theorem Y_newq (C : Cx p s m args c cc nL own G A) {x : Int32} {N index : Nat} (q : Nat) (d : decode cc pc = .ok (.anewarray index, 3)) (hcl : Cond.classLink own index RX4 ∈ gA) (hx0 : ¬ x < 0) (hN : x.toNatClampNeg = N) (hb : N * 4 ≤ 536870912) (hcs : k + 1 ≤ R.cells ∧ n + N ≤ R.slots) (hR : wR (fun x => x ≠ q) w) (hL : lR (fun x => x ≠ q) L) (hst : sR (fun x => x ≠ q) st)
    (kk : ∀ h' : Nat → Nat, (∀ x, x ≠ q → h' x = h x) → Y p l e R s m args below meth c nL G A h' Q (k + 1) (n + N) (wU w q (.inl (2, N, .inr (.inr (.inr (.inr (fun _ => none))))))) (pc + 3) L (.ref q :: st)) : Y p l e R s m args below meth c nL G A h Q k n w pc L (.int x :: st) := fun H locs ls ws hP hD hM hS hl =>
  va_newq (D := G.1) (C := RX4) C.1 C.2.1 C.2.2.2.1 (C.2.2.2.2.1 _ hcl) C.2.2.2.2.2.2.2.2.2 C.2.2.2.2.2.1 hP hD hS C.2.2.2.2.2.2.1 hx0 hN hb hcs.1 hcs.2 d (fun a cA H1 hK1 hP1 hD1 hS1 => by
    have e1 := hK1.2 4 _ rfl
    have e2 := C.2.2.2.2.2.1.2 2 _ rfl
    have ec : cA = G.2 2 := Option.some.inj ((va_oA e1).symm.trans (va_oA e2))
    subst ec
    exact Y_pushed (o := .inl (2, N, .inr (.inr (.inr (.inr (fun _ => none)))))) hM hR (fun _ _ z => by cases z) hL hst hP1 hD1 hS1 hl kk)
theorem Y_newaa (C : Cx p s m args c cc nL own G A) {index N : Nat} {x : Int32} (q : Nat) (d : decode cc pc = .ok (.anewarray index, 3)) (hlink : Cond.classLink own index (FieldType.array .int).toString ∈ gA) (hx0 : ¬ x < 0) (hN : x.toNatClampNeg = N) (hb : N * 4 ≤ 536870912) (hcs : k + 1 ≤ R.cells ∧ n + N ≤ R.slots) (hR : wR (fun x => x ≠ q) w) (hL : lR (fun x => x ≠ q) L) (hst : sR (fun x => x ≠ q) st)
    (kk : ∀ h' : Nat → Nat, (∀ x, x ≠ q → h' x = h x) → Y p l e R s m args below meth c nL G A h' Q (k + 1) (n + N) (wU w q (.inl (3, N, .inr (.inr (.inr (.inr (fun _ => none))))))) (pc + 3) L (.ref q :: st)) : Y p l e R s m args below meth c nL G A h Q k n w pc L (.int x :: st) := fun H locs ls ws hP hD hM hS hl => by
  subst hN
  refine W.anewA (t := .int) C.1 C.2.1 C.2.2.2.1 (C.2.2.2.2.1 _ hlink) C.2.2.2.2.2.2.2.2.1 rfl d rfl hx0 hb hcs.1 hcs.2 fun cA kA comp f1 f2 f3 f4 => ?_
  have e2 := (C.2.2.2.2.2.1.2 3 _ rfl).2
  have ec : cA = G.2 3 := Option.some.inj (f1.symm.trans e2)
  subst ec
  generalize hH1 : H.push ({ cls := G.2 3, slots := Array.replicate x.toNatClampNeg .null, vm := .none } : Cell) = H1
  have z1 : H1.size = H.size + 1 := by rw [← hH1, Array.size_push]
  have e1 : H1[H.size]? = some (arrV (G.2 3) x.toNatClampNeg (fun _ => .null)) := by rw [← hH1, Array.getElem?_push_size, ← arrV_new]
  have o1 : ∀ q : Nat, q < H.size → H1[q]? = H[q]? := fun q hq => by rw [← hH1, Array.getElem?_push, if_neg (Nat.ne_of_lt hq)]
  have hk : ∀ (j : Nat) (y : Nat × va_E), ws[j]? = some y → H1[y.1]? = H[y.1]? := fun j y hy => o1 y.1 ((hP j y hy).lt)
  have hP1 : va_P G.1 cls (ws ++ [(H.size, kE G h (.inl (3, (x.toNatClampNeg, .inr (.inr (.inr (.inr (fun _ => none))))))))]) H1 := (hP.kept hk).app (fun j y hy => by
    have hz : j < 1 := (List.getElem?_eq_some_iff.mp hy).1
    rw [show j = 0 by omega] at hy
    cases hy
    show H1[H.size]? = some (vp_cell (G.2 3) (x.toNatClampNeg, .inr (.inr (.inr (.inr (fun _ => none))))))
    rw [vp_cell_q]
    exact e1)
  have hD1 : va_D A (ws ++ [(H.size, kE G h (.inl (3, (x.toNatClampNeg, .inr (.inr (.inr (.inr (fun _ => none))))))))]) := hD.push hP rfl (C.2.2.2.2.2.2.1 _ hS.1)
  have hS1 : va_S A s.heap H1 locs := ⟨Nat.le_trans hS.1 (by omega), fun y h1 h2 => (o1 y (Nat.lt_of_lt_of_le h1 hS.1)).trans (hS.2.1 y h1 h2), hS.2.2⟩
  exact Y_pushed (o := .inl (3, x.toNatClampNeg, .inr (.inr (.inr (.inr (fun _ => none)))))) hM hR (fun _ _ z => by cases z) hL hst hP1 hD1 hS1 hl kk
theorem Y_new (C : Cx p s m args c cc nL own G A) {Cn : String} {T : u_T} {N ci index : Nat} {ty : Nat → FieldType} (q : Nat) (K : cK Cn T N ci ty) {fs : List Value} (d : decode cc pc = .ok (.new index, 3)) (hcl : Cond.classLink own index Cn ∈ gA) (h2 : Cond.instantiable Cn N ∈ gA) (h3 : Cond.initialized Cn ∈ gA) (hfs : ∀ j, j < N → defaultValue (ty j) = vp_V fs j) (hfv : fs.all (vF 0) = true) (hcs : k + 1 ≤ R.cells ∧ n + N ≤ R.slots) (hfr : sR (fun x => x ≠ q) fs) (hR : wR (fun x => x ≠ q) w) (hL : lR (fun x => x ≠ q) L) (hst : sR (fun x => x ≠ q) st)
    (kk : ∀ h' : Nat → Nat, (∀ x, x ≠ q → h' x = h x) → Y p l e R s m args below meth c nL G A h' Q (k + 1) (n + N) (wU w q (.inr (ci, fs))) (pc + 3) L (.ref q :: st)) : Y p l e R s m args below meth c nL G A h Q k n w pc L st := fun H locs ls ws hP hD hM hS hl =>
  va_new (D := G.1) (ci := ci) (fs := fs) C.1 C.2.1 C.2.2.2.2.1 K.1 ty K.2.2.1 C.2.2.2.1 (C.2.2.2.2.1 _ hcl) (C.2.2.2.2.1 _ h2) (C.2.2.2.2.1 _ h3) C.2.2.2.2.2.1 hP hD hS C.2.2.2.2.2.2.1 K.2.1 hfs hcs.1 hcs.2 d (fun a H1 hP1 hD1 hS1 => by
    have ez : fs.map (kV h) = fs := (List.map_congr_left (fun v hv => by
      have := List.all_eq_true.mp hfv v hv
      cases v with
      | ref a => simp [vF] at this
      | _ => rfl)).trans (List.map_id fs)
    have e1 : (Sum.inr (ci, fs) : va_E) = kE G h (.inr (ci, fs)) := by
      show _ = (Sum.inr (ci, fs.map (kV h)) : va_E)
      rw [ez]
    rw [e1] at hP1 hD1
    exact Y_pushed (o := .inr (ci, fs)) hM hR hfr hL hst hP1 hD1 hS1 hl kk)
/-- places renamed: the references with them -/
theorem Y_ren (r : Nat → Nat) (hw : ∀ i e, w' i = some e → w (r i) = some (rEf r e)) (hi : ∀ i j e f, w' i = some e → w' j = some f → r i = r j → i = j) (hL : kL r L' = L) (hst : st'.map (kV r) = st) (kk : Y p l e R s m args below meth c nL G A (fun i => h (r i)) Q k n w' pc L' st') : Y p l e R s m args below meth c nL G A h Q k n w pc L st := fun H locs ls ws hP hD hM hS hl => by
  have h1 := kk H locs ls ws hP hD (hM.ren r hw hi) hS (by
    rw [← hL] at hl
    have e1 : kL h (kL r L') = kL (fun i => h (r i)) L' := by
      show (L'.map _).map _ = L'.map _
      rw [List.map_map]
      exact List.map_congr_left (fun q _ => by show (q.1, kV h (kV r q.2)) = _; rw [kV_kV])
    rw [e1] at hl
    exact hl)
  have e2 : st.map (kV h) = st'.map (kV (fun i => h (r i))) := by
    rw [← hst, List.map_map]
    exact List.map_congr_left (fun q _ => by show kV h (kV r q) = _; rw [kV_kV])
  rw [e2]
  exact h1
theorem Y_mmax (C : Cx p s m args c cc nL own G A) {index : Nat} {x y v : Int32} (d : decode cc pc = .ok (.invokestatic index, 3)) (hlink : Cond.methodLink own index Lib.Math.max.name ∈ gA) (h2 : Cond.static Lib.Math.max.name ∈ gA) (h3 : Cond.initialized "java/lang/Math" ∈ gA) (h4 : Cond.code Lib.Math.max.name Lib.Math.max.code 2 (some .int) ∈ gA) (hf : 1 ≤ R.frames) (hlo : (st.map fun v => v.category).sum + 13 ≤ R.locals) (hcs : k ≤ R.cells ∧ n ≤ R.slots) (hv : (if x < y then y else x) = v) (kk : Y p l e R s m args below meth c nL G A h Q k n w (pc + 3) L (.int v :: st)) : Y p l e R s m args below meth c nL G A h Q k n w pc L (.int y :: .int x :: st) := fun H locs ls ws hP hD hM hS hl =>
  va_mmax C.1 C.2.1 (C.2.2.1.trans hl.1.symm) C.2.2.2.1 (C.2.2.2.2.1 _ hlink) (C.2.2.2.2.1 _ h2) (C.2.2.2.2.1 _ h3) (C.2.2.2.2.1 _ h4) hf (by rw [kst_cat]; exact hlo) hcs.1 hcs.2 d (by rw [hv]; exact kk H locs ls ws hP hD hM hS hl)
theorem Y_mabs (C : Cx p s m args c cc nL own G A) {index : Nat} {x v : Int32} (d : decode cc pc = .ok (.invokestatic index, 3)) (hlink : Cond.methodLink own index Lib.Math.abs.name ∈ gA) (h2 : Cond.static Lib.Math.abs.name ∈ gA) (h3 : Cond.initialized "java/lang/Math" ∈ gA) (h4 : Cond.code Lib.Math.abs.name Lib.Math.abs.code 1 (some .int) ∈ gA) (hf : 1 ≤ R.frames) (hlo : (st.map fun v => v.category).sum + 13 ≤ R.locals) (hcs : k ≤ R.cells ∧ n ≤ R.slots) (hv : (if 0 ≤ x then x else 0 - x) = v) (kk : Y p l e R s m args below meth c nL G A h Q k n w (pc + 3) L (.int v :: st)) : Y p l e R s m args below meth c nL G A h Q k n w pc L (.int x :: st) := fun H locs ls ws hP hD hM hS hl =>
  va_mabs C.1 C.2.1 (C.2.2.1.trans hl.1.symm) C.2.2.2.1 (C.2.2.2.2.1 _ hlink) (C.2.2.2.2.1 _ h2) (C.2.2.2.2.1 _ h3) (C.2.2.2.2.1 _ h4) hf (by rw [kst_cat]; exact hlo) hcs.1 hcs.2 d (by rw [hv]; exact kk H locs ls ws hP hD hM hS hl)
theorem Y_sld (C : Cx p s m args c cc nL own G A) {b N : Nat} {xs : Nat → Int32} (hX : va_X b N xs s s.heap) (hbl : b < s.heap.size) (hbA : ¬ A b) (hh : h 1000 = b) {i v : Int32} (d : decode cc pc = .ok (.iaload, 1)) (hin : vp_in i N) (hv : xs i.toNatClampNeg = v) (kk : Y p l e R s m args below meth c nL G A h Q k n w (pc + 1) L (.int v :: st)) : Y p l e R s m args below meth c nL G A h Q k n w pc L (.int i :: .ref 1000 :: st) := fun H locs ls ws hP hD hM hS hl => by
  show W p l e R s m args below meth c H locs k n Q (F0 m pc ls (.int i :: .ref (h 1000) :: st.map (kV h)))
  rw [hh]
  exact va_sld C.1 C.2.1 hX hbl hbA hS hin d (by rw [hv]; exact kk H locs ls ws hP hD hM hS hl)
theorem Y_slen (C : Cx p s m args c cc nL own G A) {b N : Nat} {xs : Nat → Int32} (hX : va_X b N xs s s.heap) (hbl : b < s.heap.size) (hbA : ¬ A b) (hh : h 1000 = b) {v : Int32} (d : decode cc pc = .ok (.arraylength, 1)) (hv : Int32.ofNat N = v) (kk : Y p l e R s m args below meth c nL G A h Q k n w (pc + 1) L (.int v :: st)) : Y p l e R s m args below meth c nL G A h Q k n w pc L (.ref 1000 :: st) := fun H locs ls ws hP hD hM hS hl => by
  show W p l e R s m args below meth c H locs k n Q (F0 m pc ls (.ref (h 1000) :: st.map (kV h)))
  rw [hh]
  exact va_slen C.1 C.2.1 hX hbl hbA hS d (by rw [hv]; exact kk H locs ls ws hP hD hM hS hl)
end YS
