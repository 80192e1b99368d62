/-! arrays of arrays, clones; methods whose world grows -/
section ZF
variable {p : Program} {l : Launch} {e : Env} {R : Room} {s : State} {m : MethodId} {args : Array Value} {below : List Frame} {meth : Method} {c : Code} {cc : ByteArray} {nL : Nat} {own : String} {G : gG} {A : Nat → Prop} {h : Nat → Nat} {Q : State → Prop} {k n : Nat} {ws ws' : List va_E} {pc : Nat} {L : List (Nat × Value)} {st st' rest : List Value}
theorem kst_ag {N : Nat} {h h' : Nat → Nat} (hag : ∀ i, i < N → h' i = h i) {q : Nat} {st : List Value} (hst : st.all (vF N) = true) (hq : h' N = q) : (Value.ref N :: st).map (kV h') = .ref q :: st.map (kV h) := by
  show .ref (h' N) :: st.map (kV h') = _
  rw [kVs_ag hag hst, hq]
theorem Z_clone (C : Cx p s m args c cc nL own G A) {index q N W9 : Nat} {f : Nat → Int32} (d : decode cc pc = .ok (.invokevirtual index, 3)) (hlink : Cond.methodLink own index ⟨"[I", "clone", "()Ljava/lang/Object;"⟩ ∈ gA) (h1 : Cond.sameMethod "[I" "java/lang/Object" "clone" "()Ljava/lang/Object;" ∈ gA) (h2 : Cond.native ⟨"java/lang/Object", "clone", "()Ljava/lang/Object;"⟩ ∈ gA) (h3 : Cond.instanceMethod ⟨"java/lang/Object", "clone", "()Ljava/lang/Object;"⟩ ∈ gA) (h4 : Cond.selects "[I" ⟨"[I", "clone", "()Ljava/lang/Object;"⟩ ⟨"java/lang/Object", "clone", "()Ljava/lang/Object;"⟩ ∈ gA)
    (he : ws[q]? = some (.inl (0, N, .inl f))) (hcs : k + 1 ≤ R.cells ∧ n + N ≤ R.slots) (hR : 1 ≤ R.frames ∧ (st.map fun v => v.category).sum + 14 ≤ R.locals) (hW : ws.length = W9) (hf : eFs W9 ws) (hL : L.all (fun q => vF W9 q.2) = true) (hst : st.all (vF W9) = true)
    (kk : ∀ h' : Nat → Nat, (∀ i, i < W9 → h' i = h i) → Z p l e R s m args below meth c nL G A h' Q (k + 1) (n + N) (ws ++ [.inl (0, N, .inl f)]) (pc + 3) L (.ref W9 :: st)) : Z p l e R s m args below meth c nL G A h Q k n ws pc L (.ref q :: st) := fun H locs ls hP hD hS hl =>
  va_clone (D := G.1) (rest := st.map (kV h)) C.1 C.2.1 (C.2.2.1.trans hl.1.symm) C.2.2.2.1 (C.2.2.2.2.1 _ hlink) (C.2.2.2.2.1 _ h1) (C.2.2.2.2.1 _ h2) (C.2.2.2.2.1 _ h3) (C.2.2.2.2.1 _ h4) (C.2.2.2.2.2.2.2.1 _ List.mem_cons_self) C.2.2.2.2.2.1 hP hD hS C.2.2.2.2.2.2.1 q 0 (kW_at he) rfl (va_nm_int (C.2.2.2.2.2.1.2 0 _ rfl).2) (fun i v hv => va_fit (F := fun j => Value.int (f j)) (fun _ _ => rfl) i v hv) hR.1 (by rw [kst_cat]; exact hR.2) hcs.1 hcs.2 d (fun q H1 _ hP1 hD1 hS1 => by
    have hag : ∀ i, i < W9 → va_up h W9 q i = h i := fun i hi => if_neg (by omega)
    have ew : kW G h ws ++ [(q, Sum.inl (G.2 0, (N, Sum.inl f)))] = kW G (va_up h W9 q) (ws ++ [.inl (0, N, .inl f)]) := kW_push (e := .inl (0, N, .inl f)) hW hf (show eF W9 (.inl (0, N, .inl f)) from trivial)
    have ew' : kW G h ws ++ [(q, Sum.inl (G.2 0, kA h (N, Sum.inl f)))] = kW G (va_up h W9 q) (ws ++ [.inl (0, N, .inl f)]) := ew
    rw [ew'] at hP1 hD1
    have h3 := kk (va_up h W9 q) hag H1 locs ls hP1 hD1 hS1 (by rw [kL_ag hag hL]; exact hl)
    rw [kst_ag hag hst (if_pos rfl : va_up h W9 q W9 = q)] at h3
    exact h3)
theorem Z_castA (C : Cx p s m args c cc nL own G A) {index q N : Nat} {f : Nat → Int32} (d : decode cc pc = .ok (.checkcast index, 3)) (hlink : Cond.classLink own index "[I" ∈ gA) (he : ws[q]? = some (.inl (0, N, .inl f))) (kk : Z p l e R s m args below meth c nL G A h Q k n ws (pc + 3) L (.ref q :: st)) : Z p l e R s m args below meth c nL G A h Q k n ws pc L (.ref q :: st) := fun H locs ls hP hD hS hl =>
  va_castA (rest := st.map (kV h)) C.1 C.2.1 C.2.2.2.1 (C.2.2.2.2.1 _ hlink) hP q (kW_at he) (va_nm_int (C.2.2.2.2.2.1.2 0 _ rfl).2) d (kk H locs ls hP hD hS hl)
theorem Z_newaa (C : Cx p s m args c cc nL own G A) {index N W9 : Nat} {x : Int32} (d : decode cc pc = .ok (.anewarray index, 3)) (hlink : Cond.classLink own index (FieldType.array .int).toString ∈ gA) (hx0 : ¬ x < 0) (hN : x.toNatClampNeg = N) (hb : N * 4 ≤ 536870912) (hcs : k + 1 ≤ R.cells ∧ n + N ≤ R.slots) (hW : ws.length = W9) (hf : eFs W9 ws) (hL : L.all (fun q => vF W9 q.2) = true) (hst : st.all (vF W9) = true)
    (kk : ∀ h' : Nat → Nat, (∀ i, i < W9 → h' i = h i) → Z p l e R s m args below meth c nL G A h' Q (k + 1) (n + N) (ws ++ [.inl (3, N, .inr (.inr (.inr (.inr (fun _ => none)))))]) (pc + 3) L (.ref W9 :: st)) : Z p l e R s m args below meth c nL G A h Q k n ws pc L (.int x :: st) := fun H locs ls hP hD hS hl => by
  subst hN
  refine W.anewA (t := .int) C.1 C.2.1 C.2.2.2.1 (C.2.2.2.2.1 _ hlink) C.2.2.2.2.2.2.2.2 rfl d rfl hx0 hb hcs.1 hcs.2 fun cA kA comp f1 f2 f3 f4 => ?_
  have e2 := (C.2.2.2.2.2.1.2 3 _ rfl).2
  have ec : cA = G.2 3 := Option.some.inj (f1.symm.trans e2)
  subst ec
  generalize hH1 : H.push ({ cls := G.2 3, slots := Array.replicate x.toNatClampNeg .null, vm := .none } : Cell) = H1
  have z1 : H1.size = H.size + 1 := by rw [← hH1, Array.size_push]
  have e1 : H1[H.size]? = some (arrV (G.2 3) x.toNatClampNeg (fun _ => .null)) := by rw [← hH1, Array.getElem?_push_size, ← arrV_new]
  have o1 : ∀ q : Nat, q < H.size → H1[q]? = H[q]? := fun q hq => by rw [← hH1, Array.getElem?_push, if_neg (Nat.ne_of_lt hq)]
  have hk : ∀ (j : Nat) (y : Nat × va_E), (kW G h ws)[j]? = some y → H1[y.1]? = H[y.1]? := fun j y hy => o1 y.1 ((hP j y hy).lt)
  have hP1 : va_P G.1 cls (kW G h ws ++ [(H.size, .inl (G.2 3, (x.toNatClampNeg, .inr (.inr (.inr (.inr (fun _ => none)))))))]) H1 := (hP.kept hk).app (fun j y hy => by
    have hz : j < 1 := (List.getElem?_eq_some_iff.mp hy).1
    rw [show j = 0 by omega] at hy
    cases hy
    show H1[H.size]? = some (vp_cell _ _)
    rw [vp_cell_q]
    exact e1)
  have hD1 : va_D A (kW G h ws ++ [(H.size, .inl (G.2 3, (x.toNatClampNeg, .inr (.inr (.inr (.inr (fun _ => none)))))))]) := hD.push hP rfl (C.2.2.2.2.2.2.1 _ hS.1)
  have hS1 : va_S A s.heap H1 locs := ⟨Nat.le_trans hS.1 (by omega), fun y h1 h2 => (o1 y (Nat.lt_of_lt_of_le h1 hS.1)).trans (hS.2.1 y h1 h2), hS.2.2⟩
  have hag : ∀ i, i < W9 → va_up h W9 H.size i = h i := fun i hi => if_neg (by omega)
  have ew : kW G h ws ++ [(H.size, .inl (G.2 3, (x.toNatClampNeg, .inr (.inr (.inr (.inr (fun _ => none)))))))] = kW G (va_up h W9 H.size) (ws ++ [.inl (3, x.toNatClampNeg, .inr (.inr (.inr (.inr (fun _ => none)))))]) := kW_push (e := .inl (3, x.toNatClampNeg, .inr (.inr (.inr (.inr (fun _ => none)))))) hW hf (fun _ _ z => by cases z)
  rw [ew] at hP1 hD1
  have h3 := kk (va_up h W9 H.size) hag H1 locs ls hP1 hD1 hS1 (by rw [kL_ag hag hL]; exact hl)
  rw [kst_ag hag hst (if_pos rfl : va_up h W9 H.size W9 = H.size)] at h3
  exact h3
theorem Z_aald (C : Cx p s m args c cc nL own G A) {q N j : Nat} {f : Nat → Option Nat} {i : Int32} (d : decode cc pc = .ok (.aaload, 1)) (he : ws[q]? = some (.inl (3, N, .inr (.inr (.inr (.inr f)))))) (hin : vp_in i N) (hf : f i.toNatClampNeg = some j) (kk : Z p l e R s m args below meth c nL G A h Q k n ws (pc + 1) L (.ref j :: st)) : Z p l e R s m args below meth c nL G A h Q k n ws pc L (.int i :: .ref q :: st) := fun H locs ls hP hD hS hl => by
  have hlt : i.toNatClampNeg < N := Nat.not_le.mp fun q => hin (Or.inr q)
  refine W.aald (v := .ref (h j)) (ty := .array .int) C.1 C.2.1 (hP q _ (kW_at he)) ((C.2.2.2.2.2.1.2 3 _ rfl).1 N (fun j => va_rf ((f j).map h))) rfl (fun q => by cases q) (by show ¬ (i < 0 ∨ (arrV _ _ _).slots.size ≤ _); rw [arrV_size]; exact hin) (by show (arrV (G.2 3) N (fun j => va_rf ((f j).map h))).slots[_]? = _; rw [arrV_read _ _ hlt]; show some (va_rf ((f i.toNatClampNeg).map h)) = _; rw [hf]; rfl) rfl rfl d (kk H locs ls hP hD hS hl)
theorem Z_aast (C : Cx p s m args c cc nL own G A) {q N v N2 : Nat} {f f' : Nat → Option Nat} {g : Nat → Int32} {i : Int32} (d : decode cc pc = .ok (.aastore, 1)) (he : ws[q]? = some (.inl (3, N, .inr (.inr (.inr (.inr f)))))) (hv : ws[v]? = some (.inl (0, N2, .inl g))) (hin : vp_in i N) (hf : va_up f i.toNatClampNeg (some v) = f') (hw : ws.set q (.inl (3, N, .inr (.inr (.inr (.inr f'))))) = ws') (kk : Z p l e R s m args below meth c nL G A h Q k n ws' (pc + 1) L st) : Z p l e R s m args below meth c nL G A h Q k n ws pc L (.ref v :: .int i :: .ref q :: st) := fun H locs ls hP hD hS hl => by
  have hlt : i.toNatClampNeg < N := Nat.not_le.mp fun q => hin (Or.inr q)
  have h0 : ¬ i < 0 := fun q => hin (Or.inl q)
  have hK := C.2.2.2.2.2.1
  obtain ⟨comp, cq, kq, a1, -, a3, a4, a5⟩ := arrayOverA_spec C.2.2.2.2.2.2.2.2
  have ec : cq = G.2 3 := Option.some.inj (a5.symm.trans (hK.2 3 _ rfl).2)
  have ei : "[" ++ FieldType.int.toString = (FieldType.array .int).toString := by decide +kernel
  have en : s.vm.findClass ("[" ++ FieldType.int.toString) = some (G.2 0) := (hK.2 0 _ rfl).2
  rw [ei] at en
  have eo : comp = G.2 0 := Option.some.inj (a1.symm.trans en)
  subst ec; subst eo
  obtain ⟨kC, hkC, -⟩ := Vm.findClass_spec a1
  refine W.aast C.1 C.2.1 (hP q _ (kW_at he)) (fun q h => by cases h) (fun h => by cases h) a3 a4 rfl hkC ⟨h0, by show _ < (arrV _ _ _).slots.size; rw [arrV_size]; exact hlt⟩ (hP v _ (kW_at hv)) (fun q h => by cases h) hkC (va_asg _ _) rfl rfl d fun H1 e z oq => ?_
  have hat : va_at G.1 cls (h q, kE G h (.inl (3, N, .inr (.inr (.inr (.inr f')))))) H1 := by
    show H1[h q]? = some (vp_cell _ _)
    rw [e]
    show some (Cell.setSlot (vp_cell (G.2 3) (N, .inr (.inr (.inr (.inr (fun j => (f j).map h)))))) _ _) = some (vp_cell (G.2 3) (N, .inr (.inr (.inr (.inr (fun j => (f' j).map h))))))
    rw [vp_cell_q, vp_cell_q, arrV_store]
    congr 2
    funext y
    rw [← hf]
    by_cases hq : y = i.toNatClampNeg
    · subst hq
      simp [updV, va_up, va_rf]
    · simp [updV, va_up, hq]
  have hP1 := hP.set hD (kW_at he) hat oq
  have hD1 : va_D A ((kW G h ws).set q (h q, kE G h (.inl (3, N, .inr (.inr (.inr (.inr f'))))))) := hD.set (kW_at he)
  have e1 : (kW G h ws).set q (h q, kE G h (.inl (3, N, .inr (.inr (.inr (.inr f')))))) = kW G h ws' := by rw [← hw]; exact kW_set G h ws q _
  rw [e1] at hP1 hD1
  exact kk H1 _ ls hP1 hD1 (hS.put z oq (hD.2 _ _ (kW_at he))) hl
end ZF
/-- a contract whose world grows: places below N keep their addresses -/
def gQg (G : gG) (h : Nat → Nat) (A : Nat → Prop) (r : Value) (N : Nat) (ws' : List va_E) : Array Value → State → Outcome → State → Prop := fun _ st oc t => (∃ h' : Nat → Nat, (∀ i, i < N → h' i = h i) ∧ oc = .returned (some (kV h' r)) ∧ va_P G.1 cls (kW G h' ws') t.heap ∧ va_D A (kW G h' ws')) ∧ va_F A st t
def CTg (y : MethodName) (b : ByteArray) (mL : Nat) (ret : Option FieldType) (d mc ms : Nat) (av : List Value) (ws : List va_E) (N : Nat) (r : Value) (ws' : List va_E) : Prop :=
  ∀ (l : Launch) (G : gG) (h : Nat → Nat) (sz : Nat), Met l y (wsY y b mL ret) (gRm d mc ms) (va_Pc (av.map (kV h)) (gB G h sz ws)) (gQg G h (va_A (kW G h ws) sz) r N ws') mc ms (va_A (kW G h ws) sz)
theorem CTg_of {y : MethodName} {b : ByteArray} {mL : Nat} {ret : Option FieldType} {d mc ms N : Nat} {av : List Value} {ws : List va_E} {r : Value} {ws' : List va_E} {L : List (Nat × Value)} (hy : plainName y.cls = true) (hL : ∀ h, lv_args 0 (av.map (kV h)) = kL h L) (hsl : ∀ h, (lg_sl (av.map (kV h))).length ≤ mL)
    (body : ∀ (p : Program) (l : Launch) (e : Env) (s : State) (m : MethodId) (args : Array Value) (below : List Frame) (meth : Method) (c : Code) (G : gG) (h : Nat → Nat) (A : Nat → Prop), Cx p s m args c b mL y.cls G A → meth.sig.returnType = ret → meth.locks = false → meth.name = y.name →
      Z p l e (gRm d mc ms) s m args below meth c mL G A h (MQ below (gQg G h A r N ws') args s mc ms A) 0 0 ws 0 L []) : CTg y b mL ret d mc ms av ws N r ws' := by
  intro l G h sz
  refine Met.ofW (cc := b) (maxL := mL) (ret := ret) hy rfl ?_
  intro p e s m args below meth c s₁ B hml hv
  obtain ⟨rfl, hsz, hP, hK, hD0, hN⟩ := hv
  have hx := B.exec
  have hb := B.bytes
  have hr := B.returns
  have hts := atoms_spec (ws := wsY y b mL ret) B.pre
  have hown : s.vm.findClass y.cls = some m.cls := findClass_of_methodNamed B.named
  have hlocks := B.notSynchronized
  have hin : meth.name = y.name := (name_of_methodNamed B.named B.method).1
  subst hsz
  have hD := hD0.self (sz := s.heap.size)
  generalize hAe : va_A (kW G h ws) s.heap.size = A at hD ⊢
  have hA : ∀ q : Nat, s.heap.size ≤ q → A q := fun q h => by rw [← hAe]; exact Or.inr h
  have hl := lv_entry (av.map (kV h)) (n := mL) (hsl h)
  rw [lg_entry_eq]
  rw [hL h] at hl
  exact body p l e s m _ below meth c G h A ⟨hx, hb, hml, hown, fun w hw => hts w (List.mem_cons_of_mem _ hw), hK, hA, hN⟩ hr hlocks hin s.heap [] _ hP hD va_S.rf hl
section ZG
variable {p : Program} {l : Launch} {e : Env} {R : Room} {s : State} {m : MethodId} {args : Array Value} {below : List Frame} {meth : Method} {c : Code} {cc : ByteArray} {nL : Nat} {own : String} {G : gG} {A : Nat → Prop} {h h0 : Nat → Nat} {Q : State → Prop} {k n : Nat} {ws ws' : List va_E} {pc : Nat} {L : List (Nat × Value)} {st st' rest : List Value}
theorem Z_aretG (C : Cx p s m args c cc nL own G A) {rt : FieldType} (hr : meth.sig.returnType = some rt) (hrt : (∃ n, rt = .object n) ∨ ∃ t, rt = .array t) (hlk : meth.locks = false) {i N : Nat} (d : decode cc pc = .ok (.areturn, 1)) (hag : ∀ j, j < N → h j = h0 j) (hw : ws = ws') : Z p l e R s m args below meth c nL G A h (MQ below (gQg G h0 A (.ref i) N ws') args s k n A) k n ws pc L [.ref i] := fun H locs ls hP hD hS hl => by
  subst hw
  exact W.aret (v := .ref (h i)) C.1 C.2.1 hr hrt (Or.inr ⟨_, rfl⟩) (fun t ht _ => ⟨⟨h, hag, rfl, by rw [ht]; exact hP, hD⟩, hS.F ht⟩) hS.2.2 d (hlocks := hlk)
theorem Z_callG (C : Cx p s m args c cc nL own G A) {y : MethodName} {b : ByteArray} {mL dd mc ms nA index ci N W9 : Nat} {ret : Option FieldType} {r : Value} {T : u_T} {ty : Nat → FieldType} {fs : List Value} (hc : CTg y b mL ret dd mc ms [.ref 0] ws W9 r ws') (M : mV y b mL ret nA) (K : cK y.cls T N ci ty) (hm : Cond.methodLink own index y ∈ gA) (d : decode cc pc = .ok (.invokevirtual index, 3)) (hrc : ws[0]? = some (.inr (ci, fs))) (hnA : 0 = nA) (hR : dd + 1 ≤ R.frames ∧ 8 + (mL + 11) + 30 * dd ≤ R.locals) (hcs : k + mc ≤ R.cells ∧ n + ms ≤ R.slots) (hW : (st.map fun v => v.category).sum ≤ 8) (hW9 : ws.length = W9) (hL : L.all (fun q => vF W9 q.2) = true) (hst : st.all (vF W9) = true)
    (kk : ∀ h' : Nat → Nat, (∀ i, i < W9 → h' i = h i) → Z p l e R s m args below meth c nL G A h' Q (k + mc) (n + ms) ws' (pc + 3) L (r :: st)) : Z p l e R s m args below meth c nL G A h Q k n ws pc L (.ref 0 :: st) := fun H locs ls hP hD hS hl => by
  obtain ⟨M1, M2, M3, M4, M5⟩ := M
  have hts := C.2.2.2.2.1
  have hG : GoodIn gA (wsV own index y.cls y (wsY y b mL ret)) := fun w hw => by
    rcases List.mem_append.mp (show w ∈ [Cond.methodLink own index y, Cond.instanceMethod y, Cond.selects y.cls y y, Cond.initialized y.cls] ++ wsY y b mL ret from hw) with hw | hw
    · have hw' : w ∈ gA := by
        simp only [List.mem_cons, List.not_mem_nil, or_false] at hw
        rcases hw with rfl | rfl | rfl | rfl
        · exact hm
        · exact M1
        · exact M2
        · exact M3
      exact ⟨hw', good_of_word (gA_g hw')⟩
    · exact gA_good M4 w hw
  have hcw : CallW R s args own y.cls index y b mL ret (wsY y b mL ret) (gRm dd mc ms) mc ms nA := cwV nA hts hG rfl rfl rfl M5 hR
  have hr := va_runV (As := []) (b := h 0) (rest := st.map (kV h)) (locs := locs) (cells := k) (slots := n) (g := F0 m pc ls (.ref (h 0) :: st.map (kV h))) (l := l) (e := e) (below := below) (p := p) (meth := meth) ⟨C.1, C.2.1, C.2.2.1, C.2.2.2.1, hts⟩ (hc l G h H.size) hcw ⟨gB_blind _ _ _ _ _, va_recv C.2.2.2.2.2.1 hP K.2.1 (kW_at hrc), fun U hU hW => ⟨rfl, by rw [hU], by rw [hU]; exact hP, va_K.moved hW.alike C.2.2.2.2.2.1, hD.weaken (fun _ _ _ _ => trivial), gN_warm hW C.2.2.2.2.2.2.2⟩⟩ rfl hnA hl.1 rfl (lv_room (by rw [kst_cat]; exact hW)) d hcs
  have hF : ∀ q, va_A (kW G h ws) H.size q → A q := fun q hq => by
    rcases hq with ⟨j, e', z⟩ | z
    · exact hD.2 _ _ z
    · exact C.2.2.2.2.2.2.1 q (Nat.le_trans hS.1 z)
  intro T hT X
  obtain ⟨v, st₀, t, T', L9, h0, X', hL9, e1, e2, ⟨⟨h', hag, hv, hP1, hD1⟩, hz, hk⟩, st9⟩ := hr T hT X
  have hv' : v = some (kV h' r) := by injection hv
  subst hv'
  rw [h0] at hz hk
  rw [← e1] at hP1 hz hk
  obtain ⟨t2, a1, b1⟩ := kk h' hag T'.heap (locs ++ L9) ls hP1 (hD1.weaken (fun i q z _ => hF _ (hD1.2 _ _ z)))
    ⟨Nat.le_trans hS.1 hz, fun q h1 h2 => by rw [hk q (Nat.lt_of_lt_of_le h1 hS.1) (fun z => h2 (hF q z))]; exact hS.2.1 q h1 h2, fun q hq => by
      rcases List.mem_append.mp hq with h | h
      · exact hS.2.2 q h
      · exact hF _ (hL9 q h)⟩ (by rw [kL_ag hag hL]; exact hl) T' rfl X'
  have est : (r :: st).map (kV h') = (some (kV h' r)).toList ++ st.map (kV h) := by
    show kV h' r :: st.map (kV h') = kV h' r :: st.map (kV h)
    rw [kVs_ag hag hst]
  rw [est] at a1
  exact ⟨t2, st9 t2 a1, b1⟩
end ZG
