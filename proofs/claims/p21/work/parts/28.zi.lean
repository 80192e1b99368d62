/-! objects made: their constructors' worlds grow -/
section ZI
variable {p : Program} {l : Launch} {e : Env} {R : Room} {s : State} {m : MethodId} {args : Array Value} {below : List Frame} {meth : Method} {c : Code} {cc : ByteArray} {nL : Nat} {own : String} {G : gG} {A : Nat → Prop} {h h0 : Nat → Nat} {Q : State → Prop} {k n : Nat} {ws ws' : List va_E} {pc : Nat} {L : List (Nat × Value)} {st st' rest : List Value}
theorem Z_objI (C : Cx p s m args c cc nL own G A) {index q : Nat} (d : decode cc pc = .ok (.invokespecial index, 3)) (hlink : Cond.methodLink own index Lib.objectInit ∈ gA) (h2 : Cond.instanceMethod Lib.objectInit ∈ gA) (h3 : Cond.code Lib.objectInit ⟨#[0xb1]⟩ 1 none ∈ gA) (hR : 1 ≤ R.frames ∧ (st.map fun v => v.category).sum + 12 ≤ R.locals) (kk : Z p l e R s m args below meth c nL G A h Q k n ws (pc + 3) L st) : Z p l e R s m args below meth c nL G A h Q k n ws pc L (.ref q :: st) := fun H locs ls hP hD hS hl =>
  W.objInit (g := F0 m pc ls (.ref (h q) :: st.map (kV h))) C.1 C.2.1 C.2.2.2.1 (C.2.2.2.2.1 _ hlink) (C.2.2.2.2.1 _ h2) (C.2.2.2.2.1 _ h3) rfl (hl.1.trans C.2.2.1.symm) rfl d hR.1 (by show 2 * 0 + ((st.map (kV h)).map fun v => v.category).sum + 12 ≤ _; rw [kst_cat]; have := hR.2; omega) (kk H locs ls hP hD hS hl)
theorem Z_newz (C : Cx p s m args c cc nL own G A) {x : Int32} {N W9 : Nat} (d : decode cc pc = .ok (.newarray .boolean, 2)) (harr : Cond.arrayClass .boolean ∈ gA) (hx0 : ¬ x < 0) (hN : x.toNatClampNeg = N) (hb : N * componentBytes .boolean ≤ 536870912) (hcs : k + 1 ≤ R.cells ∧ n + N ≤ R.slots) (hW : ws.length = W9) (hf : eFs W9 ws) (hL : L.all (fun q => vF W9 q.2) = true) (hst : st.all (vF W9) = true)
    (kk : ∀ h' : Nat → Nat, (∀ i, i < W9 → h' i = h i) → Z p l e R s m args below meth c nL G A h' Q (k + 1) (n + N) (ws ++ [.inl (1, N, .inl (fun _ => 0))]) (pc + 2) L (.ref W9 :: st)) : Z p l e R s m args below meth c nL G A h Q k n ws pc L (.int x :: st) := fun H locs ls hP hD hS hl =>
  va_newa (D := G.1) (a0 := (N, .inl (fun _ => 0))) (atype := .boolean) (ty := .boolean) C.1 C.2.1 (C.2.2.2.2.1 _ harr) rfl C.2.2.2.2.2.1 hP hD hS C.2.2.2.2.2.2.1 (fun cA => rfl) hx0 hN hb hcs.1 hcs.2 d (fun q cA H1 hK1 hP1 hD1 hS1 => by
    have e1 := hK1.2 4 _ rfl
    have e2 := C.2.2.2.2.2.1.2 1 _ rfl
    have ec : cA = G.2 1 := Option.some.inj (e1.2.symm.trans e2.2)
    subst ec
    have hag : ∀ i, i < W9 → va_up h W9 q i = h i := fun i hi => if_neg (by omega)
    have ew : kW G h ws ++ [(q, Sum.inl (G.2 1, (N, Sum.inl (fun _ => (0 : Int32)))))] = kW G (va_up h W9 q) (ws ++ [.inl (1, N, .inl (fun _ => 0))]) := kW_push (e := .inl (1, N, .inl (fun _ => 0))) hW hf (show eF W9 (.inl (1, N, .inl (fun _ => 0))) from trivial)
    rw [ew] at hP1 hD1
    have h3 := kk (va_up h W9 q) hag H1 locs ls hP1 hD1 hS1 (by rw [kL_ag hag hL]; exact hl)
    rw [kst_ag hag hst (if_pos rfl : va_up h W9 q W9 = q)] at h3
    exact h3)
theorem Z_new (C : Cx p s m args c cc nL own G A) {Cn : String} {T : u_T} {N ci index W9 : Nat} {ty : Nat → FieldType} (K : cK Cn T N ci ty) {fs : List Value} (d : decode cc pc = .ok (.new index, 3)) (hcl : Cond.classLink own index Cn ∈ gA) (h2 : Cond.instantiable Cn N ∈ gA) (h3 : Cond.initialized Cn ∈ gA) (hfs : ∀ j, j < N → defaultValue (ty j) = vp_V fs j) (hfv : fs.all (vF 0) = true) (hcs : k + 1 ≤ R.cells ∧ n + N ≤ R.slots) (hW : ws.length = W9) (hf : eFs W9 ws) (hL : L.all (fun q => vF W9 q.2) = true) (hst : st.all (vF W9) = true)
    (kk : ∀ h' : Nat → Nat, (∀ i, i < W9 → h' i = h i) → Z p l e R s m args below meth c nL G A h' Q (k + 1) (n + N) (ws ++ [.inr (ci, fs)]) (pc + 3) L (.ref W9 :: st)) : Z p l e R s m args below meth c nL G A h Q k n ws pc L st := fun H locs ls hP hD hS hl =>
  va_new (D := G.1) (ci := ci) (fs := fs) C.1 C.2.1 C.2.2.2.2.1 K.1 ty K.2.2.1 C.2.2.2.1 (C.2.2.2.2.1 _ hcl) (C.2.2.2.2.1 _ h2) (C.2.2.2.2.1 _ h3) C.2.2.2.2.2.1 hP hD hS C.2.2.2.2.2.2.1 K.2.1 hfs hcs.1 hcs.2 d (fun q H1 hP1 hD1 hS1 => by
    have hag : ∀ i, i < W9 → va_up h W9 q i = h i := fun i hi => if_neg (by omega)
    have ez : ∀ g : Nat → Nat, fs.map (kV g) = fs := fun g => (List.map_congr_left (fun v hv => by
      have := List.all_eq_true.mp hfv v hv
      cases v with
      | ref a => simp [vF] at this
      | _ => rfl)).trans (List.map_id fs)
    have ew : kW G h ws ++ [(q, Sum.inr (ci, fs))] = kW G (va_up h W9 q) (ws ++ [.inr (ci, fs)]) := by
      have h1 := kW_push (G := G) (h := h) (q := q) (e := .inr (ci, fs)) hW hf (List.all_eq_true.mpr (fun v hv => by
        have := List.all_eq_true.mp hfv v hv
        cases v with
        | ref a => simp [vF] at this
        | _ => rfl))
      rw [← h1]
      show _ = kW G h ws ++ [(q, Sum.inr (ci, fs.map (kV h)))]
      rw [ez]
    rw [ew] at hP1 hD1
    have h3 := kk (va_up h W9 q) hag H1 locs ls hP1 hD1 hS1 (by rw [kL_ag hag hL]; exact hl)
    rw [kst_ag hag hst (if_pos rfl : va_up h W9 q W9 = q)] at h3
    exact h3)
end ZI
def gQv (G : gG) (h : Nat → Nat) (A : Nat → Prop) (N : Nat) (ws' : List va_E) : Array Value → State → Outcome → State → Prop := fun _ st oc t => (∃ h' : Nat → Nat, (∀ i, i < N → h' i = h i) ∧ oc = .returned none ∧ va_P G.1 cls (kW G h' ws') t.heap ∧ va_D A (kW G h' ws')) ∧ va_F A st t
def CTv (y : MethodName) (b : ByteArray) (mL d mc ms : Nat) (av : List Value) (ws : List va_E) (N : Nat) (ws' : List va_E) : Prop :=
  ∀ (l : Launch) (G : gG) (h : Nat → Nat) (sz : Nat), Met l y (wsY y b mL none) (gRm d mc ms) (va_Pc (av.map (kV h)) (gB G h sz ws)) (gQv G h (va_A (kW G h ws) sz) N ws') mc ms (va_A (kW G h ws) sz)
theorem CTv_of {y : MethodName} {b : ByteArray} {mL : Nat} {d mc ms N : Nat} {av : List Value} {ws : List va_E} {ws' : List va_E} {L : List (Nat × Value)} (hy : plainName y.cls = true) (hL : ∀ h, lv_args 0 (av.map (kV h)) = kL h L) (hsl : ∀ h, (lg_sl (av.map (kV h))).length ≤ mL)
    (body : ∀ (p : Program) (l : Launch) (e : Env) (s : State) (m : MethodId) (args : Array Value) (below : List Frame) (meth : Method) (c : Code) (G : gG) (h : Nat → Nat) (A : Nat → Prop), Cx p s m args c b mL y.cls G A → meth.sig.returnType = none → meth.locks = false → meth.name = y.name →
      Z p l e (gRm d mc ms) s m args below meth c mL G A h (MQ below (gQv G h A N ws') args s mc ms A) 0 0 ws 0 L []) : CTv y b mL d mc ms av ws N ws' := by
  intro l G h sz
  refine Met.ofW (cc := b) (maxL := mL) (ret := none) hy rfl ?_
  intro p e s m args below meth c s₁ B hml hv
  obtain ⟨rfl, hsz, hP, hK, hD0, hN⟩ := hv
  have hx := B.exec
  have hb := B.bytes
  have hr := B.returns
  have hts := atoms_spec (ws := wsY y b mL none) B.pre
  have hown : s.vm.findClass y.cls = some m.cls := findClass_of_methodNamed B.named
  have hlocks := B.notSynchronized
  have hin : meth.name = y.name := (name_of_methodNamed B.named B.method).1
  subst hsz
  have hD := hD0.self (sz := s.heap.size)
  generalize hAe : va_A (kW G h ws) s.heap.size = A at hD ⊢
  have hA : ∀ q : Nat, s.heap.size ≤ q → A q := fun q h => by rw [← hAe]; exact Or.inr h
  have hl := lv_entry (av.map (kV h)) (n := mL) (hsl h)
  rw [lg_entry_eq]
  rw [hL h] at hl
  exact body p l e s m _ below meth c G h A ⟨hx, hb, hml, hown, fun w hw => hts w (List.mem_cons_of_mem _ hw), hK, hA, hN⟩ hr hlocks hin s.heap [] _ hP hD va_S.rf hl
/-- a renumbered entry -/
def rEf (f : Nat → Nat) (e : va_E) : va_E := match e with
  | .inl (i, x) => .inl (i, kA f x)
  | .inr (ci, fs) => .inr (ci, fs.map (kV f))
theorem kV_kV (h f : Nat → Nat) (v : Value) : kV h (kV f v) = kV (fun j => h (f j)) v := by cases v <;> rfl
theorem kE_rEf (G : gG) (h f : Nat → Nat) (e : va_E) : kE G h (rEf f e) = kE G (fun j => h (f j)) e := by
  cases e with
  | inl a => obtain ⟨i, x⟩ := a; exact congrArg (fun z => Sum.inl (G.2 i, z)) (kA_kA h f x)
  | inr o =>
    obtain ⟨ci, fs⟩ := o
    show Sum.inr (ci, _) = Sum.inr (ci, _)
    rw [List.map_map]
    congr 2
    apply List.map_congr_left
    intro v _
    exact kV_kV h f v
/-- two numberings side by side -/
theorem kW_two {G : gG} {h h' : Nat → Nat} {wa cws : List va_E} {b : Nat} (hb : wa.length = b) (hf : eFs b wa) : kW G (fun i => if i < b then h i else h' (i - b)) (wa ++ cws.map (rEf (fun j => b + j))) = kW G h wa ++ kW G h' cws := by
  have hag : ∀ i, i < b → (fun i => if i < b then h i else h' (i - b)) i = h i := fun i hi => if_pos hi
  apply List.ext_getElem?
  intro i
  by_cases hi : i < b
  · rw [List.getElem?_append_left (by rw [kW_len, hb]; exact hi), kW_get, List.getElem?_append_left (by rw [hb]; exact hi)]
    exact (kW_get G (fun i => if i < b then h i else h' (i - b)) wa i).symm.trans (by rw [kW_ag hb hag hf])
  · rw [List.getElem?_append_right (by rw [kW_len]; omega), kW_get, List.getElem?_append_right (by omega), kW_len, hb, kW_get, List.getElem?_map]
    cases cws[i - b]? with
    | none => rfl
    | some e =>
      show some ((if i < b then h i else h' (i - b)), kE G _ (rEf _ e)) = some (h' (i - b), kE G h' e)
      rw [if_neg hi, kE_rEf]
      have e2 : (fun j => if b + j < b then h (b + j) else h' (b + j - b)) = h' := by
        funext j
        rw [if_neg (by omega), show b + j - b = j by omega]
      show some (h' (i - b), kE G (fun j => if b + j < b then h (b + j) else h' (b + j - b)) e) = _
      rw [e2]
section ZJ
variable {p : Program} {l : Launch} {e : Env} {R : Room} {s : State} {m : MethodId} {args : Array Value} {below : List Frame} {meth : Method} {c : Code} {cc : ByteArray} {nL : Nat} {own : String} {G : gG} {A : Nat → Prop} {h h0 : Nat → Nat} {Q : State → Prop} {k n : Nat} {ws ws' : List va_E} {pc : Nat} {L : List (Nat × Value)} {st st' rest : List Value}
theorem Z_vretG (C : Cx p s m args c cc nL own G A) (hr : meth.sig.returnType = none) (hlk : meth.locks = false) {N : Nat} (d : decode cc pc = .ok (.return_, 1)) (hag : ∀ j, j < N → h j = h0 j) (hw : ws = ws') : Z p l e R s m args below meth c nL G A h (MQ below (gQv G h0 A N ws') args s k n A) k n ws pc L [] := fun H locs ls hP hD hS hl => by
  subst hw
  exact W.vret C.1 C.2.1 hr (fun t ht _ => ⟨⟨h, hag, rfl, by rw [ht]; exact hP, hD⟩, hS.F ht⟩) hS.2.2 d (hlocks := hlk)
/-- behind a constructor's run: the object was the world's last cell -/
theorem Z_grow (C : Cx p s m args c cc nL own G A) {wa cws' : List va_E} {o : va_E} {b mc ms : Nat} {a : Array Value} {H : Heap} {locs : List Loc} {ls : Array Slot} (hP : va_P G.1 cls (kW G h (wa ++ [rEf (fun j => b + j) o])) H) (hD : va_D A (kW G h (wa ++ [rEf (fun j => b + j) o]))) (hS : va_S A s.heap H locs) (hl : lv_has ls nL (kL h L)) (hb : wa.length = b) (hf : eFs b wa) (hL : L.all (fun q => vF (b + 1) q.2) = true) (hst : st.all (vF (b + 1)) = true)
    (hr : va_Run p l e R s m args below meth c H locs k n mc ms (F0 m pc ls (.ref (h b) :: st.map (kV h))) (st.map (kV h)) (gQv G (fun j => h (b + j)) (va_A (kW G (fun j => h (b + j)) [o]) H.size) 1 cws' a) (va_A (kW G (fun j => h (b + j)) [o]) H.size))
    (kk : ∀ h' : Nat → Nat, (∀ i, i < b + 1 → h' i = h i) → Z p l e R s m args below meth c nL G A h' Q (k + mc) (n + ms) (wa ++ cws'.map (rEf (fun j => b + j))) (pc + 3) L st) : W p l e R s m args below meth c H locs k n Q (F0 m pc ls (.ref (h b) :: st.map (kV h))) := by
  have hob : (kW G h (wa ++ [rEf (fun j => b + j) o]))[b]? = some (h b, kE G h (rEf (fun j => b + j) o)) := kW_at (by rw [List.getElem?_append_right (by omega), hb, Nat.sub_self]; rfl)
  have hA1 : ∀ q, va_A (kW G (fun j => h (b + j)) [o]) H.size q → q = h b ∨ H.size ≤ q := fun q hq => by
    rcases hq with ⟨j, e', z⟩ | z
    · obtain ⟨e0, h1, h2⟩ := kW_of z
      have hj : j < 1 := (List.getElem?_eq_some_iff.mp h1).1
      obtain rfl : j = 0 := by omega
      exact Or.inl (congrArg Prod.fst h2)
    · exact Or.inr z
  have hF : ∀ q, va_A (kW G (fun j => h (b + j)) [o]) H.size q → A q := fun q hq => by
    rcases hA1 q hq with z | z
    · rw [z]; exact hD.2 _ _ hob
    · exact C.2.2.2.2.2.2.1 q (Nat.le_trans hS.1 z)
  have hsub : ∀ (j : Nat) (q : Nat × va_E), (kW G h wa)[j]? = some q → (kW G h (wa ++ [rEf (fun j => b + j) o]))[id j]? = some q := fun j q hq => by
    obtain ⟨e, he, rfl⟩ := kW_of hq
    exact kW_at (i := j) (by rw [List.getElem?_append_left (List.getElem?_eq_some_iff.mp he).1]; exact he)
  have hne : ∀ (j : Nat) (q : Nat × va_E), (kW G h wa)[j]? = some q → q.1 < H.size ∧ q.1 ≠ h b := fun j q hq => by
    refine ⟨(hP j q (hsub j q hq)).lt, fun z => ?_⟩
    have h1 := hD.1 _ _ _ _ (hsub j q hq) hob z
    have h2 : j < (kW G h wa).length := (List.getElem?_eq_some_iff.mp hq).1
    rw [kW_len, hb] at h2
    exact absurd h1 (show ¬ j = b by omega)
  intro T hT X
  obtain ⟨v, st₀, t, T', L9, h0, X', hL9, e1, e2, ⟨⟨h', hag, hv, hP1, hD1⟩, hz, hk⟩, st9⟩ := hr T hT X
  have hv' : v = none := by injection hv
  subst hv'
  rw [h0] at hz hk
  rw [← e1] at hP1 hz hk
  have hPa : va_P G.1 cls (kW G h wa) T'.heap := (hP.by id hsub).kept (fun j q hq => hk q.1 (hne j q hq).1 (fun z => by
    rcases hA1 _ z with z | z
    · exact (hne j q hq).2 z
    · exact absurd (hne j q hq).1 (Nat.not_lt.mpr z)))
  have hDa : va_D A (kW G h wa) := hD.by id hsub (fun _ _ _ _ e => e)
  have hDD : va_D A (kW G h wa ++ kW G h' cws') := va_D.app hDa (hD1.weaken (fun i q z _ => hF _ (hD1.2 _ _ z))) (fun i j q1 q2 z1 z2 z => by
    have hq := hD1.2 _ _ z2
    rw [← z] at hq
    rcases hA1 _ hq with y | y
    · exact (hne i q1 z1).2 y
    · exact absurd (hne i q1 z1).1 (Nat.not_lt.mpr y))
  have hPP := hPa.app hP1
  rw [← kW_two hb hf] at hPP hDD
  have hag2 : ∀ i, i < b + 1 → (fun i => if i < b then h i else h' (i - b)) i = h i := fun i hi => by
    show (if i < b then h i else h' (i - b)) = h i
    by_cases h5 : i < b
    · rw [if_pos h5]
    · rw [if_neg h5, show i - b = 0 by omega, hag 0 (by omega), show i = b + 0 by omega]
  obtain ⟨t2, a1, b1⟩ := kk _ hag2 T'.heap (locs ++ L9) ls hPP hDD
    ⟨Nat.le_trans hS.1 hz, fun q h1 h2 => by rw [hk q (Nat.lt_of_lt_of_le h1 hS.1) (fun z => h2 (hF q z))]; exact hS.2.1 q h1 h2, fun q hq => by
      rcases List.mem_append.mp hq with h | h
      · exact hS.2.2 q h
      · exact hF _ (hL9 q h)⟩ (by rw [kL_ag hag2 hL]; exact hl) T' rfl X'
  rw [kVs_ag hag2 hst] at a1
  exact ⟨t2, st9 t2 a1, b1⟩
end ZJ
