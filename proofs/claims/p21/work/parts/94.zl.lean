/-! rows of the law's own walk: the script stands at the place 1000 -/
def vS (N : Nat) (v : Value) : Bool := match v with
  | .ref a => decide (a < N) || decide (1000 ≤ a)
  | _ => true
theorem kV_agS {N : Nat} {h h' : Nat → Nat} (hag : ∀ i, i < N ∨ 1000 ≤ i → h' i = h i) {v : Value} (hv : vS N v = true) : kV h' v = kV h v := by
  cases v with
  | ref a => exact congrArg Value.ref (hag a (by simpa [vS] using hv))
  | _ => rfl
theorem kL_agS {N : Nat} {h h' : Nat → Nat} (hag : ∀ i, i < N ∨ 1000 ≤ i → h' i = h i) {L : List (Nat × Value)} (hv : L.all (fun q => vS N q.2) = true) : kL h' L = kL h L :=
  List.map_congr_left (fun q hm => by rw [kV_agS hag (List.all_eq_true.mp hv q hm)])
section ZL
variable {p : Program} {l : Launch} {e : Env} {R : Room} {s : State} {m : MethodId} {args : Array Value} {below : List Frame} {meth : Method} {c : Code} {cc : ByteArray} {nL : Nat} {own : String} {G : gG} {A : Nat → Prop} {h h0 : Nat → Nat} {Q : State → Prop} {k n : Nat} {ws ws' : List va_E} {pc : Nat} {L L' : List (Nat × Value)} {st st' rest : List Value}
theorem Z_newS (C : Cx p s m args c cc nL own G A) {Cn : String} {T : u_T} {N ci index W9 : Nat} {ty : Nat → FieldType} (K : cK Cn T N ci ty) {fs : List Value} (d : decode cc pc = .ok (.new index, 3)) (hcl : Cond.classLink own index Cn ∈ gA) (h2 : Cond.instantiable Cn N ∈ gA) (h3 : Cond.initialized Cn ∈ gA) (hfs : ∀ j, j < N → defaultValue (ty j) = vp_V fs j) (hfv : fs.all (vF 0) = true) (hcs : k + 1 ≤ R.cells ∧ n + N ≤ R.slots) (hW : ws.length = W9) (hf : eFs W9 ws) (hL : L.all (fun q => vS W9 q.2) = true) (h1000 : W9 < 1000) (hst : st.all (vF W9) = true)
    (kk : ∀ h' : Nat → Nat, (∀ i, i < W9 ∨ 1000 ≤ i → h' i = h i) → Z p l e R s m args below meth c nL G A h' Q (k + 1) (n + N) (ws ++ [.inr (ci, fs)]) (pc + 3) L (.ref W9 :: st)) : Z p l e R s m args below meth c nL G A h Q k n ws pc L st := fun H locs ls hP hD hS hl =>
  va_new (D := G.1) (ci := ci) (fs := fs) C.1 C.2.1 C.2.2.2.2.1 K.1 ty K.2.2.1 C.2.2.2.1 (C.2.2.2.2.1 _ hcl) (C.2.2.2.2.1 _ h2) (C.2.2.2.2.1 _ h3) C.2.2.2.2.2.1 hP hD hS C.2.2.2.2.2.2.1 K.2.1 hfs hcs.1 hcs.2 d (fun q H1 hP1 hD1 hS1 => by
    have hag : ∀ i, i < W9 → va_up h W9 q i = h i := fun i hi => if_neg (by omega)
    have hagS : ∀ i, i < W9 ∨ 1000 ≤ i → va_up h W9 q i = h i := fun i hi => if_neg (by omega)
    have ez : ∀ g : Nat → Nat, fs.map (kV g) = fs := fun g => (List.map_congr_left (fun v hv => by
      have := List.all_eq_true.mp hfv v hv
      cases v with
      | ref a => simp [vF] at this
      | _ => rfl)).trans (List.map_id fs)
    have ew : kW G h ws ++ [(q, Sum.inr (ci, fs))] = kW G (va_up h W9 q) (ws ++ [.inr (ci, fs)]) := by
      have h1 := kW_push (G := G) (h := h) (q := q) (e := .inr (ci, fs)) hW hf (List.all_eq_true.mpr (fun v hv => by
        have := List.all_eq_true.mp hfv v hv
        cases v with
        | ref a => simp [vF] at this
        | _ => rfl))
      rw [← h1]
      show _ = kW G h ws ++ [(q, Sum.inr (ci, fs.map (kV h)))]
      rw [ez]
    rw [ew] at hP1 hD1
    have h3 := kk (va_up h W9 q) hagS H1 locs ls hP1 hD1 hS1 (by rw [kL_agS hagS hL]; exact hl)
    rw [kst_ag hag hst (if_pos rfl : va_up h W9 q W9 = q)] at h3
    exact h3)
theorem Z_growS (C : Cx p s m args c cc nL own G A) {wa cws' : List va_E} {o : va_E} {b mc ms : Nat} {a : Array Value} {H : Heap} {locs : List Loc} {ls : Array Slot} (hP : va_P G.1 cls (kW G h (wa ++ [rEf (fun j => b + j) o])) H) (hD : va_D A (kW G h (wa ++ [rEf (fun j => b + j) o]))) (hS : va_S A s.heap H locs) (hl : lv_has ls nL (kL h L)) (hb : wa.length = b) (hf : eFs b wa) (hL : L.all (fun q => vS (b + 1) q.2) = true) {NX : Nat} (hNX : (wa ++ cws'.map (rEf (fun j => b + j))).length = NX) (hX1 : NX ≤ 1000) (hfX : eFs NX (wa ++ cws'.map (rEf (fun j => b + j)))) (hst : st.all (vF (b + 1)) = true)
    (hr : va_Run p l e R s m args below meth c H locs k n mc ms (F0 m pc ls (.ref (h b) :: st.map (kV h))) (st.map (kV h)) (gQv G (fun j => h (b + j)) (va_A (kW G (fun j => h (b + j)) [o]) H.size) 1 cws' a) (va_A (kW G (fun j => h (b + j)) [o]) H.size))
    (kk : ∀ h' : Nat → Nat, (∀ i, i < b + 1 ∨ 1000 ≤ i → h' i = h i) → Z p l e R s m args below meth c nL G A h' Q (k + mc) (n + ms) (wa ++ cws'.map (rEf (fun j => b + j))) (pc + 3) L st) : W p l e R s m args below meth c H locs k n Q (F0 m pc ls (.ref (h b) :: st.map (kV h))) := by
  have hob : (kW G h (wa ++ [rEf (fun j => b + j) o]))[b]? = some (h b, kE G h (rEf (fun j => b + j) o)) := kW_at (by rw [List.getElem?_append_right (by omega), hb, Nat.sub_self]; rfl)
  have hA1 : ∀ q, va_A (kW G (fun j => h (b + j)) [o]) H.size q → q = h b ∨ H.size ≤ q := fun q hq => by
    rcases hq with ⟨j, e', z⟩ | z
    · obtain ⟨e0, h1, h2⟩ := kW_of z
      have hj : j < 1 := (List.getElem?_eq_some_iff.mp h1).1
      obtain rfl : j = 0 := by omega
      exact Or.inl (congrArg Prod.fst h2)
    · exact Or.inr z
  have hF : ∀ q, va_A (kW G (fun j => h (b + j)) [o]) H.size q → A q := fun q hq => by
    rcases hA1 q hq with z | z
    · rw [z]; exact hD.2 _ _ hob
    · exact C.2.2.2.2.2.2.1 q (Nat.le_trans hS.1 z)
  have hsub : ∀ (j : Nat) (q : Nat × va_E), (kW G h wa)[j]? = some q → (kW G h (wa ++ [rEf (fun j => b + j) o]))[id j]? = some q := fun j q hq => by
    obtain ⟨e, he, rfl⟩ := kW_of hq
    exact kW_at (i := j) (by rw [List.getElem?_append_left (List.getElem?_eq_some_iff.mp he).1]; exact he)
  have hne : ∀ (j : Nat) (q : Nat × va_E), (kW G h wa)[j]? = some q → q.1 < H.size ∧ q.1 ≠ h b := fun j q hq => by
    refine ⟨(hP j q (hsub j q hq)).lt, fun z => ?_⟩
    have h1 := hD.1 _ _ _ _ (hsub j q hq) hob z
    have h2 : j < (kW G h wa).length := (List.getElem?_eq_some_iff.mp hq).1
    rw [kW_len, hb] at h2
    exact absurd h1 (show ¬ j = b by omega)
  intro T hT X
  obtain ⟨v, st₀, t, T', L9, h0, X', hL9, e1, e2, ⟨⟨h', hag, hv, hP1, hD1⟩, hz, hk⟩, st9⟩ := hr T hT X
  have hv' : v = none := by injection hv
  subst hv'
  rw [h0] at hz hk
  rw [← e1] at hP1 hz hk
  have hPa : va_P G.1 cls (kW G h wa) T'.heap := (hP.by id hsub).kept (fun j q hq => hk q.1 (hne j q hq).1 (fun z => by
    rcases hA1 _ z with z | z
    · exact (hne j q hq).2 z
    · exact absurd (hne j q hq).1 (Nat.not_lt.mpr z)))
  have hDa : va_D A (kW G h wa) := hD.by id hsub (fun _ _ _ _ e => e)
  have hDD : va_D A (kW G h wa ++ kW G h' cws') := va_D.app hDa (hD1.weaken (fun i q z _ => hF _ (hD1.2 _ _ z))) (fun i j q1 q2 z1 z2 z => by
    have hq := hD1.2 _ _ z2
    rw [← z] at hq
    rcases hA1 _ hq with y | y
    · exact (hne i q1 z1).2 y
    · exact absurd (hne i q1 z1).1 (Nat.not_lt.mpr y))
  have hPP := hPa.app hP1
  rw [← kW_two hb hf] at hPP hDD
  have e3 : kW G (fun i => if 1000 ≤ i then h i else if i < b then h i else h' (i - b)) (wa ++ cws'.map (rEf (fun j => b + j))) = kW G (fun i => if i < b then h i else h' (i - b)) (wa ++ cws'.map (rEf (fun j => b + j))) := kW_ag hNX (fun i hi => if_neg (by omega)) hfX
  rw [← e3] at hPP hDD
  have hag2 : ∀ i, i < b + 1 ∨ 1000 ≤ i → (fun i => if 1000 ≤ i then h i else if i < b then h i else h' (i - b)) i = h i := fun i hi => by
    show (if 1000 ≤ i then h i else if i < b then h i else h' (i - b)) = h i
    by_cases h6 : 1000 ≤ i
    · rw [if_pos h6]
    · rw [if_neg h6]
      by_cases h5 : i < b
      · rw [if_pos h5]
      · rw [if_neg h5, show i - b = 0 by omega, hag 0 (by omega), show i = b + 0 by omega]
  obtain ⟨t2, a1, b1⟩ := kk _ hag2 T'.heap (locs ++ L9) ls hPP hDD
    ⟨Nat.le_trans hS.1 hz, fun q h1 h2 => by rw [hk q (Nat.lt_of_lt_of_le h1 hS.1) (fun z => h2 (hF q z))]; exact hS.2.1 q h1 h2, fun q hq => by
      rcases List.mem_append.mp hq with h | h
      · exact hS.2.2 q h
      · exact hF _ (hL9 q h)⟩ (by rw [kL_agS hag2 hL]; exact hl) T' rfl X'
  rw [kVs_ag (fun i hi => hag2 i (Or.inl hi)) hst] at a1
  exact ⟨t2, st9 t2 a1, b1⟩
theorem Z_callIS (C : Cx p s m args c cc nL own G A) {y : MethodName} {bb : ByteArray} {mL dd mc ms index b : Nat} {wa cws' : List va_E} {o o' : va_E} (hc : CTv y bb mL dd mc ms [.ref 0] [o] 1 cws') (M : iS y bb mL) (hm : Cond.methodLink own index y ∈ gA) (d : decode cc pc = .ok (.invokespecial index, 3)) (hR : dd + 1 ≤ R.frames ∧ 8 + (mL + 11) + 30 * dd ≤ R.locals) (hcs : k + mc ≤ R.cells ∧ n + ms ≤ R.slots) (hW : (st.map fun v => v.category).sum ≤ 8) (ho : rEf (fun j => b + j) o = o') (hb : wa.length = b) (hf : eFs b wa) (hL : L.all (fun q => vS (b + 1) q.2) = true) (hst : st.all (vF (b + 1)) = true) (hw : wa ++ cws'.map (rEf (fun j => b + j)) = ws') {NX : Nat} (hNX : ws'.length = NX) (hX1 : NX ≤ 1000) (hfX : eFs NX ws')
    (kk : ∀ h' : Nat → Nat, (∀ i, i < b + 1 ∨ 1000 ≤ i → h' i = h i) → Z p l e R s m args below meth c nL G A h' Q (k + mc) (n + ms) ws' (pc + 3) L st) : Z p l e R s m args below meth c nL G A h Q k n (wa ++ [o']) pc L (.ref b :: st) := fun H locs ls hP hD hS hl => by
  subst ho; subst hw
  obtain ⟨M1, M3, M4, M6, M5⟩ := M
  have hts := C.2.2.2.2.1
  have hcw := cwI (R := R) (args := args) (index := index) (own := own) (mc := mc) (ms := ms) (rm := gRm dd mc ms) 0 hts (gA_good M4) rfl rfl rfl (hts _ M3) (hts _ hm) (hts _ M1) M6 M5 hR
  have hsub : ∀ (j : Nat) (q : Nat × va_E), (kW G (fun j => h (b + j)) [o])[j]? = some q → (kW G h (wa ++ [rEf (fun j => b + j) o]))[b + j]? = some q := fun j q hq => by
    obtain ⟨e, he, rfl⟩ := kW_of hq
    have hj : j < 1 := (List.getElem?_eq_some_iff.mp he).1
    obtain rfl : j = 0 := by omega
    have e0 : o = e := Option.some.inj he
    subst e0
    rw [kW_at (i := b + 0) (e := rEf (fun j => b + j) o) (by rw [List.getElem?_append_right (by omega), show b + 0 - wa.length = 0 by omega]; rfl), kE_rEf]
  have hPc : va_P G.1 cls (kW G (fun j => h (b + j)) [o]) H := hP.by (fun j => b + j) hsub
  have hDc : va_D A (kW G (fun j => h (b + j)) [o]) := hD.by (fun j => b + j) hsub (fun i j hi hj _ => by rw [kW_len] at hi hj; have h1 : i < 1 := hi; have h2 : j < 1 := hj; omega)
  exact Z_growS C hP hD hS hl hb hf hL hNX hX1 hfX hst (va_runI (As := []) (b := h (b + 0)) ⟨C.1, C.2.1, C.2.2.1, C.2.2.2.1, hts⟩ (hc l G (fun j => h (b + j)) H.size) hcw ⟨gB_blind _ _ _ _ _, fun U hU hW => ⟨rfl, by rw [hU], by rw [hU]; exact hPc, va_K.moved hW.alike C.2.2.2.2.2.1, hDc.weaken (fun _ _ _ _ => trivial), gN_warm hW C.2.2.2.2.2.2.2⟩⟩ rfl rfl hl.1 rfl (lv_room (by rw [kst_cat]; exact hW)) d hcs) kk
end ZL
