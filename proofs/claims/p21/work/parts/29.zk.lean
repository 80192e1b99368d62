/-! constructors -/
section ZK
variable {p : Program} {l : Launch} {e : Env} {R : Room} {s : State} {m : MethodId} {args : Array Value} {below : List Frame} {meth : Method} {c : Code} {cc : ByteArray} {nL : Nat} {own : String} {G : gG} {A : Nat → Prop} {h h0 : Nat → Nat} {Q : State → Prop} {k n : Nat} {ws ws' : List va_E} {pc : Nat} {L : List (Nat × Value)} {st st' rest : List Value}
def iS (y : MethodName) (b : ByteArray) (mL : Nat) : Prop := Cond.instanceMethod y ∈ gA ∧ Cond.initialized y.cls ∈ gA ∧ Cond.code y b mL none ∈ gA ∧ y.name = "<init>" ∧ (y.cls ≠ "java/lang/invoke/MethodHandle" ∧ y.cls ≠ "java/lang/invoke/VarHandle" ∧ (parseMethodDescriptor y.desc).map (fun d => d.parameters.length) = some 0)
theorem Z_callI (C : Cx p s m args c cc nL own G A) {y : MethodName} {bb : ByteArray} {mL dd mc ms index b : Nat} {wa cws' : List va_E} {o o' : va_E} (hc : CTv y bb mL dd mc ms [.ref 0] [o] 1 cws') (M : iS y bb mL) (hm : Cond.methodLink own index y ∈ gA) (d : decode cc pc = .ok (.invokespecial index, 3)) (hR : dd + 1 ≤ R.frames ∧ 8 + (mL + 11) + 30 * dd ≤ R.locals) (hcs : k + mc ≤ R.cells ∧ n + ms ≤ R.slots) (hW : (st.map fun v => v.category).sum ≤ 8) (ho : rEf (fun j => b + j) o = o') (hb : wa.length = b) (hf : eFs b wa) (hL : L.all (fun q => vF (b + 1) q.2) = true) (hst : st.all (vF (b + 1)) = true) (hw : wa ++ cws'.map (rEf (fun j => b + j)) = ws')
    (kk : ∀ h' : Nat → Nat, (∀ i, i < b + 1 → h' i = h i) → Z p l e R s m args below meth c nL G A h' Q (k + mc) (n + ms) ws' (pc + 3) L st) : Z p l e R s m args below meth c nL G A h Q k n (wa ++ [o']) pc L (.ref b :: st) := fun H locs ls hP hD hS hl => by
  subst ho; subst hw
  obtain ⟨M1, M3, M4, M6, M5⟩ := M
  have hts := C.2.2.2.2.1
  have hcw := cwI (R := R) (args := args) (index := index) (own := own) (mc := mc) (ms := ms) (rm := gRm dd mc ms) 0 hts (gA_good M4) rfl rfl rfl (hts _ M3) (hts _ hm) (hts _ M1) M6 M5 hR
  have hsub : ∀ (j : Nat) (q : Nat × va_E), (kW G (fun j => h (b + j)) [o])[j]? = some q → (kW G h (wa ++ [rEf (fun j => b + j) o]))[b + j]? = some q := fun j q hq => by
    obtain ⟨e, he, rfl⟩ := kW_of hq
    have hj : j < 1 := (List.getElem?_eq_some_iff.mp he).1
    obtain rfl : j = 0 := by omega
    have e0 : o = e := Option.some.inj he
    subst e0
    rw [kW_at (i := b + 0) (e := rEf (fun j => b + j) o) (by rw [List.getElem?_append_right (by omega), show b + 0 - wa.length = 0 by omega]; rfl), kE_rEf]
  have hPc : va_P G.1 cls (kW G (fun j => h (b + j)) [o]) H := hP.by (fun j => b + j) hsub
  have hDc : va_D A (kW G (fun j => h (b + j)) [o]) := hD.by (fun j => b + j) hsub (fun i j hi hj _ => by rw [kW_len] at hi hj; have h1 : i < 1 := hi; have h2 : j < 1 := hj; omega)
  exact Z_grow C hP hD hS hl hb hf hL hst (va_runI (As := []) (b := h (b + 0)) ⟨C.1, C.2.1, C.2.2.1, C.2.2.2.1, hts⟩ (hc l G (fun j => h (b + j)) H.size) hcw ⟨gB_blind _ _ _ _ _, fun U hU hW => ⟨rfl, by rw [hU], by rw [hU]; exact hPc, va_K.moved hW.alike C.2.2.2.2.2.1, hDc.weaken (fun _ _ _ _ => trivial), gN_warm hW C.2.2.2.2.2.2.2⟩⟩ rfl rfl hl.1 rfl (lv_room (by rw [kst_cat]; exact hW)) d hcs) kk
theorem Z_callIN (C : Cx p s m args c cc nL own G A) {y : MethodName} {bb : ByteArray} {host : String} {mL dd mc ms index b : Nat} {wa cws' : List va_E} {o o' : va_E} (hc : CTv y bb mL dd mc ms [.ref 0] [o] 1 cws') (M : iS y bb mL) (hm : Cond.methodLinkNest own index y host ∈ nW) (d : decode cc pc = .ok (.invokespecial index, 3)) (hR : dd + 1 ≤ R.frames ∧ 8 + (mL + 11) + 30 * dd ≤ R.locals) (hcs : k + mc ≤ R.cells ∧ n + ms ≤ R.slots) (hW : (st.map fun v => v.category).sum ≤ 8) (ho : rEf (fun j => b + j) o = o') (hb : wa.length = b) (hf : eFs b wa) (hL : L.all (fun q => vF (b + 1) q.2) = true) (hst : st.all (vF (b + 1)) = true) (hw : wa ++ cws'.map (rEf (fun j => b + j)) = ws')
    (kk : ∀ h' : Nat → Nat, (∀ i, i < b + 1 → h' i = h i) → Z p l e R s m args below meth c nL G A h' Q (k + mc) (n + ms) ws' (pc + 3) L st) : Z p l e R s m args below meth c nL G A h Q k n (wa ++ [o']) pc L (.ref b :: st) := fun H locs ls hP hD hS hl => by
  subst ho; subst hw
  obtain ⟨M1, M3, M4, M6, M5⟩ := M
  have hts := C.2.2.2.2.1
  have hcw := va_cnB (R := R) (args := args) (index := index) (own := own) (mc := mc) (ms := ms) (rm := gRm dd mc ms) 0 hts (gA_good M4) rfl rfl rfl (C.2.2.2.2.2.2.2.1 _ hm) (hts _ M3) M5 hR
  have hsub : ∀ (j : Nat) (q : Nat × va_E), (kW G (fun j => h (b + j)) [o])[j]? = some q → (kW G h (wa ++ [rEf (fun j => b + j) o]))[b + j]? = some q := fun j q hq => by
    obtain ⟨e, he, rfl⟩ := kW_of hq
    have hj : j < 1 := (List.getElem?_eq_some_iff.mp he).1
    obtain rfl : j = 0 := by omega
    have e0 : o = e := Option.some.inj he
    subst e0
    rw [kW_at (i := b + 0) (e := rEf (fun j => b + j) o) (by rw [List.getElem?_append_right (by omega), show b + 0 - wa.length = 0 by omega]; rfl), kE_rEf]
  have hPc : va_P G.1 cls (kW G (fun j => h (b + j)) [o]) H := hP.by (fun j => b + j) hsub
  have hDc : va_D A (kW G (fun j => h (b + j)) [o]) := hD.by (fun j => b + j) hsub (fun i j hi hj _ => by rw [kW_len] at hi hj; have h1 : i < 1 := hi; have h2 : j < 1 := hj; omega)
  exact Z_grow C hP hD hS hl hb hf hL hst (va_runIN (As := []) (b := h (b + 0)) ⟨C.1, C.2.1, C.2.2.1, C.2.2.2.1, hts⟩ (hc l G (fun j => h (b + j)) H.size) ⟨hcw, M6, hts _ M1⟩ ⟨gB_blind _ _ _ _ _, fun U hU hW => ⟨rfl, by rw [hU], by rw [hU]; exact hPc, va_K.moved hW.alike C.2.2.2.2.2.1, hDc.weaken (fun _ _ _ _ => trivial), gN_warm hW C.2.2.2.2.2.2.2⟩⟩ rfl rfl hl.1 rfl (lv_room (by rw [kst_cat]; exact hW)) d hcs) kk
end ZK
def S00 : St := (fun _ _ => 0, fun _ => false, fun _ => 0, false)
def R00 : Sr := (fun _ _ => 0, fun _ => 0)
def M00 : Md := (fun _ _ => 0, fun _ _ => 0, fun _ _ => 0, fun _ => 0)
theorem i_X0_init : iS yX0_init cX0_init 1 := ⟨g_90, g_16, g_91, rfl, by decide +kernel⟩
set_option maxHeartbeats 4000000 in
set_option maxRecDepth 20000 in
theorem c_X0_init : CTv yX0_init cX0_init 1 1 3 100 [.ref 0] [.inr (0, [.null, .null, .null, .int 0])] 1 (srW 0 R00) := by
  refine CTv_of (L := [(0, .ref 0)]) (by decide) (fun _ => rfl) (fun _ => Nat.le_of_ble_eq_true rfl) ?_
  intro p l e s m args below meth c G h A C hr hlk hnm
  refine Z_aload_n C dX0_init_0 rfl rfl ?_
  refine Z_objI C dX0_init_1 g_92 g_32 g_33 ⟨Nat.le_of_ble_eq_true rfl, Nat.le_of_ble_eq_true rfl⟩ ?_
  refine Z_aload_n C dX0_init_4 rfl rfl ?_
  refine Z_bipush C (v := 30) dX0_init_5 (by decide) ?_
  refine Z_newi C (N := 30) (W9 := 1) dX0_init_7 g_85 (by decide) (by decide) (by decide) ⟨Nat.le_of_ble_eq_true rfl, Nat.le_of_ble_eq_true rfl⟩ rfl ⟨rfl, trivial⟩ rfl rfl (fun h1 ag1 => ?_)
  refine Z_putF C (hnm.trans rfl) K0 (ws' := [.inr (0, [.ref 1, .null, .null, .int 0]), .inl (0, 30, .inl (fun _ => 0))]) 0 dX0_init_9 rfl (by decide) g_93 rfl rfl rfl (K0.2.2.1 0 (by decide)) rfl rfl (Nat.le_of_ble_eq_true rfl) rfl ?_
  refine Z_aload_n C dX0_init_12 rfl rfl ?_
  refine Z_bipush C (v := 30) dX0_init_13 (by decide) ?_
  refine Z_newi C (N := 30) (W9 := 2) dX0_init_15 g_85 (by decide) (by decide) (by decide) ⟨Nat.le_of_ble_eq_true rfl, Nat.le_of_ble_eq_true rfl⟩ rfl ⟨rfl, trivial, trivial⟩ rfl rfl (fun h2 ag2 => ?_)
  refine Z_putF C (hnm.trans rfl) K0 (ws' := [.inr (0, [.ref 1, .ref 2, .null, .int 0]), .inl (0, 30, .inl (fun _ => 0)), .inl (0, 30, .inl (fun _ => 0))]) 1 dX0_init_17 rfl (by decide) g_94 rfl rfl rfl (K0.2.2.1 1 (by decide)) rfl rfl (Nat.le_of_ble_eq_true rfl) rfl ?_
  refine Z_aload_n C dX0_init_20 rfl rfl ?_
  refine Z_bipush C (v := 40) dX0_init_21 (by decide) ?_
  refine Z_newi C (N := 40) (W9 := 3) dX0_init_23 g_85 (by decide) (by decide) (by decide) ⟨Nat.le_of_ble_eq_true rfl, Nat.le_of_ble_eq_true rfl⟩ rfl ⟨rfl, trivial, trivial, trivial⟩ rfl rfl (fun h3 ag3 => ?_)
  refine Z_putF C (hnm.trans rfl) K0 (ws' := [.inr (0, [.ref 1, .ref 2, .ref 3, .int 0]), .inl (0, 30, .inl (fun _ => 0)), .inl (0, 30, .inl (fun _ => 0)), .inl (0, 40, .inl (fun _ => 0))]) 2 dX0_init_25 rfl (by decide) g_95 rfl rfl rfl (K0.2.2.1 2 (by decide)) rfl rfl (Nat.le_of_ble_eq_true rfl) rfl ?_
  exact Z_vretG C hr hlk dX0_init_28 (fun i hi => ((ag3 i (by omega)).trans ((ag2 i (by omega)).trans (ag1 i (by omega))))) rfl
theorem i_X1_init : iS yX1_init cX1_init 1 := ⟨g_37, g_15, g_38, rfl, by decide +kernel⟩
set_option maxHeartbeats 4000000 in
set_option maxRecDepth 20000 in
theorem c_X1_init : CTv yX1_init cX1_init 1 1 9 360 [.ref 0] [.inr (1, [.null, .null, .null, .null, .null, .null, .null, .null, .null, .int 0, .int 0, .int 0, .int 0])] 1 (stW 0 S00) := by
  refine CTv_of (L := [(0, .ref 0)]) (by decide) (fun _ => rfl) (fun _ => Nat.le_of_ble_eq_true rfl) ?_
  intro p l e s m args below meth c G h A C hr hlk hnm
  refine Z_aload_n C dX1_init_0 rfl rfl ?_
  refine Z_objI C dX1_init_1 g_39 g_32 g_33 ⟨Nat.le_of_ble_eq_true rfl, Nat.le_of_ble_eq_true rfl⟩ ?_
  refine Z_aload_n C dX1_init_4 rfl rfl ?_
  refine Z_bipush C (v := 40) dX1_init_5 (by decide) ?_
  refine Z_newi C (N := 40) (W9 := 1) dX1_init_7 g_85 (by decide) (by decide) (by decide) ⟨Nat.le_of_ble_eq_true rfl, Nat.le_of_ble_eq_true rfl⟩ rfl ⟨rfl, trivial⟩ rfl rfl (fun h1 ag1 => ?_)
  refine Z_putF C (hnm.trans rfl) K1 (ws' := [.inr (1, [.ref 1, .null, .null, .null, .null, .null, .null, .null, .null, .int 0, .int 0, .int 0, .int 0]), .inl (0, 40, .inl (fun _ => 0))]) 0 dX1_init_9 rfl (by decide) g_40 rfl rfl rfl (K1.2.2.1 0 (by decide)) rfl rfl (Nat.le_of_ble_eq_true rfl) rfl ?_
  refine Z_aload_n C dX1_init_12 rfl rfl ?_
  refine Z_bipush C (v := 40) dX1_init_13 (by decide) ?_
  refine Z_newi C (N := 40) (W9 := 2) dX1_init_15 g_85 (by decide) (by decide) (by decide) ⟨Nat.le_of_ble_eq_true rfl, Nat.le_of_ble_eq_true rfl⟩ rfl ⟨rfl, trivial, trivial⟩ rfl rfl (fun h2 ag2 => ?_)
  refine Z_putF C (hnm.trans rfl) K1 (ws' := [.inr (1, [.ref 1, .ref 2, .null, .null, .null, .null, .null, .null, .null, .int 0, .int 0, .int 0, .int 0]), .inl (0, 40, .inl (fun _ => 0)), .inl (0, 40, .inl (fun _ => 0))]) 1 dX1_init_17 rfl (by decide) g_41 rfl rfl rfl (K1.2.2.1 1 (by decide)) rfl rfl (Nat.le_of_ble_eq_true rfl) rfl ?_
  refine Z_aload_n C dX1_init_20 rfl rfl ?_
  refine Z_bipush C (v := 40) dX1_init_21 (by decide) ?_
  refine Z_newi C (N := 40) (W9 := 3) dX1_init_23 g_85 (by decide) (by decide) (by decide) ⟨Nat.le_of_ble_eq_true rfl, Nat.le_of_ble_eq_true rfl⟩ rfl ⟨rfl, trivial, trivial, trivial⟩ rfl rfl (fun h3 ag3 => ?_)
  refine Z_putF C (hnm.trans rfl) K1 (ws' := [.inr (1, [.ref 1, .ref 2, .ref 3, .null, .null, .null, .null, .null, .null, .int 0, .int 0, .int 0, .int 0]), .inl (0, 40, .inl (fun _ => 0)), .inl (0, 40, .inl (fun _ => 0)), .inl (0, 40, .inl (fun _ => 0))]) 2 dX1_init_25 rfl (by decide) g_42 rfl rfl rfl (K1.2.2.1 2 (by decide)) rfl rfl (Nat.le_of_ble_eq_true rfl) rfl ?_
  refine Z_aload_n C dX1_init_28 rfl rfl ?_
  refine Z_bipush C (v := 40) dX1_init_29 (by decide) ?_
  refine Z_newi C (N := 40) (W9 := 4) dX1_init_31 g_85 (by decide) (by decide) (by decide) ⟨Nat.le_of_ble_eq_true rfl, Nat.le_of_ble_eq_true rfl⟩ rfl ⟨rfl, trivial, trivial, trivial, trivial⟩ rfl rfl (fun h4 ag4 => ?_)
  refine Z_putF C (hnm.trans rfl) K1 (ws' := [.inr (1, [.ref 1, .ref 2, .ref 3, .ref 4, .null, .null, .null, .null, .null, .int 0, .int 0, .int 0, .int 0]), .inl (0, 40, .inl (fun _ => 0)), .inl (0, 40, .inl (fun _ => 0)), .inl (0, 40, .inl (fun _ => 0)), .inl (0, 40, .inl (fun _ => 0))]) 3 dX1_init_33 rfl (by decide) g_43 rfl rfl rfl (K1.2.2.1 3 (by decide)) rfl rfl (Nat.le_of_ble_eq_true rfl) rfl ?_
  refine Z_aload_n C dX1_init_36 rfl rfl ?_
  refine Z_bipush C (v := 40) dX1_init_37 (by decide) ?_
  refine Z_newi C (N := 40) (W9 := 5) dX1_init_39 g_85 (by decide) (by decide) (by decide) ⟨Nat.le_of_ble_eq_true rfl, Nat.le_of_ble_eq_true rfl⟩ rfl ⟨rfl, trivial, trivial, trivial, trivial, trivial⟩ rfl rfl (fun h5 ag5 => ?_)
  refine Z_putF C (hnm.trans rfl) K1 (ws' := [.inr (1, [.ref 1, .ref 2, .ref 3, .ref 4, .ref 5, .null, .null, .null, .null, .int 0, .int 0, .int 0, .int 0]), .inl (0, 40, .inl (fun _ => 0)), .inl (0, 40, .inl (fun _ => 0)), .inl (0, 40, .inl (fun _ => 0)), .inl (0, 40, .inl (fun _ => 0)), .inl (0, 40, .inl (fun _ => 0))]) 4 dX1_init_41 rfl (by decide) g_45 rfl rfl rfl (K1.2.2.1 4 (by decide)) rfl rfl (Nat.le_of_ble_eq_true rfl) rfl ?_
  refine Z_aload_n C dX1_init_44 rfl rfl ?_
  refine Z_bipush C (v := 40) dX1_init_45 (by decide) ?_
  refine Z_newi C (N := 40) (W9 := 6) dX1_init_47 g_85 (by decide) (by decide) (by decide) ⟨Nat.le_of_ble_eq_true rfl, Nat.le_of_ble_eq_true rfl⟩ rfl ⟨rfl, trivial, trivial, trivial, trivial, trivial, trivial⟩ rfl rfl (fun h6 ag6 => ?_)
  refine Z_putF C (hnm.trans rfl) K1 (ws' := [.inr (1, [.ref 1, .ref 2, .ref 3, .ref 4, .ref 5, .ref 6, .null, .null, .null, .int 0, .int 0, .int 0, .int 0]), .inl (0, 40, .inl (fun _ => 0)), .inl (0, 40, .inl (fun _ => 0)), .inl (0, 40, .inl (fun _ => 0)), .inl (0, 40, .inl (fun _ => 0)), .inl (0, 40, .inl (fun _ => 0)), .inl (0, 40, .inl (fun _ => 0))]) 5 dX1_init_49 rfl (by decide) g_46 rfl rfl rfl (K1.2.2.1 5 (by decide)) rfl rfl (Nat.le_of_ble_eq_true rfl) rfl ?_
  refine Z_aload_n C dX1_init_52 rfl rfl ?_
  refine Z_bipush C (v := 40) dX1_init_53 (by decide) ?_
  refine Z_newz C (N := 40) (W9 := 7) dX1_init_55 g_86 (by decide) (by decide) (by decide) ⟨Nat.le_of_ble_eq_true rfl, Nat.le_of_ble_eq_true rfl⟩ rfl ⟨rfl, trivial, trivial, trivial, trivial, trivial, trivial, trivial⟩ rfl rfl (fun h7 ag7 => ?_)
  refine Z_putF C (hnm.trans rfl) K1 (ws' := [.inr (1, [.ref 1, .ref 2, .ref 3, .ref 4, .ref 5, .ref 6, .ref 7, .null, .null, .int 0, .int 0, .int 0, .int 0]), .inl (0, 40, .inl (fun _ => 0)), .inl (0, 40, .inl (fun _ => 0)), .inl (0, 40, .inl (fun _ => 0)), .inl (0, 40, .inl (fun _ => 0)), .inl (0, 40, .inl (fun _ => 0)), .inl (0, 40, .inl (fun _ => 0)), .inl (1, 40, .inl (fun _ => 0))]) 6 dX1_init_57 rfl (by decide) g_47 rfl rfl rfl (K1.2.2.1 6 (by decide)) rfl rfl (Nat.le_of_ble_eq_true rfl) rfl ?_
  refine Z_aload_n C dX1_init_60 rfl rfl ?_
  refine Z_bipush C (v := 40) dX1_init_61 (by decide) ?_
  refine Z_newi C (N := 40) (W9 := 8) dX1_init_63 g_85 (by decide) (by decide) (by decide) ⟨Nat.le_of_ble_eq_true rfl, Nat.le_of_ble_eq_true rfl⟩ rfl ⟨rfl, trivial, trivial, trivial, trivial, trivial, trivial, trivial, trivial⟩ rfl rfl (fun h8 ag8 => ?_)
  refine Z_putF C (hnm.trans rfl) K1 (ws' := [.inr (1, [.ref 1, .ref 2, .ref 3, .ref 4, .ref 5, .ref 6, .ref 7, .ref 8, .null, .int 0, .int 0, .int 0, .int 0]), .inl (0, 40, .inl (fun _ => 0)), .inl (0, 40, .inl (fun _ => 0)), .inl (0, 40, .inl (fun _ => 0)), .inl (0, 40, .inl (fun _ => 0)), .inl (0, 40, .inl (fun _ => 0)), .inl (0, 40, .inl (fun _ => 0)), .inl (1, 40, .inl (fun _ => 0)), .inl (0, 40, .inl (fun _ => 0))]) 7 dX1_init_65 rfl (by decide) g_48 rfl rfl rfl (K1.2.2.1 7 (by decide)) rfl rfl (Nat.le_of_ble_eq_true rfl) rfl ?_
  refine Z_aload_n C dX1_init_68 rfl rfl ?_
  refine Z_bipush C (v := 40) dX1_init_69 (by decide) ?_
  refine Z_newi C (N := 40) (W9 := 9) dX1_init_71 g_85 (by decide) (by decide) (by decide) ⟨Nat.le_of_ble_eq_true rfl, Nat.le_of_ble_eq_true rfl⟩ rfl ⟨rfl, trivial, trivial, trivial, trivial, trivial, trivial, trivial, trivial, trivial⟩ rfl rfl (fun h9 ag9 => ?_)
  refine Z_putF C (hnm.trans rfl) K1 (ws' := [.inr (1, [.ref 1, .ref 2, .ref 3, .ref 4, .ref 5, .ref 6, .ref 7, .ref 8, .ref 9, .int 0, .int 0, .int 0, .int 0]), .inl (0, 40, .inl (fun _ => 0)), .inl (0, 40, .inl (fun _ => 0)), .inl (0, 40, .inl (fun _ => 0)), .inl (0, 40, .inl (fun _ => 0)), .inl (0, 40, .inl (fun _ => 0)), .inl (0, 40, .inl (fun _ => 0)), .inl (1, 40, .inl (fun _ => 0)), .inl (0, 40, .inl (fun _ => 0)), .inl (0, 40, .inl (fun _ => 0))]) 8 dX1_init_73 rfl (by decide) g_50 rfl rfl rfl (K1.2.2.1 8 (by decide)) rfl rfl (Nat.le_of_ble_eq_true rfl) rfl ?_
  exact Z_vretG C hr hlk dX1_init_76 (fun i hi => ((ag9 i (by omega)).trans ((ag8 i (by omega)).trans ((ag7 i (by omega)).trans ((ag6 i (by omega)).trans ((ag5 i (by omega)).trans ((ag4 i (by omega)).trans ((ag3 i (by omega)).trans ((ag2 i (by omega)).trans (ag1 i (by omega))))))))))) rfl
