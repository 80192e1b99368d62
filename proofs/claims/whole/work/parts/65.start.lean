/-! the law, from its entry -/
theorem law_end {p : Program} {l : Launch} {e : Env} {s : State} {m : MethodId} {below : List Frame} {meth : Method} {c : Code} {b : Nat} {G : gG} {h : Nat → Nat} (C : Cx p s m #[Value.ref b] c cL_law 9 RL G (fun q => s.heap.size ≤ q)) (hr : meth.sig.returnType = ret) (hlocks : meth.locks = false) (k n : Nat) (ws : List va_E) (L : List (Nat × Value)) (hk : k ≤ 601024) (hn : n ≤ 7293034) : Z p l e room_1 s m #[Value.ref b] below meth c 9 G (fun q => s.heap.size ≤ q) h (lw_Z below #[Value.ref b] s) k n ws 1257 L [.int 1] := fun H locs ls hP hD hS hl =>
  W.widen hk hn (va_forget (fun q hq => hS.2.2 q hq) (W.base (lw_ret (Drawn.sameBut.refl s.drawn lw_cs) C.1 C.2.1 hr hlocks dL_law_1257)))
set_option maxHeartbeats 4000000 in
set_option maxRecDepth 20000 in
theorem law_Z {p : Program} {e : Env} {s : State} {m : MethodId} {below : List Frame} {meth : Method} {c : Code} {l : Launch} {b N : Nat} {xs : Nat → Int32} {G : gG} (C : Cx p s m #[Value.ref b] c cL_law 9 RL G (fun q => s.heap.size ≤ q)) (hst : l.stackTraces = false) (hY : gY (fun q => s.heap.size ≤ q) s s.heap) (hX : va_X b N xs s s.heap) (hbl : b < s.heap.size) (hN : N ≤ 2560) (hr : meth.sig.returnType = ret) (hlocks : meth.locks = false) {h : Nat → Nat} (hh : h 1000 = b) : Z p l e room_1 s m #[Value.ref b] below meth c 9 G (fun q => s.heap.size ≤ q) h (lw_Z below #[Value.ref b] s) 0 0 [] 0 [(0, .ref 1000)] [] := by
  refine Z_newS C K2 (fs := [.null, .null, .null]) (W9 := 0) dL_law_0 g_49 g_50 g_37 (fun j hj => by rcases (show j = 0 ∨ j = 1 ∨ j = 2 from by omega) with rfl | rfl | rfl <;> rfl) rfl ⟨Nat.le_of_ble_eq_true rfl, Nat.le_of_ble_eq_true rfl⟩ rfl trivial rfl (by decide) rfl (fun h1 ag1 => ?_)
  refine Z_dup C dL_law_3 rfl ?_
  refine Z_callIS C (b := 0) (wa := []) (ws' := xW S00 S00 R00) c_X2_init i_X2_init g_51 dL_law_4 ⟨Nat.le_of_ble_eq_true rfl, Nat.le_of_ble_eq_true rfl⟩ ⟨Nat.le_of_ble_eq_true rfl, Nat.le_of_ble_eq_true rfl⟩ (Nat.le_of_ble_eq_true rfl) rfl rfl trivial rfl rfl rfl (NX := 25) rfl (by decide) (by repeat' (first | exact trivial | exact rfl | constructor)) (fun h2 ag2 => ?_)
  refine Z_astore_n C (L' := [(1, .ref 0), (0, .ref 1000)]) dL_law_7 rfl (by decide) rfl ?_
  refine Z_newS C K3 (fs := [.int 0, .int 0, .int 0, .null, .null, .null, .null, .null, .null]) (W9 := 25) dL_law_8 g_566 g_567 g_40 (fun j hj => by rcases (show j = 0 ∨ j = 1 ∨ j = 2 ∨ j = 3 ∨ j = 4 ∨ j = 5 ∨ j = 6 ∨ j = 7 ∨ j = 8 from by omega) with rfl | rfl | rfl | rfl | rfl | rfl | rfl | rfl | rfl <;> rfl) rfl ⟨Nat.le_of_ble_eq_true rfl, Nat.le_of_ble_eq_true rfl⟩ rfl (by repeat' (first | exact trivial | exact rfl | constructor)) rfl (by decide) rfl (fun h3 ag3 => ?_)
  refine Z_dup C dL_law_11 rfl ?_
  refine Z_callIS C (b := 25) (wa := xW S00 S00 R00) (ws' := xW S00 S00 R00 ++ mdW 25 M00) c_X3_init i_X3_init g_568 dL_law_12 ⟨Nat.le_of_ble_eq_true rfl, Nat.le_of_ble_eq_true rfl⟩ ⟨Nat.le_of_ble_eq_true rfl, Nat.le_of_ble_eq_true rfl⟩ (Nat.le_of_ble_eq_true rfl) rfl rfl (by repeat' (first | exact trivial | exact rfl | constructor)) rfl rfl rfl (NX := 32) rfl (by decide) (by repeat' (first | exact trivial | exact rfl | constructor)) (fun h4 ag4 => ?_)
  refine Z_astore_n C (L' := [(2, .ref 25), (1, .ref 0), (0, .ref 1000)]) dL_law_15 rfl (by decide) rfl ?_
  refine Z_iconst C (v := 1) dL_law_16 (by decide) ?_
  refine Z_newlS C (N := 1) (W9 := 32) dL_law_17 g_782 (by decide) (by decide) (by decide) ⟨Nat.le_of_ble_eq_true rfl, Nat.le_of_ble_eq_true rfl⟩ rfl (by repeat' (first | exact trivial | exact rfl | constructor)) rfl (by decide) rfl (fun h5 ag5 => ?_)
  refine Z_astore_n C (L' := [(3, .ref 32), (2, .ref 25), (1, .ref 0), (0, .ref 1000)]) dL_law_19 rfl (by decide) rfl ?_
  refine Z_iconst C (v := nI 0) dL_law_20 (by decide) ?_
  refine Z_istore C (L' := Lc (5 * 0)) dL_law_21 (by decide) rfl ?_
  have hh5 : h5 1000 = b := by rw [ag5 1000 (Or.inr (by decide)), ag4 1000 (Or.inr (by decide)), ag3 1000 (Or.inr (by decide)), ag2 1000 (Or.inr (by decide)), ag1 1000 (Or.inr (by decide)), hh]
  have hloop := L_loop (p := p) (l := l) (e := e) (below := below) (meth := meth) C hst hY hX hbl (Nat.not_le.mpr hbl) hh5 hN (law_end C hr hlocks) 513 0 S00 S00 R00 M00 (fun _ => 0) 0 0 rfl (Nat.zero_le _) Si_00
  refine Z_widen (k' := 100 + 5 * 0) (n' := 3000 + 380 * 0) (by decide) (by decide) ?_
  exact hloop
