/-! the law, from its entry -/
theorem law_end {p : Program} {l : Launch} {e : Env} {s : State} {m : MethodId} {below : List Frame} {meth : Method} {c : Code} {b : Nat} {G : gG} (C : Cx p s m #[Value.ref b] c cL_law 23 RL G (fun q => s.heap.size ≤ q)) (hr : meth.sig.returnType = ret) (hlocks : meth.locks = false) (h : Nat → Nat) (k n : Nat) (w : WF) (L : List (Nat × Value)) (hk : k ≤ 600104) (hn : n ≤ 7301314) : Y p l e room_1 s m #[Value.ref b] below meth c 23 G (fun q => s.heap.size ≤ q) h (lw_Z below #[Value.ref b] s) k n w 999 L [.int 1] := fun H locs ls ws hP hD hM hS hl =>
  W.widen hk hn (va_forget (fun q hq => hS.2.2 q hq) (W.base (lw_ret (Drawn.sameBut.refl s.drawn lw_cs) C.1 C.2.1 hr hlocks dL_law_999)))
set_option maxHeartbeats 1000000 in
set_option maxRecDepth 20000 in
theorem law_Z {p : Program} {e : Env} {s : State} {m : MethodId} {below : List Frame} {meth : Method} {c : Code} {l : Launch} {b N : Nat} {xs : Nat → Int32} {G : gG} (C : Cx p s m #[Value.ref b] c cL_law 23 RL G (fun q => s.heap.size ≤ q)) (S : Cs l s (fun q => s.heap.size ≤ q) b N xs) (hN : N < 2 ^ 31) (hr : meth.sig.returnType = ret) (hlocks : meth.locks = false) {h : Nat → Nat} (hh : h 1000 = b) : Z p l e room_1 s m #[Value.ref b] below meth c 23 G (fun q => s.heap.size ≤ q) h (lw_Z below #[Value.ref b] s) 0 0 [] 0 [(0, .ref 1000)] [] := by
  refine Z_newS C K2 (fs := [.null, .null, .null]) (W9 := 0) dL_law_0 g_26 g_27 g_14 (fun j hj => by rcases (show j = 0 ∨ j = 1 ∨ j = 2 from by omega) with rfl | rfl | rfl <;> rfl) rfl ⟨Nat.le_of_ble_eq_true rfl, Nat.le_of_ble_eq_true rfl⟩ rfl trivial rfl (by decide) rfl (fun h1 ag1 => ?_)
  refine Z_dup C dL_law_3 rfl ?_
  refine Z_callIS C (b := 0) (wa := []) (ws' := xW S00 S00 R00) c_X2_init i_X2_init g_28 dL_law_4 ⟨Nat.le_of_ble_eq_true rfl, Nat.le_of_ble_eq_true rfl⟩ ⟨Nat.le_of_ble_eq_true rfl, Nat.le_of_ble_eq_true rfl⟩ (Nat.le_of_ble_eq_true rfl) rfl rfl trivial rfl rfl rfl (NX := 25) rfl (by decide) (by repeat' (first | exact trivial | exact rfl | constructor)) (fun h2 ag2 => ?_)
  refine Z_astore_n C (L' := [(1, .ref 0), (0, .ref 1000)]) dL_law_7 rfl (by decide) rfl ?_
  refine Z_toY ?_
  have hh2 : h2 1000 = b := by rw [ag2 1000 (Or.inr (by decide)), ag1 1000 (Or.inr (by decide)), hh]
  refine Y_aload_n C dL_law_8 rfl rfl ?_
  refine Y_aload_n C dL_law_9 rfl rfl ?_
  refine Y_callSs C S hh2 (c_L_build hN) m_L_build g_568 dL_law_10 rfl rfl ⟨Nat.le_of_ble_eq_true rfl, Nat.le_of_ble_eq_true rfl⟩ ⟨Nat.le_of_ble_eq_true rfl, Nat.le_of_ble_eq_true rfl⟩ (Nat.le_of_ble_eq_true rfl) ⟨Or.inl (by decide), Or.inr rfl, trivial⟩ trivial (fun h3 r3 w3 ag3 F3 => ?_)
  obtain ⟨rfl, n, r, B, K, D, M, hn1, hd, hdf, I, rfl⟩ := F3
  refine Y_stk [.ref 100] rfl ?_
  refine Y_astore_n C (L' := [(2, .ref 100), (1, .ref 0), (0, .ref 1000)]) dL_law_13 rfl (by decide) rfl ?_
  refine Y_aload_n C dL_law_14 rfl rfl ?_
  refine Y_nonnull C 20 dL_law_15 (by decide) ?_
  refine Y_iconst C (v := nI 0) dL_law_20 (by decide) ?_
  refine Y_istore_n C (L' := [(3, .int (nI 0)), (2, .ref 100), (1, .ref 0), (0, .ref 1000)]) dL_law_21 rfl (by decide) rfl ?_
  refine Y_widen (k' := 15000 + 5000 * 0) (n' := 400000 + 60000 * 0) (by decide) (by decide) ?_
  exact Y_sub (by simp) (law_loop C S hN (law_end C hr hlocks) 30 0 rfl h3 n r B K D M ((ag3 1000 (Or.inr rfl)).trans hh2) I hn1 hd hdf)
