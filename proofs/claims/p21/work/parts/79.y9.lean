/-! an act, whole -/
set_option maxHeartbeats 400000 in
set_option maxRecDepth 20000 in
theorem act_d {p : Program} {l : Launch} {e : Env} {s : State} {m : MethodId} {args : Array Value} {below : List Frame} {meth : Method} {c : Code} {G : gG} {h hv : Nat → Nat} {A : Nat → Prop} {b N : Nat} {xs : Nat → Int32} {x kv ov wv tv : Int32} {n r : Nat} {M : Md} {T : WF} {K D : St} {B : Sr} (C : Cx p s m args c cL_act 23 RL G A) (S : Cs l s A b N xs) (hr : meth.sig.returnType = some .boolean) (hlk : meth.locks = false) (ag0 : ∀ i, kpA i → hv i = h i) (I : LI n r B K M) (hT : okT T) (hk : n = 0 ∨ ∃ k : Nat, k < n ∧ kv = nI k ∧ (ov = -1 ∨ ∃ o : Nat, o < n ∧ ov = nI o ∧ o ≠ k)) (hw : ∃ a : Nat, a ≤ 20 ∧ wv = nI a) (i1 : isInB wv 1 20 = true) (i2 : isInB tv 1 60 = true) : Y p l e (gRm 7 740 19900) s m args below meth c 23 G A hv (MQ below (gQm G h A kpA (actF n r M T)) args s 740 19900 A) 0 0 (gW (xW K D B) n r M (tN T)) 103 [(0, .ref 0), (1, .ref 100), (2, .int x), (3, .int (nI n)), (4, .int kv), (5, .int ov), (6, .int wv), (7, .int tv)] [] := by
  have h40 := I.h40
  have h30 := I.h30
  have hC := okC_x K D B
  have hTN := okT_N hT
  by_cases hn0 : n = 0
  · refine Y_iload_n C dL_act_103 rfl rfl ?_
    refine Y_if_ne C 111 dL_act_104 (by decide) (fun cc1 => absurd (by rw [hn0]; rfl) cc1) (fun cc1 => ?_)
    refine Y_iconst C (v := 0) dL_act_107 (by decide) ?_
    refine Y_goto C 120 dL_act_108 (by decide) ?_
    refine Y_tIn C 0 176 dL_act_120 rfl (by decide) (by decide) rfl (by decide) ?_
    exact act_0 C S hr hlk (fun i hi => (ag0 i (by first | trivial | exact hi | ((try unfold kpA at hi); (try dsimp only at hi); (try dsimp only); omega)))) I hT hw i1 i2
  · have hn1 : 1 ≤ n := by omega
    obtain ⟨k, hkn, rfl, ho⟩ := hk.resolve_left hn0
    refine Y_iload_n C dL_act_103 rfl rfl ?_
    refine Y_if_ne C 111 dL_act_104 (by decide) (fun cc2 => ?_) (fun cc2 => absurd cc2 (fun z => hn0 ((nI_eq (b := 0) (by omega) (by omega)).mp z)))
    refine Y_iload_n C dL_act_111 rfl rfl ?_
    refine Y_bipush C (v := 9) dL_act_112 (by decide) ?_
    refine Y_ishr C (v := x >>> (9 &&& 31)) dL_act_114 rfl ?_
    refine Y_bipush C (v := 11) dL_act_115 (by decide) ?_
    refine Y_stk [.int (nI 11), .int (x >>> (9 &&& 31))] rfl ?_
    obtain ⟨j1, hj1, ej1⟩ := bl_nI (x >>> (9 &&& 31)) (n := 11) (by decide) (by omega)
    refine Y_callMS C S (c_L_below (w := gW (xW K D B) n r M (tN T)) (x := x >>> (9 &&& 31)) (y := nI 11) (fun z => absurd ((nI_eq (b := 0) (by omega) (by omega)).mp z) (by omega))) m_L_below g_427 dL_act_117 rfl rfl ⟨Nat.le_of_ble_eq_true rfl, Nat.le_of_ble_eq_true rfl⟩ ⟨Nat.le_of_ble_eq_true rfl, Nat.le_of_ble_eq_true rfl⟩ (Nat.le_of_ble_eq_true rfl) ⟨(by first | trivial | (unfold vR; (try dsimp only); omega)), (by first | trivial | (unfold vR; (try dsimp only); omega)), trivial, trivial, trivial, trivial, trivial, trivial, trivial⟩ trivial (fun h3 r3 w3 ag3 F3 => ?_)
    obtain ⟨rfl, rfl⟩ := F3
    refine Y_stk [.int (bl (x >>> (9 &&& 31)) (nI 11))] rfl ?_
    refine Y_stk [.int (nI j1)] (by rw [ej1]) ?_
    rcases (show j1 = 0 ∨ j1 = 1 ∨ j1 = 2 ∨ j1 = 3 ∨ j1 = 4 ∨ j1 = 5 ∨ j1 = 6 ∨ j1 = 7 ∨ j1 = 8 ∨ j1 = 9 ∨ j1 = 10 by omega) with rfl | rfl | rfl | rfl | rfl | rfl | rfl | rfl | rfl | rfl | rfl
    · refine Y_tIn C 0 176 dL_act_120 rfl (by decide) (by decide) rfl (by decide) ?_
      exact act_0 C S hr hlk (fun i hi => ((ag3 i (by first | trivial | exact hi | ((try unfold kpA at hi); (try dsimp only at hi); (try dsimp only); omega))).trans (ag0 i (by first | trivial | exact hi | ((try unfold kpA at hi); (try dsimp only at hi); (try dsimp only); omega))))) I hT hw i1 i2
    · refine Y_tIn C 1 230 dL_act_120 rfl (by decide) (by decide) rfl (by decide) ?_
      exact act_1 C S hr hlk (fun i hi => ((ag3 i (by first | trivial | exact hi | ((try unfold kpA at hi); (try dsimp only at hi); (try dsimp only); omega))).trans (ag0 i (by first | trivial | exact hi | ((try unfold kpA at hi); (try dsimp only at hi); (try dsimp only); omega))))) I hT hw i1 i2 hkn ho
    · refine Y_tIn C 2 230 dL_act_120 rfl (by decide) (by decide) rfl (by decide) ?_
      exact act_1 C S hr hlk (fun i hi => ((ag3 i (by first | trivial | exact hi | ((try unfold kpA at hi); (try dsimp only at hi); (try dsimp only); omega))).trans (ag0 i (by first | trivial | exact hi | ((try unfold kpA at hi); (try dsimp only at hi); (try dsimp only); omega))))) I hT hw i1 i2 hkn ho
    · refine Y_tIn C 3 230 dL_act_120 rfl (by decide) (by decide) rfl (by decide) ?_
      exact act_1 C S hr hlk (fun i hi => ((ag3 i (by first | trivial | exact hi | ((try unfold kpA at hi); (try dsimp only at hi); (try dsimp only); omega))).trans (ag0 i (by first | trivial | exact hi | ((try unfold kpA at hi); (try dsimp only at hi); (try dsimp only); omega))))) I hT hw i1 i2 hkn ho
    · refine Y_tIn C 4 230 dL_act_120 rfl (by decide) (by decide) rfl (by decide) ?_
      exact act_1 C S hr hlk (fun i hi => ((ag3 i (by first | trivial | exact hi | ((try unfold kpA at hi); (try dsimp only at hi); (try dsimp only); omega))).trans (ag0 i (by first | trivial | exact hi | ((try unfold kpA at hi); (try dsimp only at hi); (try dsimp only); omega))))) I hT hw i1 i2 hkn ho
    · refine Y_tIn C 5 365 dL_act_120 rfl (by decide) (by decide) rfl (by decide) ?_
      exact act_5 C S hr hlk (fun i hi => ((ag3 i (by first | trivial | exact hi | ((try unfold kpA at hi); (try dsimp only at hi); (try dsimp only); omega))).trans (ag0 i (by first | trivial | exact hi | ((try unfold kpA at hi); (try dsimp only at hi); (try dsimp only); omega))))) I hT hkn
    · refine Y_tIn C 6 365 dL_act_120 rfl (by decide) (by decide) rfl (by decide) ?_
      exact act_5 C S hr hlk (fun i hi => ((ag3 i (by first | trivial | exact hi | ((try unfold kpA at hi); (try dsimp only at hi); (try dsimp only); omega))).trans (ag0 i (by first | trivial | exact hi | ((try unfold kpA at hi); (try dsimp only at hi); (try dsimp only); omega))))) I hT hkn
    · refine Y_tIn C 7 452 dL_act_120 rfl (by decide) (by decide) rfl (by decide) ?_
      exact act_7 C S hr hlk (fun i hi => ((ag3 i (by first | trivial | exact hi | ((try unfold kpA at hi); (try dsimp only at hi); (try dsimp only); omega))).trans (ag0 i (by first | trivial | exact hi | ((try unfold kpA at hi); (try dsimp only at hi); (try dsimp only); omega))))) I hT hkn
    · refine Y_tIn C 8 539 dL_act_120 rfl (by decide) (by decide) rfl (by decide) ?_
      exact act_8 C S hr hlk (fun i hi => ((ag3 i (by first | trivial | exact hi | ((try unfold kpA at hi); (try dsimp only at hi); (try dsimp only); omega))).trans (ag0 i (by first | trivial | exact hi | ((try unfold kpA at hi); (try dsimp only at hi); (try dsimp only); omega))))) I hT hkn ho
    · refine Y_tIn C 9 539 dL_act_120 rfl (by decide) (by decide) rfl (by decide) ?_
      exact act_8 C S hr hlk (fun i hi => ((ag3 i (by first | trivial | exact hi | ((try unfold kpA at hi); (try dsimp only at hi); (try dsimp only); omega))).trans (ag0 i (by first | trivial | exact hi | ((try unfold kpA at hi); (try dsimp only at hi); (try dsimp only); omega))))) I hT hkn ho
    · refine Y_tOut C 678 dL_act_120 (by decide) (by decide) ?_
      exact act_10 C S hr hlk (fun i hi => ((ag3 i (by first | trivial | exact hi | ((try unfold kpA at hi); (try dsimp only at hi); (try dsimp only); omega))).trans (ag0 i (by first | trivial | exact hi | ((try unfold kpA at hi); (try dsimp only at hi); (try dsimp only); omega))))) I hT hn1
set_option maxHeartbeats 400000 in
set_option maxRecDepth 20000 in
theorem act_s {p : Program} {l : Launch} {e : Env} {s : State} {m : MethodId} {args : Array Value} {below : List Frame} {meth : Method} {c : Code} {G : gG} {h hv : Nat → Nat} {A : Nat → Prop} {b N : Nat} {xs : Nat → Int32} {x kv ov wv : Int32} {n r : Nat} {M : Md} {T : WF} {K D : St} {B : Sr} (C : Cx p s m args c cL_act 23 RL G A) (S : Cs l s A b N xs) (hr : meth.sig.returnType = some .boolean) (hlk : meth.locks = false) (ag0 : ∀ i, kpA i → hv i = h i) (I : LI n r B K M) (hT : okT T) (hk : n = 0 ∨ ∃ k : Nat, k < n ∧ kv = nI k ∧ (ov = -1 ∨ ∃ o : Nat, o < n ∧ ov = nI o ∧ o ≠ k)) (hw : ∃ a : Nat, a ≤ 20 ∧ wv = nI a) (i1 : isInB wv 1 20 = true) : Y p l e (gRm 7 740 19900) s m args below meth c 23 G A hv (MQ below (gQm G h A kpA (actF n r M T)) args s 740 19900 A) 0 0 (gW (xW K D B) n r M (tN T)) 76 [(0, .ref 0), (1, .ref 100), (2, .int x), (3, .int (nI n)), (4, .int kv), (5, .int ov), (6, .int wv)] [] := by
  have h40 := I.h40
  have h30 := I.h30
  have hC := okC_x K D B
  have hTN := okT_N hT
  refine Y_iconst C (v := 1) dL_act_76 (by decide) ?_
  refine Y_iload_n C dL_act_77 rfl rfl ?_
  refine Y_iconst C (v := 4) dL_act_78 (by decide) ?_
  refine Y_ishr C (v := x >>> (4 &&& 31)) dL_act_79 rfl ?_
  refine Y_iload_n C dL_act_80 rfl rfl ?_
  refine Y_iconst C (v := 5) dL_act_81 (by decide) ?_
  refine Y_ishr C (v := x >>> (5 &&& 31)) dL_act_82 rfl ?_
  refine Y_iconst C (v := 3) dL_act_83 (by decide) ?_
  refine Y_stk [.int (nI 3), .int (x >>> (5 &&& 31)), .int (x >>> (4 &&& 31)), .int 1] rfl ?_
  obtain ⟨j1, hj1, ej1⟩ := bl_nI (x >>> (5 &&& 31)) (n := 3) (by decide) (by omega)
  refine Y_callMS C S (c_L_below (w := gW (xW K D B) n r M (tN T)) (x := x >>> (5 &&& 31)) (y := nI 3) (fun z => absurd ((nI_eq (b := 0) (by omega) (by omega)).mp z) (by omega))) m_L_below g_427 dL_act_84 rfl rfl ⟨Nat.le_of_ble_eq_true rfl, Nat.le_of_ble_eq_true rfl⟩ ⟨Nat.le_of_ble_eq_true rfl, Nat.le_of_ble_eq_true rfl⟩ (Nat.le_of_ble_eq_true rfl) ⟨(by first | trivial | (unfold vR; (try dsimp only); omega)), (by first | trivial | (unfold vR; (try dsimp only); omega)), trivial, trivial, trivial, trivial, trivial, trivial⟩ ⟨trivial, trivial, trivial⟩ (fun h1 r1 w1 ag1 F1 => ?_)
  obtain ⟨rfl, rfl⟩ := F1
  refine Y_stk [.int (bl (x >>> (5 &&& 31)) (nI 3)), .int (x >>> (4 &&& 31)), .int 1] rfl ?_
  refine Y_stk [.int (nI j1), .int (x >>> (4 &&& 31)), .int 1] (by rw [ej1]) ?_
  refine Y_if_ne C 95 dL_act_87 (by decide) (fun cc2 => ?_) (fun cc2 => ?_)
  · refine Y_bipush C (v := 60) dL_act_95 (by decide) ?_
    refine Y_stk [.int (nI 60), .int (x >>> (4 &&& 31)), .int 1] rfl ?_
    obtain ⟨j2, hj2, ej2⟩ := bl_nI (x >>> (4 &&& 31)) (n := 60) (by decide) (by omega)
    refine Y_callMS C S (c_L_below (w := gW (xW K D B) n r M (tN T)) (x := x >>> (4 &&& 31)) (y := nI 60) (fun z => absurd ((nI_eq (b := 0) (by omega) (by omega)).mp z) (by omega))) m_L_below g_427 dL_act_97 rfl rfl ⟨Nat.le_of_ble_eq_true rfl, Nat.le_of_ble_eq_true rfl⟩ ⟨Nat.le_of_ble_eq_true rfl, Nat.le_of_ble_eq_true rfl⟩ (Nat.le_of_ble_eq_true rfl) ⟨(by first | trivial | (unfold vR; (try dsimp only); omega)), (by first | trivial | (unfold vR; (try dsimp only); omega)), trivial, trivial, trivial, trivial, trivial, trivial⟩ ⟨trivial, trivial⟩ (fun h3 r3 w3 ag3 F3 => ?_)
    obtain ⟨rfl, rfl⟩ := F3
    refine Y_stk [.int (bl (x >>> (4 &&& 31)) (nI 60)), .int 1] rfl ?_
    refine Y_stk [.int (nI j2), .int 1] (by rw [ej2]) ?_
    refine Y_stk [.int (nI j2), .int (nI 1)] rfl ?_
    refine Y_iadd C (v := nI (1 + j2)) dL_act_100 (nI_add 1 j2) ?_
    refine Y_istore C (L' := [(7, .int (nI (1 + j2))), (0, .ref 0), (1, .ref 100), (2, .int x), (3, .int (nI n)), (4, .int kv), (5, .int ov), (6, .int wv)]) dL_act_101 (by decide) rfl ?_
    refine Y_sub (L' := [(7, .int (nI (1 + j2))), (0, .ref 0), (1, .ref 100), (2, .int x), (3, .int (nI n)), (4, .int kv), (5, .int ov), (6, .int wv)]) (by simp) ?_
    exact Y_sub (by simp) (act_d (x := x) (kv := kv) (ov := ov) (wv := wv) (tv := nI (1 + j2)) C S hr hlk (fun i hi => ((ag3 i (by first | trivial | exact hi | ((try unfold kpA at hi); (try dsimp only at hi); (try dsimp only); omega))).trans ((ag1 i (by first | trivial | exact hi | ((try unfold kpA at hi); (try dsimp only at hi); (try dsimp only); omega))).trans (ag0 i (by first | trivial | exact hi | ((try unfold kpA at hi); (try dsimp only at hi); (try dsimp only); omega)))))) I hT hk hw i1 (in_nI (lo := 1) (hi := 60) (by omega) (by omega) (by decide)))
  · refine Y_bipush C (v := 20) dL_act_90 (by decide) ?_
    refine Y_goto C 97 dL_act_92 (by decide) ?_
    refine Y_stk [.int (nI 20), .int (x >>> (4 &&& 31)), .int 1] rfl ?_
    obtain ⟨j2, hj2, ej2⟩ := bl_nI (x >>> (4 &&& 31)) (n := 20) (by decide) (by omega)
    refine Y_callMS C S (c_L_below (w := gW (xW K D B) n r M (tN T)) (x := x >>> (4 &&& 31)) (y := nI 20) (fun z => absurd ((nI_eq (b := 0) (by omega) (by omega)).mp z) (by omega))) m_L_below g_427 dL_act_97 rfl rfl ⟨Nat.le_of_ble_eq_true rfl, Nat.le_of_ble_eq_true rfl⟩ ⟨Nat.le_of_ble_eq_true rfl, Nat.le_of_ble_eq_true rfl⟩ (Nat.le_of_ble_eq_true rfl) ⟨(by first | trivial | (unfold vR; (try dsimp only); omega)), (by first | trivial | (unfold vR; (try dsimp only); omega)), trivial, trivial, trivial, trivial, trivial, trivial⟩ ⟨trivial, trivial⟩ (fun h4 r4 w4 ag4 F4 => ?_)
    obtain ⟨rfl, rfl⟩ := F4
    refine Y_stk [.int (bl (x >>> (4 &&& 31)) (nI 20)), .int 1] rfl ?_
    refine Y_stk [.int (nI j2), .int 1] (by rw [ej2]) ?_
    refine Y_stk [.int (nI j2), .int (nI 1)] rfl ?_
    refine Y_iadd C (v := nI (1 + j2)) dL_act_100 (nI_add 1 j2) ?_
    refine Y_istore C (L' := [(7, .int (nI (1 + j2))), (0, .ref 0), (1, .ref 100), (2, .int x), (3, .int (nI n)), (4, .int kv), (5, .int ov), (6, .int wv)]) dL_act_101 (by decide) rfl ?_
    refine Y_sub (L' := [(7, .int (nI (1 + j2))), (0, .ref 0), (1, .ref 100), (2, .int x), (3, .int (nI n)), (4, .int kv), (5, .int ov), (6, .int wv)]) (by simp) ?_
    exact Y_sub (by simp) (act_d (x := x) (kv := kv) (ov := ov) (wv := wv) (tv := nI (1 + j2)) C S hr hlk (fun i hi => ((ag4 i (by first | trivial | exact hi | ((try unfold kpA at hi); (try dsimp only at hi); (try dsimp only); omega))).trans ((ag1 i (by first | trivial | exact hi | ((try unfold kpA at hi); (try dsimp only at hi); (try dsimp only); omega))).trans (ag0 i (by first | trivial | exact hi | ((try unfold kpA at hi); (try dsimp only at hi); (try dsimp only); omega)))))) I hT hk hw i1 (in_nI (lo := 1) (hi := 60) (by omega) (by omega) (by decide)))
set_option maxHeartbeats 400000 in
set_option maxRecDepth 20000 in
theorem act_w {p : Program} {l : Launch} {e : Env} {s : State} {m : MethodId} {args : Array Value} {below : List Frame} {meth : Method} {c : Code} {G : gG} {h hv : Nat → Nat} {A : Nat → Prop} {b N : Nat} {xs : Nat → Int32} {x kv ov : Int32} {n r : Nat} {M : Md} {T : WF} {K D : St} {B : Sr} (C : Cx p s m args c cL_act 23 RL G A) (S : Cs l s A b N xs) (hr : meth.sig.returnType = some .boolean) (hlk : meth.locks = false) (ag0 : ∀ i, kpA i → hv i = h i) (I : LI n r B K M) (hT : okT T) (hk : n = 0 ∨ ∃ k : Nat, k < n ∧ kv = nI k ∧ (ov = -1 ∨ ∃ o : Nat, o < n ∧ ov = nI o ∧ o ≠ k)) : Y p l e (gRm 7 740 19900) s m args below meth c 23 G A hv (MQ below (gQm G h A kpA (actF n r M T)) args s 740 19900 A) 0 0 (gW (xW K D B) n r M (tN T)) 48 [(0, .ref 0), (1, .ref 100), (2, .int x), (3, .int (nI n)), (4, .int kv), (5, .int ov)] [] := by
  have h40 := I.h40
  have h30 := I.h30
  have hC := okC_x K D B
  have hTN := okT_N hT
  refine Y_iconst C (v := 1) dL_act_48 (by decide) ?_
  refine Y_iload_n C dL_act_49 rfl rfl ?_
  refine Y_iconst C (v := 2) dL_act_50 (by decide) ?_
  refine Y_ishr C (v := x >>> (2 &&& 31)) dL_act_51 rfl ?_
  refine Y_iload_n C dL_act_52 rfl rfl ?_
  refine Y_bipush C (v := 6) dL_act_53 (by decide) ?_
  refine Y_ishr C (v := x >>> (6 &&& 31)) dL_act_55 rfl ?_
  refine Y_iconst C (v := 3) dL_act_56 (by decide) ?_
  refine Y_stk [.int (nI 3), .int (x >>> (6 &&& 31)), .int (x >>> (2 &&& 31)), .int 1] rfl ?_
  obtain ⟨j1, hj1, ej1⟩ := bl_nI (x >>> (6 &&& 31)) (n := 3) (by decide) (by omega)
  refine Y_callMS C S (c_L_below (w := gW (xW K D B) n r M (tN T)) (x := x >>> (6 &&& 31)) (y := nI 3) (fun z => absurd ((nI_eq (b := 0) (by omega) (by omega)).mp z) (by omega))) m_L_below g_427 dL_act_57 rfl rfl ⟨Nat.le_of_ble_eq_true rfl, Nat.le_of_ble_eq_true rfl⟩ ⟨Nat.le_of_ble_eq_true rfl, Nat.le_of_ble_eq_true rfl⟩ (Nat.le_of_ble_eq_true rfl) ⟨(by first | trivial | (unfold vR; (try dsimp only); omega)), (by first | trivial | (unfold vR; (try dsimp only); omega)), trivial, trivial, trivial, trivial, trivial⟩ ⟨trivial, trivial, trivial⟩ (fun h1 r1 w1 ag1 F1 => ?_)
  obtain ⟨rfl, rfl⟩ := F1
  refine Y_stk [.int (bl (x >>> (6 &&& 31)) (nI 3)), .int (x >>> (2 &&& 31)), .int 1] rfl ?_
  refine Y_stk [.int (nI j1), .int (x >>> (2 &&& 31)), .int 1] (by rw [ej1]) ?_
  refine Y_if_ne C 68 dL_act_60 (by decide) (fun cc2 => ?_) (fun cc2 => ?_)
  · refine Y_bipush C (v := 6) dL_act_68 (by decide) ?_
    refine Y_stk [.int (nI 6), .int (x >>> (2 &&& 31)), .int 1] rfl ?_
    obtain ⟨j2, hj2, ej2⟩ := bl_nI (x >>> (2 &&& 31)) (n := 6) (by decide) (by omega)
    refine Y_callMS C S (c_L_below (w := gW (xW K D B) n r M (tN T)) (x := x >>> (2 &&& 31)) (y := nI 6) (fun z => absurd ((nI_eq (b := 0) (by omega) (by omega)).mp z) (by omega))) m_L_below g_427 dL_act_70 rfl rfl ⟨Nat.le_of_ble_eq_true rfl, Nat.le_of_ble_eq_true rfl⟩ ⟨Nat.le_of_ble_eq_true rfl, Nat.le_of_ble_eq_true rfl⟩ (Nat.le_of_ble_eq_true rfl) ⟨(by first | trivial | (unfold vR; (try dsimp only); omega)), (by first | trivial | (unfold vR; (try dsimp only); omega)), trivial, trivial, trivial, trivial, trivial⟩ ⟨trivial, trivial⟩ (fun h3 r3 w3 ag3 F3 => ?_)
    obtain ⟨rfl, rfl⟩ := F3
    refine Y_stk [.int (bl (x >>> (2 &&& 31)) (nI 6)), .int 1] rfl ?_
    refine Y_stk [.int (nI j2), .int 1] (by rw [ej2]) ?_
    refine Y_stk [.int (nI j2), .int (nI 1)] rfl ?_
    refine Y_iadd C (v := nI (1 + j2)) dL_act_73 (nI_add 1 j2) ?_
    refine Y_istore C (L' := [(6, .int (nI (1 + j2))), (0, .ref 0), (1, .ref 100), (2, .int x), (3, .int (nI n)), (4, .int kv), (5, .int ov)]) dL_act_74 (by decide) rfl ?_
    refine Y_sub (L' := [(6, .int (nI (1 + j2))), (0, .ref 0), (1, .ref 100), (2, .int x), (3, .int (nI n)), (4, .int kv), (5, .int ov)]) (by simp) ?_
    exact Y_sub (by simp) (act_s (x := x) (kv := kv) (ov := ov) (wv := nI (1 + j2)) C S hr hlk (fun i hi => ((ag3 i (by first | trivial | exact hi | ((try unfold kpA at hi); (try dsimp only at hi); (try dsimp only); omega))).trans ((ag1 i (by first | trivial | exact hi | ((try unfold kpA at hi); (try dsimp only at hi); (try dsimp only); omega))).trans (ag0 i (by first | trivial | exact hi | ((try unfold kpA at hi); (try dsimp only at hi); (try dsimp only); omega)))))) I hT hk ⟨1 + j2, by omega, rfl⟩ (in_nI (lo := 1) (hi := 20) (by omega) (by omega) (by decide)))
  · refine Y_bipush C (v := 20) dL_act_63 (by decide) ?_
    refine Y_goto C 70 dL_act_65 (by decide) ?_
    refine Y_stk [.int (nI 20), .int (x >>> (2 &&& 31)), .int 1] rfl ?_
    obtain ⟨j2, hj2, ej2⟩ := bl_nI (x >>> (2 &&& 31)) (n := 20) (by decide) (by omega)
    refine Y_callMS C S (c_L_below (w := gW (xW K D B) n r M (tN T)) (x := x >>> (2 &&& 31)) (y := nI 20) (fun z => absurd ((nI_eq (b := 0) (by omega) (by omega)).mp z) (by omega))) m_L_below g_427 dL_act_70 rfl rfl ⟨Nat.le_of_ble_eq_true rfl, Nat.le_of_ble_eq_true rfl⟩ ⟨Nat.le_of_ble_eq_true rfl, Nat.le_of_ble_eq_true rfl⟩ (Nat.le_of_ble_eq_true rfl) ⟨(by first | trivial | (unfold vR; (try dsimp only); omega)), (by first | trivial | (unfold vR; (try dsimp only); omega)), trivial, trivial, trivial, trivial, trivial⟩ ⟨trivial, trivial⟩ (fun h4 r4 w4 ag4 F4 => ?_)
    obtain ⟨rfl, rfl⟩ := F4
    refine Y_stk [.int (bl (x >>> (2 &&& 31)) (nI 20)), .int 1] rfl ?_
    refine Y_stk [.int (nI j2), .int 1] (by rw [ej2]) ?_
    refine Y_stk [.int (nI j2), .int (nI 1)] rfl ?_
    refine Y_iadd C (v := nI (1 + j2)) dL_act_73 (nI_add 1 j2) ?_
    refine Y_istore C (L' := [(6, .int (nI (1 + j2))), (0, .ref 0), (1, .ref 100), (2, .int x), (3, .int (nI n)), (4, .int kv), (5, .int ov)]) dL_act_74 (by decide) rfl ?_
    refine Y_sub (L' := [(6, .int (nI (1 + j2))), (0, .ref 0), (1, .ref 100), (2, .int x), (3, .int (nI n)), (4, .int kv), (5, .int ov)]) (by simp) ?_
    exact Y_sub (by simp) (act_s (x := x) (kv := kv) (ov := ov) (wv := nI (1 + j2)) C S hr hlk (fun i hi => ((ag4 i (by first | trivial | exact hi | ((try unfold kpA at hi); (try dsimp only at hi); (try dsimp only); omega))).trans ((ag1 i (by first | trivial | exact hi | ((try unfold kpA at hi); (try dsimp only at hi); (try dsimp only); omega))).trans (ag0 i (by first | trivial | exact hi | ((try unfold kpA at hi); (try dsimp only at hi); (try dsimp only); omega)))))) I hT hk ⟨1 + j2, by omega, rfl⟩ (in_nI (lo := 1) (hi := 20) (by omega) (by omega) (by decide)))
set_option maxHeartbeats 4000000 in
set_option maxRecDepth 20000 in
theorem c_L_act {n r : Nat} {M : Md} {T : WF} {K D : St} {B : Sr} {x : Int32} (I : LI n r B K M) (hT : okT T) : CTm yL_act cL_act 23 (some .boolean) 7 740 19900 [.ref 0, .ref 100, .int x] (gW (xW K D B) n r M T) (kpA) (actF n r M T) := by
  refine CTm_of (L := [(0, .ref 0), (1, .ref 100), (2, .int x)]) (by decide) (fun _ => rfl) (fun _ => Nat.le_of_ble_eq_true rfl) ?_
  intro p l e s m args below meth c G h A b N xs C S hr hlk hnm
  have h40 := I.h40
  have h30 := I.h30
  refine Y_less (w' := gW (xW K D B) n r M (tN T)) (gW_less (tN_less T)) ?_
  refine Y_aload_n C dL_act_0 rfl rfl ?_
  refine Y_get C K3 (v := .ref 101) 0 dL_act_1 gW_100 (by decide) g_578 rfl rfl ?_
  refine Y_alen C (i := 2) (v := nI n) dL_act_4 gW_101 rfl rfl ?_
  refine Y_istore_n C (L' := [(3, .int (nI n)), (0, .ref 0), (1, .ref 100), (2, .int x)]) dL_act_5 rfl (by decide) rfl ?_
  by_cases hn0 : n = 0
  · refine Y_iload_n C dL_act_6 rfl rfl ?_
    refine Y_if_ne C 14 dL_act_7 (by decide) (fun cc1 => absurd (by rw [hn0]; rfl) cc1) (fun cc1 => ?_)
    refine Y_iconst C (v := (-1)) dL_act_10 (by decide) ?_
    refine Y_goto C 19 dL_act_11 (by decide) ?_
    refine Y_istore C (L' := [(4, .int (-1)), (3, .int (nI n)), (0, .ref 0), (1, .ref 100), (2, .int x)]) dL_act_19 (by decide) rfl ?_
    refine Y_iload_n C dL_act_21 rfl rfl ?_
    refine Y_iconst C (v := 2) dL_act_22 (by decide) ?_
    refine Y_icmp_ge C 30 dL_act_23 (by decide) (fun cc2 => absurd cc2 (by rw [hn0]; decide)) (fun cc2 => ?_)
    refine Y_iconst C (v := (-1)) dL_act_26 (by decide) ?_
    refine Y_goto C 46 dL_act_27 (by decide) ?_
    refine Y_istore C (L' := [(5, .int (-1)), (4, .int (-1)), (3, .int (nI n)), (0, .ref 0), (1, .ref 100), (2, .int x)]) dL_act_46 (by decide) rfl ?_
    refine Y_sub (L' := [(5, .int (-1)), (4, .int (-1)), (3, .int (nI n)), (0, .ref 0), (1, .ref 100), (2, .int x)]) (by simp) ?_
    exact Y_sub (by simp) (act_w (x := x) (kv := -1) (ov := -1) C S hr hlk (fun _ _ => rfl) I hT (Or.inl hn0))
  · refine Y_iload_n C dL_act_6 rfl rfl ?_
    refine Y_if_ne C 14 dL_act_7 (by decide) (fun cc3 => ?_) (fun cc3 => absurd cc3 (fun z => hn0 ((nI_eq (b := 0) (by omega) (by omega)).mp z)))
    refine Y_iload_n C dL_act_14 rfl rfl ?_
    refine Y_iload_n C dL_act_15 rfl rfl ?_
    obtain ⟨k, hk, ek⟩ := bl_nI (x) (n := n) (by omega) (by omega)
    refine Y_callMS C S (c_L_below (w := gW (xW K D B) n r M (tN T)) (x := x) (y := nI n) (fun z => absurd ((nI_eq (b := 0) (by omega) (by omega)).mp z) (by omega))) m_L_below g_427 dL_act_16 rfl rfl ⟨Nat.le_of_ble_eq_true rfl, Nat.le_of_ble_eq_true rfl⟩ ⟨Nat.le_of_ble_eq_true rfl, Nat.le_of_ble_eq_true rfl⟩ (Nat.le_of_ble_eq_true rfl) ⟨trivial, (by first | trivial | (unfold vR; (try dsimp only); omega)), (by first | trivial | (unfold vR; (try dsimp only); omega)), trivial, trivial⟩ trivial (fun h4 r4 w4 ag4 F4 => ?_)
    obtain ⟨rfl, rfl⟩ := F4
    refine Y_stk [.int (bl (x) (nI n))] rfl ?_
    refine Y_stk [.int (nI k)] (by rw [ek]) ?_
    refine Y_istore C (L' := [(4, .int (nI k)), (3, .int (nI n)), (0, .ref 0), (1, .ref 100), (2, .int x)]) dL_act_19 (by decide) rfl ?_
    by_cases hn2 : n < 2
    · refine Y_iload_n C dL_act_21 rfl rfl ?_
      refine Y_iconst C (v := 2) dL_act_22 (by decide) ?_
      refine Y_icmp_ge C 30 dL_act_23 (by decide) (fun cc5 => absurd cc5 (nI_ge (b := 2) hn2 (by decide))) (fun cc5 => ?_)
      refine Y_iconst C (v := (-1)) dL_act_26 (by decide) ?_
      refine Y_goto C 46 dL_act_27 (by decide) ?_
      refine Y_istore C (L' := [(5, .int (-1)), (4, .int (nI k)), (3, .int (nI n)), (0, .ref 0), (1, .ref 100), (2, .int x)]) dL_act_46 (by decide) rfl ?_
      refine Y_sub (L' := [(5, .int (-1)), (4, .int (nI k)), (3, .int (nI n)), (0, .ref 0), (1, .ref 100), (2, .int x)]) (by simp) ?_
      exact Y_sub (by simp) (act_w (x := x) (kv := nI k) (ov := -1) C S hr hlk (fun i hi => (ag4 i (by first | trivial | exact hi | ((try unfold kpA at hi); (try dsimp only at hi); (try dsimp only); omega)))) I hT (Or.inr ⟨k, hk, rfl, Or.inl rfl⟩))
    · refine Y_iload_n C dL_act_21 rfl rfl ?_
      refine Y_iconst C (v := 2) dL_act_22 (by decide) ?_
      refine Y_icmp_ge C 30 dL_act_23 (by decide) (fun cc6 => ?_) (fun cc6 => absurd (nI_le (a := 2) (by omega) (by omega)) cc6)
      refine Y_iload C dL_act_30 rfl ?_
      refine Y_iconst C (v := 1) dL_act_32 (by decide) ?_
      refine Y_iadd C (v := nI (k + 1)) dL_act_33 (nI_1 k) ?_
      refine Y_iload_n C dL_act_34 rfl rfl ?_
      refine Y_iconst C (v := 3) dL_act_35 (by decide) ?_
      refine Y_ishr C (v := x >>> (3 &&& 31)) dL_act_36 rfl ?_
      refine Y_iload_n C dL_act_37 rfl rfl ?_
      refine Y_iconst C (v := 1) dL_act_38 (by decide) ?_
      refine Y_isub C (v := nI (n - 1)) dL_act_39 (nI_p1 (by omega)) ?_
      obtain ⟨j2, hj2, ej2⟩ := bl_nI (x >>> (3 &&& 31)) (n := n - 1) (by omega) (by omega)
      refine Y_callMS C S (c_L_below (w := gW (xW K D B) n r M (tN T)) (x := x >>> (3 &&& 31)) (y := nI (n - 1)) (fun z => absurd ((nI_eq (b := 0) (by omega) (by omega)).mp z) (by omega))) m_L_below g_427 dL_act_40 rfl rfl ⟨Nat.le_of_ble_eq_true rfl, Nat.le_of_ble_eq_true rfl⟩ ⟨Nat.le_of_ble_eq_true rfl, Nat.le_of_ble_eq_true rfl⟩ (Nat.le_of_ble_eq_true rfl) ⟨trivial, trivial, (by first | trivial | (unfold vR; (try dsimp only); omega)), (by first | trivial | (unfold vR; (try dsimp only); omega)), trivial, trivial⟩ ⟨trivial, trivial⟩ (fun h7 r7 w7 ag7 F7 => ?_)
      obtain ⟨rfl, rfl⟩ := F7
      refine Y_stk [.int (bl (x >>> (3 &&& 31)) (nI (n - 1))), .int (nI (k + 1))] rfl ?_
      refine Y_stk [.int (nI j2), .int (nI (k + 1))] (by rw [ej2]) ?_
      refine Y_iadd C (v := nI (k + 1 + j2)) dL_act_43 (nI_add (k + 1) j2) ?_
      refine Y_iload_n C dL_act_44 rfl rfl ?_
      refine Y_irem C (v := nI ((k + 1 + j2) % n)) dL_act_45 (fun z => absurd ((nI_eq (b := 0) (by omega) (by omega)).mp z) (by omega)) (rem_nI (by omega) (by omega)) ?_
      refine Y_istore C (L' := [(5, .int (nI ((k + 1 + j2) % n))), (4, .int (nI k)), (3, .int (nI n)), (0, .ref 0), (1, .ref 100), (2, .int x)]) dL_act_46 (by decide) rfl ?_
      obtain ⟨hb, hba⟩ := oth_ne hk hj2
      refine Y_sub (L' := [(5, .int (nI ((k + 1 + j2) % n))), (4, .int (nI k)), (3, .int (nI n)), (0, .ref 0), (1, .ref 100), (2, .int x)]) (by simp) ?_
      exact Y_sub (by simp) (act_w (x := x) (kv := nI k) (ov := nI ((k + 1 + j2) % n)) C S hr hlk (fun i hi => ((ag7 i (by first | trivial | exact hi | ((try unfold kpA at hi); (try dsimp only at hi); (try dsimp only); omega))).trans (ag4 i (by first | trivial | exact hi | ((try unfold kpA at hi); (try dsimp only at hi); (try dsimp only); omega))))) I hT (Or.inr ⟨k, hk, rfl, Or.inr ⟨_, hb, rfl, hba⟩⟩))
