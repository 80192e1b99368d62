/-! an act: prop, renew, stair, swap -/
theorem tRf_o {T : WF} {n : Nat} {f g : Nat → Int32} {i : Nat} (h : i < 410 ∨ 412 < i) : tRf T n f g i = T i := by
  unfold tRf tR
  rw [tU_n _ _ (by omega), tU_n _ _ (by omega), tU_n _ _ (by omega)]
  exact if_neg (by omega)
theorem nI_p1 {r : Nat} (h : 1 ≤ r) : nI r - 1 = nI (r - 1) := sub_nI h
set_option maxHeartbeats 400000 in
set_option maxRecDepth 20000 in
theorem act_5b {p : Program} {l : Launch} {e : Env} {s : State} {m : MethodId} {args : Array Value} {below : List Frame} {meth : Method} {c : Code} {G : gG} {h hv : Nat → Nat} {A : Nat → Prop} {b N : Nat} {xs : Nat → Int32} {n r k b2 : Nat} {M : Md} {T : WF} {K D : St} {B : Sr} (C : Cx p s m args c cL_act 23 RL G A) (S : Cs l s A b N xs) (hr : meth.sig.returnType = some .boolean) (hlk : meth.locks = false) (ag0 : ∀ i, kpA i → hv i = h i) (I : LI n r B K M) (hT : okT T) (hk : k < n) (hb : b2 ≤ 60) (hhk : ¬ M.1 2 k = 0) : Y p l e (gRm 7 740 19900) s m args below meth c 23 G A hv (MQ below (gQm G h A kpA (actF n r M T)) args s 740 19900 A) 0 0 (gW (xW K D B) n r M (tN T)) 406 [(0, .ref 0), (1, .ref 100), (4, .int (nI k)), (10, .int (nI b2))] [] := by
  have h40 := I.h40
  have h30 := I.h30
  have hC := okC_x K D B
  have hTN := okT_N hT
  have hn1 : 1 ≤ n := by omega
  obtain ⟨q1, q2, q3, q4, q5⟩ := LI_prop I hk hhk hb
  have eH : fr (mHa1 M) n 0 = mHa M := by unfold mHa; rw [mN_eq I.mn h40]
  have eH2 : fr (mHa1 (mGv (tA M 6 k (nI b2)))) n 0 = mHa (mGv (tA M 6 k (nI b2))) := by unfold mHa; rw [mN_eq q3.mn h40]
  refine Y_aload_n C dL_act_406 rfl rfl ?_
  refine Y_callM C S (c_X3_hanging (V := xW K D B) (r := r) (M := M) (T := tN T) h40 h30 (fun i hi => (I.2.2.1 i hi).2.2.2.2.2.2.1)) m_X3_hanging K3 g_518 dL_act_407 gW_100 rfl rfl ⟨Nat.le_of_ble_eq_true rfl, Nat.le_of_ble_eq_true rfl⟩ ⟨Nat.le_of_ble_eq_true rfl, Nat.le_of_ble_eq_true rfl⟩ (Nat.le_of_ble_eq_true rfl) ⟨(by first | trivial | (unfold vR; (try dsimp only); omega)), (by first | trivial | (unfold vR; (try dsimp only); omega)), trivial, trivial, trivial⟩ trivial (fun h1 r1 w1 ag1 F1 => ?_)
  obtain ⟨rfl, rfl⟩ := F1
  refine Y_stk [.int (fr (mHa1 M) n 0)] rfl ?_
  refine Y_stk [.int (mHa M)] (by rw [eH]) ?_
  refine Y_istore C (L' := [(11, .int (mHa M)), (0, .ref 0), (1, .ref 100), (4, .int (nI k)), (10, .int (nI b2))]) dL_act_410 (by decide) rfl ?_
  refine Y_aload_n C dL_act_412 rfl rfl ?_
  refine Y_get C K3 (v := .ref 101) 0 dL_act_413 gW_100 (by decide) g_578 rfl rfl ?_
  refine Y_iload C dL_act_416 rfl ?_
  refine Y_aaldq C (j := 200 + 2 * k) dL_act_418 gW_101 (vp_in_nI (by omega) (by omega)) (by rw [nI_clamp (by omega)]; exact rfS_at (by omega)) ?_
  refine Y_iload C dL_act_419 rfl ?_
  refine Y_put C K4 5 dL_act_421 (gW_st h40 hk) (by decide) g_459 rfl rfl (K4.2.2.1 5 (by decide)) rfl rfl (Nat.le_of_ble_eq_true rfl) (w' := gW (xW K D B) n r (tA M 6 k (nI b2)) (tN T)) (gW_tA h40 (by decide) hk (stoE_6 _ _ _).symm) ?_
  refine Y_aload_n C dL_act_424 rfl rfl ?_
  refine Y_callM C S (c_X3_giveWay (V := xW K D B) (T := tN T) h40 h30 hC hTN (tN_in (by decide)) I.mn I.mr q4 q5) m_X3_giveWay K3 g_519 dL_act_425 gW_100 rfl rfl ⟨Nat.le_of_ble_eq_true rfl, Nat.le_of_ble_eq_true rfl⟩ ⟨Nat.le_of_ble_eq_true rfl, Nat.le_of_ble_eq_true rfl⟩ (Nat.le_of_ble_eq_true rfl) ⟨trivial, (by first | trivial | (unfold vR; (try dsimp only); omega)), (by first | trivial | (unfold vR; (try dsimp only); omega)), trivial, trivial, trivial⟩ trivial (fun h2 r2 w2 ag2 F2 => ?_)
  obtain ⟨rfl, rfl⟩ := F2
  refine Y_stk [] rfl ?_
  refine Y_aload_n C dL_act_428 rfl rfl ?_
  refine Y_iload C dL_act_429 rfl ?_
  refine Y_iload C dL_act_431 rfl ?_
  refine Y_callG (K' := (cProp K (nI k) (nI b2)).2.2) (D' := D) (B' := B) C S (c_X2_prop K D B (nI k) (nI b2) I.kn h40 I.br h30) q1 m_X2_prop K2 g_520 dL_act_433 rfl rfl ⟨Nat.le_of_ble_eq_true rfl, Nat.le_of_ble_eq_true rfl⟩ ⟨Nat.le_of_ble_eq_true rfl, Nat.le_of_ble_eq_true rfl⟩ (Nat.le_of_ble_eq_true rfl) ?_
  refine Y_stk [.int ((cProp K (nI k) (nI b2)).2.1)] rfl ?_
  refine Y_stk [.int (mHa M - mHa (mGv (tA M 6 k (nI b2))))] (by rw [q2]) ?_
  refine Y_iload C dL_act_436 rfl ?_
  refine Y_aload_n C dL_act_438 rfl rfl ?_
  refine Y_callM C S (c_X3_hanging (V := xW (cProp K (nI k) (nI b2)).2.2 D B) (r := r) (M := mGv (tA M 6 k (nI b2))) (T := t5 (tN T)) h40 h30 (fun i hi => (q3.2.2.1 i hi).2.2.2.2.2.2.1)) m_X3_hanging K3 g_518 dL_act_439 gW_100 rfl rfl ⟨Nat.le_of_ble_eq_true rfl, Nat.le_of_ble_eq_true rfl⟩ ⟨Nat.le_of_ble_eq_true rfl, Nat.le_of_ble_eq_true rfl⟩ (Nat.le_of_ble_eq_true rfl) ⟨trivial, (by first | trivial | (unfold vR; (try dsimp only); omega)), (by first | trivial | (unfold vR; (try dsimp only); omega)), trivial, trivial, trivial⟩ ⟨trivial, trivial, trivial⟩ (fun h3 r3 w3 ag3 F3 => ?_)
  obtain ⟨rfl, rfl⟩ := F3
  refine Y_stk [.int (fr (mHa1 (mGv (tA M 6 k (nI b2)))) n 0), .int (mHa M), .int (mHa M - mHa (mGv (tA M 6 k (nI b2))))] rfl ?_
  refine Y_stk [.int (mHa (mGv (tA M 6 k (nI b2)))), .int (mHa M), .int (mHa M - mHa (mGv (tA M 6 k (nI b2))))] (by rw [eH2]) ?_
  refine Y_isub C (v := (mHa M) - (mHa (mGv (tA M 6 k (nI b2))))) dL_act_442 rfl ?_
  refine Y_icmp_ne C 450 dL_act_443 (by decide) (fun cc4 => absurd rfl cc4) (fun cc4 => ?_)
  refine Y_iconst C (v := 1) dL_act_446 (by decide) ?_
  refine Y_goto C 451 dL_act_447 (by decide) ?_
  refine Y_sub (L' := []) (by simp) ?_
  refine Y_less (w' := gW (xW (cProp K (nI k) (nI b2)).2.2 D B) n r (mGv (tA M 6 k (nI b2))) (tN T)) (gW_less (tN_to (fun i hi => (t5_o (by omega)).trans (tN_out hi)))) ?_
  refine Y_widen (k' := 740) (n' := 19900) (by first | omega | decide) (by first | omega | decide) ?_
  exact Y_zret C hr hlk dL_act_451 rfl (fun i hi => ((ag3 i (by first | trivial | exact hi | ((try unfold kpA at hi); (try dsimp only at hi); (try dsimp only); omega))).trans ((ag2 i (by first | trivial | exact hi | ((try unfold kpA at hi); (try dsimp only at hi); (try dsimp only); omega))).trans ((ag1 i (by first | trivial | exact hi | ((try unfold kpA at hi); (try dsimp only at hi); (try dsimp only); omega))).trans (ag0 i (by first | trivial | exact hi | ((try unfold kpA at hi); (try dsimp only at hi); (try dsimp only); omega))))))) (actF_mk (D := D) (Nat.le_refl n) hn1 (fun i hi q => dn_Gv (by rw [tA_nk (by decide)]; exact q)) (day_Gv _) (fun q => Df_Gv (show Df r (tA M 6 k (nI b2)) from q)) q3)
set_option maxHeartbeats 400000 in
set_option maxRecDepth 20000 in
theorem act_5 {p : Program} {l : Launch} {e : Env} {s : State} {m : MethodId} {args : Array Value} {below : List Frame} {meth : Method} {c : Code} {G : gG} {h hv : Nat → Nat} {A : Nat → Prop} {b N : Nat} {xs : Nat → Int32} {x ov wv tv : Int32} {n r k : Nat} {M : Md} {T : WF} {K D : St} {B : Sr} (C : Cx p s m args c cL_act 23 RL G A) (S : Cs l s A b N xs) (hr : meth.sig.returnType = some .boolean) (hlk : meth.locks = false) (ag0 : ∀ i, kpA i → hv i = h i) (I : LI n r B K M) (hT : okT T) (hk : k < n) : Y p l e (gRm 7 740 19900) s m args below meth c 23 G A hv (MQ below (gQm G h A kpA (actF n r M T)) args s 740 19900 A) 0 0 (gW (xW K D B) n r M (tN T)) 365 [(0, .ref 0), (1, .ref 100), (2, .int x), (3, .int (nI n)), (4, .int (nI k)), (5, .int ov), (6, .int wv), (7, .int tv)] [] := by
  have h40 := I.h40
  have h30 := I.h30
  have hC := okC_x K D B
  have hTN := okT_N hT
  have hn1 : 1 ≤ n := by omega
  refine Y_aload_n C dL_act_365 rfl rfl ?_
  refine Y_get C K3 (v := .ref 101) 0 dL_act_366 gW_100 (by decide) g_578 rfl rfl ?_
  refine Y_iload C dL_act_369 rfl ?_
  refine Y_aaldq C (j := 200 + 2 * k) dL_act_371 gW_101 (vp_in_nI (by omega) (by omega)) (by rw [nI_clamp (by omega)]; exact rfS_at (by omega)) ?_
  refine Y_get C K4 (v := .int (M.1 2 k)) 2 dL_act_372 (gW_st h40 (by omega)) (by decide) g_453 rfl rfl ?_
  refine Y_if_ne C 380 dL_act_375 (by decide) (fun cc1 => ?_) (fun cc1 => ?_)
  · refine Y_iload_n C dL_act_380 rfl rfl ?_
    refine Y_iconst C (v := 3) dL_act_381 (by decide) ?_
    refine Y_ishr C (v := x >>> (3 &&& 31)) dL_act_382 rfl ?_
    refine Y_iload_n C dL_act_383 rfl rfl ?_
    refine Y_bipush C (v := 6) dL_act_384 (by decide) ?_
    refine Y_ishr C (v := x >>> (6 &&& 31)) dL_act_386 rfl ?_
    refine Y_iconst C (v := 2) dL_act_387 (by decide) ?_
    refine Y_stk [.int (nI 2), .int (x >>> (6 &&& 31)), .int (x >>> (3 &&& 31))] rfl ?_
    obtain ⟨j1, hj1, ej1⟩ := bl_nI (x >>> (6 &&& 31)) (n := 2) (by decide) (by omega)
    refine Y_callMS C S (c_L_below (w := gW (xW K D B) n r M (tN T)) (x := x >>> (6 &&& 31)) (y := nI 2) (fun z => absurd ((nI_eq (b := 0) (by omega) (by omega)).mp z) (by omega))) m_L_below g_427 dL_act_388 rfl rfl ⟨Nat.le_of_ble_eq_true rfl, Nat.le_of_ble_eq_true rfl⟩ ⟨Nat.le_of_ble_eq_true rfl, Nat.le_of_ble_eq_true rfl⟩ (Nat.le_of_ble_eq_true rfl) ⟨(by first | trivial | (unfold vR; (try dsimp only); omega)), (by first | trivial | (unfold vR; (try dsimp only); omega)), trivial, trivial, trivial, trivial, trivial, trivial, trivial⟩ ⟨trivial, trivial⟩ (fun h2 r2 w2 ag2 F2 => ?_)
    obtain ⟨rfl, rfl⟩ := F2
    refine Y_stk [.int (bl (x >>> (6 &&& 31)) (nI 2)), .int (x >>> (3 &&& 31))] rfl ?_
    refine Y_stk [.int (nI j1), .int (x >>> (3 &&& 31))] (by rw [ej1]) ?_
    refine Y_if_ne C 399 dL_act_391 (by decide) (fun cc3 => ?_) (fun cc3 => ?_)
    · refine Y_bipush C (v := 12) dL_act_399 (by decide) ?_
      refine Y_stk [.int (nI 12), .int (x >>> (3 &&& 31))] rfl ?_
      obtain ⟨j2, hj2, ej2⟩ := bl_nI (x >>> (3 &&& 31)) (n := 12) (by decide) (by omega)
      refine Y_callMS C S (c_L_below (w := gW (xW K D B) n r M (tN T)) (x := x >>> (3 &&& 31)) (y := nI 12) (fun z => absurd ((nI_eq (b := 0) (by omega) (by omega)).mp z) (by omega))) m_L_below g_427 dL_act_401 rfl rfl ⟨Nat.le_of_ble_eq_true rfl, Nat.le_of_ble_eq_true rfl⟩ ⟨Nat.le_of_ble_eq_true rfl, Nat.le_of_ble_eq_true rfl⟩ (Nat.le_of_ble_eq_true rfl) ⟨(by first | trivial | (unfold vR; (try dsimp only); omega)), (by first | trivial | (unfold vR; (try dsimp only); omega)), trivial, trivial, trivial, trivial, trivial, trivial, trivial⟩ trivial (fun h4 r4 w4 ag4 F4 => ?_)
      obtain ⟨rfl, rfl⟩ := F4
      refine Y_stk [.int (bl (x >>> (3 &&& 31)) (nI 12))] rfl ?_
      refine Y_stk [.int (nI j2)] (by rw [ej2]) ?_
      refine Y_istore C (L' := [(10, .int (nI j2)), (0, .ref 0), (1, .ref 100), (2, .int x), (3, .int (nI n)), (4, .int (nI k)), (5, .int ov), (6, .int wv), (7, .int tv)]) dL_act_404 (by decide) rfl ?_
      refine Y_sub (L' := [(10, .int (nI j2)), (0, .ref 0), (1, .ref 100), (4, .int (nI k))]) (by simp) ?_
      have hb : j2 ≤ 60 := by omega
      exact Y_sub (by simp) (act_5b C S hr hlk (fun i hi => ((ag4 i (by first | trivial | exact hi | ((try unfold kpA at hi); (try dsimp only at hi); (try dsimp only); omega))).trans ((ag2 i (by first | trivial | exact hi | ((try unfold kpA at hi); (try dsimp only at hi); (try dsimp only); omega))).trans (ag0 i (by first | trivial | exact hi | ((try unfold kpA at hi); (try dsimp only at hi); (try dsimp only); omega)))))) I hT hk hb cc1)
    · refine Y_bipush C (v := 61) dL_act_394 (by decide) ?_
      refine Y_goto C 401 dL_act_396 (by decide) ?_
      refine Y_stk [.int (nI 61), .int (x >>> (3 &&& 31))] rfl ?_
      obtain ⟨j2, hj2, ej2⟩ := bl_nI (x >>> (3 &&& 31)) (n := 61) (by decide) (by omega)
      refine Y_callMS C S (c_L_below (w := gW (xW K D B) n r M (tN T)) (x := x >>> (3 &&& 31)) (y := nI 61) (fun z => absurd ((nI_eq (b := 0) (by omega) (by omega)).mp z) (by omega))) m_L_below g_427 dL_act_401 rfl rfl ⟨Nat.le_of_ble_eq_true rfl, Nat.le_of_ble_eq_true rfl⟩ ⟨Nat.le_of_ble_eq_true rfl, Nat.le_of_ble_eq_true rfl⟩ (Nat.le_of_ble_eq_true rfl) ⟨(by first | trivial | (unfold vR; (try dsimp only); omega)), (by first | trivial | (unfold vR; (try dsimp only); omega)), trivial, trivial, trivial, trivial, trivial, trivial, trivial⟩ trivial (fun h5 r5 w5 ag5 F5 => ?_)
      obtain ⟨rfl, rfl⟩ := F5
      refine Y_stk [.int (bl (x >>> (3 &&& 31)) (nI 61))] rfl ?_
      refine Y_stk [.int (nI j2)] (by rw [ej2]) ?_
      refine Y_istore C (L' := [(10, .int (nI j2)), (0, .ref 0), (1, .ref 100), (2, .int x), (3, .int (nI n)), (4, .int (nI k)), (5, .int ov), (6, .int wv), (7, .int tv)]) dL_act_404 (by decide) rfl ?_
      refine Y_sub (L' := [(10, .int (nI j2)), (0, .ref 0), (1, .ref 100), (4, .int (nI k))]) (by simp) ?_
      have hb : j2 ≤ 60 := by omega
      exact Y_sub (by simp) (act_5b C S hr hlk (fun i hi => ((ag5 i (by first | trivial | exact hi | ((try unfold kpA at hi); (try dsimp only at hi); (try dsimp only); omega))).trans ((ag2 i (by first | trivial | exact hi | ((try unfold kpA at hi); (try dsimp only at hi); (try dsimp only); omega))).trans (ag0 i (by first | trivial | exact hi | ((try unfold kpA at hi); (try dsimp only at hi); (try dsimp only); omega)))))) I hT hk hb cc1)
  · refine Y_iconst C (v := 1) dL_act_378 (by decide) ?_
    refine Y_sub (L' := []) (by simp) ?_
    refine Y_less (w' := gW (xW K D B) n r M (tN T)) (gW_less (tN_to (fun i hi => tN_out hi))) ?_
    refine Y_widen (k' := 740) (n' := 19900) (by first | omega | decide) (by first | omega | decide) ?_
    exact Y_zret C hr hlk dL_act_379 rfl (fun i hi => (ag0 i (by first | trivial | exact hi | ((try unfold kpA at hi); (try dsimp only at hi); (try dsimp only); omega)))) (actF_mk (D := D) (Nat.le_refl n) hn1 (fun i _ q => q) rfl (fun q => q) I)
set_option maxHeartbeats 400000 in
set_option maxRecDepth 20000 in
theorem act_7 {p : Program} {l : Launch} {e : Env} {s : State} {m : MethodId} {args : Array Value} {below : List Frame} {meth : Method} {c : Code} {G : gG} {h hv : Nat → Nat} {A : Nat → Prop} {b N : Nat} {xs : Nat → Int32} {x ov wv tv : Int32} {n r k : Nat} {M : Md} {T : WF} {K D : St} {B : Sr} (C : Cx p s m args c cL_act 23 RL G A) (S : Cs l s A b N xs) (hr : meth.sig.returnType = some .boolean) (hlk : meth.locks = false) (ag0 : ∀ i, kpA i → hv i = h i) (I : LI n r B K M) (hT : okT T) (hk : k < n) : Y p l e (gRm 7 740 19900) s m args below meth c 23 G A hv (MQ below (gQm G h A kpA (actF n r M T)) args s 740 19900 A) 0 0 (gW (xW K D B) n r M (tN T)) 452 [(0, .ref 0), (1, .ref 100), (2, .int x), (3, .int (nI n)), (4, .int (nI k)), (5, .int ov), (6, .int wv), (7, .int tv)] [] := by
  have h40 := I.h40
  have h30 := I.h30
  have hC := okC_x K D B
  have hTN := okT_N hT
  have hn1 : 1 ≤ n := by omega
  refine Y_aload_n C dL_act_452 rfl rfl ?_
  refine Y_get C K3 (v := .ref 101) 0 dL_act_453 gW_100 (by decide) g_578 rfl rfl ?_
  refine Y_iload C dL_act_456 rfl ?_
  refine Y_aaldq C (j := 200 + 2 * k) dL_act_458 gW_101 (vp_in_nI (by omega) (by omega)) (by rw [nI_clamp (by omega)]; exact rfS_at (by omega)) ?_
  refine Y_astore C (L' := [(12, .ref (200 + 2 * k)), (0, .ref 0), (1, .ref 100), (2, .int x), (3, .int (nI n)), (4, .int (nI k)), (5, .int ov), (6, .int wv), (7, .int tv)]) dL_act_459 (by decide) rfl ?_
  refine Y_iconst C (v := 1) dL_act_461 (by decide) ?_
  refine Y_iload_n C dL_act_462 rfl rfl ?_
  refine Y_iconst C (v := 2) dL_act_463 (by decide) ?_
  refine Y_ishr C (v := x >>> (2 &&& 31)) dL_act_464 rfl ?_
  refine Y_sipush C (v := 200) dL_act_465 (by decide) ?_
  refine Y_stk [.int (nI 200), .int (x >>> (2 &&& 31)), .int 1] rfl ?_
  obtain ⟨j1, hj1, ej1⟩ := bl_nI (x >>> (2 &&& 31)) (n := 200) (by decide) (by omega)
  refine Y_callMS C S (c_L_below (w := gW (xW K D B) n r M (tN T)) (x := x >>> (2 &&& 31)) (y := nI 200) (fun z => absurd ((nI_eq (b := 0) (by omega) (by omega)).mp z) (by omega))) m_L_below g_427 dL_act_468 rfl rfl ⟨Nat.le_of_ble_eq_true rfl, Nat.le_of_ble_eq_true rfl⟩ ⟨Nat.le_of_ble_eq_true rfl, Nat.le_of_ble_eq_true rfl⟩ (Nat.le_of_ble_eq_true rfl) ⟨(by first | trivial | (unfold vR; (try dsimp only); omega)), (by first | trivial | (unfold vR; (try dsimp only); omega)), (by first | trivial | (unfold vR; (try dsimp only); omega)), trivial, trivial, trivial, trivial, trivial, trivial, trivial⟩ ⟨trivial, trivial⟩ (fun h1 r1 w1 ag1 F1 => ?_)
  obtain ⟨rfl, rfl⟩ := F1
  refine Y_stk [.int (bl (x >>> (2 &&& 31)) (nI 200)), .int 1] rfl ?_
  refine Y_stk [.int (nI j1), .int 1] (by rw [ej1]) ?_
  refine Y_stk [.int (nI j1), .int (nI 1)] rfl ?_
  refine Y_iadd C (v := nI (1 + j1)) dL_act_471 (nI_add 1 j1) ?_
  have i3 : isInB (nI (1 + j1)) 1 200 = true := in_nI (lo := 1) (hi := 200) (by omega) (by omega) (by decide)
  generalize nI (1 + j1) = pv at i3 ⊢
  refine Y_istore C (L' := [(13, .int pv), (12, .ref (200 + 2 * k)), (0, .ref 0), (1, .ref 100), (2, .int x), (3, .int (nI n)), (4, .int (nI k)), (5, .int ov), (6, .int wv), (7, .int tv)]) dL_act_472 (by decide) rfl ?_
  refine Y_aload C dL_act_474 rfl ?_
  refine Y_get C K4 (v := .int (M.1 2 k)) 2 dL_act_476 (gW_st h40 (by omega)) (by decide) g_453 rfl rfl ?_
  refine Y_if_eq C 504 dL_act_479 (by decide) (fun cc2 => ?_) (fun cc2 => ?_)
  · refine Y_iconst C (v := 1) dL_act_504 (by decide) ?_
    refine Y_sub (L' := []) (by simp) ?_
    refine Y_less (w' := gW (xW K D B) n r M (tN T)) (gW_less (tN_to (fun i hi => tN_out hi))) ?_
    refine Y_widen (k' := 740) (n' := 19900) (by first | omega | decide) (by first | omega | decide) ?_
    exact Y_zret C hr hlk dL_act_505 rfl (fun i hi => ((ag1 i (by first | trivial | exact hi | ((try unfold kpA at hi); (try dsimp only at hi); (try dsimp only); omega))).trans (ag0 i (by first | trivial | exact hi | ((try unfold kpA at hi); (try dsimp only at hi); (try dsimp only); omega))))) (actF_mk (D := D) (Nat.le_refl n) hn1 (fun i _ q => q) rfl (fun q => q) I)
  · refine Y_aload C dL_act_482 rfl ?_
    refine Y_get C K4 (v := .int (M.1 3 k)) 3 dL_act_484 (gW_st h40 (by omega)) (by decide) g_455 rfl rfl ?_
    refine Y_if_eq C 504 dL_act_487 (by decide) (fun cc3 => ?_) (fun cc3 => ?_)
    · refine Y_iconst C (v := 1) dL_act_504 (by decide) ?_
      refine Y_sub (L' := []) (by simp) ?_
      refine Y_less (w' := gW (xW K D B) n r M (tN T)) (gW_less (tN_to (fun i hi => tN_out hi))) ?_
      refine Y_widen (k' := 740) (n' := 19900) (by first | omega | decide) (by first | omega | decide) ?_
      exact Y_zret C hr hlk dL_act_505 rfl (fun i hi => ((ag1 i (by first | trivial | exact hi | ((try unfold kpA at hi); (try dsimp only at hi); (try dsimp only); omega))).trans (ag0 i (by first | trivial | exact hi | ((try unfold kpA at hi); (try dsimp only at hi); (try dsimp only); omega))))) (actF_mk (D := D) (Nat.le_refl n) hn1 (fun i _ q => q) rfl (fun q => q) I)
    · refine Y_iload C dL_act_490 rfl ?_
      refine Y_aload_n C dL_act_492 rfl rfl ?_
      refine Y_callM C S (c_X3_reckon (V := xW K D B) (r := r) (M := M) (T := tN T) h40 h30 hC hTN I.mn I.2.2.1 I.2.1) m_X3_reckon K3 g_530 dL_act_493 gW_100 rfl rfl ⟨Nat.le_of_ble_eq_true rfl, Nat.le_of_ble_eq_true rfl⟩ ⟨Nat.le_of_ble_eq_true rfl, Nat.le_of_ble_eq_true rfl⟩ (Nat.le_of_ble_eq_true rfl) ⟨trivial, (by first | trivial | (unfold vR; (try dsimp only); omega)), (by first | trivial | (unfold vR; (try dsimp only); omega)), (by first | trivial | (unfold vR; (try dsimp only); omega)), trivial, trivial, trivial, trivial, trivial, trivial, trivial⟩ ⟨trivial, trivial⟩ (fun h4 r4 w4 ag4 F4 => ?_)
      obtain ⟨rfl, f, g, hf, hgg, rfl⟩ := F4
      refine Y_stk [.ref 412, .int pv] rfl ?_
      refine Y_iconst C (v := nI 0) dL_act_496 (by decide) ?_
      refine Y_aald C (j := 410) dL_act_497 ((gW_hi (by decide)).trans rfl) (vp_in_nI (n := 0) (N := 2) (by decide) (by decide)) rfl ?_
      refine Y_iload C dL_act_498 rfl ?_
      refine Y_iald C (v := f k) dL_act_500 ((gW_hi (by decide)).trans rfl) (vp_in_nI hk (by omega)) (by rw [nI_clamp (by omega)] <;> rfl) ?_
      refine Y_icmp_ge C 506 dL_act_501 (by decide) (fun cc5 => ?_) (fun cc5 => ?_)
      · refine Y_less (w' := gW (xW K D B) n r M (tN T)) (gW_less (fun i e q => by by_cases z : 410 ≤ i ∧ i ≤ 412; exact absurd q (by rw [tN_in (by omega)]; exact fun y => by cases y); rw [tRf_o (by omega)]; exact q)) ?_
        obtain ⟨q1, q2, q3⟩ := LI_renew I hk cc2 cc3 i3 (by rw [← hf k hk]; exact cc5)
        refine Y_aload C dL_act_506 rfl ?_
        refine Y_get C K4 (v := .int (M.1 3 k)) 3 dL_act_508 (gW_st h40 hk) (by decide) g_455 rfl rfl ?_
        refine Y_istore C (L' := [(14, .int (M.1 3 k)), (13, .int pv), (12, .ref (200 + 2 * k)), (0, .ref 0), (1, .ref 100), (2, .int x), (3, .int (nI n)), (4, .int (nI k)), (5, .int ov), (6, .int wv), (7, .int tv)]) dL_act_511 (by decide) rfl ?_
        refine Y_aload C dL_act_513 rfl ?_
        refine Y_iload C dL_act_515 rfl ?_
        refine Y_put C K4 3 dL_act_517 (gW_st h40 hk) (by decide) g_455 rfl rfl (K4.2.2.1 3 (by decide)) rfl rfl (Nat.le_of_ble_eq_true rfl) (w' := gW (xW K D B) n r (tA M 3 k pv) (tN T)) (gW_tA h40 (by decide) hk (stoE_3 _ _ _).symm) ?_
        refine Y_aload_n C dL_act_520 rfl rfl ?_
        refine Y_iload C dL_act_521 rfl ?_
        refine Y_iload C dL_act_523 rfl ?_
        refine Y_callG (K' := (cRenew K (nI k) pv).2.2) (D' := D) (B' := B) C S (c_X2_renew K D B (nI k) pv I.kn h40 I.br h30) q1 m_X2_renew K2 g_531 dL_act_525 rfl rfl ⟨Nat.le_of_ble_eq_true rfl, Nat.le_of_ble_eq_true rfl⟩ ⟨Nat.le_of_ble_eq_true rfl, Nat.le_of_ble_eq_true rfl⟩ (Nat.le_of_ble_eq_true rfl) ?_
        refine Y_stk [.int ((cRenew K (nI k) pv).2.1)] rfl ?_
        refine Y_stk [.int (M.1 3 k)] (by rw [q2]) ?_
        refine Y_iload C dL_act_528 rfl ?_
        refine Y_icmp_ne C 537 dL_act_530 (by decide) (fun cc6 => absurd rfl cc6) (fun cc6 => ?_)
        refine Y_iconst C (v := 1) dL_act_533 (by decide) ?_
        refine Y_goto C 538 dL_act_534 (by decide) ?_
        refine Y_sub (L' := []) (by simp) ?_
        refine Y_less (w' := gW (xW (cRenew K (nI k) pv).2.2 D B) n r (tA M 3 k pv) (tN T)) (gW_less (tN_to (fun i hi => tN_out hi))) ?_
        refine Y_widen (k' := 740) (n' := 19900) (by first | omega | decide) (by first | omega | decide) ?_
        exact Y_zret C hr hlk dL_act_538 rfl (fun i hi => ((ag4 i (by first | trivial | exact hi | ((try unfold kpA at hi); (try dsimp only at hi); (try dsimp only); omega))).trans ((ag1 i (by first | trivial | exact hi | ((try unfold kpA at hi); (try dsimp only at hi); (try dsimp only); omega))).trans (ag0 i (by first | trivial | exact hi | ((try unfold kpA at hi); (try dsimp only at hi); (try dsimp only); omega)))))) (actF_mk (D := D) (Nat.le_refl n) hn1 (fun i hi q => by rw [tA_nk (by decide)]; exact q) rfl (fun q => q) q3)
      · refine Y_iconst C (v := 1) dL_act_504 (by decide) ?_
        refine Y_sub (L' := []) (by simp) ?_
        refine Y_less (w' := gW (xW K D B) n r M (tN T)) (gW_less (tN_to (fun i hi => (tRf_o (by omega)).trans (tN_out hi)))) ?_
        refine Y_widen (k' := 740) (n' := 19900) (by first | omega | decide) (by first | omega | decide) ?_
        exact Y_zret C hr hlk dL_act_505 rfl (fun i hi => ((ag4 i (by first | trivial | exact hi | ((try unfold kpA at hi); (try dsimp only at hi); (try dsimp only); omega))).trans ((ag1 i (by first | trivial | exact hi | ((try unfold kpA at hi); (try dsimp only at hi); (try dsimp only); omega))).trans (ag0 i (by first | trivial | exact hi | ((try unfold kpA at hi); (try dsimp only at hi); (try dsimp only); omega)))))) (actF_mk (D := D) (Nat.le_refl n) hn1 (fun i _ q => q) rfl (fun q => q) I)
set_option maxHeartbeats 400000 in
set_option maxRecDepth 20000 in
theorem act_8b {p : Program} {l : Launch} {e : Env} {s : State} {m : MethodId} {args : Array Value} {below : List Frame} {meth : Method} {c : Code} {G : gG} {h hv : Nat → Nat} {A : Nat → Prop} {b N : Nat} {xs : Nat → Int32} {x : Int32} {n r k o : Nat} {M : Md} {T : WF} {K D : St} {B : Sr} (C : Cx p s m args c cL_act 23 RL G A) (S : Cs l s A b N xs) (hr : meth.sig.returnType = some .boolean) (hlk : meth.locks = false) (ag0 : ∀ i, kpA i → hv i = h i) (I : LI n r B K M) (hT : okT T) (hr30 : r < 30) (hk : k < n) (ho : o < n) (hko : k ≠ o) (hhk : ¬ M.1 2 k = 0) (hho : ¬ M.1 2 o = 0) : Y p l e (gRm 7 740 19900) s m args below meth c 23 G A hv (MQ below (gQm G h A kpA (actF n r M T)) args s 740 19900 A) 0 0 (gW (xW K D B) n r M (tN T)) 582 [(0, .ref 0), (1, .ref 100), (2, .int x), (3, .int (nI n)), (4, .int (nI k)), (5, .int (nI o))] [] := by
  have h40 := I.h40
  have h30 := I.h30
  have hC := okC_x K D B
  have hTN := okT_N hT
  have hn1 : 1 ≤ n := by omega
  obtain ⟨q1, q2, q3⟩ := LI_stair I hr30 hk ho hko hhk hho
  refine Y_aload_n C dL_act_582 rfl rfl ?_
  refine Y_get C K3 (v := .ref 102) 1 dL_act_583 gW_100 (by decide) g_580 rfl rfl ?_
  refine Y_alen C (i := 3) (v := nI r) dL_act_586 gW_102 rfl rfl ?_
  refine Y_iconst C (v := 1) dL_act_587 (by decide) ?_
  refine Y_iadd C (v := nI (r + 1)) dL_act_588 (nI_1 r) ?_
  refine Y_newaa C (N := r + 1) 421 dL_act_589 g_541 (nI_pos (by omega)) (nI_clamp (by omega)) (by omega) ⟨Nat.le_of_ble_eq_true rfl, by show 0 + (r + 1) ≤ 19900; omega⟩ (gW_N h40 h30 hC hTN (by decide)) ⟨(by first | trivial | (unfold vR; (try dsimp only); omega)), (by first | trivial | (unfold vR; (try dsimp only); omega)), trivial, trivial, trivial, trivial, trivial⟩ trivial (fun h1 ag1 => ?_)
  refine Y_eq (gW_tU (by decide)) ?_
  refine Y_widen (k' := 1) (n' := r + 1) (by omega) (by omega) ?_
  refine Y_astore C (L' := [(15, .ref 421), (0, .ref 0), (1, .ref 100), (2, .int x), (3, .int (nI n)), (4, .int (nI k)), (5, .int (nI o))]) dL_act_592 (by decide) rfl ?_
  refine Y_iconst C (v := nI 0) dL_act_594 (by decide) ?_
  refine Y_istore C (L' := [(16, .int (nI 0)), (15, .ref 421), (0, .ref 0), (1, .ref 100), (2, .int x), (3, .int (nI n)), (4, .int (nI k)), (5, .int (nI o))]) dL_act_595 (by decide) rfl ?_
  refine Zfor (σ := Nat → Option Nat) (fun i11 X11 => Y p l e _ s m args below meth c 23 G A h1 _ 1 (r + 1) (gW (xW K D B) n r M (tU (tN T) 421 (some (rfE 3 (r + 1) X11)))) 597 [(16, .int (nI i11)), (15, .ref 421), (0, .ref 0), (1, .ref 100), (2, .int x), (3, .int (nI n)), (4, .int (nI k)), (5, .int (nI o))] []) (fun i11 X11 => True) (fun i g => va_up g i (some (300 + i))) r (fun _ => none) trivial (fun _ _ _ _ => trivial) (fun X11 hX11 eX11 => ?_) (fun i11 X11 hi11 hX11 hX11' kk11 => ?_)
  · skip
    have eS : X11 = rfT r := by rw [eX11]; exact upT r
    subst eS
    refine Y_iload C dL_act_597 rfl ?_
    refine Y_aload_n C dL_act_599 rfl rfl ?_
    refine Y_get C K3 (v := .ref 102) 1 dL_act_600 gW_100 (by decide) g_580 rfl rfl ?_
    refine Y_alen C (i := 3) (v := nI r) dL_act_603 gW_102 rfl rfl ?_
    refine Y_icmp_ge C 625 dL_act_604 (by decide) (fun cc12 => ?_) (fun cc12 => absurd (Int32.le_refl _) cc12)
    refine Y_sub (L' := [(15, .ref 421), (0, .ref 0), (1, .ref 100), (4, .int (nI k)), (5, .int (nI o))]) (by simp) ?_
    refine Y_aload C dL_act_625 rfl ?_
    refine Y_aload_n C dL_act_627 rfl rfl ?_
    refine Y_get C K3 (v := .ref 102) 1 dL_act_628 gW_100 (by decide) g_580 rfl rfl ?_
    refine Y_alen C (i := 3) (v := nI r) dL_act_631 gW_102 rfl rfl ?_
    refine Y_iconst C (v := 3) dL_act_632 (by decide) ?_
    refine Y_stk [.int (nI 3), .int (nI r), .ref 421] rfl ?_
    refine Y_newi C (N := 3) (300 + r) dL_act_633 g_85 (by decide) (by decide) (by decide) ⟨Nat.le_of_ble_eq_true rfl, by show r + 1 + 3 ≤ 19900; omega⟩ (gW_Rw h40 h30 hC hTN rfl) ⟨(by first | trivial | (unfold vR; (try dsimp only); omega)), (by first | trivial | (unfold vR; (try dsimp only); omega)), (by first | trivial | (unfold vR; (try dsimp only); omega)), trivial, trivial, trivial⟩ ⟨trivial, (by first | trivial | (unfold vR; (try dsimp only); omega)), trivial⟩ (fun h2 ag2 => ?_)
    refine Y_dup C dL_act_635 rfl ?_
    refine Y_iconst C (v := nI 0) dL_act_636 (by decide) ?_
    refine Y_iload C dL_act_637 rfl ?_
    refine Y_iast C (f' := upd (fun _ => 0) 0 (nI k)) dL_act_639 (wU_s _ _ _) (vp_in_nI (n := 0) (N := 3) (by decide) (by decide)) rfl (w' := wU (gW (xW K D B) n r M (tU (tN T) 421 (some (rfE 3 (r + 1) (rfT r))))) (300 + r) (.inl (0, 3, .inl (upd (fun _ => 0) 0 (nI k))))) (wU_wU _ _ _ _) ?_
    refine Y_dup C dL_act_640 rfl ?_
    refine Y_iconst C (v := nI 1) dL_act_641 (by decide) ?_
    refine Y_iload C dL_act_642 rfl ?_
    refine Y_iast C (f' := upd (upd (fun _ => 0) 0 (nI k)) 1 (nI o)) dL_act_644 (wU_s _ _ _) (vp_in_nI (n := 1) (N := 3) (by decide) (by decide)) rfl (w' := wU (gW (xW K D B) n r M (tU (tN T) 421 (some (rfE 3 (r + 1) (rfT r))))) (300 + r) (.inl (0, 3, .inl (upd (upd (fun _ => 0) 0 (nI k)) 1 (nI o))))) (wU_wU _ _ _ _) ?_
    refine Y_dup C dL_act_645 rfl ?_
    refine Y_iconst C (v := nI 2) dL_act_646 (by decide) ?_
    refine Y_iconst C (v := 0) dL_act_647 (by decide) ?_
    refine Y_iast C (f' := upd (upd (upd (fun _ => 0) 0 (nI k)) 1 (nI o)) 2 (0)) dL_act_648 (wU_s _ _ _) (vp_in_nI (n := 2) (N := 3) (by decide) (by decide)) rfl (w' := wU (gW (xW K D B) n r M (tU (tN T) 421 (some (rfE 3 (r + 1) (rfT r))))) (300 + r) (.inl (0, 3, .inl (upd (upd (upd (fun _ => 0) 0 (nI k)) 1 (nI o)) 2 (0))))) (wU_wU _ _ _ _) ?_
    refine Y_eq (w' := wU (gW (xW K D B) n r M (tU (tN T) 421 (some (rfE 3 (r + 1) (rfT r))))) (300 + r) (.inl (0, 3, .inl (s3 (nI k) (nI o))))) rfl ?_
    refine Y_aast C (f' := rfT (r + 1)) dL_act_649 ((wU_n _ _ (by omega)).trans ((gW_hi (by decide)).trans (tU_s _ _ _))) (wU_s _ _ _) (vp_in_nI (n := r) (N := r + 1) (by omega) (by omega)) (by rw [nI_clamp (by omega)]; exact rfT_up r) rfl ?_
    refine Y_aload_n C dL_act_650 rfl rfl ?_
    refine Y_aload C dL_act_651 rfl ?_
    refine Y_put C K3 1 dL_act_653 ((wU_n _ _ (by omega)).trans ((wU_n _ _ (by omega)).trans gW_100)) (by decide) g_580 rfl rfl (K3.2.2.1 1 (by decide)) rfl rfl (Nat.le_of_ble_eq_true rfl) (w' := wayX (xW K D B) n r M (tN T) (nI k) (nI o)) rfl ?_
    refine Y_sub (L' := [(15, .ref 421), (0, .ref 0), (1, .ref 100), (4, .int (nI k)), (5, .int (nI o))]) (by simp) ?_
    refine Y_ren rw2 (w' := gW (xW K D B) n (r + 1) (mWay M r (nI k) (nI o)) (tN T)) (L' := [(15, .ref 102), (0, .ref 0), (1, .ref 100), (4, .int (nI k)), (5, .int (nI o))]) (st' := []) (way_ren h40 hr30 hC hTN (tN_in (by decide))).1 (way_ren h40 hr30 hC hTN (tN_in (by decide))).2 rfl rfl ?_
    have agR : ∀ i, i ≠ 102 → (fun i => h2 (rw2 i)) i = h2 i := fun i hi => congrArg h2 (rw2_o hi)
    refine Y_aload_n C dL_act_656 rfl rfl ?_
    refine Y_iload C dL_act_657 rfl ?_
    refine Y_iload C dL_act_659 rfl ?_
    refine Y_widen (k' := 3) (n' := 40) (by omega) (by omega) ?_
    refine Y_callG (K' := K) (D' := D) (B' := (cStair K B (nI k) (nI o)).2.2) C S (c_X2_stair K D B (nI k) (nI o) I.kn h40 I.br h30) q1 m_X2_stair K2 g_542 dL_act_661 rfl rfl ⟨Nat.le_of_ble_eq_true rfl, Nat.le_of_ble_eq_true rfl⟩ ⟨Nat.le_of_ble_eq_true rfl, Nat.le_of_ble_eq_true rfl⟩ (Nat.le_of_ble_eq_true rfl) ?_
    refine Y_stk [.int ((cStair K B (nI k) (nI o)).2.1)] rfl ?_
    refine Y_stk [.int (nI r)] (by rw [q2]) ?_
    refine Y_aload C dL_act_664 rfl ?_
    refine Y_alen C (i := 3) (v := nI (r + 1)) dL_act_666 gW_102 rfl rfl ?_
    refine Y_iconst C (v := 1) dL_act_667 (by decide) ?_
    refine Y_isub C (v := nI r) dL_act_668 (nI_pred r) ?_
    refine Y_icmp_ne C 676 dL_act_669 (by decide) (fun cc13 => absurd rfl cc13) (fun cc13 => ?_)
    refine Y_iconst C (v := 1) dL_act_672 (by decide) ?_
    refine Y_goto C 677 dL_act_673 (by decide) ?_
    refine Y_sub (L' := []) (by simp) ?_
    refine Y_less (w' := gW (xW K D (cStair K B (nI k) (nI o)).2.2) n (r + 1) (mWay M r (nI k) (nI o)) (tN T)) (gW_less (tN_to (fun i hi => tN_out hi))) ?_
    refine Y_widen (k' := 740) (n' := 19900) (by first | omega | decide) (by first | omega | decide) ?_
    exact Y_zret C hr hlk dL_act_677 rfl (fun i hi => ((agR i (by first | trivial | exact hi | ((try unfold kpA at hi); (try dsimp only at hi); (try dsimp only); omega))).trans ((ag2 i (by first | trivial | exact hi | ((try unfold kpA at hi); (try dsimp only at hi); (try dsimp only); omega))).trans ((ag1 i (by first | trivial | exact hi | ((try unfold kpA at hi); (try dsimp only at hi); (try dsimp only); omega))).trans (ag0 i (by first | trivial | exact hi | ((try unfold kpA at hi); (try dsimp only at hi); (try dsimp only); omega))))))) (actF_mk (D := D) (Nat.le_refl n) hn1 (fun i hi q => q) rfl (Df_way (fun y => hko ((nI_eq (by omega) (by omega)).mp y))) q3)
  · skip
    refine Y_iload C dL_act_597 rfl ?_
    refine Y_aload_n C dL_act_599 rfl rfl ?_
    refine Y_get C K3 (v := .ref 102) 1 dL_act_600 gW_100 (by decide) g_580 rfl rfl ?_
    refine Y_alen C (i := 3) (v := nI r) dL_act_603 gW_102 rfl rfl ?_
    refine Y_icmp_ge C 625 dL_act_604 (by decide) (fun cc14 => absurd cc14 (nI_ge hi11 (by omega))) (fun cc14 => ?_)
    refine Y_aload C dL_act_607 rfl ?_
    refine Y_iload C dL_act_609 rfl ?_
    refine Y_aload_n C dL_act_611 rfl rfl ?_
    refine Y_get C K3 (v := .ref 102) 1 dL_act_612 gW_100 (by decide) g_580 rfl rfl ?_
    refine Y_iload C dL_act_615 rfl ?_
    refine Y_aald C (j := 300 + i11) dL_act_617 gW_102 (vp_in_nI hi11 (by omega)) (by rw [nI_clamp (by omega)]; exact rfT_at hi11) ?_
    refine Y_aast C (f' := va_up X11 i11 (some (300 + i11))) dL_act_618 ((gW_hi (by decide)).trans (tU_s _ _ _)) (gW_sa h40 h30 hi11) (vp_in_nI (n := i11) (N := r + 1) (by omega) (by omega)) (by rw [nI_clamp (by omega)]) (w' := gW (xW K D B) n r M (tU (tN T) 421 (some (rfE 3 (r + 1) (va_up X11 i11 (some (300 + i11))))))) ((gW_tU (by decide)).trans (congrArg _ (tU_tU _ _ _ _))) ?_
    refine Y_iinc C (L' := [(16, .int (nI (i11 + 1))), (15, .ref 421), (0, .ref 0), (1, .ref 100), (2, .int x), (3, .int (nI n)), (4, .int (nI k)), (5, .int (nI o))]) (v := nI (i11 + 1)) dL_act_619 rfl (nI_inc _) (by decide) rfl ?_
    refine Y_goto C 597 dL_act_622 (by decide) ?_
    exact Y_sub (by simp [bI_t, bI_f]) (kk11)
set_option maxHeartbeats 400000 in
set_option maxRecDepth 20000 in
theorem act_8 {p : Program} {l : Launch} {e : Env} {s : State} {m : MethodId} {args : Array Value} {below : List Frame} {meth : Method} {c : Code} {G : gG} {h hv : Nat → Nat} {A : Nat → Prop} {b N : Nat} {xs : Nat → Int32} {x ov wv tv : Int32} {n r k : Nat} {M : Md} {T : WF} {K D : St} {B : Sr} (C : Cx p s m args c cL_act 23 RL G A) (S : Cs l s A b N xs) (hr : meth.sig.returnType = some .boolean) (hlk : meth.locks = false) (ag0 : ∀ i, kpA i → hv i = h i) (I : LI n r B K M) (hT : okT T) (hk : k < n) (ho : ov = -1 ∨ ∃ o : Nat, o < n ∧ ov = nI o ∧ o ≠ k) : Y p l e (gRm 7 740 19900) s m args below meth c 23 G A hv (MQ below (gQm G h A kpA (actF n r M T)) args s 740 19900 A) 0 0 (gW (xW K D B) n r M (tN T)) 539 [(0, .ref 0), (1, .ref 100), (2, .int x), (3, .int (nI n)), (4, .int (nI k)), (5, .int ov), (6, .int wv), (7, .int tv)] [] := by
  have h40 := I.h40
  have h30 := I.h30
  have hC := okC_x K D B
  have hTN := okT_N hT
  have hn1 : 1 ≤ n := by omega
  rcases ho with rfl | ⟨o, ho, rfl, hko⟩
  · refine Y_iload C dL_act_539 rfl ?_
    refine Y_if_lt C 580 dL_act_541 (by decide) (fun cc1 => ?_) (fun cc1 => absurd (by decide) cc1)
    refine Y_iconst C (v := 1) dL_act_580 (by decide) ?_
    refine Y_sub (L' := []) (by simp) ?_
    refine Y_less (w' := gW (xW K D B) n r M (tN T)) (gW_less (tN_to (fun i hi => tN_out hi))) ?_
    refine Y_widen (k' := 740) (n' := 19900) (by first | omega | decide) (by first | omega | decide) ?_
    exact Y_zret C hr hlk dL_act_581 rfl (fun i hi => (ag0 i (by first | trivial | exact hi | ((try unfold kpA at hi); (try dsimp only at hi); (try dsimp only); omega)))) (actF_mk (D := D) (Nat.le_refl n) hn1 (fun i _ q => q) rfl (fun q => q) I)
  · by_cases hr9 : r = 30
    · refine Y_iload C dL_act_539 rfl ?_
      refine Y_if_lt C 580 dL_act_541 (by decide) (fun cc2 => absurd cc2 (nI_pos (by omega))) (fun cc2 => ?_)
      refine Y_aload_n C dL_act_544 rfl rfl ?_
      refine Y_get C K3 (v := .ref 102) 1 dL_act_545 gW_100 (by decide) g_580 rfl rfl ?_
      refine Y_alen C (i := 3) (v := nI r) dL_act_548 gW_102 rfl rfl ?_
      refine Y_bipush C (v := 30) dL_act_549 (by decide) ?_
      refine Y_icmp_eq C 580 dL_act_551 (by decide) (fun cc3 => ?_) (fun cc3 => absurd (by rw [hr9]; rfl) cc3)
      refine Y_iconst C (v := 1) dL_act_580 (by decide) ?_
      refine Y_sub (L' := []) (by simp) ?_
      refine Y_less (w' := gW (xW K D B) n r M (tN T)) (gW_less (tN_to (fun i hi => tN_out hi))) ?_
      refine Y_widen (k' := 740) (n' := 19900) (by first | omega | decide) (by first | omega | decide) ?_
      exact Y_zret C hr hlk dL_act_581 rfl (fun i hi => (ag0 i (by first | trivial | exact hi | ((try unfold kpA at hi); (try dsimp only at hi); (try dsimp only); omega)))) (actF_mk (D := D) (Nat.le_refl n) hn1 (fun i _ q => q) rfl (fun q => q) I)
    · refine Y_iload C dL_act_539 rfl ?_
      refine Y_if_lt C 580 dL_act_541 (by decide) (fun cc4 => absurd cc4 (nI_pos (by omega))) (fun cc4 => ?_)
      refine Y_aload_n C dL_act_544 rfl rfl ?_
      refine Y_get C K3 (v := .ref 102) 1 dL_act_545 gW_100 (by decide) g_580 rfl rfl ?_
      refine Y_alen C (i := 3) (v := nI r) dL_act_548 gW_102 rfl rfl ?_
      refine Y_bipush C (v := 30) dL_act_549 (by decide) ?_
      refine Y_icmp_eq C 580 dL_act_551 (by decide) (fun cc5 => absurd cc5 (fun z => hr9 ((nI_eq (b := 30) (by omega) (by omega)).mp z))) (fun cc5 => ?_)
      refine Y_aload_n C dL_act_554 rfl rfl ?_
      refine Y_get C K3 (v := .ref 101) 0 dL_act_555 gW_100 (by decide) g_578 rfl rfl ?_
      refine Y_iload C dL_act_558 rfl ?_
      refine Y_aaldq C (j := 200 + 2 * k) dL_act_560 gW_101 (vp_in_nI (by omega) (by omega)) (by rw [nI_clamp (by omega)]; exact rfS_at (by omega)) ?_
      refine Y_get C K4 (v := .int (M.1 2 k)) 2 dL_act_561 (gW_st h40 (by omega)) (by decide) g_453 rfl rfl ?_
      refine Y_if_eq C 580 dL_act_564 (by decide) (fun cc6 => ?_) (fun cc6 => ?_)
      · refine Y_iconst C (v := 1) dL_act_580 (by decide) ?_
        refine Y_sub (L' := []) (by simp) ?_
        refine Y_less (w' := gW (xW K D B) n r M (tN T)) (gW_less (tN_to (fun i hi => tN_out hi))) ?_
        refine Y_widen (k' := 740) (n' := 19900) (by first | omega | decide) (by first | omega | decide) ?_
        exact Y_zret C hr hlk dL_act_581 rfl (fun i hi => (ag0 i (by first | trivial | exact hi | ((try unfold kpA at hi); (try dsimp only at hi); (try dsimp only); omega)))) (actF_mk (D := D) (Nat.le_refl n) hn1 (fun i _ q => q) rfl (fun q => q) I)
      · refine Y_aload_n C dL_act_567 rfl rfl ?_
        refine Y_get C K3 (v := .ref 101) 0 dL_act_568 gW_100 (by decide) g_578 rfl rfl ?_
        refine Y_iload C dL_act_571 rfl ?_
        refine Y_aaldq C (j := 200 + 2 * o) dL_act_573 gW_101 (vp_in_nI (by omega) (by omega)) (by rw [nI_clamp (by omega)]; exact rfS_at (by omega)) ?_
        refine Y_get C K4 (v := .int (M.1 2 o)) 2 dL_act_574 (gW_st h40 (by omega)) (by decide) g_453 rfl rfl ?_
        refine Y_if_ne C 582 dL_act_577 (by decide) (fun cc7 => ?_) (fun cc7 => ?_)
        · refine Y_sub (L' := [(0, .ref 0), (1, .ref 100), (2, .int x), (3, .int (nI n)), (4, .int (nI k)), (5, .int (nI o))]) (by simp) ?_
          exact Y_sub (by simp) (act_8b (x := x) C S hr hlk (fun i hi => (ag0 i (by first | trivial | exact hi | ((try unfold kpA at hi); (try dsimp only at hi); (try dsimp only); omega)))) I hT (by omega) hk ho (Ne.symm hko) cc6 cc7)
        · refine Y_iconst C (v := 1) dL_act_580 (by decide) ?_
          refine Y_sub (L' := []) (by simp) ?_
          refine Y_less (w' := gW (xW K D B) n r M (tN T)) (gW_less (tN_to (fun i hi => tN_out hi))) ?_
          refine Y_widen (k' := 740) (n' := 19900) (by first | omega | decide) (by first | omega | decide) ?_
          exact Y_zret C hr hlk dL_act_581 rfl (fun i hi => (ag0 i (by first | trivial | exact hi | ((try unfold kpA at hi); (try dsimp only at hi); (try dsimp only); omega)))) (actF_mk (D := D) (Nat.le_refl n) hn1 (fun i _ q => q) rfl (fun q => q) I)
set_option maxHeartbeats 400000 in
set_option maxRecDepth 20000 in
theorem act_10 {p : Program} {l : Launch} {e : Env} {s : State} {m : MethodId} {args : Array Value} {below : List Frame} {meth : Method} {c : Code} {G : gG} {h hv : Nat → Nat} {A : Nat → Prop} {b N : Nat} {xs : Nat → Int32} {x kv ov wv tv : Int32} {n r : Nat} {M : Md} {T : WF} {K D : St} {B : Sr} (C : Cx p s m args c cL_act 23 RL G A) (S : Cs l s A b N xs) (hr : meth.sig.returnType = some .boolean) (hlk : meth.locks = false) (ag0 : ∀ i, kpA i → hv i = h i) (I : LI n r B K M) (hT : okT T) (hn1 : 1 ≤ n) : Y p l e (gRm 7 740 19900) s m args below meth c 23 G A hv (MQ below (gQm G h A kpA (actF n r M T)) args s 740 19900 A) 0 0 (gW (xW K D B) n r M (tN T)) 678 [(0, .ref 0), (1, .ref 100), (2, .int x), (3, .int (nI n)), (4, .int kv), (5, .int ov), (6, .int wv), (7, .int tv)] [] := by
  have h40 := I.h40
  have h30 := I.h30
  have hC := okC_x K D B
  have hTN := okT_N hT
  by_cases hr2 : r < 2
  · refine Y_aload_n C dL_act_678 rfl rfl ?_
    refine Y_get C K3 (v := .ref 102) 1 dL_act_679 gW_100 (by decide) g_580 rfl rfl ?_
    refine Y_alen C (i := 3) (v := nI r) dL_act_682 gW_102 rfl rfl ?_
    refine Y_istore C (L' := [(16, .int (nI r)), (0, .ref 0), (1, .ref 100), (2, .int x), (3, .int (nI n)), (4, .int kv), (5, .int ov), (6, .int wv), (7, .int tv)]) dL_act_683 (by decide) rfl ?_
    refine Y_iload C dL_act_685 rfl ?_
    refine Y_iconst C (v := 2) dL_act_687 (by decide) ?_
    refine Y_icmp_ge C 693 dL_act_688 (by decide) (fun cc1 => absurd cc1 (nI_ge (b := 2) hr2 (by decide))) (fun cc1 => ?_)
    refine Y_iconst C (v := 1) dL_act_691 (by decide) ?_
    refine Y_sub (L' := []) (by simp) ?_
    refine Y_less (w' := gW (xW K D B) n r M (tN T)) (gW_less (tN_to (fun i hi => tN_out hi))) ?_
    refine Y_widen (k' := 740) (n' := 19900) (by first | omega | decide) (by first | omega | decide) ?_
    exact Y_zret C hr hlk dL_act_692 rfl (fun i hi => (ag0 i (by first | trivial | exact hi | ((try unfold kpA at hi); (try dsimp only at hi); (try dsimp only); omega)))) (actF_mk (D := D) (Nat.le_refl n) hn1 (fun i _ q => q) rfl (fun q => q) I)
  · refine Y_aload_n C dL_act_678 rfl rfl ?_
    refine Y_get C K3 (v := .ref 102) 1 dL_act_679 gW_100 (by decide) g_580 rfl rfl ?_
    refine Y_alen C (i := 3) (v := nI r) dL_act_682 gW_102 rfl rfl ?_
    refine Y_istore C (L' := [(16, .int (nI r)), (0, .ref 0), (1, .ref 100), (2, .int x), (3, .int (nI n)), (4, .int kv), (5, .int ov), (6, .int wv), (7, .int tv)]) dL_act_683 (by decide) rfl ?_
    refine Y_iload C dL_act_685 rfl ?_
    refine Y_iconst C (v := 2) dL_act_687 (by decide) ?_
    refine Y_icmp_ge C 693 dL_act_688 (by decide) (fun cc2 => ?_) (fun cc2 => absurd (nI_le (a := 2) (by omega) (by omega)) cc2)
    refine Y_iload_n C dL_act_693 rfl rfl ?_
    refine Y_iload C dL_act_694 rfl ?_
    obtain ⟨a, ha, ea⟩ := bl_nI (x) (n := r) (by omega) (by omega)
    refine Y_callMS C S (c_L_below (w := gW (xW K D B) n r M (tN T)) (x := x) (y := nI r) (fun z => absurd ((nI_eq (b := 0) (by omega) (by omega)).mp z) (by omega))) m_L_below g_427 dL_act_696 rfl rfl ⟨Nat.le_of_ble_eq_true rfl, Nat.le_of_ble_eq_true rfl⟩ ⟨Nat.le_of_ble_eq_true rfl, Nat.le_of_ble_eq_true rfl⟩ (Nat.le_of_ble_eq_true rfl) ⟨trivial, (by first | trivial | (unfold vR; (try dsimp only); omega)), (by first | trivial | (unfold vR; (try dsimp only); omega)), trivial, trivial, trivial, trivial, trivial, trivial, trivial⟩ trivial (fun h3 r3 w3 ag3 F3 => ?_)
    obtain ⟨rfl, rfl⟩ := F3
    refine Y_stk [.int (bl (x) (nI r))] rfl ?_
    refine Y_stk [.int (nI a)] (by rw [ea]) ?_
    refine Y_istore C (L' := [(17, .int (nI a)), (16, .int (nI r)), (0, .ref 0), (1, .ref 100), (2, .int x), (3, .int (nI n)), (4, .int kv), (5, .int ov), (6, .int wv), (7, .int tv)]) dL_act_699 (by decide) rfl ?_
    refine Y_iload C dL_act_701 rfl ?_
    refine Y_iconst C (v := 1) dL_act_703 (by decide) ?_
    refine Y_iadd C (v := nI (a + 1)) dL_act_704 (nI_1 a) ?_
    refine Y_iload_n C dL_act_705 rfl rfl ?_
    refine Y_iconst C (v := 3) dL_act_706 (by decide) ?_
    refine Y_ishr C (v := x >>> (3 &&& 31)) dL_act_707 rfl ?_
    refine Y_iload C dL_act_708 rfl ?_
    refine Y_iconst C (v := 1) dL_act_710 (by decide) ?_
    refine Y_isub C (v := nI (r - 1)) dL_act_711 (nI_p1 (by omega)) ?_
    obtain ⟨j2, hj2, ej2⟩ := bl_nI (x >>> (3 &&& 31)) (n := r - 1) (by omega) (by omega)
    refine Y_callMS C S (c_L_below (w := gW (xW K D B) n r M (tN T)) (x := x >>> (3 &&& 31)) (y := nI (r - 1)) (fun z => absurd ((nI_eq (b := 0) (by omega) (by omega)).mp z) (by omega))) m_L_below g_427 dL_act_712 rfl rfl ⟨Nat.le_of_ble_eq_true rfl, Nat.le_of_ble_eq_true rfl⟩ ⟨Nat.le_of_ble_eq_true rfl, Nat.le_of_ble_eq_true rfl⟩ (Nat.le_of_ble_eq_true rfl) ⟨trivial, trivial, (by first | trivial | (unfold vR; (try dsimp only); omega)), (by first | trivial | (unfold vR; (try dsimp only); omega)), trivial, trivial, trivial, trivial, trivial, trivial, trivial⟩ ⟨trivial, trivial⟩ (fun h4 r4 w4 ag4 F4 => ?_)
    obtain ⟨rfl, rfl⟩ := F4
    refine Y_stk [.int (bl (x >>> (3 &&& 31)) (nI (r - 1))), .int (nI (a + 1))] rfl ?_
    refine Y_stk [.int (nI j2), .int (nI (a + 1))] (by rw [ej2]) ?_
    refine Y_iadd C (v := nI (a + 1 + j2)) dL_act_715 (nI_add (a + 1) j2) ?_
    refine Y_iload C dL_act_716 rfl ?_
    refine Y_irem C (v := nI ((a + 1 + j2) % r)) dL_act_718 (fun z => absurd ((nI_eq (b := 0) (by omega) (by omega)).mp z) (by omega)) (rem_nI (by omega) (by omega)) ?_
    obtain ⟨hb, hba⟩ := oth_ne ha hj2
    generalize (a + 1 + j2) % r = b3 at hb hba ⊢
    have g01 := I.g01
    refine Y_istore C (L' := [(18, .int (nI b3)), (17, .int (nI a)), (16, .int (nI r)), (0, .ref 0), (1, .ref 100), (2, .int x), (3, .int (nI n)), (4, .int kv), (5, .int ov), (6, .int wv), (7, .int tv)]) dL_act_719 (by decide) rfl ?_
    refine Y_aload_n C dL_act_721 rfl rfl ?_
    refine Y_get C K3 (v := .ref 102) 1 dL_act_722 gW_100 (by decide) g_580 rfl rfl ?_
    refine Y_iload C dL_act_725 rfl ?_
    refine Y_aald C (j := 300 + a) dL_act_727 gW_102 (vp_in_nI ha (by omega)) (by rw [nI_clamp (by omega)]; exact rfT_at ha) ?_
    refine Y_astore C (L' := [(19, .ref (300 + a)), (18, .int (nI b3)), (17, .int (nI a)), (16, .int (nI r)), (0, .ref 0), (1, .ref 100), (2, .int x), (3, .int (nI n)), (4, .int kv), (5, .int ov), (6, .int wv), (7, .int tv)]) dL_act_728 (by decide) rfl ?_
    refine Y_aload_n C dL_act_730 rfl rfl ?_
    refine Y_get C K3 (v := .ref 102) 1 dL_act_731 gW_100 (by decide) g_580 rfl rfl ?_
    refine Y_iload C dL_act_734 rfl ?_
    refine Y_aald C (j := 300 + b3) dL_act_736 gW_102 (vp_in_nI hb (by omega)) (by rw [nI_clamp (by omega)]; exact rfT_at hb) ?_
    refine Y_astore C (L' := [(20, .ref (300 + b3)), (19, .ref (300 + a)), (18, .int (nI b3)), (17, .int (nI a)), (16, .int (nI r)), (0, .ref 0), (1, .ref 100), (2, .int x), (3, .int (nI n)), (4, .int kv), (5, .int ov), (6, .int wv), (7, .int tv)]) dL_act_737 (by decide) rfl ?_
    refine Y_aload C dL_act_739 rfl ?_
    refine Y_iconst C (v := 2) dL_act_741 (by decide) ?_
    refine Y_iald C (v := M.2.1 2 a) dL_act_742 (gW_sa h40 h30 ha) (vp_in_nI (n := 2) (N := 3) (by decide) (by decide)) rfl ?_
    refine Y_iconst C (v := 1) dL_act_743 (by decide) ?_
    refine Y_icmp_eq C 755 dL_act_744 (by decide) (fun cc5 => ?_) (fun cc5 => ?_)
    · refine Y_iconst C (v := 1) dL_act_755 (by decide) ?_
      refine Y_sub (L' := []) (by simp) ?_
      refine Y_less (w' := gW (xW K D B) n r M (tN T)) (gW_less (tN_to (fun i hi => tN_out hi))) ?_
      refine Y_widen (k' := 740) (n' := 19900) (by first | omega | decide) (by first | omega | decide) ?_
      exact Y_zret C hr hlk dL_act_756 rfl (fun i hi => ((ag4 i (by first | trivial | exact hi | ((try unfold kpA at hi); (try dsimp only at hi); (try dsimp only); omega))).trans ((ag3 i (by first | trivial | exact hi | ((try unfold kpA at hi); (try dsimp only at hi); (try dsimp only); omega))).trans (ag0 i (by first | trivial | exact hi | ((try unfold kpA at hi); (try dsimp only at hi); (try dsimp only); omega)))))) (actF_mk (D := D) (Nat.le_refl n) hn1 (fun i _ q => q) rfl (fun q => q) I)
    · refine Y_aload C dL_act_747 rfl ?_
      refine Y_iconst C (v := 2) dL_act_749 (by decide) ?_
      refine Y_iald C (v := M.2.1 2 b3) dL_act_750 (gW_sa h40 h30 hb) (vp_in_nI (n := 2) (N := 3) (by decide) (by decide)) rfl ?_
      refine Y_iconst C (v := 1) dL_act_751 (by decide) ?_
      refine Y_icmp_ne C 757 dL_act_752 (by decide) (fun cc6 => ?_) (fun cc6 => ?_)
      · obtain ⟨q1, q2, q3⟩ := LI_swap I ha hb (Ne.symm hba) cc5 cc6 g01
        by_cases c0 : ¬ M.2.1 0 a = M.2.1 1 b3 ∧ ¬ M.2.1 0 b3 = M.2.1 1 a
        · rw [if_pos c0] at q3
          rw [decide_eq_true c0] at q2
          refine Y_aload C dL_act_757 rfl ?_
          refine Y_iconst C (v := 0) dL_act_759 (by decide) ?_
          refine Y_iald C (v := M.2.1 0 a) dL_act_760 (gW_sa h40 h30 ha) (vp_in_nI (n := 0) (N := 3) (by decide) (by decide)) rfl ?_
          refine Y_aload C dL_act_761 rfl ?_
          refine Y_iconst C (v := 1) dL_act_763 (by decide) ?_
          refine Y_iald C (v := M.2.1 1 b3) dL_act_764 (gW_sa h40 h30 hb) (vp_in_nI (n := 1) (N := 3) (by decide) (by decide)) rfl ?_
          refine Y_icmp_eq C 783 dL_act_765 (by decide) (fun cc7 => absurd cc7 c0.1) (fun cc7 => ?_)
          refine Y_aload C dL_act_768 rfl ?_
          refine Y_iconst C (v := 0) dL_act_770 (by decide) ?_
          refine Y_iald C (v := M.2.1 0 b3) dL_act_771 (gW_sa h40 h30 hb) (vp_in_nI (n := 0) (N := 3) (by decide) (by decide)) rfl ?_
          refine Y_aload C dL_act_772 rfl ?_
          refine Y_iconst C (v := 1) dL_act_774 (by decide) ?_
          refine Y_iald C (v := M.2.1 1 a) dL_act_775 (gW_sa h40 h30 ha) (vp_in_nI (n := 1) (N := 3) (by decide) (by decide)) rfl ?_
          refine Y_icmp_eq C 783 dL_act_776 (by decide) (fun cc8 => absurd cc8 c0.2) (fun cc8 => ?_)
          refine Y_iconst C (v := 1) dL_act_779 (by decide) ?_
          refine Y_goto C 784 dL_act_780 (by decide) ?_
          refine Y_istore C (L' := [(21, .int 1), (20, .ref (300 + b3)), (19, .ref (300 + a)), (18, .int (nI b3)), (17, .int (nI a)), (16, .int (nI r)), (0, .ref 0), (1, .ref 100), (2, .int x), (3, .int (nI n)), (4, .int kv), (5, .int ov), (6, .int wv), (7, .int tv)]) dL_act_784 (by decide) rfl ?_
          refine Y_iload C dL_act_786 rfl ?_
          refine Y_if_eq C 811 dL_act_788 (by decide) (fun cc9 => absurd cc9 (by decide)) (fun cc9 => ?_)
          refine Y_aload C dL_act_791 rfl ?_
          refine Y_iconst C (v := 1) dL_act_793 (by decide) ?_
          refine Y_iald C (v := M.2.1 1 a) dL_act_794 (gW_sa h40 h30 ha) (vp_in_nI (n := 1) (N := 3) (by decide) (by decide)) rfl ?_
          refine Y_istore C (L' := [(22, .int (M.2.1 1 a)), (21, .int 1), (20, .ref (300 + b3)), (19, .ref (300 + a)), (18, .int (nI b3)), (17, .int (nI a)), (16, .int (nI r)), (0, .ref 0), (1, .ref 100), (2, .int x), (3, .int (nI n)), (4, .int kv), (5, .int ov), (6, .int wv), (7, .int tv)]) dL_act_795 (by decide) rfl ?_
          refine Y_aload C dL_act_797 rfl ?_
          refine Y_iconst C (v := 1) dL_act_799 (by decide) ?_
          refine Y_aload C dL_act_800 rfl ?_
          refine Y_iconst C (v := 1) dL_act_802 (by decide) ?_
          refine Y_iald C (v := M.2.1 1 b3) dL_act_803 (gW_sa h40 h30 hb) (vp_in_nI (n := 1) (N := 3) (by decide) (by decide)) rfl ?_
          refine Y_iast C (f' := fun q => (wA M 1 a (M.2.1 1 b3)).2.1 q a) dL_act_804 (gW_sa h40 h30 ha) (vp_in_nI (n := 1) (N := 3) (by decide) (by decide)) (sta_w M 1 a _) (w' := gW (xW K D B) n r (wA M 1 a (M.2.1 1 b3)) (tN T)) (gW_wA h40 h30 ha rfl) ?_
          refine Y_aload C dL_act_805 rfl ?_
          refine Y_iconst C (v := 1) dL_act_807 (by decide) ?_
          refine Y_iload C dL_act_808 rfl ?_
          refine Y_iast C (f' := fun q => (mXw M a b3).2.1 q b3) dL_act_810 (gW_sa h40 h30 hb) (vp_in_nI (n := 1) (N := 3) (by decide) (by decide)) (sta_w (wA M 1 a (M.2.1 1 b3)) 1 b3 _) (w' := gW (xW K D B) n r (mXw M a b3) (tN T)) (gW_wA h40 h30 hb rfl) ?_
          refine Y_aload_n C dL_act_811 rfl rfl ?_
          refine Y_iload C dL_act_812 rfl ?_
          refine Y_iload C dL_act_814 rfl ?_
          refine Y_callG (K' := K) (D' := D) (B' := (cSwap K B (nI a) (nI b3)).2.2) C S (c_X2_swap K D B (nI a) (nI b3) I.kn h40 I.br h30) q1 m_X2_swap K2 g_557 dL_act_816 rfl rfl ⟨Nat.le_of_ble_eq_true rfl, Nat.le_of_ble_eq_true rfl⟩ ⟨Nat.le_of_ble_eq_true rfl, Nat.le_of_ble_eq_true rfl⟩ (Nat.le_of_ble_eq_true rfl) ?_
          refine Y_stk [.int (bI (cSwap K B (nI a) (nI b3)).2.1)] rfl ?_
          refine Y_stk [.int 1] (by rw [q2]; rfl) ?_
          refine Y_iload C dL_act_819 rfl ?_
          refine Y_icmp_ne C 828 dL_act_821 (by decide) (fun cc10 => absurd (by decide) cc10) (fun cc10 => ?_)
          refine Y_iconst C (v := 1) dL_act_824 (by decide) ?_
          refine Y_goto C 829 dL_act_825 (by decide) ?_
          refine Y_sub (L' := []) (by simp) ?_
          refine Y_less (w' := gW (xW K D (cSwap K B (nI a) (nI b3)).2.2) n r (mXw M a b3) (tN T)) (gW_less (tN_to (fun i hi => tN_out hi))) ?_
          refine Y_widen (k' := 740) (n' := 19900) (by first | omega | decide) (by first | omega | decide) ?_
          exact Y_zret C hr hlk dL_act_829 rfl (fun i hi => ((ag4 i (by first | trivial | exact hi | ((try unfold kpA at hi); (try dsimp only at hi); (try dsimp only); omega))).trans ((ag3 i (by first | trivial | exact hi | ((try unfold kpA at hi); (try dsimp only at hi); (try dsimp only); omega))).trans (ag0 i (by first | trivial | exact hi | ((try unfold kpA at hi); (try dsimp only at hi); (try dsimp only); omega)))))) (actF_mk (D := D) (Nat.le_refl n) hn1 (fun i hi q => q) rfl (Df_xw (Ne.symm hba) c0) q3)
        · rw [if_neg c0] at q3
          rw [decide_eq_false c0] at q2
          by_cases c1 : M.2.1 0 a = M.2.1 1 b3
          · refine Y_aload C dL_act_757 rfl ?_
            refine Y_iconst C (v := 0) dL_act_759 (by decide) ?_
            refine Y_iald C (v := M.2.1 0 a) dL_act_760 (gW_sa h40 h30 ha) (vp_in_nI (n := 0) (N := 3) (by decide) (by decide)) rfl ?_
            refine Y_aload C dL_act_761 rfl ?_
            refine Y_iconst C (v := 1) dL_act_763 (by decide) ?_
            refine Y_iald C (v := M.2.1 1 b3) dL_act_764 (gW_sa h40 h30 hb) (vp_in_nI (n := 1) (N := 3) (by decide) (by decide)) rfl ?_
            refine Y_icmp_eq C 783 dL_act_765 (by decide) (fun cc11 => ?_) (fun cc11 => absurd c1 cc11)
            refine Y_iconst C (v := 0) dL_act_783 (by decide) ?_
            refine Y_istore C (L' := [(21, .int 0), (20, .ref (300 + b3)), (19, .ref (300 + a)), (18, .int (nI b3)), (17, .int (nI a)), (16, .int (nI r)), (0, .ref 0), (1, .ref 100), (2, .int x), (3, .int (nI n)), (4, .int kv), (5, .int ov), (6, .int wv), (7, .int tv)]) dL_act_784 (by decide) rfl ?_
            refine Y_iload C dL_act_786 rfl ?_
            refine Y_if_eq C 811 dL_act_788 (by decide) (fun cc12 => ?_) (fun cc12 => absurd (by decide) cc12)
            refine Y_aload_n C dL_act_811 rfl rfl ?_
            refine Y_iload C dL_act_812 rfl ?_
            refine Y_iload C dL_act_814 rfl ?_
            refine Y_callG (K' := K) (D' := D) (B' := (cSwap K B (nI a) (nI b3)).2.2) C S (c_X2_swap K D B (nI a) (nI b3) I.kn h40 I.br h30) q1 m_X2_swap K2 g_557 dL_act_816 rfl rfl ⟨Nat.le_of_ble_eq_true rfl, Nat.le_of_ble_eq_true rfl⟩ ⟨Nat.le_of_ble_eq_true rfl, Nat.le_of_ble_eq_true rfl⟩ (Nat.le_of_ble_eq_true rfl) ?_
            refine Y_stk [.int (bI (cSwap K B (nI a) (nI b3)).2.1)] rfl ?_
            refine Y_stk [.int 0] (by rw [q2]; rfl) ?_
            refine Y_iload C dL_act_819 rfl ?_
            refine Y_icmp_ne C 828 dL_act_821 (by decide) (fun cc13 => absurd (by decide) cc13) (fun cc13 => ?_)
            refine Y_iconst C (v := 1) dL_act_824 (by decide) ?_
            refine Y_goto C 829 dL_act_825 (by decide) ?_
            refine Y_sub (L' := []) (by simp) ?_
            refine Y_less (w' := gW (xW K D (cSwap K B (nI a) (nI b3)).2.2) n r M (tN T)) (gW_less (tN_to (fun i hi => tN_out hi))) ?_
            refine Y_widen (k' := 740) (n' := 19900) (by first | omega | decide) (by first | omega | decide) ?_
            exact Y_zret C hr hlk dL_act_829 rfl (fun i hi => ((ag4 i (by first | trivial | exact hi | ((try unfold kpA at hi); (try dsimp only at hi); (try dsimp only); omega))).trans ((ag3 i (by first | trivial | exact hi | ((try unfold kpA at hi); (try dsimp only at hi); (try dsimp only); omega))).trans (ag0 i (by first | trivial | exact hi | ((try unfold kpA at hi); (try dsimp only at hi); (try dsimp only); omega)))))) (actF_mk (D := D) (Nat.le_refl n) hn1 (fun i hi q => q) rfl (fun q => q) q3)
          · have c2 : M.2.1 0 b3 = M.2.1 1 a := Decidable.not_not.mp (fun y => c0 ⟨c1, y⟩)
            refine Y_aload C dL_act_757 rfl ?_
            refine Y_iconst C (v := 0) dL_act_759 (by decide) ?_
            refine Y_iald C (v := M.2.1 0 a) dL_act_760 (gW_sa h40 h30 ha) (vp_in_nI (n := 0) (N := 3) (by decide) (by decide)) rfl ?_
            refine Y_aload C dL_act_761 rfl ?_
            refine Y_iconst C (v := 1) dL_act_763 (by decide) ?_
            refine Y_iald C (v := M.2.1 1 b3) dL_act_764 (gW_sa h40 h30 hb) (vp_in_nI (n := 1) (N := 3) (by decide) (by decide)) rfl ?_
            refine Y_icmp_eq C 783 dL_act_765 (by decide) (fun cc14 => absurd cc14 c1) (fun cc14 => ?_)
            refine Y_aload C dL_act_768 rfl ?_
            refine Y_iconst C (v := 0) dL_act_770 (by decide) ?_
            refine Y_iald C (v := M.2.1 0 b3) dL_act_771 (gW_sa h40 h30 hb) (vp_in_nI (n := 0) (N := 3) (by decide) (by decide)) rfl ?_
            refine Y_aload C dL_act_772 rfl ?_
            refine Y_iconst C (v := 1) dL_act_774 (by decide) ?_
            refine Y_iald C (v := M.2.1 1 a) dL_act_775 (gW_sa h40 h30 ha) (vp_in_nI (n := 1) (N := 3) (by decide) (by decide)) rfl ?_
            refine Y_icmp_eq C 783 dL_act_776 (by decide) (fun cc15 => ?_) (fun cc15 => absurd c2 cc15)
            refine Y_iconst C (v := 0) dL_act_783 (by decide) ?_
            refine Y_istore C (L' := [(21, .int 0), (20, .ref (300 + b3)), (19, .ref (300 + a)), (18, .int (nI b3)), (17, .int (nI a)), (16, .int (nI r)), (0, .ref 0), (1, .ref 100), (2, .int x), (3, .int (nI n)), (4, .int kv), (5, .int ov), (6, .int wv), (7, .int tv)]) dL_act_784 (by decide) rfl ?_
            refine Y_iload C dL_act_786 rfl ?_
            refine Y_if_eq C 811 dL_act_788 (by decide) (fun cc16 => ?_) (fun cc16 => absurd (by decide) cc16)
            refine Y_aload_n C dL_act_811 rfl rfl ?_
            refine Y_iload C dL_act_812 rfl ?_
            refine Y_iload C dL_act_814 rfl ?_
            refine Y_callG (K' := K) (D' := D) (B' := (cSwap K B (nI a) (nI b3)).2.2) C S (c_X2_swap K D B (nI a) (nI b3) I.kn h40 I.br h30) q1 m_X2_swap K2 g_557 dL_act_816 rfl rfl ⟨Nat.le_of_ble_eq_true rfl, Nat.le_of_ble_eq_true rfl⟩ ⟨Nat.le_of_ble_eq_true rfl, Nat.le_of_ble_eq_true rfl⟩ (Nat.le_of_ble_eq_true rfl) ?_
            refine Y_stk [.int (bI (cSwap K B (nI a) (nI b3)).2.1)] rfl ?_
            refine Y_stk [.int 0] (by rw [q2]; rfl) ?_
            refine Y_iload C dL_act_819 rfl ?_
            refine Y_icmp_ne C 828 dL_act_821 (by decide) (fun cc17 => absurd (by decide) cc17) (fun cc17 => ?_)
            refine Y_iconst C (v := 1) dL_act_824 (by decide) ?_
            refine Y_goto C 829 dL_act_825 (by decide) ?_
            refine Y_sub (L' := []) (by simp) ?_
            refine Y_less (w' := gW (xW K D (cSwap K B (nI a) (nI b3)).2.2) n r M (tN T)) (gW_less (tN_to (fun i hi => tN_out hi))) ?_
            refine Y_widen (k' := 740) (n' := 19900) (by first | omega | decide) (by first | omega | decide) ?_
            exact Y_zret C hr hlk dL_act_829 rfl (fun i hi => ((ag4 i (by first | trivial | exact hi | ((try unfold kpA at hi); (try dsimp only at hi); (try dsimp only); omega))).trans ((ag3 i (by first | trivial | exact hi | ((try unfold kpA at hi); (try dsimp only at hi); (try dsimp only); omega))).trans (ag0 i (by first | trivial | exact hi | ((try unfold kpA at hi); (try dsimp only at hi); (try dsimp only); omega)))))) (actF_mk (D := D) (Nat.le_refl n) hn1 (fun i hi q => q) rfl (fun q => q) q3)
      · refine Y_iconst C (v := 1) dL_act_755 (by decide) ?_
        refine Y_sub (L' := []) (by simp) ?_
        refine Y_less (w' := gW (xW K D B) n r M (tN T)) (gW_less (tN_to (fun i hi => tN_out hi))) ?_
        refine Y_widen (k' := 740) (n' := 19900) (by first | omega | decide) (by first | omega | decide) ?_
        exact Y_zret C hr hlk dL_act_756 rfl (fun i hi => ((ag4 i (by first | trivial | exact hi | ((try unfold kpA at hi); (try dsimp only at hi); (try dsimp only); omega))).trans ((ag3 i (by first | trivial | exact hi | ((try unfold kpA at hi); (try dsimp only at hi); (try dsimp only); omega))).trans (ag0 i (by first | trivial | exact hi | ((try unfold kpA at hi); (try dsimp only at hi); (try dsimp only); omega)))))) (actF_mk (D := D) (Nat.le_refl n) hn1 (fun i _ q => q) rfl (fun q => q) I)
