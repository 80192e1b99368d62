/-! an act: a stone conjured or hung -/
theorem hol_new {M : Md} {n : Nat} {w t q f o : Int32} {N : Nat} (h : (if f = -1 then 0 else if o = -1 then 1 else 2) = N) : (.inl (0, N, .inl (fun j => if j = 0 then f else o)) : va_E) = holE (mNew M n w t q f o) n := by
  unfold holE hL hF
  rw [nw_s, nw_s, ← h]
  rfl
theorem actF_mk {n n' r r2 : Nat} {M M' : Md} {T : WF} {B' : Sr} {K' D : St} (a : n ≤ n') (b : 1 ≤ n') (c : Dn n M M') (d : M'.2.2.1 0 0 = M.2.2.1 0 0) (g : Df r M → Df r2 M') (e : LI n' r2 B' K' M') : actF n r M T (some (.int 1)) (gW (xW K' D B') n' r2 M' (tN T)) := ⟨rfl, n', r2, B', K', D, M', a, b, c, d, g, e, rfl⟩
set_option maxHeartbeats 400000 in
set_option maxRecDepth 20000 in
theorem act_0 {p : Program} {l : Launch} {e : Env} {s : State} {m : MethodId} {args : Array Value} {below : List Frame} {meth : Method} {c : Code} {G : gG} {h hv : Nat → Nat} {A : Nat → Prop} {b N : Nat} {xs : Nat → Int32} {x kv ov wv tv : Int32} {n r : Nat} {M : Md} {T : WF} {K D : St} {B : Sr} (C : Cx p s m args c cL_act 23 RL G A) (S : Cs l s A b N xs) (hr : meth.sig.returnType = some .boolean) (hlk : meth.locks = false) (ag0 : ∀ i, kpA i → hv i = h i) (I : LI n r B K M) (hT : okT T) (hw : ∃ a : Nat, a ≤ 20 ∧ wv = nI a) (i1 : isInB wv 1 20 = true) (i2 : isInB tv 1 60 = true) : Y p l e (gRm 7 740 19900) s m args below meth c 23 G A hv (MQ below (gQm G h A kpA (actF n r M T)) args s 740 19900 A) 0 0 (gW (xW K D B) n r M (tN T)) 176 [(0, .ref 0), (1, .ref 100), (2, .int x), (3, .int (nI n)), (4, .int kv), (5, .int ov), (6, .int wv), (7, .int tv)] [] := by
  have h40 := I.h40
  have h30 := I.h30
  have hC := okC_x K D B
  have hTN := okT_N hT
  by_cases hn4 : n = 40
  · refine Y_iload_n C dL_act_176 rfl rfl ?_
    refine Y_bipush C (v := 40) dL_act_177 (by decide) ?_
    refine Y_icmp_ne C 184 dL_act_179 (by decide) (fun cc1 => absurd (by rw [hn4]; rfl) cc1) (fun cc1 => ?_)
    refine Y_iconst C (v := 1) dL_act_182 (by decide) ?_
    have hn1 : 1 ≤ n := by omega
    refine Y_sub (L' := []) (by simp) ?_
    refine Y_less (w' := gW (xW K D B) n r M (tN T)) (gW_less (tN_to (fun i hi => tN_out hi))) ?_
    refine Y_widen (k' := 740) (n' := 19900) (by first | omega | decide) (by first | omega | decide) ?_
    exact Y_zret C hr hlk dL_act_183 rfl (fun i hi => (ag0 i (by first | trivial | exact hi | ((try unfold kpA at hi); (try dsimp only at hi); (try dsimp only); omega)))) (actF_mk (D := D) (Nat.le_refl n) hn1 (fun i _ q => q) rfl (fun q => q) I)
  · have hl : n < 40 := by omega
    refine Y_iload_n C dL_act_176 rfl rfl ?_
    refine Y_bipush C (v := 40) dL_act_177 (by decide) ?_
    refine Y_icmp_ne C 184 dL_act_179 (by decide) (fun cc2 => ?_) (fun cc2 => absurd cc2 (fun z => hn4 ((nI_eq (b := 40) (by omega) (by omega)).mp z)))
    refine Y_iconst C (v := 1) dL_act_184 (by decide) ?_
    refine Y_iload_n C dL_act_185 rfl rfl ?_
    refine Y_iconst C (v := 3) dL_act_186 (by decide) ?_
    refine Y_ishr C (v := x >>> (3 &&& 31)) dL_act_187 rfl ?_
    refine Y_sipush C (v := 200) dL_act_188 (by decide) ?_
    refine Y_stk [.int (nI 200), .int (x >>> (3 &&& 31)), .int 1] rfl ?_
    obtain ⟨j0, hj0, ej0⟩ := bl_nI (x >>> (3 &&& 31)) (n := 200) (by decide) (by omega)
    refine Y_callMS C S (c_L_below (w := gW (xW K D B) n r M (tN T)) (x := x >>> (3 &&& 31)) (y := nI 200) (fun z => absurd ((nI_eq (b := 0) (by omega) (by omega)).mp z) (by omega))) m_L_below g_427 dL_act_191 rfl rfl ⟨Nat.le_of_ble_eq_true rfl, Nat.le_of_ble_eq_true rfl⟩ ⟨Nat.le_of_ble_eq_true rfl, Nat.le_of_ble_eq_true rfl⟩ (Nat.le_of_ble_eq_true rfl) ⟨(by first | trivial | (unfold vR; (try dsimp only); omega)), (by first | trivial | (unfold vR; (try dsimp only); omega)), trivial, trivial, trivial, trivial, trivial, trivial, trivial⟩ ⟨trivial, trivial⟩ (fun h3 r3 w3 ag3 F3 => ?_)
    obtain ⟨rfl, rfl⟩ := F3
    refine Y_stk [.int (bl (x >>> (3 &&& 31)) (nI 200)), .int 1] rfl ?_
    refine Y_stk [.int (nI j0), .int 1] (by rw [ej0]) ?_
    refine Y_stk [.int (nI j0), .int (nI 1)] rfl ?_
    refine Y_iadd C (v := nI (1 + j0)) dL_act_194 (nI_add 1 j0) ?_
    have i3 : isInB (nI (1 + j0)) 1 200 = true := in_nI (lo := 1) (hi := 200) (by omega) (by omega) (by decide)
    generalize nI (1 + j0) = pv at i3 ⊢
    obtain ⟨q1, q2, q3, q4, q5⟩ := LI_conj I hl hw i1 i2 i3
    refine Y_istore C (L' := [(8, .int pv), (0, .ref 0), (1, .ref 100), (2, .int x), (3, .int (nI n)), (4, .int kv), (5, .int ov), (6, .int wv), (7, .int tv)]) dL_act_195 (by decide) rfl ?_
    refine Y_aload_n C dL_act_197 rfl rfl ?_
    refine Y_iload C dL_act_198 rfl ?_
    refine Y_iload C dL_act_200 rfl ?_
    refine Y_iload C dL_act_202 rfl ?_
    refine Y_iconst C (v := nI 0) dL_act_204 (by decide) ?_
    refine Y_stk [.int (nI 0), .int pv, .int tv, .int wv, .ref 100] rfl ?_
    refine Y_newi C (N := 0) 422 dL_act_205 g_85 (by decide) (by decide) (by decide) ⟨Nat.le_of_ble_eq_true rfl, Nat.le_of_ble_eq_true rfl⟩ (gW_N h40 h30 hC hTN (by decide)) ⟨trivial, (by first | trivial | (unfold vR; (try dsimp only); omega)), (by first | trivial | (unfold vR; (try dsimp only); omega)), trivial, trivial, trivial, trivial, trivial, trivial, trivial⟩ ⟨trivial, trivial, trivial, (by first | trivial | (unfold vR; (try dsimp only); omega)), trivial⟩ (fun h4 ag4 => ?_)
    refine Y_fn (fun j => if j = 0 then -1 else -1) (wU_s _ _ _) (fun j hj => by omega) ?_
    refine Y_eq (w' := gW (xW K D B) n r M (tU (tN T) 422 (some (holE (mNew M n wv tv pv (-1) (-1)) n)))) ((wU_wU _ _ _ _).trans ((gW_tU (by decide)).trans (congrArg (fun z => gW (xW K D B) n r M (tU (tN T) 422 (some z))) (hol_new (by decide))))) ?_
    refine Y_callM C S (c_X3_add (V := xW K D B) (T := tU (tN T) 422 (some (holE (mNew M n wv tv pv (-1) (-1)) n))) hl h30 hC (by unfold holE; exact okT_U hTN) ((tU_n _ _ (by decide)).trans (tN_in (by decide))) (tU_s _ _ _) ((tU_n _ _ (by decide)).trans (tN_in (by decide))) ((tU_n _ _ (by decide)).trans (tN_in (by decide))) I.mr q4 q5) m_X3_add K3 g_438 dL_act_207 gW_100 rfl rfl ⟨Nat.le_of_ble_eq_true rfl, Nat.le_of_ble_eq_true rfl⟩ ⟨Nat.le_of_ble_eq_true rfl, Nat.le_of_ble_eq_true rfl⟩ (Nat.le_of_ble_eq_true rfl) ⟨trivial, (by first | trivial | (unfold vR; (try dsimp only); omega)), (by first | trivial | (unfold vR; (try dsimp only); omega)), trivial, trivial, trivial, trivial, trivial, trivial, trivial⟩ trivial (fun h5 r5 w5 ag5 F5 => ?_)
    obtain ⟨rfl, rfl⟩ := F5
    refine Y_stk [] rfl ?_
    refine Y_aload_n C dL_act_210 rfl rfl ?_
    refine Y_iload C dL_act_211 rfl ?_
    refine Y_iload C dL_act_213 rfl ?_
    refine Y_iload C dL_act_215 rfl ?_
    refine Y_callG (K' := (cConj K wv tv pv).2.2) (D' := D) (B' := B) C S (c_X2_conjure K D B wv tv pv I.kn h40 I.br h30) q1 m_X2_conjure K2 g_473 dL_act_217 rfl rfl ⟨Nat.le_of_ble_eq_true rfl, Nat.le_of_ble_eq_true rfl⟩ ⟨Nat.le_of_ble_eq_true rfl, Nat.le_of_ble_eq_true rfl⟩ (Nat.le_of_ble_eq_true rfl) ?_
    refine Y_stk [.int ((cConj K wv tv pv).2.1)] rfl ?_
    refine Y_stk [.int (nI n)] (by rw [q2]) ?_
    refine Y_iload_n C dL_act_220 rfl rfl ?_
    refine Y_icmp_ne C 228 dL_act_221 (by decide) (fun cc6 => absurd rfl cc6) (fun cc6 => ?_)
    refine Y_iconst C (v := 1) dL_act_224 (by decide) ?_
    refine Y_goto C 229 dL_act_225 (by decide) ?_
    refine Y_sub (L' := []) (by simp) ?_
    refine Y_less (w' := gW (xW (cConj K wv tv pv).2.2 D B) (n + 1) r (mGv (mNew M n wv tv pv (-1) (-1))) (tN T)) (gW_less (tN_to (fun i hi => (t5_o (by omega)).trans ((tU_n _ _ (by omega)).trans ((tU_n _ _ (by omega)).trans (tN_out hi)))))) ?_
    refine Y_widen (k' := 740) (n' := 19900) (by first | omega | decide) (by first | omega | decide) ?_
    exact Y_zret C hr hlk dL_act_229 rfl (fun i hi => ((ag5 i (by first | trivial | exact hi | ((try unfold kpA at hi); (try dsimp only at hi); (try dsimp only); omega))).trans ((ag4 i (by first | trivial | exact hi | ((try unfold kpA at hi); (try dsimp only at hi); (try dsimp only); omega))).trans ((ag3 i (by first | trivial | exact hi | ((try unfold kpA at hi); (try dsimp only at hi); (try dsimp only); omega))).trans (ag0 i (by first | trivial | exact hi | ((try unfold kpA at hi); (try dsimp only at hi); (try dsimp only); omega))))))) (actF_mk (D := D) (Nat.le_succ n) (Nat.succ_le_succ (Nat.zero_le n)) (fun i hi q => dn_Gv (by rw [nw_o (Nat.ne_of_lt hi)]; exact q)) (day_Gv _) (fun q => Df_Gv (show Df r (mNew M n wv tv pv (-1) (-1)) from q)) q3)
set_option maxHeartbeats 400000 in
set_option maxRecDepth 20000 in
theorem act_h2 {p : Program} {l : Launch} {e : Env} {s : State} {m : MethodId} {args : Array Value} {below : List Frame} {meth : Method} {c : Code} {G : gG} {h hv : Nat → Nat} {A : Nat → Prop} {b N : Nat} {xs : Nat → Int32} {x  wv tv : Int32} {n r k o : Nat} {M : Md} {T : WF} {K D : St} {B : Sr} (C : Cx p s m args c cL_act 23 RL G A) (S : Cs l s A b N xs) (hr : meth.sig.returnType = some .boolean) (hlk : meth.locks = false) (ag0 : ∀ i, kpA i → hv i = h i) (I : LI n r B K M) (hT : okT T) (hw : ∃ a : Nat, a ≤ 20 ∧ wv = nI a) (i1 : isInB wv 1 20 = true) (i2 : isInB tv 1 60 = true) (hl : n < 40) (hk : k < n) (hhk : ¬ M.1 2 k = 0) (ho : o < n) (hko : o ≠ k) (hho : ¬ M.1 2 o = 0) : Y p l e (gRm 7 740 19900) s m args below meth c 23 G A hv (MQ below (gQm G h A kpA (actF n r M T)) args s 740 19900 A) 0 0 (gW (xW K D B) n r M (tN T)) 292 [(0, .ref 0), (1, .ref 100), (2, .int x), (3, .int (nI n)), (4, .int (nI k)), (5, .int (nI o)), (6, .int wv), (7, .int tv), (9, .int 1)] [] := by
  have h40 := I.h40
  have h30 := I.h30
  have hC := okC_x K D B
  have hTN := okT_N hT
  obtain ⟨q1, q2, q3, q4, q5⟩ := LI_hang I hl (o := (nI o)) hk hhk (Or.inr ⟨o, ho, rfl, hko, hho⟩) hw i1 i2
  refine Y_aload_n C dL_act_292 rfl rfl ?_
  refine Y_iload C dL_act_293 rfl ?_
  refine Y_iload C dL_act_295 rfl ?_
  refine Y_iconst C (v := 0) dL_act_297 (by decide) ?_
  refine Y_iconst C (v := 2) dL_act_298 (by decide) ?_
  have a4 : ¬ nI k = -1 := nI_m1 (by omega)
  have a5 : ¬ nI o = -1 := nI_m1 (by omega)
  refine Y_stk [.int (nI 2), .int 0, .int tv, .int wv, .ref 100] rfl ?_
  refine Y_newi C (N := 2) 422 dL_act_299 g_85 (by decide) (by decide) (by decide) ⟨Nat.le_of_ble_eq_true rfl, Nat.le_of_ble_eq_true rfl⟩ (gW_N h40 h30 hC hTN (by decide)) ⟨(by first | trivial | (unfold vR; (try dsimp only); omega)), (by first | trivial | (unfold vR; (try dsimp only); omega)), trivial, trivial, trivial, trivial, trivial, trivial, trivial, trivial⟩ ⟨trivial, trivial, trivial, (by first | trivial | (unfold vR; (try dsimp only); omega)), trivial⟩ (fun h1 ag1 => ?_)
  refine Y_dup C dL_act_301 rfl ?_
  refine Y_iconst C (v := nI 0) dL_act_302 (by decide) ?_
  refine Y_iload C dL_act_303 rfl ?_
  refine Y_iast C (f' := upd (fun _ => 0) 0 (nI k)) dL_act_305 (wU_s _ _ _) (vp_in_nI (n := 0) (N := 2) (by decide) (by decide)) rfl (w' := wU (gW (xW K D B) n r M (tN T)) 422 (.inl (0, 2, .inl (upd (fun _ => 0) 0 (nI k))))) (wU_wU _ _ _ _) ?_
  refine Y_dup C dL_act_306 rfl ?_
  refine Y_iconst C (v := nI 1) dL_act_307 (by decide) ?_
  refine Y_iload C dL_act_308 rfl ?_
  refine Y_iast C (f' := upd (upd (fun _ => 0) 0 (nI k)) 1 (nI o)) dL_act_310 (wU_s _ _ _) (vp_in_nI (n := 1) (N := 2) (by decide) (by decide)) rfl (w' := wU (gW (xW K D B) n r M (tN T)) 422 (.inl (0, 2, .inl (upd (upd (fun _ => 0) 0 (nI k)) 1 (nI o))))) (wU_wU _ _ _ _) ?_
  refine Y_fn (fun j => if j = 0 then nI k else nI o) (wU_s _ _ _) (fun j hj => by rcases (show j = 0 ∨ j = 1 by omega) with rfl | rfl <;> rfl) ?_
  refine Y_eq (w' := gW (xW K D B) n r M (tU (tN T) 422 (some (holE (mNew M n wv tv 0 (nI k) (nI o)) n)))) ((wU_wU _ _ _ _).trans ((gW_tU (by decide)).trans (congrArg (fun z => gW (xW K D B) n r M (tU (tN T) 422 (some z))) (hol_new (by rw [if_neg a4, if_neg a5]))))) ?_
  refine Y_callM C S (c_X3_add (V := xW K D B) (T := tU (tN T) 422 (some (holE (mNew M n wv tv 0 (nI k) (nI o)) n))) hl h30 hC (by unfold holE; exact okT_U hTN) ((tU_n _ _ (by decide)).trans (tN_in (by decide))) (tU_s _ _ _) ((tU_n _ _ (by decide)).trans (tN_in (by decide))) ((tU_n _ _ (by decide)).trans (tN_in (by decide))) I.mr q4 q5) m_X3_add K3 g_438 dL_act_311 gW_100 rfl rfl ⟨Nat.le_of_ble_eq_true rfl, Nat.le_of_ble_eq_true rfl⟩ ⟨Nat.le_of_ble_eq_true rfl, Nat.le_of_ble_eq_true rfl⟩ (Nat.le_of_ble_eq_true rfl) ⟨(by first | trivial | (unfold vR; (try dsimp only); omega)), (by first | trivial | (unfold vR; (try dsimp only); omega)), trivial, trivial, trivial, trivial, trivial, trivial, trivial, trivial⟩ trivial (fun h2 r2 w2 ag2 F2 => ?_)
  obtain ⟨rfl, rfl⟩ := F2
  refine Y_stk [] rfl ?_
  refine Y_goto C 334 dL_act_314 (by decide) ?_
  refine Y_aload_n C dL_act_334 rfl rfl ?_
  refine Y_iload C dL_act_335 rfl ?_
  refine Y_iload C dL_act_337 rfl ?_
  refine Y_iload C dL_act_339 rfl ?_
  refine Y_iload C dL_act_341 rfl ?_
  refine Y_if_eq C 351 dL_act_343 (by decide) (fun cc3 => absurd cc3 (by decide)) (fun cc3 => ?_)
  refine Y_iload C dL_act_346 rfl ?_
  refine Y_goto C 352 dL_act_348 (by decide) ?_
  refine Y_stk [.int (nI o), .int (nI k), .int tv, .int wv, .ref 0] rfl ?_
  refine Y_callG (K' := (cHang K wv tv (nI k) (nI o)).2.2) (D' := D) (B' := B) C S (c_X2_hang K D B wv tv (nI k) (nI o) I.kn h40 I.br h30) q1 m_X2_hang K2 g_511 dL_act_352 rfl rfl ⟨Nat.le_of_ble_eq_true rfl, Nat.le_of_ble_eq_true rfl⟩ ⟨Nat.le_of_ble_eq_true rfl, Nat.le_of_ble_eq_true rfl⟩ (Nat.le_of_ble_eq_true rfl) ?_
  refine Y_stk [.int ((cHang K wv tv (nI k) (nI o)).2.1)] rfl ?_
  refine Y_stk [.int (nI n)] (by rw [q2]) ?_
  refine Y_iload_n C dL_act_355 rfl rfl ?_
  refine Y_icmp_ne C 363 dL_act_356 (by decide) (fun cc4 => absurd rfl cc4) (fun cc4 => ?_)
  refine Y_iconst C (v := 1) dL_act_359 (by decide) ?_
  refine Y_goto C 364 dL_act_360 (by decide) ?_
  refine Y_sub (L' := []) (by simp) ?_
  refine Y_less (w' := gW (xW (cHang K wv tv (nI k) (nI o)).2.2 D B) (n + 1) r (mGv (mNew M n wv tv 0 (nI k) (nI o))) (tN T)) (gW_less (tN_to (fun i hi => (t5_o (by omega)).trans ((tU_n _ _ (by omega)).trans ((tU_n _ _ (by omega)).trans (tN_out hi)))))) ?_
  refine Y_widen (k' := 740) (n' := 19900) (by first | omega | decide) (by first | omega | decide) ?_
  exact Y_zret C hr hlk dL_act_364 rfl (fun i hi => ((ag2 i (by first | trivial | exact hi | ((try unfold kpA at hi); (try dsimp only at hi); (try dsimp only); omega))).trans ((ag1 i (by first | trivial | exact hi | ((try unfold kpA at hi); (try dsimp only at hi); (try dsimp only); omega))).trans (ag0 i (by first | trivial | exact hi | ((try unfold kpA at hi); (try dsimp only at hi); (try dsimp only); omega)))))) (actF_mk (D := D) (Nat.le_succ n) (Nat.succ_le_succ (Nat.zero_le n)) (fun i hi q => dn_Gv (by rw [nw_o (Nat.ne_of_lt hi)]; exact q)) (day_Gv _) (fun q => Df_Gv (show Df r (mNew M n wv tv 0 (nI k) (nI o)) from q)) q3)
set_option maxHeartbeats 400000 in
set_option maxRecDepth 20000 in
theorem act_h1 {p : Program} {l : Launch} {e : Env} {s : State} {m : MethodId} {args : Array Value} {below : List Frame} {meth : Method} {c : Code} {G : gG} {h hv : Nat → Nat} {A : Nat → Prop} {b N : Nat} {xs : Nat → Int32} {x ov wv tv : Int32} {n r k : Nat} {M : Md} {T : WF} {K D : St} {B : Sr} (C : Cx p s m args c cL_act 23 RL G A) (S : Cs l s A b N xs) (hr : meth.sig.returnType = some .boolean) (hlk : meth.locks = false) (ag0 : ∀ i, kpA i → hv i = h i) (I : LI n r B K M) (hT : okT T) (hw : ∃ a : Nat, a ≤ 20 ∧ wv = nI a) (i1 : isInB wv 1 20 = true) (i2 : isInB tv 1 60 = true) (hl : n < 40) (hk : k < n) (hhk : ¬ M.1 2 k = 0) : Y p l e (gRm 7 740 19900) s m args below meth c 23 G A hv (MQ below (gQm G h A kpA (actF n r M T)) args s 740 19900 A) 0 0 (gW (xW K D B) n r M (tN T)) 317 [(0, .ref 0), (1, .ref 100), (2, .int x), (3, .int (nI n)), (4, .int (nI k)), (5, .int ov), (6, .int wv), (7, .int tv), (9, .int 0)] [] := by
  have h40 := I.h40
  have h30 := I.h30
  have hC := okC_x K D B
  have hTN := okT_N hT
  obtain ⟨q1, q2, q3, q4, q5⟩ := LI_hang I hl (o := (-1)) hk hhk (Or.inl rfl) hw i1 i2
  refine Y_aload_n C dL_act_317 rfl rfl ?_
  refine Y_iload C dL_act_318 rfl ?_
  refine Y_iload C dL_act_320 rfl ?_
  refine Y_iconst C (v := 0) dL_act_322 (by decide) ?_
  refine Y_iconst C (v := 1) dL_act_323 (by decide) ?_
  have a4 : ¬ nI k = -1 := nI_m1 (by omega)
  refine Y_stk [.int (nI 1), .int 0, .int tv, .int wv, .ref 100] rfl ?_
  refine Y_newi C (N := 1) 422 dL_act_324 g_85 (by decide) (by decide) (by decide) ⟨Nat.le_of_ble_eq_true rfl, Nat.le_of_ble_eq_true rfl⟩ (gW_N h40 h30 hC hTN (by decide)) ⟨(by first | trivial | (unfold vR; (try dsimp only); omega)), (by first | trivial | (unfold vR; (try dsimp only); omega)), trivial, trivial, trivial, trivial, trivial, trivial, trivial, trivial⟩ ⟨trivial, trivial, trivial, (by first | trivial | (unfold vR; (try dsimp only); omega)), trivial⟩ (fun h1 ag1 => ?_)
  refine Y_dup C dL_act_326 rfl ?_
  refine Y_iconst C (v := nI 0) dL_act_327 (by decide) ?_
  refine Y_iload C dL_act_328 rfl ?_
  refine Y_iast C (f' := upd (fun _ => 0) 0 (nI k)) dL_act_330 (wU_s _ _ _) (vp_in_nI (n := 0) (N := 1) (by decide) (by decide)) rfl (w' := wU (gW (xW K D B) n r M (tN T)) 422 (.inl (0, 1, .inl (upd (fun _ => 0) 0 (nI k))))) (wU_wU _ _ _ _) ?_
  refine Y_fn (fun j => if j = 0 then nI k else -1) (wU_s _ _ _) (fun j hj => by rcases (show j = 0 by omega) with rfl <;> rfl) ?_
  refine Y_eq (w' := gW (xW K D B) n r M (tU (tN T) 422 (some (holE (mNew M n wv tv 0 (nI k) (-1)) n)))) ((wU_wU _ _ _ _).trans ((gW_tU (by decide)).trans (congrArg (fun z => gW (xW K D B) n r M (tU (tN T) 422 (some z))) (hol_new (by rw [if_neg a4, if_pos rfl]))))) ?_
  refine Y_callM C S (c_X3_add (V := xW K D B) (T := tU (tN T) 422 (some (holE (mNew M n wv tv 0 (nI k) (-1)) n))) hl h30 hC (by unfold holE; exact okT_U hTN) ((tU_n _ _ (by decide)).trans (tN_in (by decide))) (tU_s _ _ _) ((tU_n _ _ (by decide)).trans (tN_in (by decide))) ((tU_n _ _ (by decide)).trans (tN_in (by decide))) I.mr q4 q5) m_X3_add K3 g_438 dL_act_331 gW_100 rfl rfl ⟨Nat.le_of_ble_eq_true rfl, Nat.le_of_ble_eq_true rfl⟩ ⟨Nat.le_of_ble_eq_true rfl, Nat.le_of_ble_eq_true rfl⟩ (Nat.le_of_ble_eq_true rfl) ⟨(by first | trivial | (unfold vR; (try dsimp only); omega)), (by first | trivial | (unfold vR; (try dsimp only); omega)), trivial, trivial, trivial, trivial, trivial, trivial, trivial, trivial⟩ trivial (fun h2 r2 w2 ag2 F2 => ?_)
  obtain ⟨rfl, rfl⟩ := F2
  refine Y_stk [] rfl ?_
  refine Y_aload_n C dL_act_334 rfl rfl ?_
  refine Y_iload C dL_act_335 rfl ?_
  refine Y_iload C dL_act_337 rfl ?_
  refine Y_iload C dL_act_339 rfl ?_
  refine Y_iload C dL_act_341 rfl ?_
  refine Y_if_eq C 351 dL_act_343 (by decide) (fun cc3 => ?_) (fun cc3 => absurd (by decide) cc3)
  refine Y_iconst C (v := (-1)) dL_act_351 (by decide) ?_
  refine Y_stk [.int (-1), .int (nI k), .int tv, .int wv, .ref 0] rfl ?_
  refine Y_callG (K' := (cHang K wv tv (nI k) (-1)).2.2) (D' := D) (B' := B) C S (c_X2_hang K D B wv tv (nI k) (-1) I.kn h40 I.br h30) q1 m_X2_hang K2 g_511 dL_act_352 rfl rfl ⟨Nat.le_of_ble_eq_true rfl, Nat.le_of_ble_eq_true rfl⟩ ⟨Nat.le_of_ble_eq_true rfl, Nat.le_of_ble_eq_true rfl⟩ (Nat.le_of_ble_eq_true rfl) ?_
  refine Y_stk [.int ((cHang K wv tv (nI k) (-1)).2.1)] rfl ?_
  refine Y_stk [.int (nI n)] (by rw [q2]) ?_
  refine Y_iload_n C dL_act_355 rfl rfl ?_
  refine Y_icmp_ne C 363 dL_act_356 (by decide) (fun cc4 => absurd rfl cc4) (fun cc4 => ?_)
  refine Y_iconst C (v := 1) dL_act_359 (by decide) ?_
  refine Y_goto C 364 dL_act_360 (by decide) ?_
  refine Y_sub (L' := []) (by simp) ?_
  refine Y_less (w' := gW (xW (cHang K wv tv (nI k) (-1)).2.2 D B) (n + 1) r (mGv (mNew M n wv tv 0 (nI k) (-1))) (tN T)) (gW_less (tN_to (fun i hi => (t5_o (by omega)).trans ((tU_n _ _ (by omega)).trans ((tU_n _ _ (by omega)).trans (tN_out hi)))))) ?_
  refine Y_widen (k' := 740) (n' := 19900) (by first | omega | decide) (by first | omega | decide) ?_
  exact Y_zret C hr hlk dL_act_364 rfl (fun i hi => ((ag2 i (by first | trivial | exact hi | ((try unfold kpA at hi); (try dsimp only at hi); (try dsimp only); omega))).trans ((ag1 i (by first | trivial | exact hi | ((try unfold kpA at hi); (try dsimp only at hi); (try dsimp only); omega))).trans (ag0 i (by first | trivial | exact hi | ((try unfold kpA at hi); (try dsimp only at hi); (try dsimp only); omega)))))) (actF_mk (D := D) (Nat.le_succ n) (Nat.succ_le_succ (Nat.zero_le n)) (fun i hi q => dn_Gv (by rw [nw_o (Nat.ne_of_lt hi)]; exact q)) (day_Gv _) (fun q => Df_Gv (show Df r (mNew M n wv tv 0 (nI k) (-1)) from q)) q3)
set_option maxHeartbeats 400000 in
set_option maxRecDepth 20000 in
theorem act_1 {p : Program} {l : Launch} {e : Env} {s : State} {m : MethodId} {args : Array Value} {below : List Frame} {meth : Method} {c : Code} {G : gG} {h hv : Nat → Nat} {A : Nat → Prop} {b N : Nat} {xs : Nat → Int32} {x ov wv tv : Int32} {n r k : Nat} {M : Md} {T : WF} {K D : St} {B : Sr} (C : Cx p s m args c cL_act 23 RL G A) (S : Cs l s A b N xs) (hr : meth.sig.returnType = some .boolean) (hlk : meth.locks = false) (ag0 : ∀ i, kpA i → hv i = h i) (I : LI n r B K M) (hT : okT T) (hw : ∃ a : Nat, a ≤ 20 ∧ wv = nI a) (i1 : isInB wv 1 20 = true) (i2 : isInB tv 1 60 = true) (hk : k < n) (ho : ov = -1 ∨ ∃ o : Nat, o < n ∧ ov = nI o ∧ o ≠ k) : Y p l e (gRm 7 740 19900) s m args below meth c 23 G A hv (MQ below (gQm G h A kpA (actF n r M T)) args s 740 19900 A) 0 0 (gW (xW K D B) n r M (tN T)) 230 [(0, .ref 0), (1, .ref 100), (2, .int x), (3, .int (nI n)), (4, .int (nI k)), (5, .int ov), (6, .int wv), (7, .int tv)] [] := by
  have h40 := I.h40
  have h30 := I.h30
  have hC := okC_x K D B
  have hTN := okT_N hT
  have hn1 : 1 ≤ n := by omega
  by_cases hn4 : n = 40
  · refine Y_iload_n C dL_act_230 rfl rfl ?_
    refine Y_bipush C (v := 40) dL_act_231 (by decide) ?_
    refine Y_icmp_eq C 249 dL_act_233 (by decide) (fun cc1 => ?_) (fun cc1 => absurd (by rw [hn4]; rfl) cc1)
    refine Y_iconst C (v := 1) dL_act_249 (by decide) ?_
    refine Y_sub (L' := []) (by simp) ?_
    refine Y_less (w' := gW (xW K D B) n r M (tN T)) (gW_less (tN_to (fun i hi => tN_out hi))) ?_
    refine Y_widen (k' := 740) (n' := 19900) (by first | omega | decide) (by first | omega | decide) ?_
    exact Y_zret C hr hlk dL_act_250 rfl (fun i hi => (ag0 i (by first | trivial | exact hi | ((try unfold kpA at hi); (try dsimp only at hi); (try dsimp only); omega)))) (actF_mk (D := D) (Nat.le_refl n) hn1 (fun i _ q => q) rfl (fun q => q) I)
  · have hl : n < 40 := by omega
    refine Y_iload_n C dL_act_230 rfl rfl ?_
    refine Y_bipush C (v := 40) dL_act_231 (by decide) ?_
    refine Y_icmp_eq C 249 dL_act_233 (by decide) (fun cc2 => absurd cc2 (fun z => hn4 ((nI_eq (b := 40) (by omega) (by omega)).mp z))) (fun cc2 => ?_)
    refine Y_aload_n C dL_act_236 rfl rfl ?_
    refine Y_get C K3 (v := .ref 101) 0 dL_act_237 gW_100 (by decide) g_578 rfl rfl ?_
    refine Y_iload C dL_act_240 rfl ?_
    refine Y_aaldq C (j := 200 + 2 * k) dL_act_242 gW_101 (vp_in_nI (by omega) (by omega)) (by rw [nI_clamp (by omega)]; exact rfS_at (by omega)) ?_
    refine Y_get C K4 (v := .int (M.1 2 k)) 2 dL_act_243 (gW_st h40 (by omega)) (by decide) g_453 rfl rfl ?_
    refine Y_if_ne C 251 dL_act_246 (by decide) (fun cc3 => ?_) (fun cc3 => ?_)
    · rcases ho with rfl | ⟨o, ho, rfl, hko⟩
      · refine Y_iload C dL_act_251 rfl ?_
        refine Y_if_lt C 284 dL_act_253 (by decide) (fun cc4 => ?_) (fun cc4 => absurd (by decide) cc4)
        refine Y_iconst C (v := 0) dL_act_284 (by decide) ?_
        refine Y_istore C (L' := [(9, .int 0), (0, .ref 0), (1, .ref 100), (2, .int x), (3, .int (nI n)), (4, .int (nI k)), (5, .int (-1)), (6, .int wv), (7, .int tv)]) dL_act_285 (by decide) rfl ?_
        refine Y_iload C dL_act_287 rfl ?_
        refine Y_if_eq C 317 dL_act_289 (by decide) (fun cc5 => ?_) (fun cc5 => absurd (by decide) cc5)
        refine Y_sub (L' := [(9, .int 0), (0, .ref 0), (1, .ref 100), (2, .int x), (3, .int (nI n)), (4, .int (nI k)), (5, .int (-1)), (6, .int wv), (7, .int tv)]) (by simp) ?_
        exact Y_sub (by simp) (act_h1 (x := x) (ov := -1) C S hr hlk (fun i hi => (ag0 i (by first | trivial | exact hi | ((try unfold kpA at hi); (try dsimp only at hi); (try dsimp only); omega)))) I hT hw i1 i2 hl hk cc3)
      · refine Y_iload C dL_act_251 rfl ?_
        refine Y_if_lt C 284 dL_act_253 (by decide) (fun cc6 => absurd cc6 (nI_pos (by omega))) (fun cc6 => ?_)
        refine Y_aload_n C dL_act_256 rfl rfl ?_
        refine Y_get C K3 (v := .ref 101) 0 dL_act_257 gW_100 (by decide) g_578 rfl rfl ?_
        refine Y_iload C dL_act_260 rfl ?_
        refine Y_aaldq C (j := 200 + 2 * o) dL_act_262 gW_101 (vp_in_nI (by omega) (by omega)) (by rw [nI_clamp (by omega)]; exact rfS_at (by omega)) ?_
        refine Y_get C K4 (v := .int (M.1 2 o)) 2 dL_act_263 (gW_st h40 (by omega)) (by decide) g_453 rfl rfl ?_
        refine Y_if_eq C 284 dL_act_266 (by decide) (fun cc7 => ?_) (fun cc7 => ?_)
        · refine Y_iconst C (v := 0) dL_act_284 (by decide) ?_
          refine Y_istore C (L' := [(9, .int 0), (0, .ref 0), (1, .ref 100), (2, .int x), (3, .int (nI n)), (4, .int (nI k)), (5, .int (nI o)), (6, .int wv), (7, .int tv)]) dL_act_285 (by decide) rfl ?_
          refine Y_iload C dL_act_287 rfl ?_
          refine Y_if_eq C 317 dL_act_289 (by decide) (fun cc8 => ?_) (fun cc8 => absurd (by decide) cc8)
          refine Y_sub (L' := [(9, .int 0), (0, .ref 0), (1, .ref 100), (2, .int x), (3, .int (nI n)), (4, .int (nI k)), (5, .int (nI o)), (6, .int wv), (7, .int tv)]) (by simp) ?_
          exact Y_sub (by simp) (act_h1 (x := x) (ov := nI o) C S hr hlk (fun i hi => (ag0 i (by first | trivial | exact hi | ((try unfold kpA at hi); (try dsimp only at hi); (try dsimp only); omega)))) I hT hw i1 i2 hl hk cc3)
        · refine Y_iload_n C dL_act_269 rfl rfl ?_
          refine Y_bipush C (v := 7) dL_act_270 (by decide) ?_
          refine Y_ishr C (v := x >>> (7 &&& 31)) dL_act_272 rfl ?_
          refine Y_iconst C (v := 2) dL_act_273 (by decide) ?_
          refine Y_stk [.int (nI 2), .int (x >>> (7 &&& 31))] rfl ?_
          obtain ⟨j1, hj1, ej1⟩ := bl_nI (x >>> (7 &&& 31)) (n := 2) (by decide) (by omega)
          refine Y_callMS C S (c_L_below (w := gW (xW K D B) n r M (tN T)) (x := x >>> (7 &&& 31)) (y := nI 2) (fun z => absurd ((nI_eq (b := 0) (by omega) (by omega)).mp z) (by omega))) m_L_below g_427 dL_act_274 rfl rfl ⟨Nat.le_of_ble_eq_true rfl, Nat.le_of_ble_eq_true rfl⟩ ⟨Nat.le_of_ble_eq_true rfl, Nat.le_of_ble_eq_true rfl⟩ (Nat.le_of_ble_eq_true rfl) ⟨(by first | trivial | (unfold vR; (try dsimp only); omega)), (by first | trivial | (unfold vR; (try dsimp only); omega)), trivial, trivial, trivial, trivial, trivial, trivial, trivial⟩ trivial (fun h9 r9 w9 ag9 F9 => ?_)
          obtain ⟨rfl, rfl⟩ := F9
          refine Y_stk [.int (bl (x >>> (7 &&& 31)) (nI 2))] rfl ?_
          refine Y_stk [.int (nI j1)] (by rw [ej1]) ?_
          refine Y_if_ne C 284 dL_act_277 (by decide) (fun cc10 => ?_) (fun cc10 => ?_)
          · refine Y_iconst C (v := 0) dL_act_284 (by decide) ?_
            refine Y_istore C (L' := [(9, .int 0), (0, .ref 0), (1, .ref 100), (2, .int x), (3, .int (nI n)), (4, .int (nI k)), (5, .int (nI o)), (6, .int wv), (7, .int tv)]) dL_act_285 (by decide) rfl ?_
            refine Y_iload C dL_act_287 rfl ?_
            refine Y_if_eq C 317 dL_act_289 (by decide) (fun cc11 => ?_) (fun cc11 => absurd (by decide) cc11)
            refine Y_sub (L' := [(9, .int 0), (0, .ref 0), (1, .ref 100), (2, .int x), (3, .int (nI n)), (4, .int (nI k)), (5, .int (nI o)), (6, .int wv), (7, .int tv)]) (by simp) ?_
            exact Y_sub (by simp) (act_h1 (x := x) (ov := nI o) C S hr hlk (fun i hi => ((ag9 i (by first | trivial | exact hi | ((try unfold kpA at hi); (try dsimp only at hi); (try dsimp only); omega))).trans (ag0 i (by first | trivial | exact hi | ((try unfold kpA at hi); (try dsimp only at hi); (try dsimp only); omega))))) I hT hw i1 i2 hl hk cc3)
          · refine Y_iconst C (v := 1) dL_act_280 (by decide) ?_
            refine Y_goto C 285 dL_act_281 (by decide) ?_
            refine Y_istore C (L' := [(9, .int 1), (0, .ref 0), (1, .ref 100), (2, .int x), (3, .int (nI n)), (4, .int (nI k)), (5, .int (nI o)), (6, .int wv), (7, .int tv)]) dL_act_285 (by decide) rfl ?_
            refine Y_iload C dL_act_287 rfl ?_
            refine Y_if_eq C 317 dL_act_289 (by decide) (fun cc12 => absurd cc12 (by decide)) (fun cc12 => ?_)
            refine Y_sub (L' := [(9, .int 1), (0, .ref 0), (1, .ref 100), (2, .int x), (3, .int (nI n)), (4, .int (nI k)), (5, .int (nI o)), (6, .int wv), (7, .int tv)]) (by simp) ?_
            exact Y_sub (by simp) (act_h2 (x := x) C S hr hlk (fun i hi => ((ag9 i (by first | trivial | exact hi | ((try unfold kpA at hi); (try dsimp only at hi); (try dsimp only); omega))).trans (ag0 i (by first | trivial | exact hi | ((try unfold kpA at hi); (try dsimp only at hi); (try dsimp only); omega))))) I hT hw i1 i2 hl hk cc3 ho hko cc7)
    · refine Y_iconst C (v := 1) dL_act_249 (by decide) ?_
      refine Y_sub (L' := []) (by simp) ?_
      refine Y_less (w' := gW (xW K D B) n r M (tN T)) (gW_less (tN_to (fun i hi => tN_out hi))) ?_
      refine Y_widen (k' := 740) (n' := 19900) (by first | omega | decide) (by first | omega | decide) ?_
      exact Y_zret C hr hlk dL_act_250 rfl (fun i hi => (ag0 i (by first | trivial | exact hi | ((try unfold kpA at hi); (try dsimp only at hi); (try dsimp only); omega)))) (actF_mk (D := D) (Nat.le_refl n) hn1 (fun i _ q => q) rfl (fun q => q) I)
