/-! building -/
theorem tN_0 : tN (fun _ => none) = (fun _ => none) := by
  funext i
  unfold tN
  split <;> rfl
theorem LI_00 : LI 0 0 R00 S00 M00 := ⟨⟨Si_00.1, Si_00.2⟩, fun i hi => absurd hi (Nat.not_lt_zero _), fun i hi => absurd hi (Nat.not_lt_zero _), rfl⟩
set_option maxHeartbeats 400000 in
set_option maxRecDepth 20000 in
theorem c_L_build {N : Nat} {xs : Nat → Int32} (hN : N < 2 ^ 31) : CTs yL_build cL_build 4 (Option.some (.object RX3)) 9 14803 398003 [.ref 0, .ref 1000] N xs (fun i => (xW S00 S00 R00)[i]?) (fun i => i < 100 ∨ i = 1000) (fun r' w' => r' = some (.ref 100) ∧ ∃ (n r : Nat) (B : Sr) (K D : St) (M : Md), 1 ≤ n ∧ M.2.2.1 0 0 = 0 ∧ Df r M ∧ LI n r B K M ∧ w' = gW (xW K D B) n r M (fun _ => none)) := by
  refine CTs_of (L := [(0, .ref 0), (1, .ref 1000)]) (by decide) (fun _ => rfl) (fun _ => Nat.le_of_ble_eq_true rfl) ?_
  intro p l e s m args below meth c G h A b hh C S hr hlk hnm
  have hC := okC_x S00 S00 R00
  refine Y_new C (fs := [.null, .null, .int 0]) 100 K3 dL_build_0 g_571 g_572 g_17 (fun j hj => by rcases (show j = 0 ∨ j = 1 ∨ j = 2 from by omega) with rfl | rfl | rfl <;> rfl) rfl ⟨Nat.le_of_ble_eq_true rfl, Nat.le_of_ble_eq_true rfl⟩ ⟨trivial, trivial, trivial, trivial⟩ (fun i e h => (hC i e h).imp (fun a ha => by omega)) ⟨(by first | trivial | (unfold vR; (try dsimp only); omega)), (by first | trivial | (unfold vR; (try dsimp only); omega)), trivial⟩ trivial (fun h1 ag1 => ?_)
  refine Y_dup C dL_build_3 rfl ?_
  refine Y_callMI C S (c_X3_init (V := xW S00 S00 R00) (by show 25 ≤ 100; decide) hC) i_X3_init (host := RL) (show Cond.methodLinkNest RL 77 yX3_init RL ∈ nW by simp [nW]) dL_build_4 ⟨Nat.le_of_ble_eq_true rfl, Nat.le_of_ble_eq_true rfl⟩ ⟨Nat.le_of_ble_eq_true rfl, Nat.le_of_ble_eq_true rfl⟩ (Nat.le_of_ble_eq_true rfl) ⟨(by first | trivial | (unfold vR; (try dsimp only); omega)), (by first | trivial | (unfold vR; (try dsimp only); omega)), trivial⟩ ⟨(by first | trivial | (unfold vR; (try dsimp only); omega)), trivial⟩ (fun h2 r2 w2 ag2 F2 => ?_)
  obtain ⟨rfl, rfl⟩ := F2
  refine Y_stk [.ref 100] rfl ?_
  refine Y_astore_n C (L' := [(2, .ref 100), (0, .ref 0), (1, .ref 1000)]) dL_build_7 rfl (by decide) rfl ?_
  refine Y_iconst C (v := nI 0) dL_build_8 (by decide) ?_
  refine Y_istore_n C (L' := [(3, .int (nI 0)), (2, .ref 100), (0, .ref 0), (1, .ref 1000)]) dL_build_9 rfl (by decide) rfl ?_
  have key : ∀ (j i : Nat), i + j = 20 → ∀ (hv : Nat → Nat) (n r : Nat) (B : Sr) (K D : St) (M : Md), (∀ x, (fun i => i < 100 ∨ i = 1000) x → hv x = h x) → LI n r B K M → (0 < i → 1 ≤ n) → M.2.2.1 0 0 = 0 → Df r M → Y p l e (gRm 9 14803 398003) s m args below meth c 4 G A hv (MQ below (gQm G h A (fun i => i < 100 ∨ i = 1000) (fun r' w' => r' = some (.ref 100) ∧ ∃ (n r : Nat) (B : Sr) (K D : St) (M : Md), 1 ≤ n ∧ M.2.2.1 0 0 = 0 ∧ Df r M ∧ LI n r B K M ∧ w' = gW (xW K D B) n r M (fun _ => none))) args s 14803 398003 A) (3 + 740 * i) (3 + 19900 * i) (gW (xW K D B) n r M (fun _ => none)) 10 [(3, .int (nI i)), (2, .ref 100), (0, .ref 0), (1, .ref 1000)] [] := by
    intro j
    induction j with
    | zero =>
      intro i hi hv n r B K D M av I h1 hd hdf
      obtain rfl : i = 20 := by omega
      refine Y_iload_n C dL_build_10 rfl rfl ?_
      refine Y_bipush C (v := 20) dL_build_11 (by decide) ?_
      refine Y_icmp_ge C 72 dL_build_13 (by decide) (fun cc1 => ?_) (fun cc1 => absurd (Int32.le_refl _) cc1)
      refine Y_aload_n C dL_build_72 rfl rfl ?_
      exact Y_aret C hr (Or.inl ⟨_, rfl⟩) hlk dL_build_73 (fun i hi => av i hi) ⟨rfl, n, r, B, K, D, M, h1 (by decide), hd, hdf, I, rfl⟩
    | succ j ih =>
      intro i hi hv n r B K D M av I h1 hd hdf
      refine Y_iload_n C dL_build_10 rfl rfl ?_
      refine Y_bipush C (v := 20) dL_build_11 (by decide) ?_
      refine Y_icmp_ge C 72 dL_build_13 (by decide) (fun cc2 => absurd cc2 (nI_ge (b := 20) (by omega) (by omega))) (fun cc2 => ?_)
      refine Y_aload_n C dL_build_16 rfl rfl ?_
      refine Y_aload_n C dL_build_17 rfl rfl ?_
      refine Y_aload_n C dL_build_18 rfl rfl ?_
      refine Y_iload_n C dL_build_19 rfl rfl ?_
      refine Y_bipush C (v := 16) dL_build_20 (by decide) ?_
      refine Y_irem C (v := nI (i % 16)) dL_build_22 (by decide) (rem_nI (n := 16) (by omega) (by omega)) ?_
      refine Y_callSs C S ((av 1000 (Or.inr rfl)).trans hh) (c_L_cell (j := i % 16) (by omega) hN) m_L_cell g_431 dL_build_23 rfl rfl ⟨Nat.le_of_ble_eq_true rfl, Nat.le_of_ble_eq_true rfl⟩ ⟨by show 3 + 740 * i + 0 ≤ 14803; omega, by show 3 + 19900 * i + 0 ≤ 398003; omega⟩ (Nat.le_of_ble_eq_true rfl) ⟨trivial, (by first | trivial | (unfold vR; (try dsimp only); omega)), (by first | trivial | (unfold vR; (try dsimp only); omega)), (by first | trivial | (unfold vR; (try dsimp only); omega)), trivial⟩ ⟨(by first | trivial | (unfold vR; (try dsimp only); omega)), (by first | trivial | (unfold vR; (try dsimp only); omega)), trivial⟩ (fun h3 r3 w3 ag3 F3 => ?_)
      obtain ⟨rfl, rfl⟩ := F3
      refine Y_stk [.int (cel N xs (i % 16)), .ref 100, .ref 0] rfl ?_
      refine Y_iload_n C dL_build_26 rfl rfl ?_
      refine Y_bipush C (v := 16) dL_build_27 (by decide) ?_
      refine Y_idiv C (v := (nI i) / 16) dL_build_29 (by decide) rfl ?_
      refine Y_iconst C (v := 3) dL_build_30 (by decide) ?_
      refine Y_imul C (v := ((nI i) / 16) * 3) dL_build_31 rfl ?_
      refine Y_ishr C (v := (cel N xs (i % 16)) >>> ((((nI i) / 16) * 3) &&& 31)) dL_build_32 rfl ?_
      refine Y_bipush C (v := 113) dL_build_33 (by decide) ?_
      refine Y_iload_n C dL_build_35 rfl rfl ?_
      refine Y_imul C (v := 113 * (nI i)) dL_build_36 rfl ?_
      refine Y_iadd C (v := ((cel N xs (i % 16)) >>> ((((nI i) / 16) * 3) &&& 31)) + (113 * (nI i))) dL_build_37 rfl ?_
      refine Y_iload_n C dL_build_38 rfl rfl ?_
      refine Y_bipush C (v := 8) dL_build_39 (by decide) ?_
      refine Y_icmp_ge C 56 dL_build_41 (by decide) (fun cc4 => ?_) (fun cc4 => ?_)
      · refine Y_iconst C (v := 0) dL_build_56 (by decide) ?_
        refine Y_iadd C (v := (((cel N xs (i % 16)) >>> ((((nI i) / 16) * 3) &&& 31)) + (113 * (nI i))) + 0) dL_build_57 rfl ?_
        generalize (((cel N xs (i % 16)) >>> ((((nI i) / 16) * 3) &&& 31)) + (113 * (nI i))) + 0 = x0
        refine Y_callMS C S (c_L_act (x := x0) (T := fun _ => none) I (fun i e h => by cases h)) m_L_act g_435 dL_build_58 rfl rfl ⟨Nat.le_of_ble_eq_true rfl, Nat.le_of_ble_eq_true rfl⟩ ⟨by show 3 + 740 * i + 0 + 740 ≤ 14803; omega, by show 3 + 19900 * i + 0 + 19900 ≤ 398003; omega⟩ (Nat.le_of_ble_eq_true rfl) ⟨trivial, (by first | trivial | (unfold vR kpA; (try dsimp only); omega)), (by first | trivial | (unfold vR kpA; (try dsimp only); omega)), (by first | trivial | (unfold vR kpA; (try dsimp only); omega)), trivial⟩ trivial (fun h5 r5 w5 ag5 F5 => ?_)
        obtain ⟨rfl, n2, r2, B2, K2, D2, M2, a1, a2, a3, a4, a5, I2, rfl⟩ := F5
        refine Y_stk [.int 1] rfl ?_
        refine Y_eq (w' := gW (xW K2 D2 B2) n2 r2 M2 (fun _ => none)) (congrArg _ tN_0) ?_
        refine Y_if_ne C 66 dL_build_61 (by decide) (fun cc6 => ?_) (fun cc6 => absurd cc6 (by decide))
        refine Y_iinc C (L' := [(3, .int (nI (i + 1))), (2, .ref 100), (0, .ref 0), (1, .ref 1000)]) (v := nI (i + 1)) dL_build_66 rfl (nI_inc _) (by decide) rfl ?_
        refine Y_goto C 10 dL_build_69 (by decide) ?_
        refine Y_widen (k' := 3 + 740 * (i + 1)) (n' := 3 + 19900 * (i + 1)) (by omega) (by omega) ?_
        exact Y_sub (by simp) (ih (i + 1) (by omega) _ n2 r2 B2 K2 D2 M2 (fun i hi => ((ag5 i (by first | trivial | exact hi | ((try unfold kpA at hi); (try unfold kpA); (try dsimp only at hi); (try dsimp only); omega))).trans ((ag3 i (by first | trivial | exact hi | ((try unfold kpA at hi); (try unfold kpA); (try dsimp only at hi); (try dsimp only); omega))).trans (av i (by first | trivial | exact hi | ((try unfold kpA at hi); (try unfold kpA); (try dsimp only at hi); (try dsimp only); omega)))))) I2 (fun _ => a2) (a4.trans hd) (a5 hdf))
      · refine Y_sipush C (v := 512) dL_build_44 (by decide) ?_
        refine Y_iconst C (v := 1) dL_build_47 (by decide) ?_
        refine Y_iload_n C dL_build_48 rfl rfl ?_
        refine Y_iconst C (v := 4) dL_build_49 (by decide) ?_
        refine Y_irem C (v := (nI i) - (nI i) / 4 * 4) dL_build_50 (by decide) rfl ?_
        refine Y_iadd C (v := 1 + ((nI i) - (nI i) / 4 * 4)) dL_build_51 rfl ?_
        refine Y_imul C (v := 512 * (1 + ((nI i) - (nI i) / 4 * 4))) dL_build_52 rfl ?_
        refine Y_goto C 57 dL_build_53 (by decide) ?_
        refine Y_iadd C (v := (((cel N xs (i % 16)) >>> ((((nI i) / 16) * 3) &&& 31)) + (113 * (nI i))) + (512 * (1 + ((nI i) - (nI i) / 4 * 4)))) dL_build_57 rfl ?_
        generalize (((cel N xs (i % 16)) >>> ((((nI i) / 16) * 3) &&& 31)) + (113 * (nI i))) + (512 * (1 + ((nI i) - (nI i) / 4 * 4))) = x0
        refine Y_callMS C S (c_L_act (x := x0) (T := fun _ => none) I (fun i e h => by cases h)) m_L_act g_435 dL_build_58 rfl rfl ⟨Nat.le_of_ble_eq_true rfl, Nat.le_of_ble_eq_true rfl⟩ ⟨by show 3 + 740 * i + 0 + 740 ≤ 14803; omega, by show 3 + 19900 * i + 0 + 19900 ≤ 398003; omega⟩ (Nat.le_of_ble_eq_true rfl) ⟨trivial, (by first | trivial | (unfold vR kpA; (try dsimp only); omega)), (by first | trivial | (unfold vR kpA; (try dsimp only); omega)), (by first | trivial | (unfold vR kpA; (try dsimp only); omega)), trivial⟩ trivial (fun h7 r7 w7 ag7 F7 => ?_)
        obtain ⟨rfl, n2, r2, B2, K2, D2, M2, a1, a2, a3, a4, a5, I2, rfl⟩ := F7
        refine Y_stk [.int 1] rfl ?_
        refine Y_eq (w' := gW (xW K2 D2 B2) n2 r2 M2 (fun _ => none)) (congrArg _ tN_0) ?_
        refine Y_if_ne C 66 dL_build_61 (by decide) (fun cc8 => ?_) (fun cc8 => absurd cc8 (by decide))
        refine Y_iinc C (L' := [(3, .int (nI (i + 1))), (2, .ref 100), (0, .ref 0), (1, .ref 1000)]) (v := nI (i + 1)) dL_build_66 rfl (nI_inc _) (by decide) rfl ?_
        refine Y_goto C 10 dL_build_69 (by decide) ?_
        refine Y_widen (k' := 3 + 740 * (i + 1)) (n' := 3 + 19900 * (i + 1)) (by omega) (by omega) ?_
        exact Y_sub (by simp) (ih (i + 1) (by omega) _ n2 r2 B2 K2 D2 M2 (fun i hi => ((ag7 i (by first | trivial | exact hi | ((try unfold kpA at hi); (try unfold kpA); (try dsimp only at hi); (try dsimp only); omega))).trans ((ag3 i (by first | trivial | exact hi | ((try unfold kpA at hi); (try unfold kpA); (try dsimp only at hi); (try dsimp only); omega))).trans (av i (by first | trivial | exact hi | ((try unfold kpA at hi); (try unfold kpA); (try dsimp only at hi); (try dsimp only); omega)))))) I2 (fun _ => a2) (a4.trans hd) (a5 hdf))
  exact Y_sub (by simp) (key 20 0 rfl _ 0 0 R00 S00 S00 M00 (fun x hx => ((ag2 x (by (try dsimp only at hx); omega)).trans (ag1 x (by (try dsimp only at hx); omega)))) LI_00 (fun z => absurd z (by decide)) rfl (fun k hk => absurd hk (Nat.not_lt_zero _)))
