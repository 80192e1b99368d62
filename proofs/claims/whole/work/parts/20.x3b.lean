set_option maxHeartbeats 4000000 in
set_option maxRecDepth 20000 in
theorem c_X3_thrown (M : Md) : CT yX3_thrown cX3_thrown 1 (some .int) 0 0 0 [.ref 0] (mdW 0 M) (some (.int (M.2.2.2 0))) (mdW 0 M) := by
  refine CT_of (L := [(0, .ref 0)]) (by decide) (fun _ => rfl) (fun _ => Nat.le_of_ble_eq_true rfl) ?_
  intro p l e s m args below meth c G h A C hr hlk _
  refine Z_aload_n C dX3_thrown_0 rfl rfl ?_
  refine Z_get C K3 (v := .int (M.2.2.2 0)) 0 dX3_thrown_1 rfl (by decide) g_572 rfl rfl ?_
  exact Z_iret C hr hlk dX3_thrown_4 rfl rfl
set_option maxHeartbeats 4000000 in
set_option maxRecDepth 20000 in
theorem c_X3_fail (M : Md) (x : Int32) : CT yX3_fail cX3_fail 2 (some .int) 0 0 0 [.ref 0, .int x] (mdW 0 M) (some (.int 0)) (mdW 0 (mI M 0 x)) := by
  refine CT_of (L := [(0, .ref 0), (1, .int x)]) (by decide) (fun _ => rfl) (fun _ => Nat.le_of_ble_eq_true rfl) ?_
  intro p l e s m args below meth c G h A C hr hlk _
  refine Z_aload_n C dX3_fail_0 rfl rfl ?_
  refine Z_iload_n C dX3_fail_1 rfl rfl ?_
  refine Z_put C K3 (ws' := mdW 0 (mI M 0 x)) 0 dX3_fail_2 rfl (by decide) g_572 rfl rfl rfl rfl rfl (Nat.le_of_ble_eq_true rfl) rfl ?_
  refine Z_iconst C (v := 0) dX3_fail_5 (by decide) ?_
  exact Z_iret C hr hlk dX3_fail_6 rfl rfl
set_option maxHeartbeats 4000000 in
set_option maxRecDepth 20000 in
theorem c_X3_prop (M : Md) (x : Int32) (v : Int32) {n r : Nat} (hn : M.2.2.2 1 = nI n) (h40 : n ≤ 40) (hq : M.2.2.2 2 = nI r) (h30 : r ≤ 30) (ho : okM n M) : CT yX3_prop cX3_prop 4 (some .int) 6 0 0 [.ref 0, .int x, .int v] (mdW 0 M) (some (.int ((mProp M x v).2))) (mdW 0 ((mProp M x v).1)) := by
  refine CT_of (L := [(0, .ref 0), (1, .int x), (2, .int v)]) (by decide) (fun _ => rfl) (fun _ => Nat.le_of_ble_eq_true rfl) ?_
  intro p l e s m args below meth c G h A C hr hlk _
  have eN : mN M = n := mN_eq hn h40; have eR : mR M = r := mR_eq hq h30
  refine Z_aload_n C dX3_prop_0 rfl rfl ?_
  refine Z_iconst C (v := 0) dX3_prop_1 (by decide) ?_
  refine Z_put C K3 (ws' := mdW 0 (mI M 0 0)) 0 dX3_prop_2 rfl (by decide) g_572 rfl rfl rfl rfl rfl (Nat.le_of_ble_eq_true rfl) rfl ?_
  refine Z_aload_n C dX3_prop_5 rfl rfl ?_
  refine Z_iload_n C dX3_prop_6 rfl rfl ?_
  refine Z_callV C (ws' := mdW 0 (mI M 0 0)) (st' := [.int (bI (mHas (mI M 0 0) x))]) (rest := []) [0, 1, 2, 3, 4, 5, 6] (c_X3_isStone (mI M 0 0) x) m_X3_isStone K3 g_667 dX3_prop_7 rfl rfl rfl (outR _ _ _) (NW := 7) rfl rfl rfl rfl rfl ⟨Nat.le_of_ble_eq_true rfl, Nat.le_of_ble_eq_true rfl⟩ ⟨Nat.le_of_ble_eq_true rfl, Nat.le_of_ble_eq_true rfl⟩ (Nat.le_of_ble_eq_true rfl) rfl ?_
  refine Z_if_ne C 19 dX3_prop_10 (by decide) (fun c1 => ?_) (fun c1 => ?_)
  · have c1 := bI_n0.mp c1
    obtain ⟨i, hi, qi⟩ := isIn_ix hn (by omega) c1
    subst qi
    have ei : ix (nI i) = i := ix_nI (by omega)
    refine Z_iload_n C dX3_prop_19 rfl rfl ?_
    refine Z_iconst C (v := 0) dX3_prop_20 (by decide) ?_
    refine Z_bipush C (v := 60) dX3_prop_21 (by decide) ?_
    refine Z_callS C (ws' := mdW 0 (mI M 0 0)) (st' := [.int (bI (isInB v 0 60))]) (rest := []) [] (c_X3_isIn v 0 60) m_X3_isIn g_608 dX3_prop_23 rfl rfl rfl (outR _ _ _) (NW := 7) rfl rfl rfl rfl ⟨Nat.le_of_ble_eq_true rfl, Nat.le_of_ble_eq_true rfl⟩ ⟨Nat.le_of_ble_eq_true rfl, Nat.le_of_ble_eq_true rfl⟩ (Nat.le_of_ble_eq_true rfl) rfl ?_
    refine Z_if_ne C 35 dX3_prop_26 (by decide) (fun c2 => ?_) (fun c2 => ?_)
    · have c2 := bI_n0.mp c2
      refine Z_aload_n C dX3_prop_35 rfl rfl ?_
      refine Z_iload_n C dX3_prop_36 rfl rfl ?_
      refine Z_callV C (ws' := mdW 0 (mI M 0 0)) (st' := [.int (bI (mHg (mI M 0 0) i))]) (rest := []) [0, 1, 2, 3, 4, 5, 6] (c_X3_hangs (mI M 0 0) (nI i) rfl (by omega)) m_X3_hangs K3 g_630 dX3_prop_37 rfl rfl rfl (outR _ _ _) (NW := 7) rfl rfl rfl rfl rfl ⟨Nat.le_of_ble_eq_true rfl, Nat.le_of_ble_eq_true rfl⟩ ⟨Nat.le_of_ble_eq_true rfl, Nat.le_of_ble_eq_true rfl⟩ (Nat.le_of_ble_eq_true rfl) rfl ?_
      refine Z_if_ne C 49 dX3_prop_40 (by decide) (fun c3 => ?_) (fun c3 => ?_)
      · have c3 := bI_n0.mp c3
        refine Z_aload_n C dX3_prop_49 rfl rfl ?_
        refine Z_callV C (ws' := mdW 0 (mI M 0 0)) (st' := [.int (mHa (mI M 0 0))]) (rest := []) [0, 1, 2, 3, 4, 5, 6] (c_X3_hanging (mI M 0 0) hn h40 hq h30 ho) m_X3_hanging K3 g_675 dX3_prop_50 rfl rfl rfl (outR _ _ _) (NW := 7) rfl rfl rfl rfl rfl ⟨Nat.le_of_ble_eq_true rfl, Nat.le_of_ble_eq_true rfl⟩ ⟨Nat.le_of_ble_eq_true rfl, Nat.le_of_ble_eq_true rfl⟩ (Nat.le_of_ble_eq_true rfl) rfl ?_
        refine Z_istore_n C (L' := [(3, .int (mHa (mI M 0 0))), (0, .ref 0), (1, .int (nI i)), (2, .int v)]) dX3_prop_53 rfl (by decide) rfl ?_
        refine Z_aload_n C dX3_prop_54 rfl rfl ?_
        refine Z_iload_n C dX3_prop_55 rfl rfl ?_
        refine Z_bipush C (v := 6) dX3_prop_56 (by decide) ?_
        refine Z_iload_n C dX3_prop_58 rfl rfl ?_
        refine Z_callV C (ws' := mdW 0 (tA (mI M 0 0) 6 i v)) (st' := []) (rest := []) [0, 1, 2, 3, 4, 5, 6] (c_X3_put (mI M 0 0) (nI i) 6 v rfl (by omega) rfl (by decide)) m_X3_put K3 g_647 dX3_prop_59 rfl rfl rfl (outL 7 rfl rfl rfl) (NW := 7) rfl rfl rfl rfl rfl ⟨Nat.le_of_ble_eq_true rfl, Nat.le_of_ble_eq_true rfl⟩ ⟨Nat.le_of_ble_eq_true rfl, Nat.le_of_ble_eq_true rfl⟩ (Nat.le_of_ble_eq_true rfl) rfl ?_
        refine Z_aload_n C dX3_prop_62 rfl rfl ?_
        refine Z_callV C (ws' := mdW 0 (mGv (tA (mI M 0 0) 6 i v))) (st' := []) (rest := []) [0, 1, 2, 3, 4, 5, 6] (c_X3_giveWay (tA (mI M 0 0) 6 i v) hn h40 hq h30 ho) m_X3_giveWay K3 g_622 dX3_prop_63 rfl rfl rfl (outL 7 rfl rfl rfl) (NW := 7) rfl rfl rfl rfl rfl ⟨Nat.le_of_ble_eq_true rfl, Nat.le_of_ble_eq_true rfl⟩ ⟨Nat.le_of_ble_eq_true rfl, Nat.le_of_ble_eq_true rfl⟩ (Nat.le_of_ble_eq_true rfl) rfl ?_
        refine Z_ws (fun X1 => mdW 0 X1) (mGv (tA (mI M 0 0) 6 i v)) (fun X1 eX1 => ?_)
        refine Z_iload_n C dX3_prop_66 rfl rfl ?_
        refine Z_aload_n C dX3_prop_67 rfl rfl ?_
        refine Z_callV C (ws' := mdW 0 X1) (st' := [.int (mHa X1), .int (mHa (mI M 0 0))]) (rest := [.int (mHa (mI M 0 0))]) [0, 1, 2, 3, 4, 5, 6] (c_X3_hanging X1 (show X1.2.2.2 1 = nI n from by rw [eX1]; exact ((congrFun (mi_Gv (tA (mI M 0 0) 6 i v)) 1).trans hn)) h40 (show X1.2.2.2 2 = nI r from by rw [eX1]; exact ((congrFun (mi_Gv (tA (mI M 0 0) 6 i v)) 2).trans hq)) h30 (show okM n X1 from by rw [eX1]; exact (ok_Gv hn h40 ho))) m_X3_hanging K3 g_675 dX3_prop_68 rfl rfl rfl (outR _ _ _) (NW := 7) rfl rfl rfl rfl rfl ⟨Nat.le_of_ble_eq_true rfl, Nat.le_of_ble_eq_true rfl⟩ ⟨Nat.le_of_ble_eq_true rfl, Nat.le_of_ble_eq_true rfl⟩ (Nat.le_of_ble_eq_true rfl) rfl ?_
        refine Z_isub C (v := (mHa (mI M 0 0)) - (mHa X1)) dX3_prop_71 rfl ?_
        exact Z_iret C hr hlk dX3_prop_72 (congrArg (fun z => some (Value.int z)) (show ((mProp M (nI i) v).2) = ((mHa (mI M 0 0)) - (mHa X1)) from by subst eX1; simp [mProp, c1, ei, c2, c3, eN, eR])) (by rw [show ((mProp M (nI i) v).1) = X1 from by subst eX1; simp [mProp, c1, ei, c2, c3, eN, eR]])
      · have c3 := bI_0.mp c3
        refine Z_aload_n C dX3_prop_43 rfl rfl ?_
        refine Z_iconst C (v := 3) dX3_prop_44 (by decide) ?_
        refine Z_callV C (ws' := mdW 0 (mI (mI M 0 0) 0 3)) (st' := [.int 0]) (rest := []) [0, 1, 2, 3, 4, 5, 6] (c_X3_fail (mI M 0 0) 3) m_X3_fail K3 g_611 dX3_prop_45 rfl rfl rfl (outL 7 rfl rfl rfl) (NW := 7) rfl rfl rfl rfl rfl ⟨Nat.le_of_ble_eq_true rfl, Nat.le_of_ble_eq_true rfl⟩ ⟨Nat.le_of_ble_eq_true rfl, Nat.le_of_ble_eq_true rfl⟩ (Nat.le_of_ble_eq_true rfl) rfl ?_
        exact Z_iret C hr hlk dX3_prop_48 (congrArg (fun z => some (Value.int z)) (show ((mProp M (nI i) v).2) = 0 from by simp [mProp, c1, ei, c2, c3, eN, eR])) (by rw [show ((mProp M (nI i) v).1) = (mI (mI M 0 0) 0 3) from by simp [mProp, c1, ei, c2, c3, eN, eR]])
    · have c2 := bI_0.mp c2
      refine Z_aload_n C dX3_prop_29 rfl rfl ?_
      refine Z_iconst C (v := 2) dX3_prop_30 (by decide) ?_
      refine Z_callV C (ws' := mdW 0 (mI (mI M 0 0) 0 2)) (st' := [.int 0]) (rest := []) [0, 1, 2, 3, 4, 5, 6] (c_X3_fail (mI M 0 0) 2) m_X3_fail K3 g_611 dX3_prop_31 rfl rfl rfl (outL 7 rfl rfl rfl) (NW := 7) rfl rfl rfl rfl rfl ⟨Nat.le_of_ble_eq_true rfl, Nat.le_of_ble_eq_true rfl⟩ ⟨Nat.le_of_ble_eq_true rfl, Nat.le_of_ble_eq_true rfl⟩ (Nat.le_of_ble_eq_true rfl) rfl ?_
      exact Z_iret C hr hlk dX3_prop_34 (congrArg (fun z => some (Value.int z)) (show ((mProp M (nI i) v).2) = 0 from by simp [mProp, c1, ei, c2, eN, eR])) (by rw [show ((mProp M (nI i) v).1) = (mI (mI M 0 0) 0 2) from by simp [mProp, c1, ei, c2, eN, eR]])
  · have c1 := bI_0.mp c1
    refine Z_aload_n C dX3_prop_13 rfl rfl ?_
    refine Z_iconst C (v := 1) dX3_prop_14 (by decide) ?_
    refine Z_callV C (ws' := mdW 0 (mI (mI M 0 0) 0 1)) (st' := [.int 0]) (rest := []) [0, 1, 2, 3, 4, 5, 6] (c_X3_fail (mI M 0 0) 1) m_X3_fail K3 g_611 dX3_prop_15 rfl rfl rfl (outL 7 rfl rfl rfl) (NW := 7) rfl rfl rfl rfl rfl ⟨Nat.le_of_ble_eq_true rfl, Nat.le_of_ble_eq_true rfl⟩ ⟨Nat.le_of_ble_eq_true rfl, Nat.le_of_ble_eq_true rfl⟩ (Nat.le_of_ble_eq_true rfl) rfl ?_
    exact Z_iret C hr hlk dX3_prop_18 (congrArg (fun z => some (Value.int z)) (show ((mProp M x v).2) = 0 from by simp [mProp, c1, eN, eR])) (by rw [show ((mProp M x v).1) = (mI (mI M 0 0) 0 1) from by simp [mProp, c1, eN, eR]])
set_option maxHeartbeats 4000000 in
set_option maxRecDepth 20000 in
theorem c_X3_renew (M : Md) (x : Int32) (v : Int32) {n r : Nat} (hn : M.2.2.2 1 = nI n) (h40 : n ≤ 40) (hq : M.2.2.2 2 = nI r) (h30 : r ≤ 30) (ho : okM n M) : CT yX3_renew cX3_renew 4 (some .int) 3 0 0 [.ref 0, .int x, .int v] (mdW 0 M) (some (.int ((mRenew M x v).2))) (mdW 0 ((mRenew M x v).1)) := by
  refine CT_of (L := [(0, .ref 0), (1, .int x), (2, .int v)]) (by decide) (fun _ => rfl) (fun _ => Nat.le_of_ble_eq_true rfl) ?_
  intro p l e s m args below meth c G h A C hr hlk _
  have eN : mN M = n := mN_eq hn h40; have eR : mR M = r := mR_eq hq h30
  refine Z_aload_n C dX3_renew_0 rfl rfl ?_
  refine Z_iconst C (v := 0) dX3_renew_1 (by decide) ?_
  refine Z_put C K3 (ws' := mdW 0 (mI M 0 0)) 0 dX3_renew_2 rfl (by decide) g_572 rfl rfl rfl rfl rfl (Nat.le_of_ble_eq_true rfl) rfl ?_
  refine Z_aload_n C dX3_renew_5 rfl rfl ?_
  refine Z_iload_n C dX3_renew_6 rfl rfl ?_
  refine Z_callV C (ws' := mdW 0 (mI M 0 0)) (st' := [.int (bI (mHas (mI M 0 0) x))]) (rest := []) [0, 1, 2, 3, 4, 5, 6] (c_X3_isStone (mI M 0 0) x) m_X3_isStone K3 g_667 dX3_renew_7 rfl rfl rfl (outR _ _ _) (NW := 7) rfl rfl rfl rfl rfl ⟨Nat.le_of_ble_eq_true rfl, Nat.le_of_ble_eq_true rfl⟩ ⟨Nat.le_of_ble_eq_true rfl, Nat.le_of_ble_eq_true rfl⟩ (Nat.le_of_ble_eq_true rfl) rfl ?_
  refine Z_if_ne C 19 dX3_renew_10 (by decide) (fun c1 => ?_) (fun c1 => ?_)
  · have c1 := bI_n0.mp c1
    obtain ⟨i, hi, qi⟩ := isIn_ix hn (by omega) c1
    subst qi
    have ei : ix (nI i) = i := ix_nI (by omega)
    refine Z_iload_n C dX3_renew_19 rfl rfl ?_
    refine Z_iconst C (v := 1) dX3_renew_20 (by decide) ?_
    refine Z_sipush C (v := 200) dX3_renew_21 (by decide) ?_
    refine Z_callS C (ws' := mdW 0 (mI M 0 0)) (st' := [.int (bI (isInB v 1 200))]) (rest := []) [] (c_X3_isIn v 1 200) m_X3_isIn g_608 dX3_renew_24 rfl rfl rfl (outR _ _ _) (NW := 7) rfl rfl rfl rfl ⟨Nat.le_of_ble_eq_true rfl, Nat.le_of_ble_eq_true rfl⟩ ⟨Nat.le_of_ble_eq_true rfl, Nat.le_of_ble_eq_true rfl⟩ (Nat.le_of_ble_eq_true rfl) rfl ?_
    refine Z_if_ne C 36 dX3_renew_27 (by decide) (fun c2 => ?_) (fun c2 => ?_)
    · have c2 := bI_n0.mp c2
      refine Z_aload_n C dX3_renew_36 rfl rfl ?_
      refine Z_iload_n C dX3_renew_37 rfl rfl ?_
      refine Z_iconst C (v := 3) dX3_renew_38 (by decide) ?_
      refine Z_callV C (ws' := mdW 0 (mI M 0 0)) (st' := [.int (M.1 3 i)]) (rest := []) [0, 1, 2, 3, 4, 5, 6] (c_X3_to (mI M 0 0) (nI i) 3 rfl (by omega) rfl (by decide)) m_X3_to K3 g_634 dX3_renew_39 rfl rfl rfl (outR _ _ _) (NW := 7) rfl rfl rfl rfl rfl ⟨Nat.le_of_ble_eq_true rfl, Nat.le_of_ble_eq_true rfl⟩ ⟨Nat.le_of_ble_eq_true rfl, Nat.le_of_ble_eq_true rfl⟩ (Nat.le_of_ble_eq_true rfl) rfl ?_
      refine Z_istore_n C (L' := [(3, .int (M.1 3 i)), (0, .ref 0), (1, .int (nI i)), (2, .int v)]) dX3_renew_42 rfl (by decide) rfl ?_
      refine Z_aload_n C dX3_renew_43 rfl rfl ?_
      refine Z_callV C (ws' := mdW 0 (mRk (mI M 0 0))) (st' := []) (rest := []) [0, 1, 2, 3, 4, 5, 6] (c_X3_reckon (mI M 0 0) hn h40 hq h30 ho) m_X3_reckon K3 g_626 dX3_renew_44 rfl rfl rfl (outL 7 rfl rfl rfl) (NW := 7) rfl rfl rfl rfl rfl ⟨Nat.le_of_ble_eq_true rfl, Nat.le_of_ble_eq_true rfl⟩ ⟨Nat.le_of_ble_eq_true rfl, Nat.le_of_ble_eq_true rfl⟩ (Nat.le_of_ble_eq_true rfl) rfl ?_
      refine Z_ws (fun X1 => mdW 0 X1) (mRk (mI M 0 0)) (fun X1 eX1 => ?_)
      refine Z_iload_n C dX3_renew_47 rfl rfl ?_
      refine Z_if_eq C 61 dX3_renew_48 (by decide) (fun c3 => ?_) (fun c3 => ?_)
      · refine Z_aload_n C dX3_renew_61 rfl rfl ?_
        refine Z_iconst C (v := 3) dX3_renew_62 (by decide) ?_
        refine Z_callV C (ws' := mdW 0 (mI X1 0 3)) (st' := [.int 0]) (rest := []) [0, 1, 2, 3, 4, 5, 6] (c_X3_fail X1 3) m_X3_fail K3 g_611 dX3_renew_63 rfl rfl rfl (outL 7 rfl rfl rfl) (NW := 7) rfl rfl rfl rfl rfl ⟨Nat.le_of_ble_eq_true rfl, Nat.le_of_ble_eq_true rfl⟩ ⟨Nat.le_of_ble_eq_true rfl, Nat.le_of_ble_eq_true rfl⟩ (Nat.le_of_ble_eq_true rfl) rfl ?_
        exact Z_iret C hr hlk dX3_renew_66 (congrArg (fun z => some (Value.int z)) (show ((mRenew M (nI i) v).2) = 0 from by subst eX1; simp [mRenew, c1, ei, c2, c3, eN, eR])) (by rw [show ((mRenew M (nI i) v).1) = (mI X1 0 3) from by subst eX1; simp [mRenew, c1, ei, c2, c3, eN, eR]])
      · refine Z_iload_n C dX3_renew_51 rfl rfl ?_
        refine Z_aload_n C dX3_renew_52 rfl rfl ?_
        refine Z_get C K3 (v := .ref 4) 6 dX3_renew_53 rfl (by decide) g_578 rfl rfl ?_
        refine Z_iload_n C dX3_renew_56 rfl rfl ?_
        refine Z_iaN C (v := X1.2.2.1 1 i) dX3_renew_57 rfl (by omega) (by decide) rfl ?_
        refine Z_icmp_ge C 67 dX3_renew_58 (by decide) (fun c4 => ?_) (fun c4 => ?_)
        · refine Z_aload_n C dX3_renew_67 rfl rfl ?_
          refine Z_iload_n C dX3_renew_68 rfl rfl ?_
          refine Z_iconst C (v := 3) dX3_renew_69 (by decide) ?_
          refine Z_iload_n C dX3_renew_70 rfl rfl ?_
          refine Z_callV C (ws' := mdW 0 (tA X1 3 i v)) (st' := []) (rest := []) [0, 1, 2, 3, 4, 5, 6] (c_X3_put X1 (nI i) 3 v rfl (by omega) rfl (by decide)) m_X3_put K3 g_647 dX3_renew_71 rfl rfl rfl (outL 7 rfl rfl rfl) (NW := 7) rfl rfl rfl rfl rfl ⟨Nat.le_of_ble_eq_true rfl, Nat.le_of_ble_eq_true rfl⟩ ⟨Nat.le_of_ble_eq_true rfl, Nat.le_of_ble_eq_true rfl⟩ (Nat.le_of_ble_eq_true rfl) rfl ?_
          refine Z_iload_n C dX3_renew_74 rfl rfl ?_
          exact Z_iret C hr hlk dX3_renew_75 (congrArg (fun z => some (Value.int z)) (show ((mRenew M (nI i) v).2) = (M.1 3 i) from by subst eX1; simp [mRenew, c1, ei, c2, c3, c4, eN, eR])) (by rw [show ((mRenew M (nI i) v).1) = (tA X1 3 i v) from by subst eX1; simp [mRenew, c1, ei, c2, c3, c4, eN, eR]])
        · refine Z_aload_n C dX3_renew_61 rfl rfl ?_
          refine Z_iconst C (v := 3) dX3_renew_62 (by decide) ?_
          refine Z_callV C (ws' := mdW 0 (mI X1 0 3)) (st' := [.int 0]) (rest := []) [0, 1, 2, 3, 4, 5, 6] (c_X3_fail X1 3) m_X3_fail K3 g_611 dX3_renew_63 rfl rfl rfl (outL 7 rfl rfl rfl) (NW := 7) rfl rfl rfl rfl rfl ⟨Nat.le_of_ble_eq_true rfl, Nat.le_of_ble_eq_true rfl⟩ ⟨Nat.le_of_ble_eq_true rfl, Nat.le_of_ble_eq_true rfl⟩ (Nat.le_of_ble_eq_true rfl) rfl ?_
          exact Z_iret C hr hlk dX3_renew_66 (congrArg (fun z => some (Value.int z)) (show ((mRenew M (nI i) v).2) = 0 from by subst eX1; simp [mRenew, c1, ei, c2, c3, c4, eN, eR])) (by rw [show ((mRenew M (nI i) v).1) = (mI X1 0 3) from by subst eX1; simp [mRenew, c1, ei, c2, c3, c4, eN, eR]])
    · have c2 := bI_0.mp c2
      refine Z_aload_n C dX3_renew_30 rfl rfl ?_
      refine Z_iconst C (v := 2) dX3_renew_31 (by decide) ?_
      refine Z_callV C (ws' := mdW 0 (mI (mI M 0 0) 0 2)) (st' := [.int 0]) (rest := []) [0, 1, 2, 3, 4, 5, 6] (c_X3_fail (mI M 0 0) 2) m_X3_fail K3 g_611 dX3_renew_32 rfl rfl rfl (outL 7 rfl rfl rfl) (NW := 7) rfl rfl rfl rfl rfl ⟨Nat.le_of_ble_eq_true rfl, Nat.le_of_ble_eq_true rfl⟩ ⟨Nat.le_of_ble_eq_true rfl, Nat.le_of_ble_eq_true rfl⟩ (Nat.le_of_ble_eq_true rfl) rfl ?_
      exact Z_iret C hr hlk dX3_renew_35 (congrArg (fun z => some (Value.int z)) (show ((mRenew M (nI i) v).2) = 0 from by simp [mRenew, c1, ei, c2, eN, eR])) (by rw [show ((mRenew M (nI i) v).1) = (mI (mI M 0 0) 0 2) from by simp [mRenew, c1, ei, c2, eN, eR]])
  · have c1 := bI_0.mp c1
    refine Z_aload_n C dX3_renew_13 rfl rfl ?_
    refine Z_iconst C (v := 1) dX3_renew_14 (by decide) ?_
    refine Z_callV C (ws' := mdW 0 (mI (mI M 0 0) 0 1)) (st' := [.int 0]) (rest := []) [0, 1, 2, 3, 4, 5, 6] (c_X3_fail (mI M 0 0) 1) m_X3_fail K3 g_611 dX3_renew_15 rfl rfl rfl (outL 7 rfl rfl rfl) (NW := 7) rfl rfl rfl rfl rfl ⟨Nat.le_of_ble_eq_true rfl, Nat.le_of_ble_eq_true rfl⟩ ⟨Nat.le_of_ble_eq_true rfl, Nat.le_of_ble_eq_true rfl⟩ (Nat.le_of_ble_eq_true rfl) rfl ?_
    exact Z_iret C hr hlk dX3_renew_18 (congrArg (fun z => some (Value.int z)) (show ((mRenew M x v).2) = 0 from by simp [mRenew, c1, eN, eR])) (by rw [show ((mRenew M x v).1) = (mI (mI M 0 0) 0 1) from by simp [mRenew, c1, eN, eR]])
set_option maxHeartbeats 4000000 in
set_option maxRecDepth 20000 in
theorem c_X3_swap (M : Md) (a : Int32) (b : Int32) {n r : Nat} (hn : M.2.2.2 1 = nI n) (h40 : n ≤ 40) (hq : M.2.2.2 2 = nI r) (h30 : r ≤ 30) (ho : okM n M) : CT yX3_swap cX3_swap 4 (some .boolean) 2 0 0 [.ref 0, .int a, .int b] (mdW 0 M) (some (.int (bI (mSwap M a b).2))) (mdW 0 ((mSwap M a b).1)) := by
  refine CT_of (L := [(0, .ref 0), (1, .int a), (2, .int b)]) (by decide) (fun _ => rfl) (fun _ => Nat.le_of_ble_eq_true rfl) ?_
  intro p l e s m args below meth c G h A C hr hlk _
  have eN : mN M = n := mN_eq hn h40; have eR : mR M = r := mR_eq hq h30
  refine Z_aload_n C dX3_swap_0 rfl rfl ?_
  refine Z_aload_n C dX3_swap_1 rfl rfl ?_
  refine Z_iload_n C dX3_swap_2 rfl rfl ?_
  refine Z_callV C (ws' := mdW 0 M) (st' := [.int (bI (mHasR M a)), .ref 0]) (rest := [.ref 0]) [0, 1, 2, 3, 4, 5, 6] (c_X3_isStair M a) m_X3_isStair K3 g_691 dX3_swap_3 rfl rfl rfl (outR _ _ _) (NW := 7) rfl rfl rfl rfl rfl ⟨Nat.le_of_ble_eq_true rfl, Nat.le_of_ble_eq_true rfl⟩ ⟨Nat.le_of_ble_eq_true rfl, Nat.le_of_ble_eq_true rfl⟩ (Nat.le_of_ble_eq_true rfl) rfl ?_
  refine Z_if_eq C 17 dX3_swap_6 (by decide) (fun c1 => ?_) (fun c1 => ?_)
  · have c1 := bI_0.mp c1
    refine Z_iconst C (v := 1) dX3_swap_17 (by decide) ?_
    refine Z_goto C 51 dX3_swap_18 (by decide) ?_
    refine Z_put C K3 (ws' := mdW 0 (mI M 0 1)) 0 dX3_swap_51 rfl (by decide) g_572 rfl rfl rfl rfl rfl (Nat.le_of_ble_eq_true rfl) rfl ?_
    refine Z_aload_n C dX3_swap_54 rfl rfl ?_
    refine Z_get C K3 (v := .int 1) 0 dX3_swap_55 rfl (by decide) g_572 rfl rfl ?_
    refine Z_if_ne C 91 dX3_swap_58 (by decide) (fun c2 => ?_) (fun c2 => absurd c2 (by decide))
    refine Z_iconst C (v := 0) dX3_swap_91 (by decide) ?_
    exact Z_zret C hr hlk dX3_swap_92 rfl (congrArg (fun z => some (Value.int z)) (show (bI (mSwap M a b).2) = 0 from by simp [mSwap, mSwapT, c1, bI])) (by rw [show ((mSwap M a b).1) = (mI M 0 1) from by simp [mSwap, mSwapT, c1, bI]])
  · have c1 := bI_n0.mp c1
    obtain ⟨i, hi, qi⟩ := isIn_ix hq (by omega) c1
    subst qi
    have ei : ix (nI i) = i := ix_nI (by omega)
    refine Z_aload_n C dX3_swap_9 rfl rfl ?_
    refine Z_iload_n C dX3_swap_10 rfl rfl ?_
    refine Z_callV C (ws' := mdW 0 M) (st' := [.int (bI (mHasR M b)), .ref 0]) (rest := [.ref 0]) [0, 1, 2, 3, 4, 5, 6] (c_X3_isStair M b) m_X3_isStair K3 g_691 dX3_swap_11 rfl rfl rfl (outR _ _ _) (NW := 7) rfl rfl rfl rfl rfl ⟨Nat.le_of_ble_eq_true rfl, Nat.le_of_ble_eq_true rfl⟩ ⟨Nat.le_of_ble_eq_true rfl, Nat.le_of_ble_eq_true rfl⟩ (Nat.le_of_ble_eq_true rfl) rfl ?_
    refine Z_if_ne C 21 dX3_swap_14 (by decide) (fun c3 => ?_) (fun c3 => ?_)
    · have c3 := bI_n0.mp c3
      obtain ⟨j, hj, qj⟩ := isIn_ix hq (by omega) c3
      subst qj
      have ej : ix (nI j) = j := ix_nI (by omega)
      refine Z_iload_n C dX3_swap_21 rfl rfl ?_
      refine Z_iload_n C dX3_swap_22 rfl rfl ?_
      refine Z_icmp_ne C 30 dX3_swap_23 (by decide) (fun c4 => ?_) (fun c4 => ?_)
      · refine Z_aload_n C dX3_swap_30 rfl rfl ?_
        refine Z_iload_n C dX3_swap_31 rfl rfl ?_
        refine Z_iconst C (v := 2) dX3_swap_32 (by decide) ?_
        refine Z_callV C (ws' := mdW 0 M) (st' := [.int (M.2.1 2 i), .ref 0]) (rest := [.ref 0]) [0, 1, 2, 3, 4, 5, 6] (c_X3_st M (nI i) 2 rfl (by omega) rfl (by first | decide | omega)) m_X3_st K3 g_659 dX3_swap_33 rfl rfl rfl (outR _ _ _) (NW := 7) rfl rfl rfl rfl rfl ⟨Nat.le_of_ble_eq_true rfl, Nat.le_of_ble_eq_true rfl⟩ ⟨Nat.le_of_ble_eq_true rfl, Nat.le_of_ble_eq_true rfl⟩ (Nat.le_of_ble_eq_true rfl) rfl ?_
        refine Z_aload_n C dX3_swap_36 rfl rfl ?_
        refine Z_iload_n C dX3_swap_37 rfl rfl ?_
        refine Z_iconst C (v := 2) dX3_swap_38 (by decide) ?_
        refine Z_callV C (ws' := mdW 0 M) (st' := [.int (M.2.1 2 j), .int (M.2.1 2 i), .ref 0]) (rest := [.int (M.2.1 2 i), .ref 0]) [0, 1, 2, 3, 4, 5, 6] (c_X3_st M (nI j) 2 rfl (by omega) rfl (by first | decide | omega)) m_X3_st K3 g_659 dX3_swap_39 rfl rfl rfl (outR _ _ _) (NW := 7) rfl rfl rfl rfl rfl ⟨Nat.le_of_ble_eq_true rfl, Nat.le_of_ble_eq_true rfl⟩ ⟨Nat.le_of_ble_eq_true rfl, Nat.le_of_ble_eq_true rfl⟩ (Nat.le_of_ble_eq_true rfl) rfl ?_
        refine Z_iadd C (v := (M.2.1 2 i) + (M.2.1 2 j)) dX3_swap_42 rfl ?_
        refine Z_if_le C 50 dX3_swap_43 (by decide) (fun c5 => ?_) (fun c5 => ?_)
        · refine Z_iconst C (v := 0) dX3_swap_50 (by decide) ?_
          refine Z_put C K3 (ws' := mdW 0 (mI M 0 0)) 0 dX3_swap_51 rfl (by decide) g_572 rfl rfl rfl rfl rfl (Nat.le_of_ble_eq_true rfl) rfl ?_
          refine Z_aload_n C dX3_swap_54 rfl rfl ?_
          refine Z_get C K3 (v := .int 0) 0 dX3_swap_55 rfl (by decide) g_572 rfl rfl ?_
          refine Z_if_ne C 91 dX3_swap_58 (by decide) (fun c6 => absurd rfl c6) (fun c6 => ?_)
          refine Z_aload_n C dX3_swap_61 rfl rfl ?_
          refine Z_iload_n C dX3_swap_62 rfl rfl ?_
          refine Z_iconst C (v := 0) dX3_swap_63 (by decide) ?_
          refine Z_callV C (ws' := mdW 0 (mI M 0 0)) (st' := [.int (M.2.1 0 i)]) (rest := []) [0, 1, 2, 3, 4, 5, 6] (c_X3_st (mI M 0 0) (nI i) 0 rfl (by omega) rfl (by first | decide | omega)) m_X3_st K3 g_659 dX3_swap_64 rfl rfl rfl (outR _ _ _) (NW := 7) rfl rfl rfl rfl rfl ⟨Nat.le_of_ble_eq_true rfl, Nat.le_of_ble_eq_true rfl⟩ ⟨Nat.le_of_ble_eq_true rfl, Nat.le_of_ble_eq_true rfl⟩ (Nat.le_of_ble_eq_true rfl) rfl ?_
          refine Z_aload_n C dX3_swap_67 rfl rfl ?_
          refine Z_iload_n C dX3_swap_68 rfl rfl ?_
          refine Z_iconst C (v := 1) dX3_swap_69 (by decide) ?_
          refine Z_callV C (ws' := mdW 0 (mI M 0 0)) (st' := [.int (M.2.1 1 j), .int (M.2.1 0 i)]) (rest := [.int (M.2.1 0 i)]) [0, 1, 2, 3, 4, 5, 6] (c_X3_st (mI M 0 0) (nI j) 1 rfl (by omega) rfl (by first | decide | omega)) m_X3_st K3 g_659 dX3_swap_70 rfl rfl rfl (outR _ _ _) (NW := 7) rfl rfl rfl rfl rfl ⟨Nat.le_of_ble_eq_true rfl, Nat.le_of_ble_eq_true rfl⟩ ⟨Nat.le_of_ble_eq_true rfl, Nat.le_of_ble_eq_true rfl⟩ (Nat.le_of_ble_eq_true rfl) rfl ?_
          refine Z_icmp_eq C 91 dX3_swap_73 (by decide) (fun c7 => ?_) (fun c7 => ?_)
          · refine Z_iconst C (v := 0) dX3_swap_91 (by decide) ?_
            exact Z_zret C hr hlk dX3_swap_92 rfl (congrArg (fun z => some (Value.int z)) (show (bI (mSwap M (nI i) (nI j)).2) = 0 from by simp [mSwap, mSwapT, c1, ei, c3, ej, c4, c5, c7, bI])) (by rw [show ((mSwap M (nI i) (nI j)).1) = (mI M 0 0) from by simp [mSwap, mSwapT, c1, ei, c3, ej, c4, c5, c7, bI]])
          · refine Z_aload_n C dX3_swap_76 rfl rfl ?_
            refine Z_iload_n C dX3_swap_77 rfl rfl ?_
            refine Z_iconst C (v := 0) dX3_swap_78 (by decide) ?_
            refine Z_callV C (ws' := mdW 0 (mI M 0 0)) (st' := [.int (M.2.1 0 j)]) (rest := []) [0, 1, 2, 3, 4, 5, 6] (c_X3_st (mI M 0 0) (nI j) 0 rfl (by omega) rfl (by first | decide | omega)) m_X3_st K3 g_659 dX3_swap_79 rfl rfl rfl (outR _ _ _) (NW := 7) rfl rfl rfl rfl rfl ⟨Nat.le_of_ble_eq_true rfl, Nat.le_of_ble_eq_true rfl⟩ ⟨Nat.le_of_ble_eq_true rfl, Nat.le_of_ble_eq_true rfl⟩ (Nat.le_of_ble_eq_true rfl) rfl ?_
            refine Z_aload_n C dX3_swap_82 rfl rfl ?_
            refine Z_iload_n C dX3_swap_83 rfl rfl ?_
            refine Z_iconst C (v := 1) dX3_swap_84 (by decide) ?_
            refine Z_callV C (ws' := mdW 0 (mI M 0 0)) (st' := [.int (M.2.1 1 i), .int (M.2.1 0 j)]) (rest := [.int (M.2.1 0 j)]) [0, 1, 2, 3, 4, 5, 6] (c_X3_st (mI M 0 0) (nI i) 1 rfl (by omega) rfl (by first | decide | omega)) m_X3_st K3 g_659 dX3_swap_85 rfl rfl rfl (outR _ _ _) (NW := 7) rfl rfl rfl rfl rfl ⟨Nat.le_of_ble_eq_true rfl, Nat.le_of_ble_eq_true rfl⟩ ⟨Nat.le_of_ble_eq_true rfl, Nat.le_of_ble_eq_true rfl⟩ (Nat.le_of_ble_eq_true rfl) rfl ?_
            refine Z_icmp_ne C 93 dX3_swap_88 (by decide) (fun c8 => ?_) (fun c8 => ?_)
            · refine Z_aload_n C dX3_swap_93 rfl rfl ?_
              refine Z_iload_n C dX3_swap_94 rfl rfl ?_
              refine Z_iconst C (v := 1) dX3_swap_95 (by decide) ?_
              refine Z_callV C (ws' := mdW 0 (mI M 0 0)) (st' := [.int (M.2.1 1 i)]) (rest := []) [0, 1, 2, 3, 4, 5, 6] (c_X3_st (mI M 0 0) (nI i) 1 rfl (by omega) rfl (by first | decide | omega)) m_X3_st K3 g_659 dX3_swap_96 rfl rfl rfl (outR _ _ _) (NW := 7) rfl rfl rfl rfl rfl ⟨Nat.le_of_ble_eq_true rfl, Nat.le_of_ble_eq_true rfl⟩ ⟨Nat.le_of_ble_eq_true rfl, Nat.le_of_ble_eq_true rfl⟩ (Nat.le_of_ble_eq_true rfl) rfl ?_
              refine Z_istore_n C (L' := [(3, .int (M.2.1 1 i)), (0, .ref 0), (1, .int (nI i)), (2, .int (nI j))]) dX3_swap_99 rfl (by decide) rfl ?_
              refine Z_aload_n C dX3_swap_100 rfl rfl ?_
              refine Z_get C K3 (v := .ref 2) 4 dX3_swap_101 rfl (by decide) g_576 rfl rfl ?_
              refine Z_iconst C (v := 3) dX3_swap_104 (by decide) ?_
              refine Z_iload_n C dX3_swap_105 rfl rfl ?_
              refine Z_imul C (v := nI (3 * i)) dX3_swap_106 (pk_mul 3 _) ?_
              refine Z_iconst C (v := 1) dX3_swap_107 (by decide) ?_
              refine Z_iadd C (v := nI (3 * i + 1)) dX3_swap_108 (nI_add _ _) ?_
              refine Z_aload_n C dX3_swap_109 rfl rfl ?_
              refine Z_iload_n C dX3_swap_110 rfl rfl ?_
              refine Z_iconst C (v := 1) dX3_swap_111 (by decide) ?_
              refine Z_callV C (ws' := mdW 0 (mI M 0 0)) (st' := [.int (M.2.1 1 j), .int (nI (3 * i + 1)), .ref 2]) (rest := [.int (nI (3 * i + 1)), .ref 2]) [0, 1, 2, 3, 4, 5, 6] (c_X3_st (mI M 0 0) (nI j) 1 rfl (by omega) rfl (by first | decide | omega)) m_X3_st K3 g_659 dX3_swap_112 rfl rfl rfl (outR _ _ _) (NW := 7) rfl rfl rfl rfl rfl ⟨Nat.le_of_ble_eq_true rfl, Nat.le_of_ble_eq_true rfl⟩ ⟨Nat.le_of_ble_eq_true rfl, Nat.le_of_ble_eq_true rfl⟩ (Nat.le_of_ble_eq_true rfl) rfl ?_
              refine Z_isN C (ws' := mdW 0 (wA (mI M 0 0) 1 i (M.2.1 1 j))) dX3_swap_115 rfl (by omega) (by decide) (by rw [wy_upd _ (by decide)]; rfl) ?_
              refine Z_aload_n C dX3_swap_116 rfl rfl ?_
              refine Z_get C K3 (v := .ref 2) 4 dX3_swap_117 rfl (by decide) g_576 rfl rfl ?_
              refine Z_iconst C (v := 3) dX3_swap_120 (by decide) ?_
              refine Z_iload_n C dX3_swap_121 rfl rfl ?_
              refine Z_imul C (v := nI (3 * j)) dX3_swap_122 (pk_mul 3 _) ?_
              refine Z_iconst C (v := 1) dX3_swap_123 (by decide) ?_
              refine Z_iadd C (v := nI (3 * j + 1)) dX3_swap_124 (nI_add _ _) ?_
              refine Z_iload_n C dX3_swap_125 rfl rfl ?_
              refine Z_isN C (ws' := mdW 0 (wA (wA (mI M 0 0) 1 i (M.2.1 1 j)) 1 j (M.2.1 1 i))) dX3_swap_126 rfl (by omega) (by decide) (by rw [wy_upd _ (by decide)]; rfl) ?_
              refine Z_iconst C (v := 1) dX3_swap_127 (by decide) ?_
              exact Z_zret C hr hlk dX3_swap_128 rfl (congrArg (fun z => some (Value.int z)) (show (bI (mSwap M (nI i) (nI j)).2) = 1 from by simp [mSwap, mSwapT, c1, ei, c3, ej, c4, c5, c7, c8, bI])) (by rw [show ((mSwap M (nI i) (nI j)).1) = (wA (wA (mI M 0 0) 1 i (M.2.1 1 j)) 1 j (M.2.1 1 i)) from by simp [mSwap, mSwapT, c1, ei, c3, ej, c4, c5, c7, c8, bI]])
            · refine Z_iconst C (v := 0) dX3_swap_91 (by decide) ?_
              exact Z_zret C hr hlk dX3_swap_92 rfl (congrArg (fun z => some (Value.int z)) (show (bI (mSwap M (nI i) (nI j)).2) = 0 from by simp [mSwap, mSwapT, c1, ei, c3, ej, c4, c5, c7, c8, bI])) (by rw [show ((mSwap M (nI i) (nI j)).1) = (mI M 0 0) from by simp [mSwap, mSwapT, c1, ei, c3, ej, c4, c5, c7, c8, bI]])
        · refine Z_iconst C (v := 3) dX3_swap_46 (by decide) ?_
          refine Z_goto C 51 dX3_swap_47 (by decide) ?_
          refine Z_put C K3 (ws' := mdW 0 (mI M 0 3)) 0 dX3_swap_51 rfl (by decide) g_572 rfl rfl rfl rfl rfl (Nat.le_of_ble_eq_true rfl) rfl ?_
          refine Z_aload_n C dX3_swap_54 rfl rfl ?_
          refine Z_get C K3 (v := .int 3) 0 dX3_swap_55 rfl (by decide) g_572 rfl rfl ?_
          refine Z_if_ne C 91 dX3_swap_58 (by decide) (fun c9 => ?_) (fun c9 => absurd c9 (by decide))
          refine Z_iconst C (v := 0) dX3_swap_91 (by decide) ?_
          exact Z_zret C hr hlk dX3_swap_92 rfl (congrArg (fun z => some (Value.int z)) (show (bI (mSwap M (nI i) (nI j)).2) = 0 from by simp [mSwap, mSwapT, c1, ei, c3, ej, c4, c5, bI])) (by rw [show ((mSwap M (nI i) (nI j)).1) = (mI M 0 3) from by simp [mSwap, mSwapT, c1, ei, c3, ej, c4, c5, bI]])
      · refine Z_iconst C (v := 2) dX3_swap_26 (by decide) ?_
        refine Z_goto C 51 dX3_swap_27 (by decide) ?_
        refine Z_put C K3 (ws' := mdW 0 (mI M 0 2)) 0 dX3_swap_51 rfl (by decide) g_572 rfl rfl rfl rfl rfl (Nat.le_of_ble_eq_true rfl) rfl ?_
        refine Z_aload_n C dX3_swap_54 rfl rfl ?_
        refine Z_get C K3 (v := .int 2) 0 dX3_swap_55 rfl (by decide) g_572 rfl rfl ?_
        refine Z_if_ne C 91 dX3_swap_58 (by decide) (fun c10 => ?_) (fun c10 => absurd c10 (by decide))
        refine Z_iconst C (v := 0) dX3_swap_91 (by decide) ?_
        exact Z_zret C hr hlk dX3_swap_92 rfl (congrArg (fun z => some (Value.int z)) (show (bI (mSwap M (nI i) (nI j)).2) = 0 from by simp [mSwap, mSwapT, c1, ei, c3, ej, c4, bI])) (by rw [show ((mSwap M (nI i) (nI j)).1) = (mI M 0 2) from by simp [mSwap, mSwapT, c1, ei, c3, ej, c4, bI]])
    · have c3 := bI_0.mp c3
      refine Z_iconst C (v := 1) dX3_swap_17 (by decide) ?_
      refine Z_goto C 51 dX3_swap_18 (by decide) ?_
      refine Z_put C K3 (ws' := mdW 0 (mI M 0 1)) 0 dX3_swap_51 rfl (by decide) g_572 rfl rfl rfl rfl rfl (Nat.le_of_ble_eq_true rfl) rfl ?_
      refine Z_aload_n C dX3_swap_54 rfl rfl ?_
      refine Z_get C K3 (v := .int 1) 0 dX3_swap_55 rfl (by decide) g_572 rfl rfl ?_
      refine Z_if_ne C 91 dX3_swap_58 (by decide) (fun c11 => ?_) (fun c11 => absurd c11 (by decide))
      refine Z_iconst C (v := 0) dX3_swap_91 (by decide) ?_
      exact Z_zret C hr hlk dX3_swap_92 rfl (congrArg (fun z => some (Value.int z)) (show (bI (mSwap M (nI i) b).2) = 0 from by simp [mSwap, mSwapT, c1, ei, c3, bI])) (by rw [show ((mSwap M (nI i) b).1) = (mI M 0 1) from by simp [mSwap, mSwapT, c1, ei, c3, bI]])
set_option maxHeartbeats 4000000 in
set_option maxRecDepth 20000 in
theorem c_X3_joins (M : Md) (k : Int32) (w : Int32) {n r : Nat} (hn : M.2.2.2 1 = nI n) (h40 : n ≤ 40) (hq : M.2.2.2 2 = nI r) (h30 : r ≤ 30) (ho : okM n M) : CT yX3_joins cX3_joins 3 (some .int) 2 0 0 [.ref 0, .int k, .int w] (mdW 0 M) (some (.int ((mJoins M k w).2))) (mdW 0 ((mJoins M k w).1)) := by
  refine CT_of (L := [(0, .ref 0), (1, .int k), (2, .int w)]) (by decide) (fun _ => rfl) (fun _ => Nat.le_of_ble_eq_true rfl) ?_
  intro p l e s m args below meth c G h A C hr hlk _
  have eN : mN M = n := mN_eq hn h40; have eR : mR M = r := mR_eq hq h30
  refine Z_aload_n C dX3_joins_0 rfl rfl ?_
  refine Z_iconst C (v := 0) dX3_joins_1 (by decide) ?_
  refine Z_put C K3 (ws' := mdW 0 (mI M 0 0)) 0 dX3_joins_2 rfl (by decide) g_572 rfl rfl rfl rfl rfl (Nat.le_of_ble_eq_true rfl) rfl ?_
  refine Z_aload_n C dX3_joins_5 rfl rfl ?_
  refine Z_iload_n C dX3_joins_6 rfl rfl ?_
  refine Z_callV C (ws' := mdW 0 (mI M 0 0)) (st' := [.int (bI (mHasR (mI M 0 0) k))]) (rest := []) [0, 1, 2, 3, 4, 5, 6] (c_X3_isStair (mI M 0 0) k) m_X3_isStair K3 g_691 dX3_joins_7 rfl rfl rfl (outR _ _ _) (NW := 7) rfl rfl rfl rfl rfl ⟨Nat.le_of_ble_eq_true rfl, Nat.le_of_ble_eq_true rfl⟩ ⟨Nat.le_of_ble_eq_true rfl, Nat.le_of_ble_eq_true rfl⟩ (Nat.le_of_ble_eq_true rfl) rfl ?_
  refine Z_if_eq C 31 dX3_joins_10 (by decide) (fun c1 => ?_) (fun c1 => ?_)
  · have c1 := bI_0.mp c1
    refine Z_aload_n C dX3_joins_31 rfl rfl ?_
    refine Z_iconst C (v := 1) dX3_joins_32 (by decide) ?_
    refine Z_callV C (ws' := mdW 0 (mI (mI M 0 0) 0 1)) (st' := [.int 0]) (rest := []) [0, 1, 2, 3, 4, 5, 6] (c_X3_fail (mI M 0 0) 1) m_X3_fail K3 g_611 dX3_joins_33 rfl rfl rfl (outL 7 rfl rfl rfl) (NW := 7) rfl rfl rfl rfl rfl ⟨Nat.le_of_ble_eq_true rfl, Nat.le_of_ble_eq_true rfl⟩ ⟨Nat.le_of_ble_eq_true rfl, Nat.le_of_ble_eq_true rfl⟩ (Nat.le_of_ble_eq_true rfl) rfl ?_
    exact Z_iret C hr hlk dX3_joins_36 (congrArg (fun z => some (Value.int z)) (show ((mJoins M k w).2) = 0 from by simp [mJoins, c1, eN, eR])) (by rw [show ((mJoins M k w).1) = (mI (mI M 0 0) 0 1) from by simp [mJoins, c1, eN, eR]])
  · have c1 := bI_n0.mp c1
    obtain ⟨i, hi, qi⟩ := isIn_ix hq (by omega) c1
    subst qi
    have ei : ix (nI i) = i := ix_nI (by omega)
    refine Z_iload_n C dX3_joins_13 rfl rfl ?_
    refine Z_iconst C (v := 0) dX3_joins_14 (by decide) ?_
    refine Z_iconst C (v := 2) dX3_joins_15 (by decide) ?_
    refine Z_callS C (ws' := mdW 0 (mI M 0 0)) (st' := [.int (bI (isInB w 0 2))]) (rest := []) [] (c_X3_isIn w 0 2) m_X3_isIn g_608 dX3_joins_16 rfl rfl rfl (outR _ _ _) (NW := 7) rfl rfl rfl rfl ⟨Nat.le_of_ble_eq_true rfl, Nat.le_of_ble_eq_true rfl⟩ ⟨Nat.le_of_ble_eq_true rfl, Nat.le_of_ble_eq_true rfl⟩ (Nat.le_of_ble_eq_true rfl) rfl ?_
    refine Z_if_eq C 31 dX3_joins_19 (by decide) (fun c2 => ?_) (fun c2 => ?_)
    · have c2 := bI_0.mp c2
      refine Z_aload_n C dX3_joins_31 rfl rfl ?_
      refine Z_iconst C (v := 1) dX3_joins_32 (by decide) ?_
      refine Z_callV C (ws' := mdW 0 (mI (mI M 0 0) 0 1)) (st' := [.int 0]) (rest := []) [0, 1, 2, 3, 4, 5, 6] (c_X3_fail (mI M 0 0) 1) m_X3_fail K3 g_611 dX3_joins_33 rfl rfl rfl (outL 7 rfl rfl rfl) (NW := 7) rfl rfl rfl rfl rfl ⟨Nat.le_of_ble_eq_true rfl, Nat.le_of_ble_eq_true rfl⟩ ⟨Nat.le_of_ble_eq_true rfl, Nat.le_of_ble_eq_true rfl⟩ (Nat.le_of_ble_eq_true rfl) rfl ?_
      exact Z_iret C hr hlk dX3_joins_36 (congrArg (fun z => some (Value.int z)) (show ((mJoins M (nI i) w).2) = 0 from by simp [mJoins, c1, ei, c2, eN, eR])) (by rw [show ((mJoins M (nI i) w).1) = (mI (mI M 0 0) 0 1) from by simp [mJoins, c1, ei, c2, eN, eR]])
    · have c2 := bI_n0.mp c2
      obtain ⟨q, hq, qq⟩ := isIn_lit 2 rfl (by decide) c2
      subst qq
      have eq : ix (nI q) = q := ix_nI (by omega)
      refine Z_aload_n C dX3_joins_22 rfl rfl ?_
      refine Z_iload_n C dX3_joins_23 rfl rfl ?_
      refine Z_iload_n C dX3_joins_24 rfl rfl ?_
      refine Z_callV C (ws' := mdW 0 (mI M 0 0)) (st' := [.int (M.2.1 q i)]) (rest := []) [0, 1, 2, 3, 4, 5, 6] (c_X3_st (mI M 0 0) (nI i) (nI q) rfl (by omega) rfl (by first | decide | omega)) m_X3_st K3 g_659 dX3_joins_25 rfl rfl rfl (outR _ _ _) (NW := 7) rfl rfl rfl rfl rfl ⟨Nat.le_of_ble_eq_true rfl, Nat.le_of_ble_eq_true rfl⟩ ⟨Nat.le_of_ble_eq_true rfl, Nat.le_of_ble_eq_true rfl⟩ (Nat.le_of_ble_eq_true rfl) rfl ?_
      refine Z_goto C 36 dX3_joins_28 (by decide) ?_
      exact Z_iret C hr hlk dX3_joins_36 (congrArg (fun z => some (Value.int z)) (show ((mJoins M (nI i) (nI q)).2) = (M.2.1 q i) from by simp [mJoins, c1, ei, c2, eq, eN, eR])) (by rw [show ((mJoins M (nI i) (nI q)).1) = (mI M 0 0) from by simp [mJoins, c1, ei, c2, eq, eN, eR]])
set_option maxHeartbeats 4000000 in
set_option maxRecDepth 20000 in
theorem c_X3_holdsFrom (M : Md) (x : Int32) {n r : Nat} (hn : M.2.2.2 1 = nI n) (h40 : n ≤ 40) (hq : M.2.2.2 2 = nI r) (h30 : r ≤ 30) (ho : okM n M) {f : Nat} (hx : x = nI f) (hf : f < n) : CT yX3_holdsFrom cX3_holdsFrom 4 (some .int) 2 0 0 [.ref 0, .int x] (mdW 0 M) (some (.int (mHf M f))) (mdW 0 M) := by
  refine CT_of (L := [(0, .ref 0), (1, .int x)]) (by decide) (fun _ => rfl) (fun _ => Nat.le_of_ble_eq_true rfl) ?_
  intro p l e s m args below meth c G h A C hr hlk _
  subst hx
  refine Z_iconst C (v := 0) dX3_holdsFrom_0 (by decide) ?_
  refine Z_istore_n C (L' := [(2, .int 0), (0, .ref 0), (1, .int (nI f))]) dX3_holdsFrom_1 rfl (by decide) rfl ?_
  refine Z_iload_n C dX3_holdsFrom_2 rfl rfl ?_
  refine Z_iconst C (v := 1) dX3_holdsFrom_3 (by decide) ?_
  refine Z_iadd C (v := nI (f + 1)) dX3_holdsFrom_4 (nI_1 f) ?_
  refine Z_istore_n C (L' := [(3, .int (nI (f + 1))), (2, .int 0), (0, .ref 0), (1, .int (nI f))]) dX3_holdsFrom_5 rfl (by decide) rfl ?_
  refine ZforA (σ := Int32) (fun i T1 => Z p l e _ s m args below meth c 4 G A h _ 0 0 (mdW 0 M) 6 [(3, .int (nI i)), (2, .int T1), (0, .ref 0), (1, .int (nI f))] []) (fun i T1 => True) (mhf1 M f) (f + 1) n (0) (by omega) trivial (fun i T1 hai hi hT1 => trivial) (fun T1 hT1 eT1 => ?_) (fun i T1 hai hi hT1 hT1' kk => ?_)
  · refine Z_iload_n C dX3_holdsFrom_6 rfl rfl ?_
    refine Z_aload_n C dX3_holdsFrom_7 rfl rfl ?_
    refine Z_get C K3 (v := .int (M.2.2.2 1)) 1 dX3_holdsFrom_8 rfl (by decide) g_573 rfl rfl ?_
    refine Z_icmp_ge C 45 dX3_holdsFrom_11 (by decide) (fun c1 => ?_) (fun c1 => absurd (ge_yes hn) c1)
    refine Z_iload_n C dX3_holdsFrom_45 rfl rfl ?_
    exact Z_iret C hr hlk dX3_holdsFrom_46 (congrArg (fun z => some (Value.int z)) (show (mHf M f) = T1 from by subst eT1; simp only [mHf, mN_eq hn h40])) rfl
  · refine Z_iload_n C dX3_holdsFrom_6 rfl rfl ?_
    refine Z_aload_n C dX3_holdsFrom_7 rfl rfl ?_
    refine Z_get C K3 (v := .int (M.2.2.2 1)) 1 dX3_holdsFrom_8 rfl (by decide) g_573 rfl rfl ?_
    refine Z_icmp_ge C 45 dX3_holdsFrom_11 (by decide) (fun c2 => absurd c2 (ge_no hn h40 hi)) (fun c2 => ?_)
    refine Z_iload_n C dX3_holdsFrom_14 rfl rfl ?_
    refine Z_aload_n C dX3_holdsFrom_15 rfl rfl ?_
    refine Z_iload_n C dX3_holdsFrom_16 rfl rfl ?_
    refine Z_callV C (ws' := mdW 0 M) (st' := [.int (bI (mHg M i)), .int T1]) (rest := [.int T1]) [0, 1, 2, 3, 4, 5, 6] (c_X3_hangs M (nI i) rfl (by omega)) m_X3_hangs K3 g_630 dX3_holdsFrom_17 rfl rfl rfl (outR _ _ _) (NW := 7) rfl rfl rfl rfl rfl ⟨Nat.le_of_ble_eq_true rfl, Nat.le_of_ble_eq_true rfl⟩ ⟨Nat.le_of_ble_eq_true rfl, Nat.le_of_ble_eq_true rfl⟩ (Nat.le_of_ble_eq_true rfl) rfl ?_
    refine Z_if_eq C 36 dX3_holdsFrom_20 (by decide) (fun c3 => ?_) (fun c3 => ?_)
    · have c3 := bI_0.mp c3
      refine Z_iconst C (v := 0) dX3_holdsFrom_36 (by decide) ?_
      refine Z_iadd C (v := T1 + 0) dX3_holdsFrom_37 rfl ?_
      refine Z_istore_n C (L' := [(2, .int (T1 + 0)), (3, .int (nI i)), (0, .ref 0), (1, .int (nI f))]) dX3_holdsFrom_38 rfl (by decide) rfl ?_
      refine Z_iinc C (L' := [(3, .int (nI (i + 1))), (2, .int (T1 + 0)), (0, .ref 0), (1, .int (nI f))]) (v := nI (i + 1)) dX3_holdsFrom_39 rfl (nI_inc _) (by decide) rfl ?_
      refine Z_goto C 6 dX3_holdsFrom_42 (by decide) ?_
      rw [show (mhf1 M f) i T1 = T1 + 0 from by simp [mhf1, c2, c3]] at kk
      exact Z_sub (by simp [bI_t, bI_f]) kk
    · have c3 := bI_n0.mp c3
      refine Z_aload_n C dX3_holdsFrom_23 rfl rfl ?_
      refine Z_iload_n C dX3_holdsFrom_24 rfl rfl ?_
      refine Z_iload_n C dX3_holdsFrom_25 rfl rfl ?_
      refine Z_callV C (ws' := mdW 0 M) (st' := [.int (bI (heldB M i (nI f))), .int T1]) (rest := [.int T1]) [0, 1, 2, 3, 4, 5, 6] (c_X3_isHeldBy M (nI i) (nI f) rfl (by omega)) m_X3_isHeldBy K3 g_643 dX3_holdsFrom_26 rfl rfl rfl (outR _ _ _) (NW := 7) rfl rfl rfl rfl rfl ⟨Nat.le_of_ble_eq_true rfl, Nat.le_of_ble_eq_true rfl⟩ ⟨Nat.le_of_ble_eq_true rfl, Nat.le_of_ble_eq_true rfl⟩ (Nat.le_of_ble_eq_true rfl) rfl ?_
      refine Z_if_eq C 36 dX3_holdsFrom_29 (by decide) (fun c4 => ?_) (fun c4 => ?_)
      · have c4 := bI_0.mp c4
        refine Z_iconst C (v := 0) dX3_holdsFrom_36 (by decide) ?_
        refine Z_iadd C (v := T1 + 0) dX3_holdsFrom_37 rfl ?_
        refine Z_istore_n C (L' := [(2, .int (T1 + 0)), (3, .int (nI i)), (0, .ref 0), (1, .int (nI f))]) dX3_holdsFrom_38 rfl (by decide) rfl ?_
        refine Z_iinc C (L' := [(3, .int (nI (i + 1))), (2, .int (T1 + 0)), (0, .ref 0), (1, .int (nI f))]) (v := nI (i + 1)) dX3_holdsFrom_39 rfl (nI_inc _) (by decide) rfl ?_
        refine Z_goto C 6 dX3_holdsFrom_42 (by decide) ?_
        rw [show (mhf1 M f) i T1 = T1 + 0 from by simp [mhf1, c2, c3, c4]] at kk
        exact Z_sub (by simp [bI_t, bI_f]) kk
      · have c4 := bI_n0.mp c4
        refine Z_iconst C (v := 1) dX3_holdsFrom_32 (by decide) ?_
        refine Z_goto C 37 dX3_holdsFrom_33 (by decide) ?_
        refine Z_iadd C (v := T1 + 1) dX3_holdsFrom_37 rfl ?_
        refine Z_istore_n C (L' := [(2, .int (T1 + 1)), (3, .int (nI i)), (0, .ref 0), (1, .int (nI f))]) dX3_holdsFrom_38 rfl (by decide) rfl ?_
        refine Z_iinc C (L' := [(3, .int (nI (i + 1))), (2, .int (T1 + 1)), (0, .ref 0), (1, .int (nI f))]) (v := nI (i + 1)) dX3_holdsFrom_39 rfl (nI_inc _) (by decide) rfl ?_
        refine Z_goto C 6 dX3_holdsFrom_42 (by decide) ?_
        rw [show (mhf1 M f) i T1 = T1 + 1 from by simp [mhf1, c2, c3, c4]] at kk
        exact Z_sub (by simp [bI_t, bI_f]) kk
set_option maxHeartbeats 4000000 in
set_option maxRecDepth 20000 in
theorem c_X3_stoneTold (M : Md) (x : Int32) (y : Int32) {n r : Nat} (hn : M.2.2.2 1 = nI n) (h40 : n ≤ 40) (hq : M.2.2.2 2 = nI r) (h30 : r ≤ 30) (ho : okM n M) {i : Nat} (hx : x = nI i) (hi : i < n) {w : Nat} (hy : y = nI w) (hw : w < 10) : CT yX3_stoneTold cX3_stoneTold 3 (some .int) 3 0 0 [.ref 0, .int x, .int y] (mdW 0 M) (some (.int (mTold M i w))) (mdW 0 M) := by
  refine CT_of (L := [(0, .ref 0), (1, .int x), (2, .int y)]) (by decide) (fun _ => rfl) (fun _ => Nat.le_of_ble_eq_true rfl) ?_
  intro p l e s m args below meth c G h A C hr hlk _
  subst hx
  subst hy
  refine Z_iload_n C dX3_stoneTold_0 rfl rfl ?_
  rcases (show w = 0 ∨ w = 1 ∨ w = 2 ∨ w = 3 ∨ w = 4 ∨ w = 5 ∨ w = 6 ∨ w = 7 ∨ w = 8 ∨ w = 9 from by omega) with rfl | rfl | rfl | rfl | rfl | rfl | rfl | rfl | rfl | rfl
  · refine Z_tOut C 72 dX3_stoneTold_1 (by decide) (by decide) ?_
    refine Z_aload_n C dX3_stoneTold_72 rfl rfl ?_
    refine Z_iload_n C dX3_stoneTold_73 rfl rfl ?_
    refine Z_iload_n C dX3_stoneTold_74 rfl rfl ?_
    refine Z_callV C (ws' := mdW 0 M) (st' := [.int (M.1 0 i)]) (rest := []) [0, 1, 2, 3, 4, 5, 6] (c_X3_to M (nI i) (nI 0) rfl (by omega) rfl (by decide)) m_X3_to K3 g_634 dX3_stoneTold_75 rfl rfl rfl (outR _ _ _) (NW := 7) rfl rfl rfl rfl rfl ⟨Nat.le_of_ble_eq_true rfl, Nat.le_of_ble_eq_true rfl⟩ ⟨Nat.le_of_ble_eq_true rfl, Nat.le_of_ble_eq_true rfl⟩ (Nat.le_of_ble_eq_true rfl) rfl ?_
    exact Z_iret C hr hlk dX3_stoneTold_78 (congrArg (fun z => some (Value.int z)) (show (mTold M i 0) = (M.1 0 i) from by simp [mTold, bI])) rfl
  · refine Z_tOut C 72 dX3_stoneTold_1 (by decide) (by decide) ?_
    refine Z_aload_n C dX3_stoneTold_72 rfl rfl ?_
    refine Z_iload_n C dX3_stoneTold_73 rfl rfl ?_
    refine Z_iload_n C dX3_stoneTold_74 rfl rfl ?_
    refine Z_callV C (ws' := mdW 0 M) (st' := [.int (M.1 1 i)]) (rest := []) [0, 1, 2, 3, 4, 5, 6] (c_X3_to M (nI i) (nI 1) rfl (by omega) rfl (by decide)) m_X3_to K3 g_634 dX3_stoneTold_75 rfl rfl rfl (outR _ _ _) (NW := 7) rfl rfl rfl rfl rfl ⟨Nat.le_of_ble_eq_true rfl, Nat.le_of_ble_eq_true rfl⟩ ⟨Nat.le_of_ble_eq_true rfl, Nat.le_of_ble_eq_true rfl⟩ (Nat.le_of_ble_eq_true rfl) rfl ?_
    exact Z_iret C hr hlk dX3_stoneTold_78 (congrArg (fun z => some (Value.int z)) (show (mTold M i 1) = (M.1 1 i) from by simp [mTold, bI])) rfl
  · refine Z_tOut C 72 dX3_stoneTold_1 (by decide) (by decide) ?_
    refine Z_aload_n C dX3_stoneTold_72 rfl rfl ?_
    refine Z_iload_n C dX3_stoneTold_73 rfl rfl ?_
    refine Z_iload_n C dX3_stoneTold_74 rfl rfl ?_
    refine Z_callV C (ws' := mdW 0 M) (st' := [.int (M.1 2 i)]) (rest := []) [0, 1, 2, 3, 4, 5, 6] (c_X3_to M (nI i) (nI 2) rfl (by omega) rfl (by decide)) m_X3_to K3 g_634 dX3_stoneTold_75 rfl rfl rfl (outR _ _ _) (NW := 7) rfl rfl rfl rfl rfl ⟨Nat.le_of_ble_eq_true rfl, Nat.le_of_ble_eq_true rfl⟩ ⟨Nat.le_of_ble_eq_true rfl, Nat.le_of_ble_eq_true rfl⟩ (Nat.le_of_ble_eq_true rfl) rfl ?_
    exact Z_iret C hr hlk dX3_stoneTold_78 (congrArg (fun z => some (Value.int z)) (show (mTold M i 2) = (M.1 2 i) from by simp [mTold, bI])) rfl
  · refine Z_tOut C 72 dX3_stoneTold_1 (by decide) (by decide) ?_
    refine Z_aload_n C dX3_stoneTold_72 rfl rfl ?_
    refine Z_iload_n C dX3_stoneTold_73 rfl rfl ?_
    refine Z_iload_n C dX3_stoneTold_74 rfl rfl ?_
    refine Z_callV C (ws' := mdW 0 M) (st' := [.int (M.1 3 i)]) (rest := []) [0, 1, 2, 3, 4, 5, 6] (c_X3_to M (nI i) (nI 3) rfl (by omega) rfl (by decide)) m_X3_to K3 g_634 dX3_stoneTold_75 rfl rfl rfl (outR _ _ _) (NW := 7) rfl rfl rfl rfl rfl ⟨Nat.le_of_ble_eq_true rfl, Nat.le_of_ble_eq_true rfl⟩ ⟨Nat.le_of_ble_eq_true rfl, Nat.le_of_ble_eq_true rfl⟩ (Nat.le_of_ble_eq_true rfl) rfl ?_
    exact Z_iret C hr hlk dX3_stoneTold_78 (congrArg (fun z => some (Value.int z)) (show (mTold M i 3) = (M.1 3 i) from by simp [mTold, bI])) rfl
  · refine Z_tOut C 72 dX3_stoneTold_1 (by decide) (by decide) ?_
    refine Z_aload_n C dX3_stoneTold_72 rfl rfl ?_
    refine Z_iload_n C dX3_stoneTold_73 rfl rfl ?_
    refine Z_iload_n C dX3_stoneTold_74 rfl rfl ?_
    refine Z_callV C (ws' := mdW 0 M) (st' := [.int (M.1 4 i)]) (rest := []) [0, 1, 2, 3, 4, 5, 6] (c_X3_to M (nI i) (nI 4) rfl (by omega) rfl (by decide)) m_X3_to K3 g_634 dX3_stoneTold_75 rfl rfl rfl (outR _ _ _) (NW := 7) rfl rfl rfl rfl rfl ⟨Nat.le_of_ble_eq_true rfl, Nat.le_of_ble_eq_true rfl⟩ ⟨Nat.le_of_ble_eq_true rfl, Nat.le_of_ble_eq_true rfl⟩ (Nat.le_of_ble_eq_true rfl) rfl ?_
    exact Z_iret C hr hlk dX3_stoneTold_78 (congrArg (fun z => some (Value.int z)) (show (mTold M i 4) = (M.1 4 i) from by simp [mTold, bI])) rfl
  · refine Z_tOut C 72 dX3_stoneTold_1 (by decide) (by decide) ?_
    refine Z_aload_n C dX3_stoneTold_72 rfl rfl ?_
    refine Z_iload_n C dX3_stoneTold_73 rfl rfl ?_
    refine Z_iload_n C dX3_stoneTold_74 rfl rfl ?_
    refine Z_callV C (ws' := mdW 0 M) (st' := [.int (M.1 5 i)]) (rest := []) [0, 1, 2, 3, 4, 5, 6] (c_X3_to M (nI i) (nI 5) rfl (by omega) rfl (by decide)) m_X3_to K3 g_634 dX3_stoneTold_75 rfl rfl rfl (outR _ _ _) (NW := 7) rfl rfl rfl rfl rfl ⟨Nat.le_of_ble_eq_true rfl, Nat.le_of_ble_eq_true rfl⟩ ⟨Nat.le_of_ble_eq_true rfl, Nat.le_of_ble_eq_true rfl⟩ (Nat.le_of_ble_eq_true rfl) rfl ?_
    exact Z_iret C hr hlk dX3_stoneTold_78 (congrArg (fun z => some (Value.int z)) (show (mTold M i 5) = (M.1 5 i) from by simp [mTold, bI])) rfl
  · refine Z_tOut C 72 dX3_stoneTold_1 (by decide) (by decide) ?_
    refine Z_aload_n C dX3_stoneTold_72 rfl rfl ?_
    refine Z_iload_n C dX3_stoneTold_73 rfl rfl ?_
    refine Z_iload_n C dX3_stoneTold_74 rfl rfl ?_
    refine Z_callV C (ws' := mdW 0 M) (st' := [.int (M.1 6 i)]) (rest := []) [0, 1, 2, 3, 4, 5, 6] (c_X3_to M (nI i) (nI 6) rfl (by omega) rfl (by decide)) m_X3_to K3 g_634 dX3_stoneTold_75 rfl rfl rfl (outR _ _ _) (NW := 7) rfl rfl rfl rfl rfl ⟨Nat.le_of_ble_eq_true rfl, Nat.le_of_ble_eq_true rfl⟩ ⟨Nat.le_of_ble_eq_true rfl, Nat.le_of_ble_eq_true rfl⟩ (Nat.le_of_ble_eq_true rfl) rfl ?_
    exact Z_iret C hr hlk dX3_stoneTold_78 (congrArg (fun z => some (Value.int z)) (show (mTold M i 6) = (M.1 6 i) from by simp [mTold, bI])) rfl
  · refine Z_tIn C 7 28 dX3_stoneTold_1 (by decide) (by decide) (by decide) rfl (by decide) ?_
    refine Z_aload_n C dX3_stoneTold_28 rfl rfl ?_
    refine Z_get C K3 (v := .ref 4) 6 dX3_stoneTold_29 rfl (by decide) g_578 rfl rfl ?_
    refine Z_iload_n C dX3_stoneTold_32 rfl rfl ?_
    refine Z_iaN C (v := M.2.2.1 1 i) dX3_stoneTold_33 rfl (by omega) (by decide) rfl ?_
    exact Z_iret C hr hlk dX3_stoneTold_34 (congrArg (fun z => some (Value.int z)) (show (mTold M i 7) = (M.2.2.1 1 i) from by simp [mTold, bI])) rfl
  · refine Z_tIn C 8 35 dX3_stoneTold_1 (by decide) (by decide) (by decide) rfl (by decide) ?_
    refine Z_aload_n C dX3_stoneTold_35 rfl rfl ?_
    refine Z_iload_n C dX3_stoneTold_36 rfl rfl ?_
    refine Z_callV C (ws' := mdW 0 M) (st' := [.int (bI (mHg M i))]) (rest := []) [0, 1, 2, 3, 4, 5, 6] (c_X3_hangs M (nI i) rfl (by omega)) m_X3_hangs K3 g_630 dX3_stoneTold_37 rfl rfl rfl (outR _ _ _) (NW := 7) rfl rfl rfl rfl rfl ⟨Nat.le_of_ble_eq_true rfl, Nat.le_of_ble_eq_true rfl⟩ ⟨Nat.le_of_ble_eq_true rfl, Nat.le_of_ble_eq_true rfl⟩ (Nat.le_of_ble_eq_true rfl) rfl ?_
    refine Z_if_eq C 52 dX3_stoneTold_40 (by decide) (fun c1 => ?_) (fun c1 => ?_)
    · have c1 := bI_0.mp c1
      refine Z_iconst C (v := 0) dX3_stoneTold_52 (by decide) ?_
      exact Z_iret C hr hlk dX3_stoneTold_53 (congrArg (fun z => some (Value.int z)) (show (mTold M i 8) = 0 from by simp [mTold, c1, bI])) rfl
    · have c1 := bI_n0.mp c1
      refine Z_aload_n C dX3_stoneTold_43 rfl rfl ?_
      refine Z_get C K3 (v := .ref 5) 7 dX3_stoneTold_44 rfl (by decide) g_579 rfl rfl ?_
      refine Z_iload_n C dX3_stoneTold_47 rfl rfl ?_
      refine Z_iaN C (v := M.2.2.1 2 i) dX3_stoneTold_48 rfl (by omega) (by decide) rfl ?_
      refine Z_goto C 53 dX3_stoneTold_49 (by decide) ?_
      exact Z_iret C hr hlk dX3_stoneTold_53 (congrArg (fun z => some (Value.int z)) (show (mTold M i 8) = (M.2.2.1 2 i) from by simp [mTold, c1, bI])) rfl
  · refine Z_tIn C 9 54 dX3_stoneTold_1 (by decide) (by decide) (by decide) rfl (by decide) ?_
    refine Z_aload_n C dX3_stoneTold_54 rfl rfl ?_
    refine Z_iload_n C dX3_stoneTold_55 rfl rfl ?_
    refine Z_callV C (ws' := mdW 0 M) (st' := [.int (bI (mHg M i))]) (rest := []) [0, 1, 2, 3, 4, 5, 6] (c_X3_hangs M (nI i) rfl (by omega)) m_X3_hangs K3 g_630 dX3_stoneTold_56 rfl rfl rfl (outR _ _ _) (NW := 7) rfl rfl rfl rfl rfl ⟨Nat.le_of_ble_eq_true rfl, Nat.le_of_ble_eq_true rfl⟩ ⟨Nat.le_of_ble_eq_true rfl, Nat.le_of_ble_eq_true rfl⟩ (Nat.le_of_ble_eq_true rfl) rfl ?_
    refine Z_if_eq C 70 dX3_stoneTold_59 (by decide) (fun c2 => ?_) (fun c2 => ?_)
    · have c2 := bI_0.mp c2
      refine Z_iconst C (v := 0) dX3_stoneTold_70 (by decide) ?_
      exact Z_iret C hr hlk dX3_stoneTold_71 (congrArg (fun z => some (Value.int z)) (show (mTold M i 9) = 0 from by simp [mTold, c2, bI])) rfl
    · have c2 := bI_n0.mp c2
      refine Z_aload_n C dX3_stoneTold_62 rfl rfl ?_
      refine Z_iload_n C dX3_stoneTold_63 rfl rfl ?_
      refine Z_callV C (ws' := mdW 0 M) (st' := [.int (mHf M i)]) (rest := []) [0, 1, 2, 3, 4, 5, 6] (c_X3_holdsFrom M (nI i) hn h40 hq h30 ho rfl (by omega)) m_X3_holdsFrom K3 g_711 dX3_stoneTold_64 rfl rfl rfl (outR _ _ _) (NW := 7) rfl rfl rfl rfl rfl ⟨Nat.le_of_ble_eq_true rfl, Nat.le_of_ble_eq_true rfl⟩ ⟨Nat.le_of_ble_eq_true rfl, Nat.le_of_ble_eq_true rfl⟩ (Nat.le_of_ble_eq_true rfl) rfl ?_
      refine Z_goto C 71 dX3_stoneTold_67 (by decide) ?_
      exact Z_iret C hr hlk dX3_stoneTold_71 (congrArg (fun z => some (Value.int z)) (show (mTold M i 9) = (mHf M i) from by simp [mTold, c2, bI])) rfl
set_option maxHeartbeats 4000000 in
set_option maxRecDepth 20000 in
theorem c_X3_stone_ (M : Md) (x : Int32) (y : Int32) {n r : Nat} (hn : M.2.2.2 1 = nI n) (h40 : n ≤ 40) (hq : M.2.2.2 2 = nI r) (h30 : r ≤ 30) (ho : okM n M) : CT yX3_stone_ cX3_stone_ 3 (some .int) 4 0 0 [.ref 0, .int x, .int y] (mdW 0 M) (some (.int ((mStn M x y).2))) (mdW 0 ((mStn M x y).1)) := by
  refine CT_of (L := [(0, .ref 0), (1, .int x), (2, .int y)]) (by decide) (fun _ => rfl) (fun _ => Nat.le_of_ble_eq_true rfl) ?_
  intro p l e s m args below meth c G h A C hr hlk _
  have eN : mN M = n := mN_eq hn h40; have eR : mR M = r := mR_eq hq h30
  refine Z_aload_n C dX3_stone__0 rfl rfl ?_
  refine Z_iconst C (v := 0) dX3_stone__1 (by decide) ?_
  refine Z_put C K3 (ws' := mdW 0 (mI M 0 0)) 0 dX3_stone__2 rfl (by decide) g_572 rfl rfl rfl rfl rfl (Nat.le_of_ble_eq_true rfl) rfl ?_
  refine Z_aload_n C dX3_stone__5 rfl rfl ?_
  refine Z_iload_n C dX3_stone__6 rfl rfl ?_
  refine Z_callV C (ws' := mdW 0 (mI M 0 0)) (st' := [.int (bI (mHas (mI M 0 0) x))]) (rest := []) [0, 1, 2, 3, 4, 5, 6] (c_X3_isStone (mI M 0 0) x) m_X3_isStone K3 g_667 dX3_stone__7 rfl rfl rfl (outR _ _ _) (NW := 7) rfl rfl rfl rfl rfl ⟨Nat.le_of_ble_eq_true rfl, Nat.le_of_ble_eq_true rfl⟩ ⟨Nat.le_of_ble_eq_true rfl, Nat.le_of_ble_eq_true rfl⟩ (Nat.le_of_ble_eq_true rfl) rfl ?_
  refine Z_if_eq C 23 dX3_stone__10 (by decide) (fun c1 => ?_) (fun c1 => ?_)
  · have c1 := bI_0.mp c1
    refine Z_aload_n C dX3_stone__23 rfl rfl ?_
    refine Z_iconst C (v := 1) dX3_stone__24 (by decide) ?_
    refine Z_callV C (ws' := mdW 0 (mI (mI M 0 0) 0 1)) (st' := [.int 0]) (rest := []) [0, 1, 2, 3, 4, 5, 6] (c_X3_fail (mI M 0 0) 1) m_X3_fail K3 g_611 dX3_stone__25 rfl rfl rfl (outL 7 rfl rfl rfl) (NW := 7) rfl rfl rfl rfl rfl ⟨Nat.le_of_ble_eq_true rfl, Nat.le_of_ble_eq_true rfl⟩ ⟨Nat.le_of_ble_eq_true rfl, Nat.le_of_ble_eq_true rfl⟩ (Nat.le_of_ble_eq_true rfl) rfl ?_
    exact Z_iret C hr hlk dX3_stone__28 (congrArg (fun z => some (Value.int z)) (show ((mStn M x y).2) = 0 from by simp [mStn, c1, eN, eR])) (by rw [show ((mStn M x y).1) = (mI (mI M 0 0) 0 1) from by simp [mStn, c1, eN, eR]])
  · have c1 := bI_n0.mp c1
    obtain ⟨i, hi, qi⟩ := isIn_ix hn (by omega) c1
    subst qi
    have ei : ix (nI i) = i := ix_nI (by omega)
    refine Z_iload_n C dX3_stone__13 rfl rfl ?_
    refine Z_iconst C (v := 0) dX3_stone__14 (by decide) ?_
    refine Z_bipush C (v := 9) dX3_stone__15 (by decide) ?_
    refine Z_callS C (ws' := mdW 0 (mI M 0 0)) (st' := [.int (bI (isInB y 0 9))]) (rest := []) [] (c_X3_isIn y 0 9) m_X3_isIn g_608 dX3_stone__17 rfl rfl rfl (outR _ _ _) (NW := 7) rfl rfl rfl rfl ⟨Nat.le_of_ble_eq_true rfl, Nat.le_of_ble_eq_true rfl⟩ ⟨Nat.le_of_ble_eq_true rfl, Nat.le_of_ble_eq_true rfl⟩ (Nat.le_of_ble_eq_true rfl) rfl ?_
    refine Z_if_ne C 29 dX3_stone__20 (by decide) (fun c2 => ?_) (fun c2 => ?_)
    · have c2 := bI_n0.mp c2
      obtain ⟨w, hw, qw⟩ := isIn_lit 9 rfl (by decide) c2
      subst qw
      have ew : ix (nI w) = w := ix_nI (by omega)
      refine Z_aload_n C dX3_stone__29 rfl rfl ?_
      refine Z_callV C (ws' := mdW 0 (mRk (mI M 0 0))) (st' := []) (rest := []) [0, 1, 2, 3, 4, 5, 6] (c_X3_reckon (mI M 0 0) hn h40 hq h30 ho) m_X3_reckon K3 g_626 dX3_stone__30 rfl rfl rfl (outL 7 rfl rfl rfl) (NW := 7) rfl rfl rfl rfl rfl ⟨Nat.le_of_ble_eq_true rfl, Nat.le_of_ble_eq_true rfl⟩ ⟨Nat.le_of_ble_eq_true rfl, Nat.le_of_ble_eq_true rfl⟩ (Nat.le_of_ble_eq_true rfl) rfl ?_
      refine Z_ws (fun X1 => mdW 0 X1) (mRk (mI M 0 0)) (fun X1 eX1 => ?_)
      refine Z_aload_n C dX3_stone__33 rfl rfl ?_
      refine Z_iload_n C dX3_stone__34 rfl rfl ?_
      refine Z_iload_n C dX3_stone__35 rfl rfl ?_
      refine Z_callV C (ws' := mdW 0 X1) (st' := [.int (mTold X1 i w)]) (rest := []) [0, 1, 2, 3, 4, 5, 6] (c_X3_stoneTold X1 (nI i) (nI w) (show X1.2.2.2 1 = nI n from by rw [eX1]; exact ((congrFun (mi_Rk (mI M 0 0)) 1).trans hn)) h40 (show X1.2.2.2 2 = nI r from by rw [eX1]; exact ((congrFun (mi_Rk (mI M 0 0)) 2).trans hq)) h30 (show okM n X1 from by rw [eX1]; exact (ok_Rk ho)) rfl (by omega) rfl (by omega)) m_X3_stoneTold K3 g_707 dX3_stone__36 rfl rfl rfl (outR _ _ _) (NW := 7) rfl rfl rfl rfl rfl ⟨Nat.le_of_ble_eq_true rfl, Nat.le_of_ble_eq_true rfl⟩ ⟨Nat.le_of_ble_eq_true rfl, Nat.le_of_ble_eq_true rfl⟩ (Nat.le_of_ble_eq_true rfl) rfl ?_
      exact Z_iret C hr hlk dX3_stone__39 (congrArg (fun z => some (Value.int z)) (show ((mStn M (nI i) (nI w)).2) = (mTold X1 i w) from by subst eX1; simp [mStn, c1, ei, c2, ew, eN, eR])) (by rw [show ((mStn M (nI i) (nI w)).1) = X1 from by subst eX1; simp [mStn, c1, ei, c2, ew, eN, eR]])
    · have c2 := bI_0.mp c2
      refine Z_aload_n C dX3_stone__23 rfl rfl ?_
      refine Z_iconst C (v := 1) dX3_stone__24 (by decide) ?_
      refine Z_callV C (ws' := mdW 0 (mI (mI M 0 0) 0 1)) (st' := [.int 0]) (rest := []) [0, 1, 2, 3, 4, 5, 6] (c_X3_fail (mI M 0 0) 1) m_X3_fail K3 g_611 dX3_stone__25 rfl rfl rfl (outL 7 rfl rfl rfl) (NW := 7) rfl rfl rfl rfl rfl ⟨Nat.le_of_ble_eq_true rfl, Nat.le_of_ble_eq_true rfl⟩ ⟨Nat.le_of_ble_eq_true rfl, Nat.le_of_ble_eq_true rfl⟩ (Nat.le_of_ble_eq_true rfl) rfl ?_
      exact Z_iret C hr hlk dX3_stone__28 (congrArg (fun z => some (Value.int z)) (show ((mStn M (nI i) y).2) = 0 from by simp [mStn, c1, ei, c2, eN, eR])) (by rw [show ((mStn M (nI i) y).1) = (mI (mI M 0 0) 0 1) from by simp [mStn, c1, ei, c2, eN, eR]])
set_option maxHeartbeats 4000000 in
set_option maxRecDepth 20000 in
theorem c_X3_first (M : Md) (x : Int32) {n r : Nat} (hn : M.2.2.2 1 = nI n) (h40 : n ≤ 40) (hq : M.2.2.2 2 = nI r) (h30 : r ≤ 30) (ho : okM n M) : CT yX3_first cX3_first 3 (some .int) 2 0 0 [.ref 0, .int x] (mdW 0 M) (some (.int ((mFirst M x).2))) (mdW 0 ((mFirst M x).1)) := by
  refine CT_of (L := [(0, .ref 0), (1, .int x)]) (by decide) (fun _ => rfl) (fun _ => Nat.le_of_ble_eq_true rfl) ?_
  intro p l e s m args below meth c G h A C hr hlk _
  have eN : mN M = n := mN_eq hn h40; have eR : mR M = r := mR_eq hq h30
  refine Z_aload_n C dX3_first_0 rfl rfl ?_
  refine Z_iconst C (v := 0) dX3_first_1 (by decide) ?_
  refine Z_put C K3 (ws' := mdW 0 (mI M 0 0)) 0 dX3_first_2 rfl (by decide) g_572 rfl rfl rfl rfl rfl (Nat.le_of_ble_eq_true rfl) rfl ?_
  refine Z_aload_n C dX3_first_5 rfl rfl ?_
  refine Z_iload_n C dX3_first_6 rfl rfl ?_
  refine Z_callV C (ws' := mdW 0 (mI M 0 0)) (st' := [.int (bI (mHas (mI M 0 0) x))]) (rest := []) [0, 1, 2, 3, 4, 5, 6] (c_X3_isStone (mI M 0 0) x) m_X3_isStone K3 g_667 dX3_first_7 rfl rfl rfl (outR _ _ _) (NW := 7) rfl rfl rfl rfl rfl ⟨Nat.le_of_ble_eq_true rfl, Nat.le_of_ble_eq_true rfl⟩ ⟨Nat.le_of_ble_eq_true rfl, Nat.le_of_ble_eq_true rfl⟩ (Nat.le_of_ble_eq_true rfl) rfl ?_
  refine Z_if_ne C 19 dX3_first_10 (by decide) (fun c1 => ?_) (fun c1 => ?_)
  · have c1 := bI_n0.mp c1
    obtain ⟨i, hi, qi⟩ := isIn_ix hn (by omega) c1
    subst qi
    have ei : ix (nI i) = i := ix_nI (by omega)
    refine Z_aload_n C dX3_first_19 rfl rfl ?_
    refine Z_iload_n C dX3_first_20 rfl rfl ?_
    refine Z_callV C (ws' := mdW 0 (mI M 0 0)) (st' := [.int (bI (mHg (mI M 0 0) i))]) (rest := []) [0, 1, 2, 3, 4, 5, 6] (c_X3_hangs (mI M 0 0) (nI i) rfl (by omega)) m_X3_hangs K3 g_630 dX3_first_21 rfl rfl rfl (outR _ _ _) (NW := 7) rfl rfl rfl rfl rfl ⟨Nat.le_of_ble_eq_true rfl, Nat.le_of_ble_eq_true rfl⟩ ⟨Nat.le_of_ble_eq_true rfl, Nat.le_of_ble_eq_true rfl⟩ (Nat.le_of_ble_eq_true rfl) rfl ?_
    refine Z_if_ne C 29 dX3_first_24 (by decide) (fun c2 => ?_) (fun c2 => ?_)
    · have c2 := bI_n0.mp c2
      refine Z_iload_n C dX3_first_29 rfl rfl ?_
      refine Z_istore_n C (L' := [(2, .int (nI i)), (0, .ref 0), (1, .int (nI i))]) dX3_first_30 rfl (by decide) rfl ?_
      refine Zind (σ := Nat) (fun k j => j < n → j < k → mUp k M j = mUp 40 M i → Z p l e _ s m args below meth c 3 G A h _ 0 0 (mdW 0 (mI M 0 0)) 31 [(2, .int (nI j)), (0, .ref 0), (1, .int (nI i))] []) 40 i (fun j _ h2 _ => absurd h2 (Nat.not_lt_zero _)) (fun k j ih h1 h2 hg => ?_) hi (by omega) rfl
      refine Z_aload_n C dX3_first_31 rfl rfl ?_
      refine Z_iload_n C dX3_first_32 rfl rfl ?_
      refine Z_iconst C (v := 4) dX3_first_33 (by decide) ?_
      refine Z_callV C (ws' := mdW 0 (mI M 0 0)) (st' := [.int (M.1 4 j)]) (rest := []) [0, 1, 2, 3, 4, 5, 6] (c_X3_to (mI M 0 0) (nI j) 4 rfl (by omega) rfl (by decide)) m_X3_to K3 g_634 dX3_first_34 rfl rfl rfl (outR _ _ _) (NW := 7) rfl rfl rfl rfl rfl ⟨Nat.le_of_ble_eq_true rfl, Nat.le_of_ble_eq_true rfl⟩ ⟨Nat.le_of_ble_eq_true rfl, Nat.le_of_ble_eq_true rfl⟩ (Nat.le_of_ble_eq_true rfl) rfl ?_
      refine Z_iconst C (v := (-1)) dX3_first_37 (by decide) ?_
      refine Z_icmp_eq C 51 dX3_first_38 (by decide) (fun c3 => ?_) (fun c3 => ?_)
      · refine Z_iload_n C dX3_first_51 rfl rfl ?_
        exact Z_iret C hr hlk dX3_first_52 (congrArg (fun z => some (Value.int z)) (show ((mFirst M (nI i)).2) = (nI j) from by have hj : mUp 40 M i = j := (by rw [← hg, mUp, if_pos c3]); simp [mFirst, hj, c1, ei, c2, c3])) (by rw [show ((mFirst M (nI i)).1) = (mI M 0 0) from by have hj : mUp 40 M i = j := (by rw [← hg, mUp, if_pos c3]); simp [mFirst, hj, c1, ei, c2, c3]])
      · refine Z_aload_n C dX3_first_41 rfl rfl ?_
        refine Z_iload_n C dX3_first_42 rfl rfl ?_
        refine Z_iconst C (v := 4) dX3_first_43 (by decide) ?_
        refine Z_callV C (ws' := mdW 0 (mI M 0 0)) (st' := [.int (M.1 4 j)]) (rest := []) [0, 1, 2, 3, 4, 5, 6] (c_X3_to (mI M 0 0) (nI j) 4 rfl (by omega) rfl (by decide)) m_X3_to K3 g_634 dX3_first_44 rfl rfl rfl (outR _ _ _) (NW := 7) rfl rfl rfl rfl rfl ⟨Nat.le_of_ble_eq_true rfl, Nat.le_of_ble_eq_true rfl⟩ ⟨Nat.le_of_ble_eq_true rfl, Nat.le_of_ble_eq_true rfl⟩ (Nat.le_of_ble_eq_true rfl) rfl ?_
        obtain ⟨j2, hj2, qj⟩ := okH_j (ho j h1).1 c3
        have ej : ix (M.1 4 j) = j2 := by rw [qj]; exact ix_nI (by omega)
        refine Z_st (st := [.int (nI j2)]) (by rw [qj]) ?_
        refine Z_istore_n C (L' := [(2, .int (nI j2)), (0, .ref 0), (1, .int (nI i))]) dX3_first_47 rfl (by decide) rfl ?_
        refine Z_goto C 31 dX3_first_48 (by decide) ?_
        exact Z_sub (by simp) (ih j2 (by omega) (by omega) (by rw [← hg, mUp, if_neg c3, ej]))
    · have c2 := bI_0.mp c2
      refine Z_iconst C (v := (-1)) dX3_first_27 (by decide) ?_
      exact Z_iret C hr hlk dX3_first_28 (congrArg (fun z => some (Value.int z)) (show ((mFirst M (nI i)).2) = (-1) from by simp [mFirst, c1, ei, c2, eN, eR])) (by rw [show ((mFirst M (nI i)).1) = (mI M 0 0) from by simp [mFirst, c1, ei, c2, eN, eR]])
  · have c1 := bI_0.mp c1
    refine Z_aload_n C dX3_first_13 rfl rfl ?_
    refine Z_iconst C (v := 1) dX3_first_14 (by decide) ?_
    refine Z_callV C (ws' := mdW 0 (mI (mI M 0 0) 0 1)) (st' := [.int 0]) (rest := []) [0, 1, 2, 3, 4, 5, 6] (c_X3_fail (mI M 0 0) 1) m_X3_fail K3 g_611 dX3_first_15 rfl rfl rfl (outL 7 rfl rfl rfl) (NW := 7) rfl rfl rfl rfl rfl ⟨Nat.le_of_ble_eq_true rfl, Nat.le_of_ble_eq_true rfl⟩ ⟨Nat.le_of_ble_eq_true rfl, Nat.le_of_ble_eq_true rfl⟩ (Nat.le_of_ble_eq_true rfl) rfl ?_
    exact Z_iret C hr hlk dX3_first_18 (congrArg (fun z => some (Value.int z)) (show ((mFirst M x).2) = 0 from by simp [mFirst, c1, eN, eR])) (by rw [show ((mFirst M x).1) = (mI (mI M 0 0) 0 1) from by simp [mFirst, c1, eN, eR]])
