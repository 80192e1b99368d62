set_option maxHeartbeats 4000000 in
set_option maxRecDepth 20000 in
theorem c_X3_stone (M : Md) (w : Int32) (t : Int32) (q : Int32) (f : Int32) (o : Int32) {n r : Nat} (hn : M.2.2.2 1 = nI n) (hl : n < 40) (hq : M.2.2.2 2 = nI r) (h30 : r ≤ 30) (ho : okM n M) (h4 : okH n f) (h5 : okH n o) : CT yX3_stone cX3_stone 7 (some .int) 6 1 7 [.ref 0, .int w, .int t, .int q, .int f, .int o] (mdW 0 M) (some (.int (nI n))) (mdW 0 (mStone M n w t q f o)) := by
  refine CT_of (L := [(0, .ref 0), (1, .int w), (2, .int t), (3, .int q), (4, .int f), (5, .int o)]) (by decide) (fun _ => rfl) (fun _ => Nat.le_of_ble_eq_true rfl) ?_
  intro p l e s m args below meth c G h A C hr hlk _
  refine Z_bipush C (v := 7) dX3_stone_0 (by decide) ?_
  refine Z_newi C (N := 7) (W9 := 7) dX3_stone_2 g_109 (by decide) (by decide) (by decide) ⟨Nat.le_of_ble_eq_true rfl, Nat.le_of_ble_eq_true rfl⟩ rfl (eFs_md _) rfl rfl (fun h1 ag1 => ?_)
  refine Z_dup C dX3_stone_4 rfl ?_
  refine Z_iconst C (v := 0) dX3_stone_5 (by decide) ?_
  refine Z_iload_n C dX3_stone_6 rfl rfl ?_
  refine Z_isN C (j := 0) (ws' := mdW 0 M ++ [.inl (0, 7, .inl ((upd (fun _ => 0) 0 w)))]) dX3_stone_7 rfl (by decide) (by decide) rfl ?_
  refine Z_dup C dX3_stone_8 rfl ?_
  refine Z_iconst C (v := 1) dX3_stone_9 (by decide) ?_
  refine Z_iload_n C dX3_stone_10 rfl rfl ?_
  refine Z_isN C (j := 1) (ws' := mdW 0 M ++ [.inl (0, 7, .inl ((upd (upd (fun _ => 0) 0 w) 1 t)))]) dX3_stone_11 rfl (by decide) (by decide) rfl ?_
  refine Z_dup C dX3_stone_12 rfl ?_
  refine Z_iconst C (v := 2) dX3_stone_13 (by decide) ?_
  refine Z_iconst C (v := 1) dX3_stone_14 (by decide) ?_
  refine Z_isN C (j := 2) (ws' := mdW 0 M ++ [.inl (0, 7, .inl ((upd (upd (upd (fun _ => 0) 0 w) 1 t) 2 1)))]) dX3_stone_15 rfl (by decide) (by decide) rfl ?_
  refine Z_dup C dX3_stone_16 rfl ?_
  refine Z_iconst C (v := 3) dX3_stone_17 (by decide) ?_
  refine Z_iload_n C dX3_stone_18 rfl rfl ?_
  refine Z_isN C (j := 3) (ws' := mdW 0 M ++ [.inl (0, 7, .inl ((upd (upd (upd (upd (fun _ => 0) 0 w) 1 t) 2 1) 3 q)))]) dX3_stone_19 rfl (by decide) (by decide) rfl ?_
  refine Z_dup C dX3_stone_20 rfl ?_
  refine Z_iconst C (v := 4) dX3_stone_21 (by decide) ?_
  refine Z_iload C dX3_stone_22 rfl ?_
  refine Z_isN C (j := 4) (ws' := mdW 0 M ++ [.inl (0, 7, .inl ((upd (upd (upd (upd (upd (fun _ => 0) 0 w) 1 t) 2 1) 3 q) 4 f)))]) dX3_stone_24 rfl (by decide) (by decide) rfl ?_
  refine Z_dup C dX3_stone_25 rfl ?_
  refine Z_iconst C (v := 5) dX3_stone_26 (by decide) ?_
  refine Z_iload C dX3_stone_27 rfl ?_
  refine Z_isN C (j := 5) (ws' := mdW 0 M ++ [.inl (0, 7, .inl ((upd (upd (upd (upd (upd (upd (fun _ => 0) 0 w) 1 t) 2 1) 3 q) 4 f) 5 o)))]) dX3_stone_29 rfl (by decide) (by decide) rfl ?_
  refine Z_dup C dX3_stone_30 rfl ?_
  refine Z_bipush C (v := 6) dX3_stone_31 (by decide) ?_
  refine Z_iconst C (v := 0) dX3_stone_33 (by decide) ?_
  refine Z_isN C (j := 6) (ws' := mdW 0 M ++ [.inl (0, 7, .inl ((upd (upd (upd (upd (upd (upd (upd (fun _ => 0) 0 w) 1 t) 2 1) 3 q) 4 f) 5 o) 6 0)))]) dX3_stone_34 rfl (by decide) (by decide) rfl ?_
  refine Z_astore C (L' := [(6, .ref 7), (0, .ref 0), (1, .int w), (2, .int t), (3, .int q), (4, .int f), (5, .int o)]) dX3_stone_35 (by decide) rfl ?_
  refine Z_aload C dX3_stone_37 rfl ?_
  refine Z_iconst C (v := 0) dX3_stone_39 (by decide) ?_
  refine Z_aload_n C dX3_stone_40 rfl rfl ?_
  refine Z_get C K3 (v := .ref 1) 3 dX3_stone_41 rfl (by decide) g_575 rfl rfl ?_
  refine Z_bipush C (v := 7) dX3_stone_44 (by decide) ?_
  refine Z_aload_n C dX3_stone_46 rfl rfl ?_
  refine Z_get C K3 (v := .int (M.2.2.2 1)) 1 dX3_stone_47 rfl (by decide) g_573 rfl rfl ?_
  refine Z_imul C (v := nI (7 * n)) dX3_stone_50 (by rw [hn]; exact pk_mul 7 n) ?_
  refine Z_bipush C (v := 7) dX3_stone_51 (by decide) ?_
  refine Z_copyi C (ws' := mdW 0 (rT M n (s7 w t q f o)) ++ [.inl (0, 7, .inl ((upd (upd (upd (upd (upd (upd (upd (fun _ => 0) 0 w) 1 t) 2 1) 3 q) 4 f) 5 o) 6 0)))]) (q0 := 7) (q1 := 1) (st := []) dX3_stone_53 g_619 g_621 g_620 g_47 rfl rfl (by decide) (nI_pos (by omega)) (by decide) (by decide) (cp_b7 hl) (cpI7 hl (s7 w t q f o) M.1) rfl ⟨Nat.le_of_ble_eq_true rfl, Nat.le_of_ble_eq_true rfl⟩ ?_
  refine Z_sub (L' := [(0, .ref 0), (1, .int w), (2, .int t), (3, .int q), (4, .int f), (5, .int o)]) (by simp) ?_
  refine Z_cut (N := 7) rfl ag1 (eFs_md _) rfl rfl ?_
  refine Z_aload_n C dX3_stone_56 rfl rfl ?_
  refine Z_dup C dX3_stone_57 rfl ?_
  refine Z_get C K3 (v := .int (M.2.2.2 1)) 1 dX3_stone_58 rfl (by decide) g_573 rfl rfl ?_
  refine Z_iconst C (v := 1) dX3_stone_61 (by decide) ?_
  refine Z_iadd C (v := nI (n + 1)) dX3_stone_62 (by rw [show _ = nI n from hn]; exact nI_1 n) ?_
  refine Z_put C K3 (ws' := mdW 0 (mI (rT M n (s7 w t q f o)) 1 (nI (n + 1)))) 1 dX3_stone_63 rfl (by decide) g_573 rfl rfl rfl rfl rfl (Nat.le_of_ble_eq_true rfl) rfl ?_
  refine Z_aload_n C dX3_stone_66 rfl rfl ?_
  refine Z_callV C (ws' := mdW 0 (mGv (mI (rT M n (s7 w t q f o)) 1 (nI (n + 1))))) (st' := []) (rest := []) [0, 1, 2, 3, 4, 5, 6] (c_X3_giveWay (mI (rT M n (s7 w t q f o)) 1 (nI (n + 1))) (show _ = nI (n + 1) from rfl) (show n + 1 ≤ 40 from hl) hq h30 (ok_of (M := (rT M n (s7 w t q f o))) rfl (ok_row ho h4 h5))) m_X3_giveWay K3 g_622 dX3_stone_67 rfl rfl rfl (outL 7 rfl rfl rfl) (NW := 7) rfl rfl rfl rfl rfl ⟨Nat.le_of_ble_eq_true rfl, Nat.le_of_ble_eq_true rfl⟩ ⟨Nat.le_of_ble_eq_true rfl, Nat.le_of_ble_eq_true rfl⟩ (Nat.le_of_ble_eq_true rfl) rfl ?_
  refine Z_ws (fun X1 => mdW 0 X1) (mGv (mI (rT M n (s7 w t q f o)) 1 (nI (n + 1)))) (fun X1 eX1 => ?_)
  refine Z_aload_n C dX3_stone_70 rfl rfl ?_
  refine Z_get C K3 (v := .int (X1.2.2.2 1)) 1 dX3_stone_71 rfl (by decide) g_573 rfl rfl ?_
  refine Z_iconst C (v := 1) dX3_stone_74 (by decide) ?_
  refine Z_isub C (v := nI n) dX3_stone_75 (by rw [(show X1.2.2.2 1 = nI (n + 1) from by rw [eX1]; exact ((congrFun (mi_Gv (mI (rT M n (s7 w t q f o)) 1 (nI (n + 1)))) 1).trans (show _ = nI (n + 1) from rfl)))]; exact nI_pred n) ?_
  exact Z_iret C hr hlk dX3_stone_76 rfl (by rw [show (mStone M n w t q f o) = X1 from by subst eX1; rw [mStone, mNew]])
set_option maxHeartbeats 4000000 in
set_option maxRecDepth 20000 in
theorem c_X3_conjure (M : Md) (w : Int32) (t : Int32) (q : Int32) {n r : Nat} (hn : M.2.2.2 1 = nI n) (h40 : n ≤ 40) (hq : M.2.2.2 2 = nI r) (h30 : r ≤ 30) (ho : okM n M) : CT yX3_conjure cX3_conjure 4 (some .int) 7 1 7 [.ref 0, .int w, .int t, .int q] (mdW 0 M) (some (.int ((mConj M w t q).2))) (mdW 0 ((mConj M w t q).1)) := by
  refine CT_of (L := [(0, .ref 0), (1, .int w), (2, .int t), (3, .int q)]) (by decide) (fun _ => rfl) (fun _ => Nat.le_of_ble_eq_true rfl) ?_
  intro p l e s m args below meth c G h A C hr hlk _
  have eN : mN M = n := mN_eq hn h40; have eR : mR M = r := mR_eq hq h30
  refine Z_aload_n C dX3_conjure_0 rfl rfl ?_
  refine Z_iconst C (v := 0) dX3_conjure_1 (by decide) ?_
  refine Z_put C K3 (ws' := mdW 0 (mI M 0 0)) 0 dX3_conjure_2 rfl (by decide) g_572 rfl rfl rfl rfl rfl (Nat.le_of_ble_eq_true rfl) rfl ?_
  refine Z_iload_n C dX3_conjure_5 rfl rfl ?_
  refine Z_iconst C (v := 1) dX3_conjure_6 (by decide) ?_
  refine Z_bipush C (v := 20) dX3_conjure_7 (by decide) ?_
  refine Z_callS C (ws' := mdW 0 (mI M 0 0)) (st' := [.int (bI (isInB w 1 20))]) (rest := []) [] (c_X3_isIn w 1 20) m_X3_isIn g_608 dX3_conjure_9 rfl rfl rfl (outR _ _ _) (NW := 7) rfl rfl rfl rfl ⟨Nat.le_of_ble_eq_true rfl, Nat.le_of_ble_eq_true rfl⟩ ⟨Nat.le_of_ble_eq_true rfl, Nat.le_of_ble_eq_true rfl⟩ (Nat.le_of_ble_eq_true rfl) rfl ?_
  refine Z_if_eq C 36 dX3_conjure_12 (by decide) (fun c1 => ?_) (fun c1 => ?_)
  · have c1 := bI_0.mp c1
    refine Z_aload_n C dX3_conjure_36 rfl rfl ?_
    refine Z_iconst C (v := 1) dX3_conjure_37 (by decide) ?_
    refine Z_callV C (ws' := mdW 0 (mI (mI M 0 0) 0 1)) (st' := [.int 0]) (rest := []) [0, 1, 2, 3, 4, 5, 6] (c_X3_fail (mI M 0 0) 1) m_X3_fail K3 g_611 dX3_conjure_38 rfl rfl rfl (outL 7 rfl rfl rfl) (NW := 7) rfl rfl rfl rfl rfl ⟨Nat.le_of_ble_eq_true rfl, Nat.le_of_ble_eq_true rfl⟩ ⟨Nat.le_of_ble_eq_true rfl, Nat.le_of_ble_eq_true rfl⟩ (Nat.le_of_ble_eq_true rfl) rfl ?_
    exact Z_widen (Nat.le_of_ble_eq_true rfl) (Nat.le_of_ble_eq_true rfl) (Z_iret C hr hlk dX3_conjure_41 (congrArg (fun z => some (Value.int z)) (show ((mConj M w t q).2) = 0 from by simp [mConj, c1, eN, eR])) (by rw [show ((mConj M w t q).1) = (mI (mI M 0 0) 0 1) from by simp [mConj, c1, eN, eR]]))
  · have c1 := bI_n0.mp c1
    refine Z_iload_n C dX3_conjure_15 rfl rfl ?_
    refine Z_iconst C (v := 1) dX3_conjure_16 (by decide) ?_
    refine Z_bipush C (v := 60) dX3_conjure_17 (by decide) ?_
    refine Z_callS C (ws' := mdW 0 (mI M 0 0)) (st' := [.int (bI (isInB t 1 60))]) (rest := []) [] (c_X3_isIn t 1 60) m_X3_isIn g_608 dX3_conjure_19 rfl rfl rfl (outR _ _ _) (NW := 7) rfl rfl rfl rfl ⟨Nat.le_of_ble_eq_true rfl, Nat.le_of_ble_eq_true rfl⟩ ⟨Nat.le_of_ble_eq_true rfl, Nat.le_of_ble_eq_true rfl⟩ (Nat.le_of_ble_eq_true rfl) rfl ?_
    refine Z_if_eq C 36 dX3_conjure_22 (by decide) (fun c2 => ?_) (fun c2 => ?_)
    · have c2 := bI_0.mp c2
      refine Z_aload_n C dX3_conjure_36 rfl rfl ?_
      refine Z_iconst C (v := 1) dX3_conjure_37 (by decide) ?_
      refine Z_callV C (ws' := mdW 0 (mI (mI M 0 0) 0 1)) (st' := [.int 0]) (rest := []) [0, 1, 2, 3, 4, 5, 6] (c_X3_fail (mI M 0 0) 1) m_X3_fail K3 g_611 dX3_conjure_38 rfl rfl rfl (outL 7 rfl rfl rfl) (NW := 7) rfl rfl rfl rfl rfl ⟨Nat.le_of_ble_eq_true rfl, Nat.le_of_ble_eq_true rfl⟩ ⟨Nat.le_of_ble_eq_true rfl, Nat.le_of_ble_eq_true rfl⟩ (Nat.le_of_ble_eq_true rfl) rfl ?_
      exact Z_widen (Nat.le_of_ble_eq_true rfl) (Nat.le_of_ble_eq_true rfl) (Z_iret C hr hlk dX3_conjure_41 (congrArg (fun z => some (Value.int z)) (show ((mConj M w t q).2) = 0 from by simp [mConj, c1, c2, eN, eR])) (by rw [show ((mConj M w t q).1) = (mI (mI M 0 0) 0 1) from by simp [mConj, c1, c2, eN, eR]]))
    · have c2 := bI_n0.mp c2
      refine Z_iload_n C dX3_conjure_25 rfl rfl ?_
      refine Z_iconst C (v := 1) dX3_conjure_26 (by decide) ?_
      refine Z_sipush C (v := 200) dX3_conjure_27 (by decide) ?_
      refine Z_callS C (ws' := mdW 0 (mI M 0 0)) (st' := [.int (bI (isInB q 1 200))]) (rest := []) [] (c_X3_isIn q 1 200) m_X3_isIn g_608 dX3_conjure_30 rfl rfl rfl (outR _ _ _) (NW := 7) rfl rfl rfl rfl ⟨Nat.le_of_ble_eq_true rfl, Nat.le_of_ble_eq_true rfl⟩ ⟨Nat.le_of_ble_eq_true rfl, Nat.le_of_ble_eq_true rfl⟩ (Nat.le_of_ble_eq_true rfl) rfl ?_
      refine Z_if_ne C 42 dX3_conjure_33 (by decide) (fun c3 => ?_) (fun c3 => ?_)
      · have c3 := bI_n0.mp c3
        refine Z_aload_n C dX3_conjure_42 rfl rfl ?_
        refine Z_get C K3 (v := .int (M.2.2.2 1)) 1 dX3_conjure_43 rfl (by decide) g_573 rfl rfl ?_
        refine Z_bipush C (v := 40) dX3_conjure_46 (by decide) ?_
        refine Z_icmp_ne C 59 dX3_conjure_48 (by decide) (fun c4 => ?_) (fun c4 => ?_)
        · refine Z_aload_n C dX3_conjure_59 rfl rfl ?_
          refine Z_iload_n C dX3_conjure_60 rfl rfl ?_
          refine Z_iload_n C dX3_conjure_61 rfl rfl ?_
          refine Z_iload_n C dX3_conjure_62 rfl rfl ?_
          refine Z_iconst C (v := (-1)) dX3_conjure_63 (by decide) ?_
          refine Z_iconst C (v := (-1)) dX3_conjure_64 (by decide) ?_
          refine Z_callV C (ws' := mdW 0 (mStone (mI M 0 0) n w t q (-1) (-1))) (st' := [.int (nI n)]) (rest := []) [0, 1, 2, 3, 4, 5, 6] (c_X3_stone (mI M 0 0) w t q (-1) (-1) hn (lt_lit 40 rfl hn h40 c4) hq h30 ho (Or.inl rfl) (Or.inl rfl)) m_X3_stone K3 g_615 dX3_conjure_65 rfl rfl rfl (outL 7 rfl rfl rfl) (NW := 7) rfl rfl rfl rfl rfl ⟨Nat.le_of_ble_eq_true rfl, Nat.le_of_ble_eq_true rfl⟩ ⟨Nat.le_of_ble_eq_true rfl, Nat.le_of_ble_eq_true rfl⟩ (Nat.le_of_ble_eq_true rfl) rfl ?_
          exact Z_iret C hr hlk dX3_conjure_68 (congrArg (fun z => some (Value.int z)) (show ((mConj M w t q).2) = (nI n) from by simp [mConj, c1, c2, c3, c4, eN, eR])) (by rw [show ((mConj M w t q).1) = (mStone (mI M 0 0) n w t q (-1) (-1)) from by simp [mConj, c1, c2, c3, c4, eN, eR]])
        · refine Z_aload_n C dX3_conjure_51 rfl rfl ?_
          refine Z_iconst C (v := 2) dX3_conjure_52 (by decide) ?_
          refine Z_callV C (ws' := mdW 0 (mI (mI M 0 0) 0 2)) (st' := [.int 0]) (rest := []) [0, 1, 2, 3, 4, 5, 6] (c_X3_fail (mI M 0 0) 2) m_X3_fail K3 g_611 dX3_conjure_53 rfl rfl rfl (outL 7 rfl rfl rfl) (NW := 7) rfl rfl rfl rfl rfl ⟨Nat.le_of_ble_eq_true rfl, Nat.le_of_ble_eq_true rfl⟩ ⟨Nat.le_of_ble_eq_true rfl, Nat.le_of_ble_eq_true rfl⟩ (Nat.le_of_ble_eq_true rfl) rfl ?_
          refine Z_goto C 68 dX3_conjure_56 (by decide) ?_
          exact Z_widen (Nat.le_of_ble_eq_true rfl) (Nat.le_of_ble_eq_true rfl) (Z_iret C hr hlk dX3_conjure_68 (congrArg (fun z => some (Value.int z)) (show ((mConj M w t q).2) = 0 from by simp [mConj, c1, c2, c3, c4, eN, eR])) (by rw [show ((mConj M w t q).1) = (mI (mI M 0 0) 0 2) from by simp [mConj, c1, c2, c3, c4, eN, eR]]))
      · have c3 := bI_0.mp c3
        refine Z_aload_n C dX3_conjure_36 rfl rfl ?_
        refine Z_iconst C (v := 1) dX3_conjure_37 (by decide) ?_
        refine Z_callV C (ws' := mdW 0 (mI (mI M 0 0) 0 1)) (st' := [.int 0]) (rest := []) [0, 1, 2, 3, 4, 5, 6] (c_X3_fail (mI M 0 0) 1) m_X3_fail K3 g_611 dX3_conjure_38 rfl rfl rfl (outL 7 rfl rfl rfl) (NW := 7) rfl rfl rfl rfl rfl ⟨Nat.le_of_ble_eq_true rfl, Nat.le_of_ble_eq_true rfl⟩ ⟨Nat.le_of_ble_eq_true rfl, Nat.le_of_ble_eq_true rfl⟩ (Nat.le_of_ble_eq_true rfl) rfl ?_
        exact Z_widen (Nat.le_of_ble_eq_true rfl) (Nat.le_of_ble_eq_true rfl) (Z_iret C hr hlk dX3_conjure_41 (congrArg (fun z => some (Value.int z)) (show ((mConj M w t q).2) = 0 from by simp [mConj, c1, c2, c3, eN, eR])) (by rw [show ((mConj M w t q).1) = (mI (mI M 0 0) 0 1) from by simp [mConj, c1, c2, c3, eN, eR]]))
set_option maxHeartbeats 4000000 in
set_option maxRecDepth 20000 in
theorem c_X3_hang (M : Md) (w : Int32) (t : Int32) (f : Int32) (o : Int32) {n r : Nat} (hn : M.2.2.2 1 = nI n) (h40 : n ≤ 40) (hq : M.2.2.2 2 = nI r) (h30 : r ≤ 30) (ho : okM n M) : CT yX3_hang cX3_hang 5 (some .int) 7 1 7 [.ref 0, .int w, .int t, .int f, .int o] (mdW 0 M) (some (.int ((mHang M w t f o).2))) (mdW 0 ((mHang M w t f o).1)) := by
  refine CT_of (L := [(0, .ref 0), (1, .int w), (2, .int t), (3, .int f), (4, .int o)]) (by decide) (fun _ => rfl) (fun _ => Nat.le_of_ble_eq_true rfl) ?_
  intro p l e s m args below meth c G h A C hr hlk _
  have eN : mN M = n := mN_eq hn h40; have eR : mR M = r := mR_eq hq h30
  refine Z_aload_n C dX3_hang_0 rfl rfl ?_
  refine Z_iconst C (v := 0) dX3_hang_1 (by decide) ?_
  refine Z_put C K3 (ws' := mdW 0 (mI M 0 0)) 0 dX3_hang_2 rfl (by decide) g_572 rfl rfl rfl rfl rfl (Nat.le_of_ble_eq_true rfl) rfl ?_
  refine Z_iload_n C dX3_hang_5 rfl rfl ?_
  refine Z_iconst C (v := 1) dX3_hang_6 (by decide) ?_
  refine Z_bipush C (v := 20) dX3_hang_7 (by decide) ?_
  refine Z_callS C (ws' := mdW 0 (mI M 0 0)) (st' := [.int (bI (isInB w 1 20))]) (rest := []) [] (c_X3_isIn w 1 20) m_X3_isIn g_608 dX3_hang_9 rfl rfl rfl (outR _ _ _) (NW := 7) rfl rfl rfl rfl ⟨Nat.le_of_ble_eq_true rfl, Nat.le_of_ble_eq_true rfl⟩ ⟨Nat.le_of_ble_eq_true rfl, Nat.le_of_ble_eq_true rfl⟩ (Nat.le_of_ble_eq_true rfl) rfl ?_
  refine Z_if_eq C 31 dX3_hang_12 (by decide) (fun c1 => ?_) (fun c1 => ?_)
  · have c1 := bI_0.mp c1
    refine Z_aload_n C dX3_hang_31 rfl rfl ?_
    refine Z_iconst C (v := 1) dX3_hang_32 (by decide) ?_
    refine Z_callV C (ws' := mdW 0 (mI (mI M 0 0) 0 1)) (st' := [.int 0]) (rest := []) [0, 1, 2, 3, 4, 5, 6] (c_X3_fail (mI M 0 0) 1) m_X3_fail K3 g_611 dX3_hang_33 rfl rfl rfl (outL 7 rfl rfl rfl) (NW := 7) rfl rfl rfl rfl rfl ⟨Nat.le_of_ble_eq_true rfl, Nat.le_of_ble_eq_true rfl⟩ ⟨Nat.le_of_ble_eq_true rfl, Nat.le_of_ble_eq_true rfl⟩ (Nat.le_of_ble_eq_true rfl) rfl ?_
    exact Z_widen (Nat.le_of_ble_eq_true rfl) (Nat.le_of_ble_eq_true rfl) (Z_iret C hr hlk dX3_hang_36 (congrArg (fun z => some (Value.int z)) (show ((mHang M w t f o).2) = 0 from by simp [mHang, c1, eN, eR])) (by rw [show ((mHang M w t f o).1) = (mI (mI M 0 0) 0 1) from by simp [mHang, c1, eN, eR]]))
  · have c1 := bI_n0.mp c1
    refine Z_iload_n C dX3_hang_15 rfl rfl ?_
    refine Z_iconst C (v := 1) dX3_hang_16 (by decide) ?_
    refine Z_bipush C (v := 60) dX3_hang_17 (by decide) ?_
    refine Z_callS C (ws' := mdW 0 (mI M 0 0)) (st' := [.int (bI (isInB t 1 60))]) (rest := []) [] (c_X3_isIn t 1 60) m_X3_isIn g_608 dX3_hang_19 rfl rfl rfl (outR _ _ _) (NW := 7) rfl rfl rfl rfl ⟨Nat.le_of_ble_eq_true rfl, Nat.le_of_ble_eq_true rfl⟩ ⟨Nat.le_of_ble_eq_true rfl, Nat.le_of_ble_eq_true rfl⟩ (Nat.le_of_ble_eq_true rfl) rfl ?_
    refine Z_if_eq C 31 dX3_hang_22 (by decide) (fun c2 => ?_) (fun c2 => ?_)
    · have c2 := bI_0.mp c2
      refine Z_aload_n C dX3_hang_31 rfl rfl ?_
      refine Z_iconst C (v := 1) dX3_hang_32 (by decide) ?_
      refine Z_callV C (ws' := mdW 0 (mI (mI M 0 0) 0 1)) (st' := [.int 0]) (rest := []) [0, 1, 2, 3, 4, 5, 6] (c_X3_fail (mI M 0 0) 1) m_X3_fail K3 g_611 dX3_hang_33 rfl rfl rfl (outL 7 rfl rfl rfl) (NW := 7) rfl rfl rfl rfl rfl ⟨Nat.le_of_ble_eq_true rfl, Nat.le_of_ble_eq_true rfl⟩ ⟨Nat.le_of_ble_eq_true rfl, Nat.le_of_ble_eq_true rfl⟩ (Nat.le_of_ble_eq_true rfl) rfl ?_
      exact Z_widen (Nat.le_of_ble_eq_true rfl) (Nat.le_of_ble_eq_true rfl) (Z_iret C hr hlk dX3_hang_36 (congrArg (fun z => some (Value.int z)) (show ((mHang M w t f o).2) = 0 from by simp [mHang, c1, c2, eN, eR])) (by rw [show ((mHang M w t f o).1) = (mI (mI M 0 0) 0 1) from by simp [mHang, c1, c2, eN, eR]]))
    · have c2 := bI_n0.mp c2
      refine Z_iload_n C dX3_hang_25 rfl rfl ?_
      refine Z_iload C dX3_hang_26 rfl ?_
      refine Z_icmp_ne C 37 dX3_hang_28 (by decide) (fun c3 => ?_) (fun c3 => ?_)
      · refine Z_aload_n C dX3_hang_37 rfl rfl ?_
        refine Z_iload_n C dX3_hang_38 rfl rfl ?_
        refine Z_callV C (ws' := mdW 0 (mI M 0 0)) (st' := [.int (bI (mHas (mI M 0 0) f))]) (rest := []) [0, 1, 2, 3, 4, 5, 6] (c_X3_isStone (mI M 0 0) f) m_X3_isStone K3 g_667 dX3_hang_39 rfl rfl rfl (outR _ _ _) (NW := 7) rfl rfl rfl rfl rfl ⟨Nat.le_of_ble_eq_true rfl, Nat.le_of_ble_eq_true rfl⟩ ⟨Nat.le_of_ble_eq_true rfl, Nat.le_of_ble_eq_true rfl⟩ (Nat.le_of_ble_eq_true rfl) rfl ?_
        refine Z_if_eq C 60 dX3_hang_42 (by decide) (fun c4 => ?_) (fun c4 => ?_)
        · have c4 := bI_0.mp c4
          refine Z_aload_n C dX3_hang_60 rfl rfl ?_
          refine Z_iconst C (v := 2) dX3_hang_61 (by decide) ?_
          refine Z_callV C (ws' := mdW 0 (mI (mI M 0 0) 0 2)) (st' := [.int 0]) (rest := []) [0, 1, 2, 3, 4, 5, 6] (c_X3_fail (mI M 0 0) 2) m_X3_fail K3 g_611 dX3_hang_62 rfl rfl rfl (outL 7 rfl rfl rfl) (NW := 7) rfl rfl rfl rfl rfl ⟨Nat.le_of_ble_eq_true rfl, Nat.le_of_ble_eq_true rfl⟩ ⟨Nat.le_of_ble_eq_true rfl, Nat.le_of_ble_eq_true rfl⟩ (Nat.le_of_ble_eq_true rfl) rfl ?_
          exact Z_widen (Nat.le_of_ble_eq_true rfl) (Nat.le_of_ble_eq_true rfl) (Z_iret C hr hlk dX3_hang_65 (congrArg (fun z => some (Value.int z)) (show ((mHang M w t f o).2) = 0 from by simp [mHang, c1, c2, c3, c4, eN, eR])) (by rw [show ((mHang M w t f o).1) = (mI (mI M 0 0) 0 2) from by simp [mHang, c1, c2, c3, c4, eN, eR]]))
        · have c4 := bI_n0.mp c4
          obtain ⟨i, hi, qi⟩ := isIn_ix hn (by omega) c4
          subst qi
          have ei : ix (nI i) = i := ix_nI (by omega)
          refine Z_iload C dX3_hang_45 rfl ?_
          refine Z_iconst C (v := (-1)) dX3_hang_47 (by decide) ?_
          refine Z_icmp_eq C 66 dX3_hang_48 (by decide) (fun c5 => ?_) (fun c5 => ?_)
          · subst c5
            refine Z_aload_n C dX3_hang_66 rfl rfl ?_
            refine Z_get C K3 (v := .int (M.2.2.2 1)) 1 dX3_hang_67 rfl (by decide) g_573 rfl rfl ?_
            refine Z_bipush C (v := 40) dX3_hang_70 (by decide) ?_
            refine Z_icmp_eq C 98 dX3_hang_72 (by decide) (fun c6 => ?_) (fun c6 => ?_)
            · refine Z_aload_n C dX3_hang_98 rfl rfl ?_
              refine Z_iconst C (v := 3) dX3_hang_99 (by decide) ?_
              refine Z_callV C (ws' := mdW 0 (mI (mI M 0 0) 0 3)) (st' := [.int 0]) (rest := []) [0, 1, 2, 3, 4, 5, 6] (c_X3_fail (mI M 0 0) 3) m_X3_fail K3 g_611 dX3_hang_100 rfl rfl rfl (outL 7 rfl rfl rfl) (NW := 7) rfl rfl rfl rfl rfl ⟨Nat.le_of_ble_eq_true rfl, Nat.le_of_ble_eq_true rfl⟩ ⟨Nat.le_of_ble_eq_true rfl, Nat.le_of_ble_eq_true rfl⟩ (Nat.le_of_ble_eq_true rfl) rfl ?_
              exact Z_widen (Nat.le_of_ble_eq_true rfl) (Nat.le_of_ble_eq_true rfl) (Z_iret C hr hlk dX3_hang_103 (congrArg (fun z => some (Value.int z)) (show ((mHang M w t (nI i) (-1)).2) = 0 from by simp [mHang, c1, c2, c3, c4, ei, c6, eN, eR])) (by rw [show ((mHang M w t (nI i) (-1)).1) = (mI (mI M 0 0) 0 3) from by simp [mHang, c1, c2, c3, c4, ei, c6, eN, eR]]))
            · refine Z_aload_n C dX3_hang_75 rfl rfl ?_
              refine Z_iload_n C dX3_hang_76 rfl rfl ?_
              refine Z_callV C (ws' := mdW 0 (mI M 0 0)) (st' := [.int (bI (mHg (mI M 0 0) i))]) (rest := []) [0, 1, 2, 3, 4, 5, 6] (c_X3_hangs (mI M 0 0) (nI i) rfl (by omega)) m_X3_hangs K3 g_630 dX3_hang_77 rfl rfl rfl (outR _ _ _) (NW := 7) rfl rfl rfl rfl rfl ⟨Nat.le_of_ble_eq_true rfl, Nat.le_of_ble_eq_true rfl⟩ ⟨Nat.le_of_ble_eq_true rfl, Nat.le_of_ble_eq_true rfl⟩ (Nat.le_of_ble_eq_true rfl) rfl ?_
              refine Z_if_eq C 98 dX3_hang_80 (by decide) (fun c7 => ?_) (fun c7 => ?_)
              · have c7 := bI_0.mp c7
                refine Z_aload_n C dX3_hang_98 rfl rfl ?_
                refine Z_iconst C (v := 3) dX3_hang_99 (by decide) ?_
                refine Z_callV C (ws' := mdW 0 (mI (mI M 0 0) 0 3)) (st' := [.int 0]) (rest := []) [0, 1, 2, 3, 4, 5, 6] (c_X3_fail (mI M 0 0) 3) m_X3_fail K3 g_611 dX3_hang_100 rfl rfl rfl (outL 7 rfl rfl rfl) (NW := 7) rfl rfl rfl rfl rfl ⟨Nat.le_of_ble_eq_true rfl, Nat.le_of_ble_eq_true rfl⟩ ⟨Nat.le_of_ble_eq_true rfl, Nat.le_of_ble_eq_true rfl⟩ (Nat.le_of_ble_eq_true rfl) rfl ?_
                exact Z_widen (Nat.le_of_ble_eq_true rfl) (Nat.le_of_ble_eq_true rfl) (Z_iret C hr hlk dX3_hang_103 (congrArg (fun z => some (Value.int z)) (show ((mHang M w t (nI i) (-1)).2) = 0 from by simp [mHang, c1, c2, c3, c4, ei, c6, c7, eN, eR])) (by rw [show ((mHang M w t (nI i) (-1)).1) = (mI (mI M 0 0) 0 3) from by simp [mHang, c1, c2, c3, c4, ei, c6, c7, eN, eR]]))
              · have c7 := bI_n0.mp c7
                refine Z_iload C dX3_hang_83 rfl ?_
                refine Z_iconst C (v := (-1)) dX3_hang_85 (by decide) ?_
                refine Z_icmp_eq C 104 dX3_hang_86 (by decide) (fun c8 => ?_) (fun c8 => absurd c8 (by decide))
                refine Z_aload_n C dX3_hang_104 rfl rfl ?_
                refine Z_iload_n C dX3_hang_105 rfl rfl ?_
                refine Z_iload_n C dX3_hang_106 rfl rfl ?_
                refine Z_iconst C (v := 0) dX3_hang_107 (by decide) ?_
                refine Z_iload_n C dX3_hang_108 rfl rfl ?_
                refine Z_iload C dX3_hang_109 rfl ?_
                refine Z_callV C (ws' := mdW 0 (mStone (mI M 0 0) n w t 0 (nI i) (-1))) (st' := [.int (nI n)]) (rest := []) [0, 1, 2, 3, 4, 5, 6] (c_X3_stone (mI M 0 0) w t 0 (nI i) (-1) hn (lt_lit 40 rfl hn h40 c6) hq h30 ho (Or.inr ⟨i, hi, rfl⟩) (Or.inl rfl)) m_X3_stone K3 g_615 dX3_hang_111 rfl rfl rfl (outL 7 rfl rfl rfl) (NW := 7) rfl rfl rfl rfl rfl ⟨Nat.le_of_ble_eq_true rfl, Nat.le_of_ble_eq_true rfl⟩ ⟨Nat.le_of_ble_eq_true rfl, Nat.le_of_ble_eq_true rfl⟩ (Nat.le_of_ble_eq_true rfl) rfl ?_
                exact Z_iret C hr hlk dX3_hang_114 (congrArg (fun z => some (Value.int z)) (show ((mHang M w t (nI i) (-1)).2) = (nI n) from by simp [mHang, c1, c2, c3, c4, ei, c6, c7, eN, eR])) (by rw [show ((mHang M w t (nI i) (-1)).1) = (mStone (mI M 0 0) n w t 0 (nI i) (-1)) from by simp [mHang, c1, c2, c3, c4, ei, c6, c7, eN, eR]])
          · refine Z_aload_n C dX3_hang_51 rfl rfl ?_
            refine Z_iload C dX3_hang_52 rfl ?_
            refine Z_callV C (ws' := mdW 0 (mI M 0 0)) (st' := [.int (bI (mHas (mI M 0 0) o))]) (rest := []) [0, 1, 2, 3, 4, 5, 6] (c_X3_isStone (mI M 0 0) o) m_X3_isStone K3 g_667 dX3_hang_54 rfl rfl rfl (outR _ _ _) (NW := 7) rfl rfl rfl rfl rfl ⟨Nat.le_of_ble_eq_true rfl, Nat.le_of_ble_eq_true rfl⟩ ⟨Nat.le_of_ble_eq_true rfl, Nat.le_of_ble_eq_true rfl⟩ (Nat.le_of_ble_eq_true rfl) rfl ?_
            refine Z_if_ne C 66 dX3_hang_57 (by decide) (fun c9 => ?_) (fun c9 => ?_)
            · have c9 := bI_n0.mp c9
              obtain ⟨j, hj, qj⟩ := isIn_ix hn (by omega) c9
              subst qj
              have ej : ix (nI j) = j := ix_nI (by omega)
              refine Z_aload_n C dX3_hang_66 rfl rfl ?_
              refine Z_get C K3 (v := .int (M.2.2.2 1)) 1 dX3_hang_67 rfl (by decide) g_573 rfl rfl ?_
              refine Z_bipush C (v := 40) dX3_hang_70 (by decide) ?_
              refine Z_icmp_eq C 98 dX3_hang_72 (by decide) (fun c10 => ?_) (fun c10 => ?_)
              · refine Z_aload_n C dX3_hang_98 rfl rfl ?_
                refine Z_iconst C (v := 3) dX3_hang_99 (by decide) ?_
                refine Z_callV C (ws' := mdW 0 (mI (mI M 0 0) 0 3)) (st' := [.int 0]) (rest := []) [0, 1, 2, 3, 4, 5, 6] (c_X3_fail (mI M 0 0) 3) m_X3_fail K3 g_611 dX3_hang_100 rfl rfl rfl (outL 7 rfl rfl rfl) (NW := 7) rfl rfl rfl rfl rfl ⟨Nat.le_of_ble_eq_true rfl, Nat.le_of_ble_eq_true rfl⟩ ⟨Nat.le_of_ble_eq_true rfl, Nat.le_of_ble_eq_true rfl⟩ (Nat.le_of_ble_eq_true rfl) rfl ?_
                exact Z_widen (Nat.le_of_ble_eq_true rfl) (Nat.le_of_ble_eq_true rfl) (Z_iret C hr hlk dX3_hang_103 (congrArg (fun z => some (Value.int z)) (show ((mHang M w t (nI i) (nI j)).2) = 0 from by simp [mHang, c1, c2, c3, c4, ei, c5, c9, ej, c10, eN, eR])) (by rw [show ((mHang M w t (nI i) (nI j)).1) = (mI (mI M 0 0) 0 3) from by simp [mHang, c1, c2, c3, c4, ei, c5, c9, ej, c10, eN, eR]]))
              · refine Z_aload_n C dX3_hang_75 rfl rfl ?_
                refine Z_iload_n C dX3_hang_76 rfl rfl ?_
                refine Z_callV C (ws' := mdW 0 (mI M 0 0)) (st' := [.int (bI (mHg (mI M 0 0) i))]) (rest := []) [0, 1, 2, 3, 4, 5, 6] (c_X3_hangs (mI M 0 0) (nI i) rfl (by omega)) m_X3_hangs K3 g_630 dX3_hang_77 rfl rfl rfl (outR _ _ _) (NW := 7) rfl rfl rfl rfl rfl ⟨Nat.le_of_ble_eq_true rfl, Nat.le_of_ble_eq_true rfl⟩ ⟨Nat.le_of_ble_eq_true rfl, Nat.le_of_ble_eq_true rfl⟩ (Nat.le_of_ble_eq_true rfl) rfl ?_
                refine Z_if_eq C 98 dX3_hang_80 (by decide) (fun c11 => ?_) (fun c11 => ?_)
                · have c11 := bI_0.mp c11
                  refine Z_aload_n C dX3_hang_98 rfl rfl ?_
                  refine Z_iconst C (v := 3) dX3_hang_99 (by decide) ?_
                  refine Z_callV C (ws' := mdW 0 (mI (mI M 0 0) 0 3)) (st' := [.int 0]) (rest := []) [0, 1, 2, 3, 4, 5, 6] (c_X3_fail (mI M 0 0) 3) m_X3_fail K3 g_611 dX3_hang_100 rfl rfl rfl (outL 7 rfl rfl rfl) (NW := 7) rfl rfl rfl rfl rfl ⟨Nat.le_of_ble_eq_true rfl, Nat.le_of_ble_eq_true rfl⟩ ⟨Nat.le_of_ble_eq_true rfl, Nat.le_of_ble_eq_true rfl⟩ (Nat.le_of_ble_eq_true rfl) rfl ?_
                  exact Z_widen (Nat.le_of_ble_eq_true rfl) (Nat.le_of_ble_eq_true rfl) (Z_iret C hr hlk dX3_hang_103 (congrArg (fun z => some (Value.int z)) (show ((mHang M w t (nI i) (nI j)).2) = 0 from by simp [mHang, c1, c2, c3, c4, ei, c5, c9, ej, c10, c11, eN, eR])) (by rw [show ((mHang M w t (nI i) (nI j)).1) = (mI (mI M 0 0) 0 3) from by simp [mHang, c1, c2, c3, c4, ei, c5, c9, ej, c10, c11, eN, eR]]))
                · have c11 := bI_n0.mp c11
                  refine Z_iload C dX3_hang_83 rfl ?_
                  refine Z_iconst C (v := (-1)) dX3_hang_85 (by decide) ?_
                  refine Z_icmp_eq C 104 dX3_hang_86 (by decide) (fun c12 => absurd c12 (nI_m1 (by omega))) (fun c12 => ?_)
                  refine Z_aload_n C dX3_hang_89 rfl rfl ?_
                  refine Z_iload C dX3_hang_90 rfl ?_
                  refine Z_callV C (ws' := mdW 0 (mI M 0 0)) (st' := [.int (bI (mHg (mI M 0 0) j))]) (rest := []) [0, 1, 2, 3, 4, 5, 6] (c_X3_hangs (mI M 0 0) (nI j) rfl (by omega)) m_X3_hangs K3 g_630 dX3_hang_92 rfl rfl rfl (outR _ _ _) (NW := 7) rfl rfl rfl rfl rfl ⟨Nat.le_of_ble_eq_true rfl, Nat.le_of_ble_eq_true rfl⟩ ⟨Nat.le_of_ble_eq_true rfl, Nat.le_of_ble_eq_true rfl⟩ (Nat.le_of_ble_eq_true rfl) rfl ?_
                  refine Z_if_ne C 104 dX3_hang_95 (by decide) (fun c13 => ?_) (fun c13 => ?_)
                  · have c13 := bI_n0.mp c13
                    refine Z_aload_n C dX3_hang_104 rfl rfl ?_
                    refine Z_iload_n C dX3_hang_105 rfl rfl ?_
                    refine Z_iload_n C dX3_hang_106 rfl rfl ?_
                    refine Z_iconst C (v := 0) dX3_hang_107 (by decide) ?_
                    refine Z_iload_n C dX3_hang_108 rfl rfl ?_
                    refine Z_iload C dX3_hang_109 rfl ?_
                    refine Z_callV C (ws' := mdW 0 (mStone (mI M 0 0) n w t 0 (nI i) (nI j))) (st' := [.int (nI n)]) (rest := []) [0, 1, 2, 3, 4, 5, 6] (c_X3_stone (mI M 0 0) w t 0 (nI i) (nI j) hn (lt_lit 40 rfl hn h40 c10) hq h30 ho (Or.inr ⟨i, hi, rfl⟩) (Or.inr ⟨j, hj, rfl⟩)) m_X3_stone K3 g_615 dX3_hang_111 rfl rfl rfl (outL 7 rfl rfl rfl) (NW := 7) rfl rfl rfl rfl rfl ⟨Nat.le_of_ble_eq_true rfl, Nat.le_of_ble_eq_true rfl⟩ ⟨Nat.le_of_ble_eq_true rfl, Nat.le_of_ble_eq_true rfl⟩ (Nat.le_of_ble_eq_true rfl) rfl ?_
                    exact Z_iret C hr hlk dX3_hang_114 (congrArg (fun z => some (Value.int z)) (show ((mHang M w t (nI i) (nI j)).2) = (nI n) from by simp [mHang, c1, c2, c3, c4, ei, c5, c9, ej, c10, c11, c12, c13, eN, eR])) (by rw [show ((mHang M w t (nI i) (nI j)).1) = (mStone (mI M 0 0) n w t 0 (nI i) (nI j)) from by simp [mHang, c1, c2, c3, c4, ei, c5, c9, ej, c10, c11, c12, c13, eN, eR]])
                  · have c13 := bI_0.mp c13
                    refine Z_aload_n C dX3_hang_98 rfl rfl ?_
                    refine Z_iconst C (v := 3) dX3_hang_99 (by decide) ?_
                    refine Z_callV C (ws' := mdW 0 (mI (mI M 0 0) 0 3)) (st' := [.int 0]) (rest := []) [0, 1, 2, 3, 4, 5, 6] (c_X3_fail (mI M 0 0) 3) m_X3_fail K3 g_611 dX3_hang_100 rfl rfl rfl (outL 7 rfl rfl rfl) (NW := 7) rfl rfl rfl rfl rfl ⟨Nat.le_of_ble_eq_true rfl, Nat.le_of_ble_eq_true rfl⟩ ⟨Nat.le_of_ble_eq_true rfl, Nat.le_of_ble_eq_true rfl⟩ (Nat.le_of_ble_eq_true rfl) rfl ?_
                    exact Z_widen (Nat.le_of_ble_eq_true rfl) (Nat.le_of_ble_eq_true rfl) (Z_iret C hr hlk dX3_hang_103 (congrArg (fun z => some (Value.int z)) (show ((mHang M w t (nI i) (nI j)).2) = 0 from by simp [mHang, c1, c2, c3, c4, ei, c5, c9, ej, c10, c11, c12, c13, eN, eR])) (by rw [show ((mHang M w t (nI i) (nI j)).1) = (mI (mI M 0 0) 0 3) from by simp [mHang, c1, c2, c3, c4, ei, c5, c9, ej, c10, c11, c12, c13, eN, eR]]))
            · have c9 := bI_0.mp c9
              refine Z_aload_n C dX3_hang_60 rfl rfl ?_
              refine Z_iconst C (v := 2) dX3_hang_61 (by decide) ?_
              refine Z_callV C (ws' := mdW 0 (mI (mI M 0 0) 0 2)) (st' := [.int 0]) (rest := []) [0, 1, 2, 3, 4, 5, 6] (c_X3_fail (mI M 0 0) 2) m_X3_fail K3 g_611 dX3_hang_62 rfl rfl rfl (outL 7 rfl rfl rfl) (NW := 7) rfl rfl rfl rfl rfl ⟨Nat.le_of_ble_eq_true rfl, Nat.le_of_ble_eq_true rfl⟩ ⟨Nat.le_of_ble_eq_true rfl, Nat.le_of_ble_eq_true rfl⟩ (Nat.le_of_ble_eq_true rfl) rfl ?_
              exact Z_widen (Nat.le_of_ble_eq_true rfl) (Nat.le_of_ble_eq_true rfl) (Z_iret C hr hlk dX3_hang_65 (congrArg (fun z => some (Value.int z)) (show ((mHang M w t (nI i) o).2) = 0 from by simp [mHang, c1, c2, c3, c4, ei, c5, c9, eN, eR])) (by rw [show ((mHang M w t (nI i) o).1) = (mI (mI M 0 0) 0 2) from by simp [mHang, c1, c2, c3, c4, ei, c5, c9, eN, eR]]))
      · refine Z_aload_n C dX3_hang_31 rfl rfl ?_
        refine Z_iconst C (v := 1) dX3_hang_32 (by decide) ?_
        refine Z_callV C (ws' := mdW 0 (mI (mI M 0 0) 0 1)) (st' := [.int 0]) (rest := []) [0, 1, 2, 3, 4, 5, 6] (c_X3_fail (mI M 0 0) 1) m_X3_fail K3 g_611 dX3_hang_33 rfl rfl rfl (outL 7 rfl rfl rfl) (NW := 7) rfl rfl rfl rfl rfl ⟨Nat.le_of_ble_eq_true rfl, Nat.le_of_ble_eq_true rfl⟩ ⟨Nat.le_of_ble_eq_true rfl, Nat.le_of_ble_eq_true rfl⟩ (Nat.le_of_ble_eq_true rfl) rfl ?_
        exact Z_widen (Nat.le_of_ble_eq_true rfl) (Nat.le_of_ble_eq_true rfl) (Z_iret C hr hlk dX3_hang_36 (congrArg (fun z => some (Value.int z)) (show ((mHang M w t f o).2) = 0 from by simp [mHang, c1, c2, c3, eN, eR])) (by rw [show ((mHang M w t f o).1) = (mI (mI M 0 0) 0 1) from by simp [mHang, c1, c2, c3, eN, eR]]))
set_option maxHeartbeats 4000000 in
set_option maxRecDepth 20000 in
theorem c_X3_stair (M : Md) (a : Int32) (b : Int32) {n r : Nat} (hn : M.2.2.2 1 = nI n) (h40 : n ≤ 40) (hq : M.2.2.2 2 = nI r) (h30 : r ≤ 30) (ho : okM n M) : CT yX3_stair cX3_stair 4 (some .int) 2 1 3 [.ref 0, .int a, .int b] (mdW 0 M) (some (.int ((mStair M a b).2))) (mdW 0 ((mStair M a b).1)) := by
  refine CT_of (L := [(0, .ref 0), (1, .int a), (2, .int b)]) (by decide) (fun _ => rfl) (fun _ => Nat.le_of_ble_eq_true rfl) ?_
  intro p l e s m args below meth c G h A C hr hlk _
  have eN : mN M = n := mN_eq hn h40; have eR : mR M = r := mR_eq hq h30
  refine Z_aload_n C dX3_stair_0 rfl rfl ?_
  refine Z_iconst C (v := 0) dX3_stair_1 (by decide) ?_
  refine Z_put C K3 (ws' := mdW 0 (mI M 0 0)) 0 dX3_stair_2 rfl (by decide) g_572 rfl rfl rfl rfl rfl (Nat.le_of_ble_eq_true rfl) rfl ?_
  refine Z_aload_n C dX3_stair_5 rfl rfl ?_
  refine Z_iload_n C dX3_stair_6 rfl rfl ?_
  refine Z_callV C (ws' := mdW 0 (mI M 0 0)) (st' := [.int (bI (mHas (mI M 0 0) a))]) (rest := []) [0, 1, 2, 3, 4, 5, 6] (c_X3_isStone (mI M 0 0) a) m_X3_isStone K3 g_667 dX3_stair_7 rfl rfl rfl (outR _ _ _) (NW := 7) rfl rfl rfl rfl rfl ⟨Nat.le_of_ble_eq_true rfl, Nat.le_of_ble_eq_true rfl⟩ ⟨Nat.le_of_ble_eq_true rfl, Nat.le_of_ble_eq_true rfl⟩ (Nat.le_of_ble_eq_true rfl) rfl ?_
  refine Z_if_eq C 21 dX3_stair_10 (by decide) (fun c1 => ?_) (fun c1 => ?_)
  · have c1 := bI_0.mp c1
    refine Z_aload_n C dX3_stair_21 rfl rfl ?_
    refine Z_iconst C (v := 1) dX3_stair_22 (by decide) ?_
    refine Z_callV C (ws' := mdW 0 (mI (mI M 0 0) 0 1)) (st' := [.int 0]) (rest := []) [0, 1, 2, 3, 4, 5, 6] (c_X3_fail (mI M 0 0) 1) m_X3_fail K3 g_611 dX3_stair_23 rfl rfl rfl (outL 7 rfl rfl rfl) (NW := 7) rfl rfl rfl rfl rfl ⟨Nat.le_of_ble_eq_true rfl, Nat.le_of_ble_eq_true rfl⟩ ⟨Nat.le_of_ble_eq_true rfl, Nat.le_of_ble_eq_true rfl⟩ (Nat.le_of_ble_eq_true rfl) rfl ?_
    exact Z_widen (Nat.le_of_ble_eq_true rfl) (Nat.le_of_ble_eq_true rfl) (Z_iret C hr hlk dX3_stair_26 (congrArg (fun z => some (Value.int z)) (show ((mStair M a b).2) = 0 from by simp [mStair, c1, eN, eR])) (by rw [show ((mStair M a b).1) = (mI (mI M 0 0) 0 1) from by simp [mStair, c1, eN, eR]]))
  · have c1 := bI_n0.mp c1
    obtain ⟨i, hi, qi⟩ := isIn_ix hn (by omega) c1
    subst qi
    have ei : ix (nI i) = i := ix_nI (by omega)
    refine Z_aload_n C dX3_stair_13 rfl rfl ?_
    refine Z_iload_n C dX3_stair_14 rfl rfl ?_
    refine Z_callV C (ws' := mdW 0 (mI M 0 0)) (st' := [.int (bI (mHas (mI M 0 0) b))]) (rest := []) [0, 1, 2, 3, 4, 5, 6] (c_X3_isStone (mI M 0 0) b) m_X3_isStone K3 g_667 dX3_stair_15 rfl rfl rfl (outR _ _ _) (NW := 7) rfl rfl rfl rfl rfl ⟨Nat.le_of_ble_eq_true rfl, Nat.le_of_ble_eq_true rfl⟩ ⟨Nat.le_of_ble_eq_true rfl, Nat.le_of_ble_eq_true rfl⟩ (Nat.le_of_ble_eq_true rfl) rfl ?_
    refine Z_if_ne C 27 dX3_stair_18 (by decide) (fun c2 => ?_) (fun c2 => ?_)
    · have c2 := bI_n0.mp c2
      obtain ⟨j, hj, qj⟩ := isIn_ix hn (by omega) c2
      subst qj
      have ej : ix (nI j) = j := ix_nI (by omega)
      refine Z_iload_n C dX3_stair_27 rfl rfl ?_
      refine Z_iload_n C dX3_stair_28 rfl rfl ?_
      refine Z_icmp_ne C 38 dX3_stair_29 (by decide) (fun c3 => ?_) (fun c3 => ?_)
      · refine Z_aload_n C dX3_stair_38 rfl rfl ?_
        refine Z_get C K3 (v := .int (M.2.2.2 2)) 2 dX3_stair_39 rfl (by decide) g_574 rfl rfl ?_
        refine Z_bipush C (v := 30) dX3_stair_42 (by decide) ?_
        refine Z_icmp_eq C 63 dX3_stair_44 (by decide) (fun c4 => ?_) (fun c4 => ?_)
        · refine Z_aload_n C dX3_stair_63 rfl rfl ?_
          refine Z_iconst C (v := 3) dX3_stair_64 (by decide) ?_
          refine Z_callV C (ws' := mdW 0 (mI (mI M 0 0) 0 3)) (st' := [.int 0]) (rest := []) [0, 1, 2, 3, 4, 5, 6] (c_X3_fail (mI M 0 0) 3) m_X3_fail K3 g_611 dX3_stair_65 rfl rfl rfl (outL 7 rfl rfl rfl) (NW := 7) rfl rfl rfl rfl rfl ⟨Nat.le_of_ble_eq_true rfl, Nat.le_of_ble_eq_true rfl⟩ ⟨Nat.le_of_ble_eq_true rfl, Nat.le_of_ble_eq_true rfl⟩ (Nat.le_of_ble_eq_true rfl) rfl ?_
          exact Z_widen (Nat.le_of_ble_eq_true rfl) (Nat.le_of_ble_eq_true rfl) (Z_iret C hr hlk dX3_stair_68 (congrArg (fun z => some (Value.int z)) (show ((mStair M (nI i) (nI j)).2) = 0 from by simp [mStair, c1, ei, c2, ej, c3, c4, eN, eR])) (by rw [show ((mStair M (nI i) (nI j)).1) = (mI (mI M 0 0) 0 3) from by simp [mStair, c1, ei, c2, ej, c3, c4, eN, eR]]))
        · refine Z_aload_n C dX3_stair_47 rfl rfl ?_
          refine Z_iload_n C dX3_stair_48 rfl rfl ?_
          refine Z_callV C (ws' := mdW 0 (mI M 0 0)) (st' := [.int (bI (mHg (mI M 0 0) i))]) (rest := []) [0, 1, 2, 3, 4, 5, 6] (c_X3_hangs (mI M 0 0) (nI i) rfl (by omega)) m_X3_hangs K3 g_630 dX3_stair_49 rfl rfl rfl (outR _ _ _) (NW := 7) rfl rfl rfl rfl rfl ⟨Nat.le_of_ble_eq_true rfl, Nat.le_of_ble_eq_true rfl⟩ ⟨Nat.le_of_ble_eq_true rfl, Nat.le_of_ble_eq_true rfl⟩ (Nat.le_of_ble_eq_true rfl) rfl ?_
          refine Z_if_eq C 63 dX3_stair_52 (by decide) (fun c5 => ?_) (fun c5 => ?_)
          · have c5 := bI_0.mp c5
            refine Z_aload_n C dX3_stair_63 rfl rfl ?_
            refine Z_iconst C (v := 3) dX3_stair_64 (by decide) ?_
            refine Z_callV C (ws' := mdW 0 (mI (mI M 0 0) 0 3)) (st' := [.int 0]) (rest := []) [0, 1, 2, 3, 4, 5, 6] (c_X3_fail (mI M 0 0) 3) m_X3_fail K3 g_611 dX3_stair_65 rfl rfl rfl (outL 7 rfl rfl rfl) (NW := 7) rfl rfl rfl rfl rfl ⟨Nat.le_of_ble_eq_true rfl, Nat.le_of_ble_eq_true rfl⟩ ⟨Nat.le_of_ble_eq_true rfl, Nat.le_of_ble_eq_true rfl⟩ (Nat.le_of_ble_eq_true rfl) rfl ?_
            exact Z_widen (Nat.le_of_ble_eq_true rfl) (Nat.le_of_ble_eq_true rfl) (Z_iret C hr hlk dX3_stair_68 (congrArg (fun z => some (Value.int z)) (show ((mStair M (nI i) (nI j)).2) = 0 from by simp [mStair, c1, ei, c2, ej, c3, c4, c5, eN, eR])) (by rw [show ((mStair M (nI i) (nI j)).1) = (mI (mI M 0 0) 0 3) from by simp [mStair, c1, ei, c2, ej, c3, c4, c5, eN, eR]]))
          · have c5 := bI_n0.mp c5
            refine Z_aload_n C dX3_stair_55 rfl rfl ?_
            refine Z_iload_n C dX3_stair_56 rfl rfl ?_
            refine Z_callV C (ws' := mdW 0 (mI M 0 0)) (st' := [.int (bI (mHg (mI M 0 0) j))]) (rest := []) [0, 1, 2, 3, 4, 5, 6] (c_X3_hangs (mI M 0 0) (nI j) rfl (by omega)) m_X3_hangs K3 g_630 dX3_stair_57 rfl rfl rfl (outR _ _ _) (NW := 7) rfl rfl rfl rfl rfl ⟨Nat.le_of_ble_eq_true rfl, Nat.le_of_ble_eq_true rfl⟩ ⟨Nat.le_of_ble_eq_true rfl, Nat.le_of_ble_eq_true rfl⟩ (Nat.le_of_ble_eq_true rfl) rfl ?_
            refine Z_if_ne C 69 dX3_stair_60 (by decide) (fun c6 => ?_) (fun c6 => ?_)
            · have c6 := bI_n0.mp c6
              refine Z_iconst C (v := 3) dX3_stair_69 (by decide) ?_
              refine Z_newi C (N := 3) (W9 := 7) dX3_stair_70 g_109 (by decide) (by decide) (by decide) ⟨Nat.le_of_ble_eq_true rfl, Nat.le_of_ble_eq_true rfl⟩ rfl (eFs_md _) rfl rfl (fun h1 ag1 => ?_)
              refine Z_dup C dX3_stair_72 rfl ?_
              refine Z_iconst C (v := 0) dX3_stair_73 (by decide) ?_
              refine Z_iload_n C dX3_stair_74 rfl rfl ?_
              refine Z_isN C (j := 0) (ws' := mdW 0 (mI M 0 0) ++ [.inl (0, 3, .inl ((upd (fun _ => 0) 0 (nI i))))]) dX3_stair_75 rfl (by decide) (by decide) rfl ?_
              refine Z_dup C dX3_stair_76 rfl ?_
              refine Z_iconst C (v := 1) dX3_stair_77 (by decide) ?_
              refine Z_iload_n C dX3_stair_78 rfl rfl ?_
              refine Z_isN C (j := 1) (ws' := mdW 0 (mI M 0 0) ++ [.inl (0, 3, .inl ((upd (upd (fun _ => 0) 0 (nI i)) 1 (nI j))))]) dX3_stair_79 rfl (by decide) (by decide) rfl ?_
              refine Z_dup C dX3_stair_80 rfl ?_
              refine Z_iconst C (v := 2) dX3_stair_81 (by decide) ?_
              refine Z_iconst C (v := 0) dX3_stair_82 (by decide) ?_
              refine Z_isN C (j := 2) (ws' := mdW 0 (mI M 0 0) ++ [.inl (0, 3, .inl ((upd (upd (upd (fun _ => 0) 0 (nI i)) 1 (nI j)) 2 0)))]) dX3_stair_83 rfl (by decide) (by decide) rfl ?_
              refine Z_astore_n C (L' := [(3, .ref 7), (0, .ref 0), (1, .int (nI i)), (2, .int (nI j))]) dX3_stair_84 rfl (by decide) rfl ?_
              refine Z_aload_n C dX3_stair_85 rfl rfl ?_
              refine Z_iconst C (v := 0) dX3_stair_86 (by decide) ?_
              refine Z_aload_n C dX3_stair_87 rfl rfl ?_
              refine Z_get C K3 (v := .ref 2) 4 dX3_stair_88 rfl (by decide) g_576 rfl rfl ?_
              refine Z_iconst C (v := 3) dX3_stair_91 (by decide) ?_
              refine Z_aload_n C dX3_stair_92 rfl rfl ?_
              refine Z_get C K3 (v := .int (M.2.2.2 2)) 2 dX3_stair_93 rfl (by decide) g_574 rfl rfl ?_
              refine Z_imul C (v := nI (3 * r)) dX3_stair_96 (by rw [show _ = nI r from hq]; exact pk_mul 3 r) ?_
              refine Z_iconst C (v := 3) dX3_stair_97 (by decide) ?_
              refine Z_copyi C (ws' := mdW 0 (rW (mI M 0 0) r (s3 (nI i) (nI j))) ++ [.inl (0, 3, .inl ((upd (upd (upd (fun _ => 0) 0 (nI i)) 1 (nI j)) 2 0)))]) (q0 := 7) (q1 := 2) (st := []) dX3_stair_98 g_619 g_621 g_620 g_47 rfl rfl (by decide) (nI_pos (by omega)) (by decide) (by decide) (cp_b3 (lt_lit 30 rfl hq h30 c4)) (cpI3 (lt_lit 30 rfl hq h30 c4) (s3 (nI i) (nI j)) (mI M 0 0).2.1) rfl ⟨Nat.le_of_ble_eq_true rfl, Nat.le_of_ble_eq_true rfl⟩ ?_
              refine Z_sub (L' := [(0, .ref 0), (1, .int (nI i)), (2, .int (nI j))]) (by simp) ?_
              refine Z_cut (N := 7) rfl ag1 (eFs_md _) rfl rfl ?_
              refine Z_aload_n C dX3_stair_101 rfl rfl ?_
              refine Z_dup C dX3_stair_102 rfl ?_
              refine Z_get C K3 (v := .int (M.2.2.2 2)) 2 dX3_stair_103 rfl (by decide) g_574 rfl rfl ?_
              refine Z_iconst C (v := 1) dX3_stair_106 (by decide) ?_
              refine Z_iadd C (v := nI (r + 1)) dX3_stair_107 (by rw [show _ = nI r from hq]; exact nI_1 r) ?_
              refine Z_put C K3 (ws' := mdW 0 (mI (rW (mI M 0 0) r (s3 (nI i) (nI j))) 2 (nI (r + 1)))) 2 dX3_stair_108 rfl (by decide) g_574 rfl rfl rfl rfl rfl (Nat.le_of_ble_eq_true rfl) rfl ?_
              refine Z_aload_n C dX3_stair_111 rfl rfl ?_
              refine Z_get C K3 (v := .int (nI (r + 1))) 2 dX3_stair_112 rfl (by decide) g_574 rfl rfl ?_
              refine Z_iconst C (v := 1) dX3_stair_115 (by decide) ?_
              refine Z_isub C (v := nI r) dX3_stair_116 (nI_pred r) ?_
              exact Z_iret C hr hlk dX3_stair_117 (congrArg (fun z => some (Value.int z)) (show ((mStair M (nI i) (nI j)).2) = (nI r) from by simp [mStair, c1, ei, c2, ej, c3, c4, c5, c6, eN, eR])) (by rw [show ((mStair M (nI i) (nI j)).1) = (mI (rW (mI M 0 0) r (s3 (nI i) (nI j))) 2 (nI (r + 1))) from by simp [mStair, c1, ei, c2, ej, c3, c4, c5, c6, eN, eR]])
            · have c6 := bI_0.mp c6
              refine Z_aload_n C dX3_stair_63 rfl rfl ?_
              refine Z_iconst C (v := 3) dX3_stair_64 (by decide) ?_
              refine Z_callV C (ws' := mdW 0 (mI (mI M 0 0) 0 3)) (st' := [.int 0]) (rest := []) [0, 1, 2, 3, 4, 5, 6] (c_X3_fail (mI M 0 0) 3) m_X3_fail K3 g_611 dX3_stair_65 rfl rfl rfl (outL 7 rfl rfl rfl) (NW := 7) rfl rfl rfl rfl rfl ⟨Nat.le_of_ble_eq_true rfl, Nat.le_of_ble_eq_true rfl⟩ ⟨Nat.le_of_ble_eq_true rfl, Nat.le_of_ble_eq_true rfl⟩ (Nat.le_of_ble_eq_true rfl) rfl ?_
              exact Z_widen (Nat.le_of_ble_eq_true rfl) (Nat.le_of_ble_eq_true rfl) (Z_iret C hr hlk dX3_stair_68 (congrArg (fun z => some (Value.int z)) (show ((mStair M (nI i) (nI j)).2) = 0 from by simp [mStair, c1, ei, c2, ej, c3, c4, c5, c6, eN, eR])) (by rw [show ((mStair M (nI i) (nI j)).1) = (mI (mI M 0 0) 0 3) from by simp [mStair, c1, ei, c2, ej, c3, c4, c5, c6, eN, eR]]))
      · refine Z_aload_n C dX3_stair_32 rfl rfl ?_
        refine Z_iconst C (v := 2) dX3_stair_33 (by decide) ?_
        refine Z_callV C (ws' := mdW 0 (mI (mI M 0 0) 0 2)) (st' := [.int 0]) (rest := []) [0, 1, 2, 3, 4, 5, 6] (c_X3_fail (mI M 0 0) 2) m_X3_fail K3 g_611 dX3_stair_34 rfl rfl rfl (outL 7 rfl rfl rfl) (NW := 7) rfl rfl rfl rfl rfl ⟨Nat.le_of_ble_eq_true rfl, Nat.le_of_ble_eq_true rfl⟩ ⟨Nat.le_of_ble_eq_true rfl, Nat.le_of_ble_eq_true rfl⟩ (Nat.le_of_ble_eq_true rfl) rfl ?_
        exact Z_widen (Nat.le_of_ble_eq_true rfl) (Nat.le_of_ble_eq_true rfl) (Z_iret C hr hlk dX3_stair_37 (congrArg (fun z => some (Value.int z)) (show ((mStair M (nI i) (nI j)).2) = 0 from by simp [mStair, c1, ei, c2, ej, c3, eN, eR])) (by rw [show ((mStair M (nI i) (nI j)).1) = (mI (mI M 0 0) 0 2) from by simp [mStair, c1, ei, c2, ej, c3, eN, eR]]))
    · have c2 := bI_0.mp c2
      refine Z_aload_n C dX3_stair_21 rfl rfl ?_
      refine Z_iconst C (v := 1) dX3_stair_22 (by decide) ?_
      refine Z_callV C (ws' := mdW 0 (mI (mI M 0 0) 0 1)) (st' := [.int 0]) (rest := []) [0, 1, 2, 3, 4, 5, 6] (c_X3_fail (mI M 0 0) 1) m_X3_fail K3 g_611 dX3_stair_23 rfl rfl rfl (outL 7 rfl rfl rfl) (NW := 7) rfl rfl rfl rfl rfl ⟨Nat.le_of_ble_eq_true rfl, Nat.le_of_ble_eq_true rfl⟩ ⟨Nat.le_of_ble_eq_true rfl, Nat.le_of_ble_eq_true rfl⟩ (Nat.le_of_ble_eq_true rfl) rfl ?_
      exact Z_widen (Nat.le_of_ble_eq_true rfl) (Nat.le_of_ble_eq_true rfl) (Z_iret C hr hlk dX3_stair_26 (congrArg (fun z => some (Value.int z)) (show ((mStair M (nI i) b).2) = 0 from by simp [mStair, c1, ei, c2, eN, eR])) (by rw [show ((mStair M (nI i) b).1) = (mI (mI M 0 0) 0 1) from by simp [mStair, c1, ei, c2, eN, eR]]))
