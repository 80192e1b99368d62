set_option maxHeartbeats 4000000 in
set_option maxRecDepth 20000 in
theorem c_X3_isIn (x : Int32) (y : Int32) (q : Int32) : CT yX3_isIn cX3_isIn 3 (some .boolean) 0 0 0 [.int x, .int y, .int q] ([]) (some (.int (bI (isInB x y q)))) ([]) := by
  refine CT_of (L := [(0, .int x), (1, .int y), (2, .int q)]) (by decide) (fun _ => rfl) (fun _ => Nat.le_of_ble_eq_true rfl) ?_
  intro p l e s m args below meth c G h A C hr hlk _
  refine Z_iload_n C dX3_isIn_0 rfl rfl ?_
  refine Z_iload_n C dX3_isIn_1 rfl rfl ?_
  refine Z_icmp_lt C 14 dX3_isIn_2 (by decide) (fun c1 => ?_) (fun c1 => ?_)
  · refine Z_iconst C (v := 0) dX3_isIn_14 (by decide) ?_
    exact Z_zret C hr hlk dX3_isIn_15 rfl (congrArg (fun z => some (Value.int z)) (show (bI (isInB x y q)) = 0 from by simp [isInB, bI, c1])) rfl
  · refine Z_iload_n C dX3_isIn_5 rfl rfl ?_
    refine Z_iload_n C dX3_isIn_6 rfl rfl ?_
    refine Z_icmp_gt C 14 dX3_isIn_7 (by decide) (fun c2 => ?_) (fun c2 => ?_)
    · refine Z_iconst C (v := 0) dX3_isIn_14 (by decide) ?_
      exact Z_zret C hr hlk dX3_isIn_15 rfl (congrArg (fun z => some (Value.int z)) (show (bI (isInB x y q)) = 0 from by simp [isInB, bI, c1, c2])) rfl
    · refine Z_iconst C (v := 1) dX3_isIn_10 (by decide) ?_
      refine Z_goto C 15 dX3_isIn_11 (by decide) ?_
      exact Z_zret C hr hlk dX3_isIn_15 rfl (congrArg (fun z => some (Value.int z)) (show (bI (isInB x y q)) = 1 from by simp [isInB, bI, c1, c2])) rfl
set_option maxHeartbeats 4000000 in
set_option maxRecDepth 20000 in
theorem c_X3_isStone (M : Md) (x : Int32) : CT yX3_isStone cX3_isStone 2 (some .boolean) 1 0 0 [.ref 0, .int x] (mdW 0 M) (some (.int (bI (mHas M x)))) (mdW 0 M) := by
  refine CT_of (L := [(0, .ref 0), (1, .int x)]) (by decide) (fun _ => rfl) (fun _ => Nat.le_of_ble_eq_true rfl) ?_
  intro p l e s m args below meth c G h A C hr hlk _
  refine Z_iload_n C dX3_isStone_0 rfl rfl ?_
  refine Z_iconst C (v := 0) dX3_isStone_1 (by decide) ?_
  refine Z_aload_n C dX3_isStone_2 rfl rfl ?_
  refine Z_get C K3 (v := .int (M.2.2.2 1)) 1 dX3_isStone_3 rfl (by decide) g_573 rfl rfl ?_
  refine Z_iconst C (v := 1) dX3_isStone_6 (by decide) ?_
  refine Z_isub C (v := (M.2.2.2 1) - 1) dX3_isStone_7 rfl ?_
  refine Z_callS C (ws' := mdW 0 M) (st' := [.int (bI (isInB x 0 ((M.2.2.2 1) - 1)))]) (rest := []) [] (c_X3_isIn x 0 ((M.2.2.2 1) - 1)) m_X3_isIn g_608 dX3_isStone_8 rfl rfl rfl (outR _ _ _) (NW := 7) rfl rfl rfl rfl ⟨Nat.le_of_ble_eq_true rfl, Nat.le_of_ble_eq_true rfl⟩ ⟨Nat.le_of_ble_eq_true rfl, Nat.le_of_ble_eq_true rfl⟩ (Nat.le_of_ble_eq_true rfl) rfl ?_
  exact Z_zret C hr hlk dX3_isStone_11 (bI_nar _) (congrArg (fun z => some (Value.int z)) (show (bI (mHas M x)) = (bI (isInB x 0 ((M.2.2.2 1) - 1))) from by simp [mHas])) rfl
set_option maxHeartbeats 4000000 in
set_option maxRecDepth 20000 in
theorem c_X3_isStair (M : Md) (x : Int32) : CT yX3_isStair cX3_isStair 2 (some .boolean) 1 0 0 [.ref 0, .int x] (mdW 0 M) (some (.int (bI (mHasR M x)))) (mdW 0 M) := by
  refine CT_of (L := [(0, .ref 0), (1, .int x)]) (by decide) (fun _ => rfl) (fun _ => Nat.le_of_ble_eq_true rfl) ?_
  intro p l e s m args below meth c G h A C hr hlk _
  refine Z_iload_n C dX3_isStair_0 rfl rfl ?_
  refine Z_iconst C (v := 0) dX3_isStair_1 (by decide) ?_
  refine Z_aload_n C dX3_isStair_2 rfl rfl ?_
  refine Z_get C K3 (v := .int (M.2.2.2 2)) 2 dX3_isStair_3 rfl (by decide) g_574 rfl rfl ?_
  refine Z_iconst C (v := 1) dX3_isStair_6 (by decide) ?_
  refine Z_isub C (v := (M.2.2.2 2) - 1) dX3_isStair_7 rfl ?_
  refine Z_callS C (ws' := mdW 0 M) (st' := [.int (bI (isInB x 0 ((M.2.2.2 2) - 1)))]) (rest := []) [] (c_X3_isIn x 0 ((M.2.2.2 2) - 1)) m_X3_isIn g_608 dX3_isStair_8 rfl rfl rfl (outR _ _ _) (NW := 7) rfl rfl rfl rfl ⟨Nat.le_of_ble_eq_true rfl, Nat.le_of_ble_eq_true rfl⟩ ⟨Nat.le_of_ble_eq_true rfl, Nat.le_of_ble_eq_true rfl⟩ (Nat.le_of_ble_eq_true rfl) rfl ?_
  exact Z_zret C hr hlk dX3_isStair_11 (bI_nar _) (congrArg (fun z => some (Value.int z)) (show (bI (mHasR M x)) = (bI (isInB x 0 ((M.2.2.2 2) - 1))) from by simp [mHasR])) rfl
set_option maxHeartbeats 4000000 in
set_option maxRecDepth 20000 in
theorem c_X3_to (M : Md) (x : Int32) (y : Int32) {i : Nat} (hx : x = nI i) (hi : i < 40) {w : Nat} (hy : y = nI w) (hw : w < 7) : CT yX3_to cX3_to 3 (some .int) 0 0 0 [.ref 0, .int x, .int y] (mdW 0 M) (some (.int (M.1 w i))) (mdW 0 M) := by
  refine CT_of (L := [(0, .ref 0), (1, .int x), (2, .int y)]) (by decide) (fun _ => rfl) (fun _ => Nat.le_of_ble_eq_true rfl) ?_
  intro p l e s m args below meth c G h A C hr hlk _
  subst hx
  subst hy
  refine Z_aload_n C dX3_to_0 rfl rfl ?_
  refine Z_get C K3 (v := .ref 1) 3 dX3_to_1 rfl (by decide) g_575 rfl rfl ?_
  refine Z_bipush C (v := 7) dX3_to_4 (by decide) ?_
  refine Z_iload_n C dX3_to_6 rfl rfl ?_
  refine Z_imul C (v := nI (7 * i)) dX3_to_7 (pk_mul 7 i) ?_
  refine Z_iload_n C dX3_to_8 rfl rfl ?_
  refine Z_iadd C (v := nI (7 * i + w)) dX3_to_9 (nI_add _ _) ?_
  refine Z_iaN C (v := M.1 w i) dX3_to_10 rfl (by omega) (by decide) (tw_at M.1 hw) ?_
  exact Z_iret C hr hlk dX3_to_11 rfl rfl
set_option maxHeartbeats 4000000 in
set_option maxRecDepth 20000 in
theorem c_X3_put (M : Md) (x : Int32) (y : Int32) (v : Int32) {i : Nat} (hx : x = nI i) (hi : i < 40) {w : Nat} (hy : y = nI w) (hw : w < 7) : CT yX3_put cX3_put 4 none 0 0 0 [.ref 0, .int x, .int y, .int v] (mdW 0 M) none (mdW 0 (tA M w i v)) := by
  refine CT_of (L := [(0, .ref 0), (1, .int x), (2, .int y), (3, .int v)]) (by decide) (fun _ => rfl) (fun _ => Nat.le_of_ble_eq_true rfl) ?_
  intro p l e s m args below meth c G h A C hr hlk _
  subst hx
  subst hy
  refine Z_aload_n C dX3_put_0 rfl rfl ?_
  refine Z_get C K3 (v := .ref 1) 3 dX3_put_1 rfl (by decide) g_575 rfl rfl ?_
  refine Z_bipush C (v := 7) dX3_put_4 (by decide) ?_
  refine Z_iload_n C dX3_put_6 rfl rfl ?_
  refine Z_imul C (v := nI (7 * i)) dX3_put_7 (pk_mul 7 i) ?_
  refine Z_iload_n C dX3_put_8 rfl rfl ?_
  refine Z_iadd C (v := nI (7 * i + w)) dX3_put_9 (nI_add _ _) ?_
  refine Z_iload_n C dX3_put_10 rfl rfl ?_
  refine Z_isN C (ws' := mdW 0 (tA M w i v)) dX3_put_11 rfl (by omega) (by decide) (by rw [tw_upd _ hw]; rfl) ?_
  exact Z_vret C hr hlk dX3_put_12 rfl rfl
set_option maxHeartbeats 4000000 in
set_option maxRecDepth 20000 in
theorem c_X3_st (M : Md) (x : Int32) (y : Int32) {i : Nat} (hx : x = nI i) (hi : i < 30) {w : Nat} (hy : y = nI w) (hw : w < 3) : CT yX3_st cX3_st 3 (some .int) 0 0 0 [.ref 0, .int x, .int y] (mdW 0 M) (some (.int (M.2.1 w i))) (mdW 0 M) := by
  refine CT_of (L := [(0, .ref 0), (1, .int x), (2, .int y)]) (by decide) (fun _ => rfl) (fun _ => Nat.le_of_ble_eq_true rfl) ?_
  intro p l e s m args below meth c G h A C hr hlk _
  subst hx
  subst hy
  refine Z_aload_n C dX3_st_0 rfl rfl ?_
  refine Z_get C K3 (v := .ref 2) 4 dX3_st_1 rfl (by decide) g_576 rfl rfl ?_
  refine Z_iconst C (v := 3) dX3_st_4 (by decide) ?_
  refine Z_iload_n C dX3_st_5 rfl rfl ?_
  refine Z_imul C (v := nI (3 * i)) dX3_st_6 (pk_mul 3 i) ?_
  refine Z_iload_n C dX3_st_7 rfl rfl ?_
  refine Z_iadd C (v := nI (3 * i + w)) dX3_st_8 (nI_add _ _) ?_
  refine Z_iaN C (v := M.2.1 w i) dX3_st_9 rfl (by omega) (by decide) (wy_at M.2.1 hw) ?_
  exact Z_iret C hr hlk dX3_st_10 rfl rfl
set_option maxHeartbeats 4000000 in
set_option maxRecDepth 20000 in
theorem c_X3_hangs (M : Md) (x : Int32) {i : Nat} (hx : x = nI i) (hi : i < 40) : CT yX3_hangs cX3_hangs 2 (some .boolean) 1 0 0 [.ref 0, .int x] (mdW 0 M) (some (.int (bI (mHg M i)))) (mdW 0 M) := by
  refine CT_of (L := [(0, .ref 0), (1, .int x)]) (by decide) (fun _ => rfl) (fun _ => Nat.le_of_ble_eq_true rfl) ?_
  intro p l e s m args below meth c G h A C hr hlk _
  subst hx
  refine Z_aload_n C dX3_hangs_0 rfl rfl ?_
  refine Z_iload_n C dX3_hangs_1 rfl rfl ?_
  refine Z_iconst C (v := 2) dX3_hangs_2 (by decide) ?_
  refine Z_callV C (ws' := mdW 0 M) (st' := [.int (M.1 2 i)]) (rest := []) [0, 1, 2, 3, 4, 5, 6] (c_X3_to M (nI i) 2 rfl (by omega) rfl (by decide)) m_X3_to K3 g_634 dX3_hangs_3 rfl rfl rfl (outR _ _ _) (NW := 7) rfl rfl rfl rfl rfl ⟨Nat.le_of_ble_eq_true rfl, Nat.le_of_ble_eq_true rfl⟩ ⟨Nat.le_of_ble_eq_true rfl, Nat.le_of_ble_eq_true rfl⟩ (Nat.le_of_ble_eq_true rfl) rfl ?_
  refine Z_iconst C (v := 1) dX3_hangs_6 (by decide) ?_
  refine Z_icmp_ne C 14 dX3_hangs_7 (by decide) (fun c1 => ?_) (fun c1 => ?_)
  · refine Z_iconst C (v := 0) dX3_hangs_14 (by decide) ?_
    exact Z_zret C hr hlk dX3_hangs_15 rfl (congrArg (fun z => some (Value.int z)) (show (bI (mHg M i)) = 0 from by simp [mHg, bI, c1])) rfl
  · refine Z_iconst C (v := 1) dX3_hangs_10 (by decide) ?_
    refine Z_goto C 15 dX3_hangs_11 (by decide) ?_
    exact Z_zret C hr hlk dX3_hangs_15 rfl (congrArg (fun z => some (Value.int z)) (show (bI (mHg M i)) = 1 from by simp [mHg, bI, c1])) rfl
set_option maxHeartbeats 4000000 in
set_option maxRecDepth 20000 in
theorem c_X3_isHeldBy (M : Md) (x : Int32) (y : Int32) {i : Nat} (hx : x = nI i) (hi : i < 40) : CT yX3_isHeldBy cX3_isHeldBy 3 (some .boolean) 1 0 0 [.ref 0, .int x, .int y] (mdW 0 M) (some (.int (bI (heldB M i y)))) (mdW 0 M) := by
  refine CT_of (L := [(0, .ref 0), (1, .int x), (2, .int y)]) (by decide) (fun _ => rfl) (fun _ => Nat.le_of_ble_eq_true rfl) ?_
  intro p l e s m args below meth c G h A C hr hlk _
  subst hx
  refine Z_aload_n C dX3_isHeldBy_0 rfl rfl ?_
  refine Z_iload_n C dX3_isHeldBy_1 rfl rfl ?_
  refine Z_iconst C (v := 4) dX3_isHeldBy_2 (by decide) ?_
  refine Z_callV C (ws' := mdW 0 M) (st' := [.int (M.1 4 i)]) (rest := []) [0, 1, 2, 3, 4, 5, 6] (c_X3_to M (nI i) 4 rfl (by omega) rfl (by decide)) m_X3_to K3 g_634 dX3_isHeldBy_3 rfl rfl rfl (outR _ _ _) (NW := 7) rfl rfl rfl rfl rfl ⟨Nat.le_of_ble_eq_true rfl, Nat.le_of_ble_eq_true rfl⟩ ⟨Nat.le_of_ble_eq_true rfl, Nat.le_of_ble_eq_true rfl⟩ (Nat.le_of_ble_eq_true rfl) rfl ?_
  refine Z_iload_n C dX3_isHeldBy_6 rfl rfl ?_
  refine Z_icmp_eq C 20 dX3_isHeldBy_7 (by decide) (fun c1 => ?_) (fun c1 => ?_)
  · refine Z_iconst C (v := 1) dX3_isHeldBy_20 (by decide) ?_
    refine Z_goto C 25 dX3_isHeldBy_21 (by decide) ?_
    exact Z_zret C hr hlk dX3_isHeldBy_25 rfl (congrArg (fun z => some (Value.int z)) (show (bI (heldB M i y)) = 1 from by simp [heldB, bI, c1])) rfl
  · refine Z_aload_n C dX3_isHeldBy_10 rfl rfl ?_
    refine Z_iload_n C dX3_isHeldBy_11 rfl rfl ?_
    refine Z_iconst C (v := 5) dX3_isHeldBy_12 (by decide) ?_
    refine Z_callV C (ws' := mdW 0 M) (st' := [.int (M.1 5 i)]) (rest := []) [0, 1, 2, 3, 4, 5, 6] (c_X3_to M (nI i) 5 rfl (by omega) rfl (by decide)) m_X3_to K3 g_634 dX3_isHeldBy_13 rfl rfl rfl (outR _ _ _) (NW := 7) rfl rfl rfl rfl rfl ⟨Nat.le_of_ble_eq_true rfl, Nat.le_of_ble_eq_true rfl⟩ ⟨Nat.le_of_ble_eq_true rfl, Nat.le_of_ble_eq_true rfl⟩ (Nat.le_of_ble_eq_true rfl) rfl ?_
    refine Z_iload_n C dX3_isHeldBy_16 rfl rfl ?_
    refine Z_icmp_ne C 24 dX3_isHeldBy_17 (by decide) (fun c2 => ?_) (fun c2 => ?_)
    · refine Z_iconst C (v := 0) dX3_isHeldBy_24 (by decide) ?_
      exact Z_zret C hr hlk dX3_isHeldBy_25 rfl (congrArg (fun z => some (Value.int z)) (show (bI (heldB M i y)) = 0 from by simp [heldB, bI, c1, c2])) rfl
    · refine Z_iconst C (v := 1) dX3_isHeldBy_20 (by decide) ?_
      refine Z_goto C 25 dX3_isHeldBy_21 (by decide) ?_
      exact Z_zret C hr hlk dX3_isHeldBy_25 rfl (congrArg (fun z => some (Value.int z)) (show (bI (heldB M i y)) = 1 from by simp [heldB, bI, c1, c2])) rfl
set_option maxHeartbeats 4000000 in
set_option maxRecDepth 20000 in
theorem c_X3_reckon (M : Md) {n r : Nat} (hn : M.2.2.2 1 = nI n) (h40 : n ≤ 40) (hq : M.2.2.2 2 = nI r) (h30 : r ≤ 30) (ho : okM n M) : CT yX3_reckon cX3_reckon 3 none 2 0 0 [.ref 0] (mdW 0 M) none (mdW 0 (mRk M)) := by
  refine CT_of (L := [(0, .ref 0)]) (by decide) (fun _ => rfl) (fun _ => Nat.le_of_ble_eq_true rfl) ?_
  intro p l e s m args below meth c G h A C hr hlk _
  refine Z_iconst C (v := 0) dX3_reckon_0 (by decide) ?_
  refine Z_istore_n C (L' := [(1, .int 0), (0, .ref 0)]) dX3_reckon_1 rfl (by decide) rfl ?_
  refine Zfor (σ := Md) (fun i T1 => Z p l e _ s m args below meth c 3 G A h _ 0 0 (mdW 0 T1) 2 [(1, .int (nI i)), (0, .ref 0)] []) (fun i T1 => T1.2.2.2 1 = nI n ∧ okM n T1) (mrk0) n (M) (⟨hn, ho⟩) (fun i T1 hi hT1 => hT1) (fun T1 hT1 eT1 => ?_) (fun i T1 hi hT1 hT1' kk => ?_)
  · refine Z_iload_n C dX3_reckon_2 rfl rfl ?_
    refine Z_aload_n C dX3_reckon_3 rfl rfl ?_
    refine Z_get C K3 (v := .int (T1.2.2.2 1)) 1 dX3_reckon_4 rfl (by decide) g_573 rfl rfl ?_
    refine Z_icmp_ge C 23 dX3_reckon_7 (by decide) (fun c1 => ?_) (fun c1 => absurd (ge_yes hT1.1) c1)
    refine Z_aload_n C dX3_reckon_23 rfl rfl ?_
    refine Z_get C K3 (v := .int (T1.2.2.2 1)) 1 dX3_reckon_24 rfl (by decide) g_573 rfl rfl ?_
    refine Z_iconst C (v := 1) dX3_reckon_27 (by decide) ?_
    refine Z_isub C (v := dn n) dX3_reckon_28 (by rw [hT1.1]; exact dn_sub n) ?_
    refine Z_istore_n C (L' := [(1, .int (dn n)), (0, .ref 0)]) dX3_reckon_29 rfl (by decide) rfl ?_
    refine ZforD (σ := Md) (fun i T2 => Z p l e _ s m args below meth c 3 G A h _ 0 0 (mdW 0 T2) 30 [(1, .int (dn i)), (0, .ref 0)] []) (fun i T2 => T2.2.2.2 1 = nI n ∧ okM n T2) (mrk1) n (T1) (⟨hT1.1, hT1.2⟩) (fun i T2 hi hT2 => ⟨(congrFun (mi_rk1 i T2) 1).trans hT2.1, ok_of (mt_rk1 i T2) hT2.2⟩) (fun T2 hT2 eT2 => ?_) (fun i T2 hi hT2 hT2' kk => ?_)
    · refine Z_iload_n C dX3_reckon_30 rfl rfl ?_
      refine Z_if_lt C 183 dX3_reckon_31 (by decide) (fun c2 => ?_) (fun c2 => absurd (show dn 0 < 0 from by decide) c2)
      exact Z_vret C hr hlk dX3_reckon_183 rfl (by rw [show (mRk M) = T2 from by subst eT1 eT2; simp only [mRk, mN_eq hn h40]])
    · refine Z_pc (L := [(1, .int (nI i)), (0, .ref 0)]) (by simp [dn]) ?_
      refine Z_iload_n C dX3_reckon_30 rfl rfl ?_
      refine Z_if_lt C 183 dX3_reckon_31 (by decide) (fun c3 => absurd c3 (show ¬ nI i < 0 from nI_pos (by omega))) (fun c3 => ?_)
      refine Z_aload_n C dX3_reckon_34 rfl rfl ?_
      refine Z_get C K3 (v := .ref 4) 6 dX3_reckon_35 rfl (by decide) g_578 rfl rfl ?_
      refine Z_iload_n C dX3_reckon_38 rfl rfl ?_
      refine Z_aload_n C dX3_reckon_39 rfl rfl ?_
      refine Z_iload_n C dX3_reckon_40 rfl rfl ?_
      refine Z_callV C (ws' := mdW 0 T2) (st' := [.int (bI (mHg T2 i)), .int (nI i), .ref 4]) (rest := [.int (nI i), .ref 4]) [0, 1, 2, 3, 4, 5, 6] (c_X3_hangs T2 (nI i) rfl (by omega)) m_X3_hangs K3 g_630 dX3_reckon_41 rfl rfl rfl (outR _ _ _) (NW := 7) rfl rfl rfl rfl rfl ⟨Nat.le_of_ble_eq_true rfl, Nat.le_of_ble_eq_true rfl⟩ ⟨Nat.le_of_ble_eq_true rfl, Nat.le_of_ble_eq_true rfl⟩ (Nat.le_of_ble_eq_true rfl) rfl ?_
      refine Z_if_eq C 75 dX3_reckon_44 (by decide) (fun c4 => ?_) (fun c4 => ?_)
      · have c4 := bI_0.mp c4
        refine Z_iconst C (v := 0) dX3_reckon_75 (by decide) ?_
        refine Z_isN C (ws' := mdW 0 (aA T2 1 i 0)) dX3_reckon_76 rfl (by omega) (by decide) rfl ?_
        refine Z_aload_n C dX3_reckon_77 rfl rfl ?_
        refine Z_iload_n C dX3_reckon_78 rfl rfl ?_
        refine Z_callV C (ws' := mdW 0 (aA T2 1 i 0)) (st' := [.int (bI (mHg (aA T2 1 i 0) i))]) (rest := []) [0, 1, 2, 3, 4, 5, 6] (c_X3_hangs (aA T2 1 i 0) (nI i) rfl (by omega)) m_X3_hangs K3 g_630 dX3_reckon_79 rfl rfl rfl (outR _ _ _) (NW := 7) rfl rfl rfl rfl rfl ⟨Nat.le_of_ble_eq_true rfl, Nat.le_of_ble_eq_true rfl⟩ ⟨Nat.le_of_ble_eq_true rfl, Nat.le_of_ble_eq_true rfl⟩ (Nat.le_of_ble_eq_true rfl) rfl ?_
        refine Z_if_eq C 177 dX3_reckon_82 (by decide) (fun c5 => ?_) (fun c5 => ?_)
        · have c5 := bI_0.mp c5
          refine Z_iinc C (L' := [(1, .int (dn i)), (0, .ref 0)]) (v := dn i) dX3_reckon_177 rfl (dn_dec _) (by decide) rfl ?_
          refine Z_goto C 30 dX3_reckon_180 (by decide) ?_
          rw [show mrk1 i T2 = (aA T2 1 i 0) from by subst eT1; simp [mrk1, mrkB, mP1, mP2, mLd, mSh, mHg_t, upd, c1, c3, c4, c5]] at kk
          exact Z_sub (by simp [bI_t, bI_f]) kk
        · have c5 := bI_n0.mp c5
          refine Z_aload_n C dX3_reckon_85 rfl rfl ?_
          refine Z_iload_n C dX3_reckon_86 rfl rfl ?_
          refine Z_iconst C (v := 4) dX3_reckon_87 (by decide) ?_
          refine Z_callV C (ws' := mdW 0 (aA T2 1 i 0)) (st' := [.int (T2.1 4 i)]) (rest := []) [0, 1, 2, 3, 4, 5, 6] (c_X3_to (aA T2 1 i 0) (nI i) 4 rfl (by omega) rfl (by decide)) m_X3_to K3 g_634 dX3_reckon_88 rfl rfl rfl (outR _ _ _) (NW := 7) rfl rfl rfl rfl rfl ⟨Nat.le_of_ble_eq_true rfl, Nat.le_of_ble_eq_true rfl⟩ ⟨Nat.le_of_ble_eq_true rfl, Nat.le_of_ble_eq_true rfl⟩ (Nat.le_of_ble_eq_true rfl) rfl ?_
          refine Z_iconst C (v := (-1)) dX3_reckon_91 (by decide) ?_
          refine Z_icmp_ne C 98 dX3_reckon_92 (by decide) (fun c6 => ?_) (fun c6 => ?_)
          · refine Z_aload_n C dX3_reckon_98 rfl rfl ?_
            refine Z_iload_n C dX3_reckon_99 rfl rfl ?_
            refine Z_iconst C (v := 5) dX3_reckon_100 (by decide) ?_
            refine Z_callV C (ws' := mdW 0 (aA T2 1 i 0)) (st' := [.int (T2.1 5 i)]) (rest := []) [0, 1, 2, 3, 4, 5, 6] (c_X3_to (aA T2 1 i 0) (nI i) 5 rfl (by omega) rfl (by decide)) m_X3_to K3 g_634 dX3_reckon_101 rfl rfl rfl (outR _ _ _) (NW := 7) rfl rfl rfl rfl rfl ⟨Nat.le_of_ble_eq_true rfl, Nat.le_of_ble_eq_true rfl⟩ ⟨Nat.le_of_ble_eq_true rfl, Nat.le_of_ble_eq_true rfl⟩ (Nat.le_of_ble_eq_true rfl) rfl ?_
            refine Z_iconst C (v := (-1)) dX3_reckon_104 (by decide) ?_
            refine Z_icmp_ne C 112 dX3_reckon_105 (by decide) (fun c7 => ?_) (fun c7 => ?_)
            · refine Z_iconst C (v := 0) dX3_reckon_112 (by decide) ?_
              refine Z_istore_n C (L' := [(2, .int 0), (1, .int (nI i)), (0, .ref 0)]) dX3_reckon_113 rfl (by decide) rfl ?_
              refine Z_aload_n C dX3_reckon_114 rfl rfl ?_
              refine Z_get C K3 (v := .ref 5) 7 dX3_reckon_115 rfl (by decide) g_579 rfl rfl ?_
              refine Z_aload_n C dX3_reckon_118 rfl rfl ?_
              refine Z_iload_n C dX3_reckon_119 rfl rfl ?_
              refine Z_iconst C (v := 4) dX3_reckon_120 (by decide) ?_
              refine Z_callV C (ws' := mdW 0 (aA T2 1 i 0)) (st' := [.int (T2.1 4 i), .ref 5]) (rest := [.ref 5]) [0, 1, 2, 3, 4, 5, 6] (c_X3_to (aA T2 1 i 0) (nI i) 4 rfl (by omega) rfl (by decide)) m_X3_to K3 g_634 dX3_reckon_121 rfl rfl rfl (outR _ _ _) (NW := 7) rfl rfl rfl rfl rfl ⟨Nat.le_of_ble_eq_true rfl, Nat.le_of_ble_eq_true rfl⟩ ⟨Nat.le_of_ble_eq_true rfl, Nat.le_of_ble_eq_true rfl⟩ (Nat.le_of_ble_eq_true rfl) rfl ?_
              obtain ⟨j, hj, qj⟩ := okH_j (hT2.2 i hi).1 c6
              have ej : ix (T2.1 4 i) = j := by rw [qj]; exact ix_nI (by omega)
              refine Z_st (st := [.int (nI j), .ref 5]) (by rw [qj]) ?_
              refine Z_dup2_11 C dX3_reckon_124 rfl rfl ?_
              refine Z_iaN C (v := T2.2.2.1 2 j) dX3_reckon_125 rfl (by omega) (by decide) rfl ?_
              refine Z_iload_n C dX3_reckon_126 rfl rfl ?_
              refine Z_if_eq C 139 dX3_reckon_127 (by decide) (fun c8 => ?_) (fun c8 => absurd rfl c8)
              refine Z_aload_n C dX3_reckon_139 rfl rfl ?_
              refine Z_get C K3 (v := .ref 4) 6 dX3_reckon_140 rfl (by decide) g_578 rfl rfl ?_
              refine Z_iload_n C dX3_reckon_143 rfl rfl ?_
              refine Z_iaN C (v := (aA T2 1 i 0).2.2.1 1 i) dX3_reckon_144 rfl (by omega) (by decide) rfl ?_
              refine Z_iconst C (v := 1) dX3_reckon_145 (by decide) ?_
              refine Z_iadd C (v := ((aA T2 1 i 0).2.2.1 1 i) + 1) dX3_reckon_146 rfl ?_
              refine Z_iconst C (v := 2) dX3_reckon_147 (by decide) ?_
              refine Z_idiv C (v := (((aA T2 1 i 0).2.2.1 1 i) + 1) / 2) dX3_reckon_148 (by decide) rfl ?_
              refine Z_iadd C (v := (T2.2.2.1 2 j) + ((((aA T2 1 i 0).2.2.1 1 i) + 1) / 2)) dX3_reckon_149 rfl ?_
              refine Z_isN C (ws' := mdW 0 (aA (aA T2 1 i 0) 2 j ((T2.2.2.1 2 j) + ((((aA T2 1 i 0).2.2.1 1 i) + 1) / 2)))) dX3_reckon_150 rfl (by omega) (by decide) rfl ?_
              refine Z_iload_n C dX3_reckon_151 rfl rfl ?_
              refine Z_if_ne C 177 dX3_reckon_152 (by decide) (fun c9 => absurd rfl c9) (fun c9 => ?_)
              refine Z_aload_n C dX3_reckon_155 rfl rfl ?_
              refine Z_get C K3 (v := .ref 5) 7 dX3_reckon_156 rfl (by decide) g_579 rfl rfl ?_
              refine Z_aload_n C dX3_reckon_159 rfl rfl ?_
              refine Z_iload_n C dX3_reckon_160 rfl rfl ?_
              refine Z_iconst C (v := 5) dX3_reckon_161 (by decide) ?_
              refine Z_callV C (ws' := mdW 0 (aA (aA T2 1 i 0) 2 j ((T2.2.2.1 2 j) + ((((aA T2 1 i 0).2.2.1 1 i) + 1) / 2)))) (st' := [.int (T2.1 5 i), .ref 5]) (rest := [.ref 5]) [0, 1, 2, 3, 4, 5, 6] (c_X3_to (aA (aA T2 1 i 0) 2 j ((T2.2.2.1 2 j) + ((((aA T2 1 i 0).2.2.1 1 i) + 1) / 2))) (nI i) 5 rfl (by omega) rfl (by decide)) m_X3_to K3 g_634 dX3_reckon_162 rfl rfl rfl (outR _ _ _) (NW := 7) rfl rfl rfl rfl rfl ⟨Nat.le_of_ble_eq_true rfl, Nat.le_of_ble_eq_true rfl⟩ ⟨Nat.le_of_ble_eq_true rfl, Nat.le_of_ble_eq_true rfl⟩ (Nat.le_of_ble_eq_true rfl) rfl ?_
              obtain ⟨k, hk, qk⟩ := okH_j (hT2.2 i hi).2 c7
              have ek : ix (T2.1 5 i) = k := by rw [qk]; exact ix_nI (by omega)
              refine Z_st (st := [.int (nI k), .ref 5]) (by rw [qk]) ?_
              refine Z_dup2_11 C dX3_reckon_165 rfl rfl ?_
              refine Z_iaN C (v := (aA (aA T2 1 i 0) 2 j ((T2.2.2.1 2 j) + ((((aA T2 1 i 0).2.2.1 1 i) + 1) / 2))).2.2.1 2 k) dX3_reckon_166 rfl (by omega) (by decide) rfl ?_
              refine Z_aload_n C dX3_reckon_167 rfl rfl ?_
              refine Z_get C K3 (v := .ref 4) 6 dX3_reckon_168 rfl (by decide) g_578 rfl rfl ?_
              refine Z_iload_n C dX3_reckon_171 rfl rfl ?_
              refine Z_iaN C (v := (aA T2 1 i 0).2.2.1 1 i) dX3_reckon_172 rfl (by omega) (by decide) rfl ?_
              refine Z_iconst C (v := 2) dX3_reckon_173 (by decide) ?_
              refine Z_idiv C (v := ((aA T2 1 i 0).2.2.1 1 i) / 2) dX3_reckon_174 (by decide) rfl ?_
              refine Z_iadd C (v := ((aA (aA T2 1 i 0) 2 j ((T2.2.2.1 2 j) + ((((aA T2 1 i 0).2.2.1 1 i) + 1) / 2))).2.2.1 2 k) + (((aA T2 1 i 0).2.2.1 1 i) / 2)) dX3_reckon_175 rfl ?_
              refine Z_isN C (ws' := mdW 0 (aA (aA (aA T2 1 i 0) 2 j ((T2.2.2.1 2 j) + ((((aA T2 1 i 0).2.2.1 1 i) + 1) / 2))) 2 k (((aA (aA T2 1 i 0) 2 j ((T2.2.2.1 2 j) + ((((aA T2 1 i 0).2.2.1 1 i) + 1) / 2))).2.2.1 2 k) + (((aA T2 1 i 0).2.2.1 1 i) / 2)))) dX3_reckon_176 rfl (by omega) (by decide) rfl ?_
              refine Z_iinc C (L' := [(1, .int (dn i)), (2, .int 0), (0, .ref 0)]) (v := dn i) dX3_reckon_177 rfl (dn_dec _) (by decide) rfl ?_
              refine Z_goto C 30 dX3_reckon_180 (by decide) ?_
              rw [show mrk1 i T2 = (aA (aA (aA T2 1 i 0) 2 j ((T2.2.2.1 2 j) + ((((aA T2 1 i 0).2.2.1 1 i) + 1) / 2))) 2 k (((aA (aA T2 1 i 0) 2 j ((T2.2.2.1 2 j) + ((((aA T2 1 i 0).2.2.1 1 i) + 1) / 2))).2.2.1 2 k) + (((aA T2 1 i 0).2.2.1 1 i) / 2))) from by subst eT1; simp [mrk1, mrkB, mP1, mP2, mLd, mSh, mHg_t, upd, c1, c3, c4, c5, c6, c7, ej, ek]] at kk
              exact Z_sub (by simp [bI_t, bI_f]) kk
            · refine Z_iconst C (v := 1) dX3_reckon_108 (by decide) ?_
              refine Z_goto C 113 dX3_reckon_109 (by decide) ?_
              refine Z_istore_n C (L' := [(2, .int 1), (1, .int (nI i)), (0, .ref 0)]) dX3_reckon_113 rfl (by decide) rfl ?_
              refine Z_aload_n C dX3_reckon_114 rfl rfl ?_
              refine Z_get C K3 (v := .ref 5) 7 dX3_reckon_115 rfl (by decide) g_579 rfl rfl ?_
              refine Z_aload_n C dX3_reckon_118 rfl rfl ?_
              refine Z_iload_n C dX3_reckon_119 rfl rfl ?_
              refine Z_iconst C (v := 4) dX3_reckon_120 (by decide) ?_
              refine Z_callV C (ws' := mdW 0 (aA T2 1 i 0)) (st' := [.int (T2.1 4 i), .ref 5]) (rest := [.ref 5]) [0, 1, 2, 3, 4, 5, 6] (c_X3_to (aA T2 1 i 0) (nI i) 4 rfl (by omega) rfl (by decide)) m_X3_to K3 g_634 dX3_reckon_121 rfl rfl rfl (outR _ _ _) (NW := 7) rfl rfl rfl rfl rfl ⟨Nat.le_of_ble_eq_true rfl, Nat.le_of_ble_eq_true rfl⟩ ⟨Nat.le_of_ble_eq_true rfl, Nat.le_of_ble_eq_true rfl⟩ (Nat.le_of_ble_eq_true rfl) rfl ?_
              obtain ⟨j, hj, qj⟩ := okH_j (hT2.2 i hi).1 c6
              have ej : ix (T2.1 4 i) = j := by rw [qj]; exact ix_nI (by omega)
              refine Z_st (st := [.int (nI j), .ref 5]) (by rw [qj]) ?_
              refine Z_dup2_11 C dX3_reckon_124 rfl rfl ?_
              refine Z_iaN C (v := T2.2.2.1 2 j) dX3_reckon_125 rfl (by omega) (by decide) rfl ?_
              refine Z_iload_n C dX3_reckon_126 rfl rfl ?_
              refine Z_if_eq C 139 dX3_reckon_127 (by decide) (fun c10 => absurd c10 (by decide)) (fun c10 => ?_)
              refine Z_aload_n C dX3_reckon_130 rfl rfl ?_
              refine Z_get C K3 (v := .ref 4) 6 dX3_reckon_131 rfl (by decide) g_578 rfl rfl ?_
              refine Z_iload_n C dX3_reckon_134 rfl rfl ?_
              refine Z_iaN C (v := (aA T2 1 i 0).2.2.1 1 i) dX3_reckon_135 rfl (by omega) (by decide) rfl ?_
              refine Z_goto C 149 dX3_reckon_136 (by decide) ?_
              refine Z_iadd C (v := (T2.2.2.1 2 j) + ((aA T2 1 i 0).2.2.1 1 i)) dX3_reckon_149 rfl ?_
              refine Z_isN C (ws' := mdW 0 (aA (aA T2 1 i 0) 2 j ((T2.2.2.1 2 j) + ((aA T2 1 i 0).2.2.1 1 i)))) dX3_reckon_150 rfl (by omega) (by decide) rfl ?_
              refine Z_iload_n C dX3_reckon_151 rfl rfl ?_
              refine Z_if_ne C 177 dX3_reckon_152 (by decide) (fun c11 => ?_) (fun c11 => absurd c11 (by decide))
              refine Z_iinc C (L' := [(1, .int (dn i)), (2, .int 1), (0, .ref 0)]) (v := dn i) dX3_reckon_177 rfl (dn_dec _) (by decide) rfl ?_
              refine Z_goto C 30 dX3_reckon_180 (by decide) ?_
              rw [show mrk1 i T2 = (aA (aA T2 1 i 0) 2 j ((T2.2.2.1 2 j) + ((aA T2 1 i 0).2.2.1 1 i))) from by subst eT1; simp [mrk1, mrkB, mP1, mP2, mLd, mSh, mHg_t, upd, c1, c3, c4, c5, c6, c7, ej]] at kk
              exact Z_sub (by simp [bI_t, bI_f]) kk
          · refine Z_goto C 177 dX3_reckon_95 (by decide) ?_
            refine Z_iinc C (L' := [(1, .int (dn i)), (0, .ref 0)]) (v := dn i) dX3_reckon_177 rfl (dn_dec _) (by decide) rfl ?_
            refine Z_goto C 30 dX3_reckon_180 (by decide) ?_
            rw [show mrk1 i T2 = (aA T2 1 i 0) from by subst eT1; simp [mrk1, mrkB, mP1, mP2, mLd, mSh, mHg_t, upd, c1, c3, c4, c5, c6]] at kk
            exact Z_sub (by simp [bI_t, bI_f]) kk
      · have c4 := bI_n0.mp c4
        refine Z_iconst C (v := 0) dX3_reckon_47 (by decide) ?_
        refine Z_aload_n C dX3_reckon_48 rfl rfl ?_
        refine Z_iload_n C dX3_reckon_49 rfl rfl ?_
        refine Z_iconst C (v := 0) dX3_reckon_50 (by decide) ?_
        refine Z_callV C (ws' := mdW 0 T2) (st' := [.int (T2.1 0 i), .int 0, .int (nI i), .ref 4]) (rest := [.int 0, .int (nI i), .ref 4]) [0, 1, 2, 3, 4, 5, 6] (c_X3_to T2 (nI i) 0 rfl (by omega) rfl (by decide)) m_X3_to K3 g_634 dX3_reckon_51 rfl rfl rfl (outR _ _ _) (NW := 7) rfl rfl rfl rfl rfl ⟨Nat.le_of_ble_eq_true rfl, Nat.le_of_ble_eq_true rfl⟩ ⟨Nat.le_of_ble_eq_true rfl, Nat.le_of_ble_eq_true rfl⟩ (Nat.le_of_ble_eq_true rfl) rfl ?_
        refine Z_aload_n C dX3_reckon_54 rfl rfl ?_
        refine Z_get C K3 (v := .ref 5) 7 dX3_reckon_55 rfl (by decide) g_579 rfl rfl ?_
        refine Z_iload_n C dX3_reckon_58 rfl rfl ?_
        refine Z_iaN C (v := T2.2.2.1 2 i) dX3_reckon_59 rfl (by omega) (by decide) rfl ?_
        refine Z_iadd C (v := (T2.1 0 i) + (T2.2.2.1 2 i)) dX3_reckon_60 rfl ?_
        refine Z_aload_n C dX3_reckon_61 rfl rfl ?_
        refine Z_iload_n C dX3_reckon_62 rfl rfl ?_
        refine Z_bipush C (v := 6) dX3_reckon_63 (by decide) ?_
        refine Z_callV C (ws' := mdW 0 T2) (st' := [.int (T2.1 6 i), .int ((T2.1 0 i) + (T2.2.2.1 2 i)), .int 0, .int (nI i), .ref 4]) (rest := [.int ((T2.1 0 i) + (T2.2.2.1 2 i)), .int 0, .int (nI i), .ref 4]) [0, 1, 2, 3, 4, 5, 6] (c_X3_to T2 (nI i) 6 rfl (by omega) rfl (by decide)) m_X3_to K3 g_634 dX3_reckon_65 rfl rfl rfl (outR _ _ _) (NW := 7) rfl rfl rfl rfl rfl ⟨Nat.le_of_ble_eq_true rfl, Nat.le_of_ble_eq_true rfl⟩ ⟨Nat.le_of_ble_eq_true rfl, Nat.le_of_ble_eq_true rfl⟩ (Nat.le_of_ble_eq_true rfl) rfl ?_
        refine Z_isub C (v := ((T2.1 0 i) + (T2.2.2.1 2 i)) - (T2.1 6 i)) dX3_reckon_68 rfl ?_
        refine Z_mmax C (v := mx 0 (((T2.1 0 i) + (T2.2.2.1 2 i)) - (T2.1 6 i))) dX3_reckon_69 g_638 g_328 g_46 g_329 (Nat.le_of_ble_eq_true rfl) (Nat.le_of_ble_eq_true rfl) ⟨Nat.le_of_ble_eq_true rfl, Nat.le_of_ble_eq_true rfl⟩ rfl ?_
        refine Z_goto C 76 dX3_reckon_72 (by decide) ?_
        refine Z_isN C (ws' := mdW 0 (aA T2 1 i (mx 0 (((T2.1 0 i) + (T2.2.2.1 2 i)) - (T2.1 6 i))))) dX3_reckon_76 rfl (by omega) (by decide) rfl ?_
        refine Z_aload_n C dX3_reckon_77 rfl rfl ?_
        refine Z_iload_n C dX3_reckon_78 rfl rfl ?_
        refine Z_callV C (ws' := mdW 0 (aA T2 1 i (mx 0 (((T2.1 0 i) + (T2.2.2.1 2 i)) - (T2.1 6 i))))) (st' := [.int (bI (mHg (aA T2 1 i (mx 0 (((T2.1 0 i) + (T2.2.2.1 2 i)) - (T2.1 6 i)))) i))]) (rest := []) [0, 1, 2, 3, 4, 5, 6] (c_X3_hangs (aA T2 1 i (mx 0 (((T2.1 0 i) + (T2.2.2.1 2 i)) - (T2.1 6 i)))) (nI i) rfl (by omega)) m_X3_hangs K3 g_630 dX3_reckon_79 rfl rfl rfl (outR _ _ _) (NW := 7) rfl rfl rfl rfl rfl ⟨Nat.le_of_ble_eq_true rfl, Nat.le_of_ble_eq_true rfl⟩ ⟨Nat.le_of_ble_eq_true rfl, Nat.le_of_ble_eq_true rfl⟩ (Nat.le_of_ble_eq_true rfl) rfl ?_
        refine Z_if_eq C 177 dX3_reckon_82 (by decide) (fun c12 => ?_) (fun c12 => ?_)
        · have c12 := bI_0.mp c12
          refine Z_iinc C (L' := [(1, .int (dn i)), (0, .ref 0)]) (v := dn i) dX3_reckon_177 rfl (dn_dec _) (by decide) rfl ?_
          refine Z_goto C 30 dX3_reckon_180 (by decide) ?_
          rw [show mrk1 i T2 = (aA T2 1 i (mx 0 (((T2.1 0 i) + (T2.2.2.1 2 i)) - (T2.1 6 i)))) from by subst eT1; simp [mrk1, mrkB, mP1, mP2, mLd, mSh, mHg_t, upd, c1, c3, c4, c12]] at kk
          exact Z_sub (by simp [bI_t, bI_f]) kk
        · have c12 := bI_n0.mp c12
          refine Z_aload_n C dX3_reckon_85 rfl rfl ?_
          refine Z_iload_n C dX3_reckon_86 rfl rfl ?_
          refine Z_iconst C (v := 4) dX3_reckon_87 (by decide) ?_
          refine Z_callV C (ws' := mdW 0 (aA T2 1 i (mx 0 (((T2.1 0 i) + (T2.2.2.1 2 i)) - (T2.1 6 i))))) (st' := [.int (T2.1 4 i)]) (rest := []) [0, 1, 2, 3, 4, 5, 6] (c_X3_to (aA T2 1 i (mx 0 (((T2.1 0 i) + (T2.2.2.1 2 i)) - (T2.1 6 i)))) (nI i) 4 rfl (by omega) rfl (by decide)) m_X3_to K3 g_634 dX3_reckon_88 rfl rfl rfl (outR _ _ _) (NW := 7) rfl rfl rfl rfl rfl ⟨Nat.le_of_ble_eq_true rfl, Nat.le_of_ble_eq_true rfl⟩ ⟨Nat.le_of_ble_eq_true rfl, Nat.le_of_ble_eq_true rfl⟩ (Nat.le_of_ble_eq_true rfl) rfl ?_
          refine Z_iconst C (v := (-1)) dX3_reckon_91 (by decide) ?_
          refine Z_icmp_ne C 98 dX3_reckon_92 (by decide) (fun c13 => ?_) (fun c13 => ?_)
          · refine Z_aload_n C dX3_reckon_98 rfl rfl ?_
            refine Z_iload_n C dX3_reckon_99 rfl rfl ?_
            refine Z_iconst C (v := 5) dX3_reckon_100 (by decide) ?_
            refine Z_callV C (ws' := mdW 0 (aA T2 1 i (mx 0 (((T2.1 0 i) + (T2.2.2.1 2 i)) - (T2.1 6 i))))) (st' := [.int (T2.1 5 i)]) (rest := []) [0, 1, 2, 3, 4, 5, 6] (c_X3_to (aA T2 1 i (mx 0 (((T2.1 0 i) + (T2.2.2.1 2 i)) - (T2.1 6 i)))) (nI i) 5 rfl (by omega) rfl (by decide)) m_X3_to K3 g_634 dX3_reckon_101 rfl rfl rfl (outR _ _ _) (NW := 7) rfl rfl rfl rfl rfl ⟨Nat.le_of_ble_eq_true rfl, Nat.le_of_ble_eq_true rfl⟩ ⟨Nat.le_of_ble_eq_true rfl, Nat.le_of_ble_eq_true rfl⟩ (Nat.le_of_ble_eq_true rfl) rfl ?_
            refine Z_iconst C (v := (-1)) dX3_reckon_104 (by decide) ?_
            refine Z_icmp_ne C 112 dX3_reckon_105 (by decide) (fun c14 => ?_) (fun c14 => ?_)
            · refine Z_iconst C (v := 0) dX3_reckon_112 (by decide) ?_
              refine Z_istore_n C (L' := [(2, .int 0), (1, .int (nI i)), (0, .ref 0)]) dX3_reckon_113 rfl (by decide) rfl ?_
              refine Z_aload_n C dX3_reckon_114 rfl rfl ?_
              refine Z_get C K3 (v := .ref 5) 7 dX3_reckon_115 rfl (by decide) g_579 rfl rfl ?_
              refine Z_aload_n C dX3_reckon_118 rfl rfl ?_
              refine Z_iload_n C dX3_reckon_119 rfl rfl ?_
              refine Z_iconst C (v := 4) dX3_reckon_120 (by decide) ?_
              refine Z_callV C (ws' := mdW 0 (aA T2 1 i (mx 0 (((T2.1 0 i) + (T2.2.2.1 2 i)) - (T2.1 6 i))))) (st' := [.int (T2.1 4 i), .ref 5]) (rest := [.ref 5]) [0, 1, 2, 3, 4, 5, 6] (c_X3_to (aA T2 1 i (mx 0 (((T2.1 0 i) + (T2.2.2.1 2 i)) - (T2.1 6 i)))) (nI i) 4 rfl (by omega) rfl (by decide)) m_X3_to K3 g_634 dX3_reckon_121 rfl rfl rfl (outR _ _ _) (NW := 7) rfl rfl rfl rfl rfl ⟨Nat.le_of_ble_eq_true rfl, Nat.le_of_ble_eq_true rfl⟩ ⟨Nat.le_of_ble_eq_true rfl, Nat.le_of_ble_eq_true rfl⟩ (Nat.le_of_ble_eq_true rfl) rfl ?_
              obtain ⟨j, hj, qj⟩ := okH_j (hT2.2 i hi).1 c13
              have ej : ix (T2.1 4 i) = j := by rw [qj]; exact ix_nI (by omega)
              refine Z_st (st := [.int (nI j), .ref 5]) (by rw [qj]) ?_
              refine Z_dup2_11 C dX3_reckon_124 rfl rfl ?_
              refine Z_iaN C (v := T2.2.2.1 2 j) dX3_reckon_125 rfl (by omega) (by decide) rfl ?_
              refine Z_iload_n C dX3_reckon_126 rfl rfl ?_
              refine Z_if_eq C 139 dX3_reckon_127 (by decide) (fun c15 => ?_) (fun c15 => absurd rfl c15)
              refine Z_aload_n C dX3_reckon_139 rfl rfl ?_
              refine Z_get C K3 (v := .ref 4) 6 dX3_reckon_140 rfl (by decide) g_578 rfl rfl ?_
              refine Z_iload_n C dX3_reckon_143 rfl rfl ?_
              refine Z_iaN C (v := (aA T2 1 i (mx 0 (((T2.1 0 i) + (T2.2.2.1 2 i)) - (T2.1 6 i)))).2.2.1 1 i) dX3_reckon_144 rfl (by omega) (by decide) rfl ?_
              refine Z_iconst C (v := 1) dX3_reckon_145 (by decide) ?_
              refine Z_iadd C (v := ((aA T2 1 i (mx 0 (((T2.1 0 i) + (T2.2.2.1 2 i)) - (T2.1 6 i)))).2.2.1 1 i) + 1) dX3_reckon_146 rfl ?_
              refine Z_iconst C (v := 2) dX3_reckon_147 (by decide) ?_
              refine Z_idiv C (v := (((aA T2 1 i (mx 0 (((T2.1 0 i) + (T2.2.2.1 2 i)) - (T2.1 6 i)))).2.2.1 1 i) + 1) / 2) dX3_reckon_148 (by decide) rfl ?_
              refine Z_iadd C (v := (T2.2.2.1 2 j) + ((((aA T2 1 i (mx 0 (((T2.1 0 i) + (T2.2.2.1 2 i)) - (T2.1 6 i)))).2.2.1 1 i) + 1) / 2)) dX3_reckon_149 rfl ?_
              refine Z_isN C (ws' := mdW 0 (aA (aA T2 1 i (mx 0 (((T2.1 0 i) + (T2.2.2.1 2 i)) - (T2.1 6 i)))) 2 j ((T2.2.2.1 2 j) + ((((aA T2 1 i (mx 0 (((T2.1 0 i) + (T2.2.2.1 2 i)) - (T2.1 6 i)))).2.2.1 1 i) + 1) / 2)))) dX3_reckon_150 rfl (by omega) (by decide) rfl ?_
              refine Z_iload_n C dX3_reckon_151 rfl rfl ?_
              refine Z_if_ne C 177 dX3_reckon_152 (by decide) (fun c16 => absurd rfl c16) (fun c16 => ?_)
              refine Z_aload_n C dX3_reckon_155 rfl rfl ?_
              refine Z_get C K3 (v := .ref 5) 7 dX3_reckon_156 rfl (by decide) g_579 rfl rfl ?_
              refine Z_aload_n C dX3_reckon_159 rfl rfl ?_
              refine Z_iload_n C dX3_reckon_160 rfl rfl ?_
              refine Z_iconst C (v := 5) dX3_reckon_161 (by decide) ?_
              refine Z_callV C (ws' := mdW 0 (aA (aA T2 1 i (mx 0 (((T2.1 0 i) + (T2.2.2.1 2 i)) - (T2.1 6 i)))) 2 j ((T2.2.2.1 2 j) + ((((aA T2 1 i (mx 0 (((T2.1 0 i) + (T2.2.2.1 2 i)) - (T2.1 6 i)))).2.2.1 1 i) + 1) / 2)))) (st' := [.int (T2.1 5 i), .ref 5]) (rest := [.ref 5]) [0, 1, 2, 3, 4, 5, 6] (c_X3_to (aA (aA T2 1 i (mx 0 (((T2.1 0 i) + (T2.2.2.1 2 i)) - (T2.1 6 i)))) 2 j ((T2.2.2.1 2 j) + ((((aA T2 1 i (mx 0 (((T2.1 0 i) + (T2.2.2.1 2 i)) - (T2.1 6 i)))).2.2.1 1 i) + 1) / 2))) (nI i) 5 rfl (by omega) rfl (by decide)) m_X3_to K3 g_634 dX3_reckon_162 rfl rfl rfl (outR _ _ _) (NW := 7) rfl rfl rfl rfl rfl ⟨Nat.le_of_ble_eq_true rfl, Nat.le_of_ble_eq_true rfl⟩ ⟨Nat.le_of_ble_eq_true rfl, Nat.le_of_ble_eq_true rfl⟩ (Nat.le_of_ble_eq_true rfl) rfl ?_
              obtain ⟨k, hk, qk⟩ := okH_j (hT2.2 i hi).2 c14
              have ek : ix (T2.1 5 i) = k := by rw [qk]; exact ix_nI (by omega)
              refine Z_st (st := [.int (nI k), .ref 5]) (by rw [qk]) ?_
              refine Z_dup2_11 C dX3_reckon_165 rfl rfl ?_
              refine Z_iaN C (v := (aA (aA T2 1 i (mx 0 (((T2.1 0 i) + (T2.2.2.1 2 i)) - (T2.1 6 i)))) 2 j ((T2.2.2.1 2 j) + ((((aA T2 1 i (mx 0 (((T2.1 0 i) + (T2.2.2.1 2 i)) - (T2.1 6 i)))).2.2.1 1 i) + 1) / 2))).2.2.1 2 k) dX3_reckon_166 rfl (by omega) (by decide) rfl ?_
              refine Z_aload_n C dX3_reckon_167 rfl rfl ?_
              refine Z_get C K3 (v := .ref 4) 6 dX3_reckon_168 rfl (by decide) g_578 rfl rfl ?_
              refine Z_iload_n C dX3_reckon_171 rfl rfl ?_
              refine Z_iaN C (v := (aA T2 1 i (mx 0 (((T2.1 0 i) + (T2.2.2.1 2 i)) - (T2.1 6 i)))).2.2.1 1 i) dX3_reckon_172 rfl (by omega) (by decide) rfl ?_
              refine Z_iconst C (v := 2) dX3_reckon_173 (by decide) ?_
              refine Z_idiv C (v := ((aA T2 1 i (mx 0 (((T2.1 0 i) + (T2.2.2.1 2 i)) - (T2.1 6 i)))).2.2.1 1 i) / 2) dX3_reckon_174 (by decide) rfl ?_
              refine Z_iadd C (v := ((aA (aA T2 1 i (mx 0 (((T2.1 0 i) + (T2.2.2.1 2 i)) - (T2.1 6 i)))) 2 j ((T2.2.2.1 2 j) + ((((aA T2 1 i (mx 0 (((T2.1 0 i) + (T2.2.2.1 2 i)) - (T2.1 6 i)))).2.2.1 1 i) + 1) / 2))).2.2.1 2 k) + (((aA T2 1 i (mx 0 (((T2.1 0 i) + (T2.2.2.1 2 i)) - (T2.1 6 i)))).2.2.1 1 i) / 2)) dX3_reckon_175 rfl ?_
              refine Z_isN C (ws' := mdW 0 (aA (aA (aA T2 1 i (mx 0 (((T2.1 0 i) + (T2.2.2.1 2 i)) - (T2.1 6 i)))) 2 j ((T2.2.2.1 2 j) + ((((aA T2 1 i (mx 0 (((T2.1 0 i) + (T2.2.2.1 2 i)) - (T2.1 6 i)))).2.2.1 1 i) + 1) / 2))) 2 k (((aA (aA T2 1 i (mx 0 (((T2.1 0 i) + (T2.2.2.1 2 i)) - (T2.1 6 i)))) 2 j ((T2.2.2.1 2 j) + ((((aA T2 1 i (mx 0 (((T2.1 0 i) + (T2.2.2.1 2 i)) - (T2.1 6 i)))).2.2.1 1 i) + 1) / 2))).2.2.1 2 k) + (((aA T2 1 i (mx 0 (((T2.1 0 i) + (T2.2.2.1 2 i)) - (T2.1 6 i)))).2.2.1 1 i) / 2)))) dX3_reckon_176 rfl (by omega) (by decide) rfl ?_
              refine Z_iinc C (L' := [(1, .int (dn i)), (2, .int 0), (0, .ref 0)]) (v := dn i) dX3_reckon_177 rfl (dn_dec _) (by decide) rfl ?_
              refine Z_goto C 30 dX3_reckon_180 (by decide) ?_
              rw [show mrk1 i T2 = (aA (aA (aA T2 1 i (mx 0 (((T2.1 0 i) + (T2.2.2.1 2 i)) - (T2.1 6 i)))) 2 j ((T2.2.2.1 2 j) + ((((aA T2 1 i (mx 0 (((T2.1 0 i) + (T2.2.2.1 2 i)) - (T2.1 6 i)))).2.2.1 1 i) + 1) / 2))) 2 k (((aA (aA T2 1 i (mx 0 (((T2.1 0 i) + (T2.2.2.1 2 i)) - (T2.1 6 i)))) 2 j ((T2.2.2.1 2 j) + ((((aA T2 1 i (mx 0 (((T2.1 0 i) + (T2.2.2.1 2 i)) - (T2.1 6 i)))).2.2.1 1 i) + 1) / 2))).2.2.1 2 k) + (((aA T2 1 i (mx 0 (((T2.1 0 i) + (T2.2.2.1 2 i)) - (T2.1 6 i)))).2.2.1 1 i) / 2))) from by subst eT1; simp [mrk1, mrkB, mP1, mP2, mLd, mSh, mHg_t, upd, c1, c3, c4, c12, c13, c14, ej, ek]] at kk
              exact Z_sub (by simp [bI_t, bI_f]) kk
            · refine Z_iconst C (v := 1) dX3_reckon_108 (by decide) ?_
              refine Z_goto C 113 dX3_reckon_109 (by decide) ?_
              refine Z_istore_n C (L' := [(2, .int 1), (1, .int (nI i)), (0, .ref 0)]) dX3_reckon_113 rfl (by decide) rfl ?_
              refine Z_aload_n C dX3_reckon_114 rfl rfl ?_
              refine Z_get C K3 (v := .ref 5) 7 dX3_reckon_115 rfl (by decide) g_579 rfl rfl ?_
              refine Z_aload_n C dX3_reckon_118 rfl rfl ?_
              refine Z_iload_n C dX3_reckon_119 rfl rfl ?_
              refine Z_iconst C (v := 4) dX3_reckon_120 (by decide) ?_
              refine Z_callV C (ws' := mdW 0 (aA T2 1 i (mx 0 (((T2.1 0 i) + (T2.2.2.1 2 i)) - (T2.1 6 i))))) (st' := [.int (T2.1 4 i), .ref 5]) (rest := [.ref 5]) [0, 1, 2, 3, 4, 5, 6] (c_X3_to (aA T2 1 i (mx 0 (((T2.1 0 i) + (T2.2.2.1 2 i)) - (T2.1 6 i)))) (nI i) 4 rfl (by omega) rfl (by decide)) m_X3_to K3 g_634 dX3_reckon_121 rfl rfl rfl (outR _ _ _) (NW := 7) rfl rfl rfl rfl rfl ⟨Nat.le_of_ble_eq_true rfl, Nat.le_of_ble_eq_true rfl⟩ ⟨Nat.le_of_ble_eq_true rfl, Nat.le_of_ble_eq_true rfl⟩ (Nat.le_of_ble_eq_true rfl) rfl ?_
              obtain ⟨j, hj, qj⟩ := okH_j (hT2.2 i hi).1 c13
              have ej : ix (T2.1 4 i) = j := by rw [qj]; exact ix_nI (by omega)
              refine Z_st (st := [.int (nI j), .ref 5]) (by rw [qj]) ?_
              refine Z_dup2_11 C dX3_reckon_124 rfl rfl ?_
              refine Z_iaN C (v := T2.2.2.1 2 j) dX3_reckon_125 rfl (by omega) (by decide) rfl ?_
              refine Z_iload_n C dX3_reckon_126 rfl rfl ?_
              refine Z_if_eq C 139 dX3_reckon_127 (by decide) (fun c17 => absurd c17 (by decide)) (fun c17 => ?_)
              refine Z_aload_n C dX3_reckon_130 rfl rfl ?_
              refine Z_get C K3 (v := .ref 4) 6 dX3_reckon_131 rfl (by decide) g_578 rfl rfl ?_
              refine Z_iload_n C dX3_reckon_134 rfl rfl ?_
              refine Z_iaN C (v := (aA T2 1 i (mx 0 (((T2.1 0 i) + (T2.2.2.1 2 i)) - (T2.1 6 i)))).2.2.1 1 i) dX3_reckon_135 rfl (by omega) (by decide) rfl ?_
              refine Z_goto C 149 dX3_reckon_136 (by decide) ?_
              refine Z_iadd C (v := (T2.2.2.1 2 j) + ((aA T2 1 i (mx 0 (((T2.1 0 i) + (T2.2.2.1 2 i)) - (T2.1 6 i)))).2.2.1 1 i)) dX3_reckon_149 rfl ?_
              refine Z_isN C (ws' := mdW 0 (aA (aA T2 1 i (mx 0 (((T2.1 0 i) + (T2.2.2.1 2 i)) - (T2.1 6 i)))) 2 j ((T2.2.2.1 2 j) + ((aA T2 1 i (mx 0 (((T2.1 0 i) + (T2.2.2.1 2 i)) - (T2.1 6 i)))).2.2.1 1 i)))) dX3_reckon_150 rfl (by omega) (by decide) rfl ?_
              refine Z_iload_n C dX3_reckon_151 rfl rfl ?_
              refine Z_if_ne C 177 dX3_reckon_152 (by decide) (fun c18 => ?_) (fun c18 => absurd c18 (by decide))
              refine Z_iinc C (L' := [(1, .int (dn i)), (2, .int 1), (0, .ref 0)]) (v := dn i) dX3_reckon_177 rfl (dn_dec _) (by decide) rfl ?_
              refine Z_goto C 30 dX3_reckon_180 (by decide) ?_
              rw [show mrk1 i T2 = (aA (aA T2 1 i (mx 0 (((T2.1 0 i) + (T2.2.2.1 2 i)) - (T2.1 6 i)))) 2 j ((T2.2.2.1 2 j) + ((aA T2 1 i (mx 0 (((T2.1 0 i) + (T2.2.2.1 2 i)) - (T2.1 6 i)))).2.2.1 1 i))) from by subst eT1; simp [mrk1, mrkB, mP1, mP2, mLd, mSh, mHg_t, upd, c1, c3, c4, c12, c13, c14, ej]] at kk
              exact Z_sub (by simp [bI_t, bI_f]) kk
          · refine Z_goto C 177 dX3_reckon_95 (by decide) ?_
            refine Z_iinc C (L' := [(1, .int (dn i)), (0, .ref 0)]) (v := dn i) dX3_reckon_177 rfl (dn_dec _) (by decide) rfl ?_
            refine Z_goto C 30 dX3_reckon_180 (by decide) ?_
            rw [show mrk1 i T2 = (aA T2 1 i (mx 0 (((T2.1 0 i) + (T2.2.2.1 2 i)) - (T2.1 6 i)))) from by subst eT1; simp [mrk1, mrkB, mP1, mP2, mLd, mSh, mHg_t, upd, c1, c3, c4, c12, c13]] at kk
            exact Z_sub (by simp [bI_t, bI_f]) kk
  · refine Z_iload_n C dX3_reckon_2 rfl rfl ?_
    refine Z_aload_n C dX3_reckon_3 rfl rfl ?_
    refine Z_get C K3 (v := .int (T1.2.2.2 1)) 1 dX3_reckon_4 rfl (by decide) g_573 rfl rfl ?_
    refine Z_icmp_ge C 23 dX3_reckon_7 (by decide) (fun c19 => absurd c19 (ge_no hT1.1 h40 hi)) (fun c19 => ?_)
    refine Z_aload_n C dX3_reckon_10 rfl rfl ?_
    refine Z_get C K3 (v := .ref 5) 7 dX3_reckon_11 rfl (by decide) g_579 rfl rfl ?_
    refine Z_iload_n C dX3_reckon_14 rfl rfl ?_
    refine Z_iconst C (v := 0) dX3_reckon_15 (by decide) ?_
    refine Z_isN C (ws' := mdW 0 (aA T1 2 i 0)) dX3_reckon_16 rfl (by omega) (by decide) rfl ?_
    refine Z_iinc C (L' := [(1, .int (nI (i + 1))), (0, .ref 0)]) (v := nI (i + 1)) dX3_reckon_17 rfl (nI_inc _) (by decide) rfl ?_
    refine Z_goto C 2 dX3_reckon_20 (by decide) ?_
    rw [show mrk0 i T1 = (aA T1 2 i 0) from by simp [mrk0, c19]] at kk
    exact Z_sub (by simp [bI_t, bI_f]) kk
set_option maxHeartbeats 4000000 in
set_option maxRecDepth 20000 in
theorem c_X3_tear (M : Md) (x : Int32) {n r : Nat} (hn : M.2.2.2 1 = nI n) (h40 : n ≤ 40) (hq : M.2.2.2 2 = nI r) (h30 : r ≤ 30) (ho : okM n M) {f : Nat} (hx : x = nI f) (hf : f < n) : CT yX3_tear cX3_tear 4 (some .boolean) 2 0 0 [.ref 0, .int x] (mdW 0 M) (some (.int (bI (mTear M f).2))) (mdW 0 ((mTear M f).1)) := by
  refine CT_of (L := [(0, .ref 0), (1, .int x)]) (by decide) (fun _ => rfl) (fun _ => Nat.le_of_ble_eq_true rfl) ?_
  intro p l e s m args below meth c G h A C hr hlk _
  subst hx
  refine Z_iconst C (v := 0) dX3_tear_0 (by decide) ?_
  refine Z_istore_n C (L' := [(2, .int 0), (0, .ref 0), (1, .int (nI f))]) dX3_tear_1 rfl (by decide) rfl ?_
  refine Z_iload_n C dX3_tear_2 rfl rfl ?_
  refine Z_iconst C (v := 1) dX3_tear_3 (by decide) ?_
  refine Z_iadd C (v := nI (f + 1)) dX3_tear_4 (nI_1 f) ?_
  refine Z_istore_n C (L' := [(3, .int (nI (f + 1))), (2, .int 0), (0, .ref 0), (1, .int (nI f))]) dX3_tear_5 rfl (by decide) rfl ?_
  refine ZforA (σ := Md × Bool) (fun i T1 => Z p l e _ s m args below meth c 4 G A h _ 0 0 (mdW 0 (T1.1)) 6 [(3, .int (nI i)), (2, .int (bI T1.2)), (0, .ref 0), (1, .int (nI f))] []) (fun i T1 => T1.1.2.2.2 1 = nI n ∧ T1.1.2.2.2 2 = nI r ∧ okM n T1.1) (mt1 f) (f + 1) n ((M, false)) (by omega) (⟨hn, hq, ho⟩) (fun i T1 hai hi hT1 => ⟨(congrFun (mi_t1 f i T1) 1).trans hT1.1, (congrFun (mi_t1 f i T1) 2).trans hT1.2.1, ok_t1 hi hT1.2.2⟩) (fun T1 hT1 eT1 => ?_) (fun i T1 hai hi hT1 hT1' kk => ?_)
  · refine Z_iload_n C dX3_tear_6 rfl rfl ?_
    refine Z_aload_n C dX3_tear_7 rfl rfl ?_
    refine Z_get C K3 (v := .int ((T1.1).2.2.2 1)) 1 dX3_tear_8 rfl (by decide) g_573 rfl rfl ?_
    refine Z_icmp_ge C 71 dX3_tear_11 (by decide) (fun c1 => ?_) (fun c1 => absurd (ge_yes hT1.1) c1)
    refine Z_iload_n C dX3_tear_71 rfl rfl ?_
    exact Z_zret C hr hlk dX3_tear_72 (bI_nar _) (congrArg (fun z => some (Value.int z)) (show (bI (mTear M f).2) = (bI T1.2) from by subst eT1; simp only [mTear, mN_eq hn h40])) (by rw [show ((mTear M f).1) = (T1.1) from by subst eT1; simp only [mTear, mN_eq hn h40]])
  · refine Z_iload_n C dX3_tear_6 rfl rfl ?_
    refine Z_aload_n C dX3_tear_7 rfl rfl ?_
    refine Z_get C K3 (v := .int ((T1.1).2.2.2 1)) 1 dX3_tear_8 rfl (by decide) g_573 rfl rfl ?_
    refine Z_icmp_ge C 71 dX3_tear_11 (by decide) (fun c2 => absurd c2 (ge_no hT1.1 h40 hi)) (fun c2 => ?_)
    refine Z_aload_n C dX3_tear_14 rfl rfl ?_
    refine Z_iload_n C dX3_tear_15 rfl rfl ?_
    refine Z_callV C (ws' := mdW 0 (T1.1)) (st' := [.int (bI (mHg (T1.1) i))]) (rest := []) [0, 1, 2, 3, 4, 5, 6] (c_X3_hangs (T1.1) (nI i) rfl (by omega)) m_X3_hangs K3 g_630 dX3_tear_16 rfl rfl rfl (outR _ _ _) (NW := 7) rfl rfl rfl rfl rfl ⟨Nat.le_of_ble_eq_true rfl, Nat.le_of_ble_eq_true rfl⟩ ⟨Nat.le_of_ble_eq_true rfl, Nat.le_of_ble_eq_true rfl⟩ (Nat.le_of_ble_eq_true rfl) rfl ?_
    refine Z_if_eq C 65 dX3_tear_19 (by decide) (fun c3 => ?_) (fun c3 => ?_)
    · have c3 := bI_0.mp c3
      refine Z_iinc C (L' := [(3, .int (nI (i + 1))), (2, .int (bI T1.2)), (0, .ref 0), (1, .int (nI f))]) (v := nI (i + 1)) dX3_tear_65 rfl (nI_inc _) (by decide) rfl ?_
      refine Z_goto C 6 dX3_tear_68 (by decide) ?_
      rw [show (mt1 f) i T1 = ((T1.1), T1.2) from by simp [mt1, mHg_t, c2, c3]] at kk
      exact Z_sub (by simp [bI_t, bI_f]) kk
    · have c3 := bI_n0.mp c3
      refine Z_aload_n C dX3_tear_22 rfl rfl ?_
      refine Z_iload_n C dX3_tear_23 rfl rfl ?_
      refine Z_iload_n C dX3_tear_24 rfl rfl ?_
      refine Z_callV C (ws' := mdW 0 (T1.1)) (st' := [.int (bI (heldB (T1.1) i (nI f)))]) (rest := []) [0, 1, 2, 3, 4, 5, 6] (c_X3_isHeldBy (T1.1) (nI i) (nI f) rfl (by omega)) m_X3_isHeldBy K3 g_643 dX3_tear_25 rfl rfl rfl (outR _ _ _) (NW := 7) rfl rfl rfl rfl rfl ⟨Nat.le_of_ble_eq_true rfl, Nat.le_of_ble_eq_true rfl⟩ ⟨Nat.le_of_ble_eq_true rfl, Nat.le_of_ble_eq_true rfl⟩ (Nat.le_of_ble_eq_true rfl) rfl ?_
      refine Z_if_ne C 34 dX3_tear_28 (by decide) (fun c4 => ?_) (fun c4 => ?_)
      · have c4 := bI_n0.mp c4
        refine Z_iconst C (v := 1) dX3_tear_34 (by decide) ?_
        refine Z_istore_n C (L' := [(2, .int 1), (3, .int (nI i)), (0, .ref 0), (1, .int (nI f))]) dX3_tear_35 rfl (by decide) rfl ?_
        refine Z_aload_n C dX3_tear_36 rfl rfl ?_
        refine Z_iload_n C dX3_tear_37 rfl rfl ?_
        refine Z_iconst C (v := 4) dX3_tear_38 (by decide) ?_
        refine Z_callV C (ws' := mdW 0 (T1.1)) (st' := [.int ((T1.1).1 4 i)]) (rest := []) [0, 1, 2, 3, 4, 5, 6] (c_X3_to (T1.1) (nI i) 4 rfl (by omega) rfl (by decide)) m_X3_to K3 g_634 dX3_tear_39 rfl rfl rfl (outR _ _ _) (NW := 7) rfl rfl rfl rfl rfl ⟨Nat.le_of_ble_eq_true rfl, Nat.le_of_ble_eq_true rfl⟩ ⟨Nat.le_of_ble_eq_true rfl, Nat.le_of_ble_eq_true rfl⟩ (Nat.le_of_ble_eq_true rfl) rfl ?_
        refine Z_iload_n C dX3_tear_42 rfl rfl ?_
        refine Z_icmp_ne C 58 dX3_tear_43 (by decide) (fun c5 => ?_) (fun c5 => ?_)
        · refine Z_aload_n C dX3_tear_58 rfl rfl ?_
          refine Z_iload_n C dX3_tear_59 rfl rfl ?_
          refine Z_iconst C (v := 5) dX3_tear_60 (by decide) ?_
          refine Z_iconst C (v := (-1)) dX3_tear_61 (by decide) ?_
          refine Z_callV C (ws' := mdW 0 (tA (T1.1) 5 i (-1))) (st' := []) (rest := []) [0, 1, 2, 3, 4, 5, 6] (c_X3_put (T1.1) (nI i) 5 (-1) rfl (by omega) rfl (by decide)) m_X3_put K3 g_647 dX3_tear_62 rfl rfl rfl (outL 7 rfl rfl rfl) (NW := 7) rfl rfl rfl rfl rfl ⟨Nat.le_of_ble_eq_true rfl, Nat.le_of_ble_eq_true rfl⟩ ⟨Nat.le_of_ble_eq_true rfl, Nat.le_of_ble_eq_true rfl⟩ (Nat.le_of_ble_eq_true rfl) rfl ?_
          refine Z_iinc C (L' := [(3, .int (nI (i + 1))), (2, .int 1), (0, .ref 0), (1, .int (nI f))]) (v := nI (i + 1)) dX3_tear_65 rfl (nI_inc _) (by decide) rfl ?_
          refine Z_goto C 6 dX3_tear_68 (by decide) ?_
          rw [show (mt1 f) i T1 = ((tA (T1.1) 5 i (-1)), true) from by simp [mt1, mHg_t, c2, c3, c4, c5]] at kk
          exact Z_sub (by simp [bI_t, bI_f]) kk
        · refine Z_aload_n C dX3_tear_46 rfl rfl ?_
          refine Z_iload_n C dX3_tear_47 rfl rfl ?_
          refine Z_iconst C (v := 4) dX3_tear_48 (by decide) ?_
          refine Z_aload_n C dX3_tear_49 rfl rfl ?_
          refine Z_iload_n C dX3_tear_50 rfl rfl ?_
          refine Z_iconst C (v := 5) dX3_tear_51 (by decide) ?_
          refine Z_callV C (ws' := mdW 0 (T1.1)) (st' := [.int ((T1.1).1 5 i), .int 4, .int (nI i), .ref 0]) (rest := [.int 4, .int (nI i), .ref 0]) [0, 1, 2, 3, 4, 5, 6] (c_X3_to (T1.1) (nI i) 5 rfl (by omega) rfl (by decide)) m_X3_to K3 g_634 dX3_tear_52 rfl rfl rfl (outR _ _ _) (NW := 7) rfl rfl rfl rfl rfl ⟨Nat.le_of_ble_eq_true rfl, Nat.le_of_ble_eq_true rfl⟩ ⟨Nat.le_of_ble_eq_true rfl, Nat.le_of_ble_eq_true rfl⟩ (Nat.le_of_ble_eq_true rfl) rfl ?_
          refine Z_callV C (ws' := mdW 0 (tA (T1.1) 4 i ((T1.1).1 5 i))) (st' := []) (rest := []) [0, 1, 2, 3, 4, 5, 6] (c_X3_put (T1.1) (nI i) 4 ((T1.1).1 5 i) rfl (by omega) rfl (by decide)) m_X3_put K3 g_647 dX3_tear_55 rfl rfl rfl (outL 7 rfl rfl rfl) (NW := 7) rfl rfl rfl rfl rfl ⟨Nat.le_of_ble_eq_true rfl, Nat.le_of_ble_eq_true rfl⟩ ⟨Nat.le_of_ble_eq_true rfl, Nat.le_of_ble_eq_true rfl⟩ (Nat.le_of_ble_eq_true rfl) rfl ?_
          refine Z_aload_n C dX3_tear_58 rfl rfl ?_
          refine Z_iload_n C dX3_tear_59 rfl rfl ?_
          refine Z_iconst C (v := 5) dX3_tear_60 (by decide) ?_
          refine Z_iconst C (v := (-1)) dX3_tear_61 (by decide) ?_
          refine Z_callV C (ws' := mdW 0 (tA (tA (T1.1) 4 i ((T1.1).1 5 i)) 5 i (-1))) (st' := []) (rest := []) [0, 1, 2, 3, 4, 5, 6] (c_X3_put (tA (T1.1) 4 i ((T1.1).1 5 i)) (nI i) 5 (-1) rfl (by omega) rfl (by decide)) m_X3_put K3 g_647 dX3_tear_62 rfl rfl rfl (outL 7 rfl rfl rfl) (NW := 7) rfl rfl rfl rfl rfl ⟨Nat.le_of_ble_eq_true rfl, Nat.le_of_ble_eq_true rfl⟩ ⟨Nat.le_of_ble_eq_true rfl, Nat.le_of_ble_eq_true rfl⟩ (Nat.le_of_ble_eq_true rfl) rfl ?_
          refine Z_iinc C (L' := [(3, .int (nI (i + 1))), (2, .int 1), (0, .ref 0), (1, .int (nI f))]) (v := nI (i + 1)) dX3_tear_65 rfl (nI_inc _) (by decide) rfl ?_
          refine Z_goto C 6 dX3_tear_68 (by decide) ?_
          rw [show (mt1 f) i T1 = ((tA (tA (T1.1) 4 i ((T1.1).1 5 i)) 5 i (-1)), true) from by simp [mt1, mHg_t, c2, c3, c4, c5]] at kk
          exact Z_sub (by simp [bI_t, bI_f]) kk
      · have c4 := bI_0.mp c4
        refine Z_goto C 65 dX3_tear_31 (by decide) ?_
        refine Z_iinc C (L' := [(3, .int (nI (i + 1))), (2, .int (bI T1.2)), (0, .ref 0), (1, .int (nI f))]) (v := nI (i + 1)) dX3_tear_65 rfl (nI_inc _) (by decide) rfl ?_
        refine Z_goto C 6 dX3_tear_68 (by decide) ?_
        rw [show (mt1 f) i T1 = ((T1.1), T1.2) from by simp [mt1, mHg_t, c2, c3, c4]] at kk
        exact Z_sub (by simp [bI_t, bI_f]) kk
set_option maxHeartbeats 4000000 in
set_option maxRecDepth 20000 in
theorem c_X3_fall (M : Md) (x : Int32) {n r : Nat} (hn : M.2.2.2 1 = nI n) (h40 : n ≤ 40) (hq : M.2.2.2 2 = nI r) (h30 : r ≤ 30) (ho : okM n M) {f : Nat} (hx : x = nI f) (hf : f < n) : CT yX3_fall cX3_fall 3 none 3 0 0 [.ref 0, .int x] (mdW 0 M) none (mdW 0 (mFall M f)) := by
  refine CT_of (L := [(0, .ref 0), (1, .int x)]) (by decide) (fun _ => rfl) (fun _ => Nat.le_of_ble_eq_true rfl) ?_
  intro p l e s m args below meth c G h A C hr hlk _
  subst hx
  refine Z_aload_n C dX3_fall_0 rfl rfl ?_
  refine Z_iload_n C dX3_fall_1 rfl rfl ?_
  refine Z_iconst C (v := 2) dX3_fall_2 (by decide) ?_
  refine Z_iconst C (v := 0) dX3_fall_3 (by decide) ?_
  refine Z_callV C (ws' := mdW 0 (tA M 2 f 0)) (st' := []) (rest := []) [0, 1, 2, 3, 4, 5, 6] (c_X3_put M (nI f) 2 0 rfl (by omega) rfl (by decide)) m_X3_put K3 g_647 dX3_fall_4 rfl rfl rfl (outL 7 rfl rfl rfl) (NW := 7) rfl rfl rfl rfl rfl ⟨Nat.le_of_ble_eq_true rfl, Nat.le_of_ble_eq_true rfl⟩ ⟨Nat.le_of_ble_eq_true rfl, Nat.le_of_ble_eq_true rfl⟩ (Nat.le_of_ble_eq_true rfl) rfl ?_
  refine Z_aload_n C dX3_fall_7 rfl rfl ?_
  refine Z_iload_n C dX3_fall_8 rfl rfl ?_
  refine Z_callV C (ws' := mdW 0 ((mTear (tA M 2 f 0) f).1)) (st' := [.int (bI (mTear (tA M 2 f 0) f).2)]) (rest := []) [0, 1, 2, 3, 4, 5, 6] (c_X3_tear (tA M 2 f 0) (nI f) hn h40 hq h30 ho rfl (by omega)) m_X3_tear K3 g_639 dX3_fall_9 rfl rfl rfl (outL 7 rfl rfl rfl) (NW := 7) rfl rfl rfl rfl rfl ⟨Nat.le_of_ble_eq_true rfl, Nat.le_of_ble_eq_true rfl⟩ ⟨Nat.le_of_ble_eq_true rfl, Nat.le_of_ble_eq_true rfl⟩ (Nat.le_of_ble_eq_true rfl) rfl ?_
  refine Z_ws (fun X1 => mdW 0 X1) ((mTear (tA M 2 f 0) f).1) (fun X1 eX1 => ?_)
  refine Z_pop C dX3_fall_12 rfl ?_
  refine Z_aload_n C dX3_fall_13 rfl rfl ?_
  refine Z_iload_n C dX3_fall_14 rfl rfl ?_
  refine Z_iconst C (v := 3) dX3_fall_15 (by decide) ?_
  refine Z_iconst C (v := 0) dX3_fall_16 (by decide) ?_
  refine Z_callV C (ws' := mdW 0 (tA X1 3 f 0)) (st' := []) (rest := []) [0, 1, 2, 3, 4, 5, 6] (c_X3_put X1 (nI f) 3 0 rfl (by omega) rfl (by decide)) m_X3_put K3 g_647 dX3_fall_17 rfl rfl rfl (outL 7 rfl rfl rfl) (NW := 7) rfl rfl rfl rfl rfl ⟨Nat.le_of_ble_eq_true rfl, Nat.le_of_ble_eq_true rfl⟩ ⟨Nat.le_of_ble_eq_true rfl, Nat.le_of_ble_eq_true rfl⟩ (Nat.le_of_ble_eq_true rfl) rfl ?_
  refine Z_aload_n C dX3_fall_20 rfl rfl ?_
  refine Z_iload_n C dX3_fall_21 rfl rfl ?_
  refine Z_iconst C (v := 4) dX3_fall_22 (by decide) ?_
  refine Z_iconst C (v := (-1)) dX3_fall_23 (by decide) ?_
  refine Z_callV C (ws' := mdW 0 (tA (tA X1 3 f 0) 4 f (-1))) (st' := []) (rest := []) [0, 1, 2, 3, 4, 5, 6] (c_X3_put (tA X1 3 f 0) (nI f) 4 (-1) rfl (by omega) rfl (by decide)) m_X3_put K3 g_647 dX3_fall_24 rfl rfl rfl (outL 7 rfl rfl rfl) (NW := 7) rfl rfl rfl rfl rfl ⟨Nat.le_of_ble_eq_true rfl, Nat.le_of_ble_eq_true rfl⟩ ⟨Nat.le_of_ble_eq_true rfl, Nat.le_of_ble_eq_true rfl⟩ (Nat.le_of_ble_eq_true rfl) rfl ?_
  refine Z_aload_n C dX3_fall_27 rfl rfl ?_
  refine Z_iload_n C dX3_fall_28 rfl rfl ?_
  refine Z_iconst C (v := 5) dX3_fall_29 (by decide) ?_
  refine Z_iconst C (v := (-1)) dX3_fall_30 (by decide) ?_
  refine Z_callV C (ws' := mdW 0 (tA (tA (tA X1 3 f 0) 4 f (-1)) 5 f (-1))) (st' := []) (rest := []) [0, 1, 2, 3, 4, 5, 6] (c_X3_put (tA (tA X1 3 f 0) 4 f (-1)) (nI f) 5 (-1) rfl (by omega) rfl (by decide)) m_X3_put K3 g_647 dX3_fall_31 rfl rfl rfl (outL 7 rfl rfl rfl) (NW := 7) rfl rfl rfl rfl rfl ⟨Nat.le_of_ble_eq_true rfl, Nat.le_of_ble_eq_true rfl⟩ ⟨Nat.le_of_ble_eq_true rfl, Nat.le_of_ble_eq_true rfl⟩ (Nat.le_of_ble_eq_true rfl) rfl ?_
  refine Z_iconst C (v := 0) dX3_fall_34 (by decide) ?_
  refine Z_istore_n C (L' := [(2, .int 0), (0, .ref 0), (1, .int (nI f))]) dX3_fall_35 rfl (by decide) rfl ?_
  refine Zfor (σ := Md) (fun i T1 => Z p l e _ s m args below meth c 3 G A h _ 0 0 (mdW 0 T1) 36 [(2, .int (nI i)), (0, .ref 0), (1, .int (nI f))] []) (fun i T1 => T1.2.2.2 2 = nI r) (mfk f) r ((tA (tA (tA X1 3 f 0) 4 f (-1)) 5 f (-1))) (show X1.2.2.2 2 = nI r from by rw [eX1]; exact ((congrFun (mi_tear (tA M 2 f 0) f) 2).trans hq)) (fun i T1 hi hT1 => (congrFun (mi_fk f i T1) 2).trans hT1) (fun T1 hT1 eT1 => ?_) (fun i T1 hi hT1 hT1' kk => ?_)
  · refine Z_iload_n C dX3_fall_36 rfl rfl ?_
    refine Z_aload_n C dX3_fall_37 rfl rfl ?_
    refine Z_get C K3 (v := .int (T1.2.2.2 2)) 2 dX3_fall_38 rfl (by decide) g_574 rfl rfl ?_
    refine Z_icmp_ge C 81 dX3_fall_41 (by decide) (fun c1 => ?_) (fun c1 => absurd (ge_yes hT1) c1)
    exact Z_vret C hr hlk dX3_fall_81 rfl (by rw [show (mFall M f) = T1 from by subst eX1 eT1; unfold mFall; rw [show mR M = r from mR_eq hq h30]; rfl])
  · refine Z_iload_n C dX3_fall_36 rfl rfl ?_
    refine Z_aload_n C dX3_fall_37 rfl rfl ?_
    refine Z_get C K3 (v := .int (T1.2.2.2 2)) 2 dX3_fall_38 rfl (by decide) g_574 rfl rfl ?_
    refine Z_icmp_ge C 81 dX3_fall_41 (by decide) (fun c2 => absurd c2 (ge_no hT1 (Nat.le_trans h30 (by decide)) hi)) (fun c2 => ?_)
    refine Z_aload_n C dX3_fall_44 rfl rfl ?_
    refine Z_iload_n C dX3_fall_45 rfl rfl ?_
    refine Z_iconst C (v := 0) dX3_fall_46 (by decide) ?_
    refine Z_callV C (ws' := mdW 0 T1) (st' := [.int (T1.2.1 0 i)]) (rest := []) [0, 1, 2, 3, 4, 5, 6] (c_X3_st T1 (nI i) 0 rfl (by omega) rfl (by first | decide | omega)) m_X3_st K3 g_659 dX3_fall_47 rfl rfl rfl (outR _ _ _) (NW := 7) rfl rfl rfl rfl rfl ⟨Nat.le_of_ble_eq_true rfl, Nat.le_of_ble_eq_true rfl⟩ ⟨Nat.le_of_ble_eq_true rfl, Nat.le_of_ble_eq_true rfl⟩ (Nat.le_of_ble_eq_true rfl) rfl ?_
    refine Z_iload_n C dX3_fall_50 rfl rfl ?_
    refine Z_icmp_eq C 64 dX3_fall_51 (by decide) (fun c3 => ?_) (fun c3 => ?_)
    · refine Z_aload_n C dX3_fall_64 rfl rfl ?_
      refine Z_get C K3 (v := .ref 2) 4 dX3_fall_65 rfl (by decide) g_576 rfl rfl ?_
      refine Z_iconst C (v := 3) dX3_fall_68 (by decide) ?_
      refine Z_iload_n C dX3_fall_69 rfl rfl ?_
      refine Z_imul C (v := nI (3 * i)) dX3_fall_70 (pk_mul 3 i) ?_
      refine Z_iconst C (v := 2) dX3_fall_71 (by decide) ?_
      refine Z_iadd C (v := nI (3 * i + 2)) dX3_fall_72 (nI_add _ _) ?_
      refine Z_iconst C (v := 1) dX3_fall_73 (by decide) ?_
      refine Z_isN C (ws' := mdW 0 (wA T1 2 i 1)) dX3_fall_74 rfl (by omega) (by decide) (by rw [wy_upd _ (by decide)]; rfl) ?_
      refine Z_iinc C (L' := [(2, .int (nI (i + 1))), (0, .ref 0), (1, .int (nI f))]) (v := nI (i + 1)) dX3_fall_75 rfl (nI_inc _) (by decide) rfl ?_
      refine Z_goto C 36 dX3_fall_78 (by decide) ?_
      rw [show (mfk f) i T1 = (wA T1 2 i 1) from by subst eX1; simp [mfk, c2, c3]] at kk
      exact Z_sub (by simp [bI_t, bI_f]) kk
    · refine Z_aload_n C dX3_fall_54 rfl rfl ?_
      refine Z_iload_n C dX3_fall_55 rfl rfl ?_
      refine Z_iconst C (v := 1) dX3_fall_56 (by decide) ?_
      refine Z_callV C (ws' := mdW 0 T1) (st' := [.int (T1.2.1 1 i)]) (rest := []) [0, 1, 2, 3, 4, 5, 6] (c_X3_st T1 (nI i) 1 rfl (by omega) rfl (by first | decide | omega)) m_X3_st K3 g_659 dX3_fall_57 rfl rfl rfl (outR _ _ _) (NW := 7) rfl rfl rfl rfl rfl ⟨Nat.le_of_ble_eq_true rfl, Nat.le_of_ble_eq_true rfl⟩ ⟨Nat.le_of_ble_eq_true rfl, Nat.le_of_ble_eq_true rfl⟩ (Nat.le_of_ble_eq_true rfl) rfl ?_
      refine Z_iload_n C dX3_fall_60 rfl rfl ?_
      refine Z_icmp_ne C 75 dX3_fall_61 (by decide) (fun c4 => ?_) (fun c4 => ?_)
      · refine Z_iinc C (L' := [(2, .int (nI (i + 1))), (0, .ref 0), (1, .int (nI f))]) (v := nI (i + 1)) dX3_fall_75 rfl (nI_inc _) (by decide) rfl ?_
        refine Z_goto C 36 dX3_fall_78 (by decide) ?_
        rw [show (mfk f) i T1 = T1 from by subst eX1; simp [mfk, c2, c3, c4]] at kk
        exact Z_sub (by simp [bI_t, bI_f]) kk
      · refine Z_aload_n C dX3_fall_64 rfl rfl ?_
        refine Z_get C K3 (v := .ref 2) 4 dX3_fall_65 rfl (by decide) g_576 rfl rfl ?_
        refine Z_iconst C (v := 3) dX3_fall_68 (by decide) ?_
        refine Z_iload_n C dX3_fall_69 rfl rfl ?_
        refine Z_imul C (v := nI (3 * i)) dX3_fall_70 (pk_mul 3 i) ?_
        refine Z_iconst C (v := 2) dX3_fall_71 (by decide) ?_
        refine Z_iadd C (v := nI (3 * i + 2)) dX3_fall_72 (nI_add _ _) ?_
        refine Z_iconst C (v := 1) dX3_fall_73 (by decide) ?_
        refine Z_isN C (ws' := mdW 0 (wA T1 2 i 1)) dX3_fall_74 rfl (by omega) (by decide) (by rw [wy_upd _ (by decide)]; rfl) ?_
        refine Z_iinc C (L' := [(2, .int (nI (i + 1))), (0, .ref 0), (1, .int (nI f))]) (v := nI (i + 1)) dX3_fall_75 rfl (nI_inc _) (by decide) rfl ?_
        refine Z_goto C 36 dX3_fall_78 (by decide) ?_
        rw [show (mfk f) i T1 = (wA T1 2 i 1) from by subst eX1; simp [mfk, c2, c3, c4]] at kk
        exact Z_sub (by simp [bI_t, bI_f]) kk
set_option maxHeartbeats 4000000 in
set_option maxRecDepth 20000 in
theorem c_X3_drop (M : Md) {n r : Nat} (hn : M.2.2.2 1 = nI n) (h40 : n ≤ 40) (hq : M.2.2.2 2 = nI r) (h30 : r ≤ 30) (ho : okM n M) : CT yX3_drop cX3_drop 2 none 4 0 0 [.ref 0] (mdW 0 M) none (mdW 0 (mDrop M)) := by
  refine CT_of (L := [(0, .ref 0)]) (by decide) (fun _ => rfl) (fun _ => Nat.le_of_ble_eq_true rfl) ?_
  intro p l e s m args below meth c G h A C hr hlk _
  refine Z_iconst C (v := 0) dX3_drop_0 (by decide) ?_
  refine Z_istore_n C (L' := [(1, .int 0), (0, .ref 0)]) dX3_drop_1 rfl (by decide) rfl ?_
  refine Zfor (σ := Md) (fun i T1 => Z p l e _ s m args below meth c 2 G A h _ 0 0 (mdW 0 T1) 2 [(1, .int (nI i)), (0, .ref 0)] []) (fun i T1 => T1.2.2.2 1 = nI n ∧ T1.2.2.2 2 = nI r ∧ okM n T1) (md1) n (M) (⟨hn, hq, ho⟩) (fun i T1 hi hT1 => ⟨(congrFun (mi_d1 i T1) 1).trans hT1.1, (congrFun (mi_d1 i T1) 2).trans hT1.2.1, ok_d1 hi hT1.1 h40 hT1.2.2⟩) (fun T1 hT1 eT1 => ?_) (fun i T1 hi hT1 hT1' kk => ?_)
  · refine Z_iload_n C dX3_drop_2 rfl rfl ?_
    refine Z_aload_n C dX3_drop_3 rfl rfl ?_
    refine Z_get C K3 (v := .int (T1.2.2.2 1)) 1 dX3_drop_4 rfl (by decide) g_573 rfl rfl ?_
    refine Z_icmp_ge C 48 dX3_drop_7 (by decide) (fun c1 => ?_) (fun c1 => absurd (ge_yes hT1.1) c1)
    exact Z_vret C hr hlk dX3_drop_48 rfl (by rw [show (mDrop M) = T1 from by subst eT1; simp only [mDrop, mN_eq hn h40]])
  · refine Z_iload_n C dX3_drop_2 rfl rfl ?_
    refine Z_aload_n C dX3_drop_3 rfl rfl ?_
    refine Z_get C K3 (v := .int (T1.2.2.2 1)) 1 dX3_drop_4 rfl (by decide) g_573 rfl rfl ?_
    refine Z_icmp_ge C 48 dX3_drop_7 (by decide) (fun c2 => absurd c2 (ge_no hT1.1 h40 hi)) (fun c2 => ?_)
    refine Z_aload_n C dX3_drop_10 rfl rfl ?_
    refine Z_iload_n C dX3_drop_11 rfl rfl ?_
    refine Z_callV C (ws' := mdW 0 T1) (st' := [.int (bI (mHg T1 i))]) (rest := []) [0, 1, 2, 3, 4, 5, 6] (c_X3_hangs T1 (nI i) rfl (by omega)) m_X3_hangs K3 g_630 dX3_drop_12 rfl rfl rfl (outR _ _ _) (NW := 7) rfl rfl rfl rfl rfl ⟨Nat.le_of_ble_eq_true rfl, Nat.le_of_ble_eq_true rfl⟩ ⟨Nat.le_of_ble_eq_true rfl, Nat.le_of_ble_eq_true rfl⟩ (Nat.le_of_ble_eq_true rfl) rfl ?_
    refine Z_if_eq C 42 dX3_drop_15 (by decide) (fun c3 => ?_) (fun c3 => ?_)
    · have c3 := bI_0.mp c3
      refine Z_iinc C (L' := [(1, .int (nI (i + 1))), (0, .ref 0)]) (v := nI (i + 1)) dX3_drop_42 rfl (nI_inc _) (by decide) rfl ?_
      refine Z_goto C 2 dX3_drop_45 (by decide) ?_
      rw [show md1 i T1 = T1 from by simp [md1, mHg_t, c2, c3]] at kk
      exact Z_sub (by simp [bI_t, bI_f]) kk
    · have c3 := bI_n0.mp c3
      refine Z_aload_n C dX3_drop_18 rfl rfl ?_
      refine Z_iload_n C dX3_drop_19 rfl rfl ?_
      refine Z_iconst C (v := 3) dX3_drop_20 (by decide) ?_
      refine Z_callV C (ws' := mdW 0 T1) (st' := [.int (T1.1 3 i)]) (rest := []) [0, 1, 2, 3, 4, 5, 6] (c_X3_to T1 (nI i) 3 rfl (by omega) rfl (by decide)) m_X3_to K3 g_634 dX3_drop_21 rfl rfl rfl (outR _ _ _) (NW := 7) rfl rfl rfl rfl rfl ⟨Nat.le_of_ble_eq_true rfl, Nat.le_of_ble_eq_true rfl⟩ ⟨Nat.le_of_ble_eq_true rfl, Nat.le_of_ble_eq_true rfl⟩ (Nat.le_of_ble_eq_true rfl) rfl ?_
      refine Z_if_ne C 42 dX3_drop_24 (by decide) (fun c4 => ?_) (fun c4 => ?_)
      · refine Z_iinc C (L' := [(1, .int (nI (i + 1))), (0, .ref 0)]) (v := nI (i + 1)) dX3_drop_42 rfl (nI_inc _) (by decide) rfl ?_
        refine Z_goto C 2 dX3_drop_45 (by decide) ?_
        rw [show md1 i T1 = T1 from by simp [md1, mHg_t, c2, c3, c4]] at kk
        exact Z_sub (by simp [bI_t, bI_f]) kk
      · refine Z_aload_n C dX3_drop_27 rfl rfl ?_
        refine Z_iload_n C dX3_drop_28 rfl rfl ?_
        refine Z_iconst C (v := 4) dX3_drop_29 (by decide) ?_
        refine Z_callV C (ws' := mdW 0 T1) (st' := [.int (T1.1 4 i)]) (rest := []) [0, 1, 2, 3, 4, 5, 6] (c_X3_to T1 (nI i) 4 rfl (by omega) rfl (by decide)) m_X3_to K3 g_634 dX3_drop_30 rfl rfl rfl (outR _ _ _) (NW := 7) rfl rfl rfl rfl rfl ⟨Nat.le_of_ble_eq_true rfl, Nat.le_of_ble_eq_true rfl⟩ ⟨Nat.le_of_ble_eq_true rfl, Nat.le_of_ble_eq_true rfl⟩ (Nat.le_of_ble_eq_true rfl) rfl ?_
        refine Z_iconst C (v := (-1)) dX3_drop_33 (by decide) ?_
        refine Z_icmp_ne C 42 dX3_drop_34 (by decide) (fun c5 => ?_) (fun c5 => ?_)
        · refine Z_iinc C (L' := [(1, .int (nI (i + 1))), (0, .ref 0)]) (v := nI (i + 1)) dX3_drop_42 rfl (nI_inc _) (by decide) rfl ?_
          refine Z_goto C 2 dX3_drop_45 (by decide) ?_
          rw [show md1 i T1 = T1 from by simp [md1, mHg_t, c2, c3, c4, c5]] at kk
          exact Z_sub (by simp [bI_t, bI_f]) kk
        · refine Z_aload_n C dX3_drop_37 rfl rfl ?_
          refine Z_iload_n C dX3_drop_38 rfl rfl ?_
          refine Z_callV C (ws' := mdW 0 (mFall T1 i)) (st' := []) (rest := []) [0, 1, 2, 3, 4, 5, 6] (c_X3_fall T1 (nI i) hT1.1 h40 hT1.2.1 h30 hT1.2.2 rfl (by omega)) m_X3_fall K3 g_655 dX3_drop_39 rfl rfl rfl (outL 7 rfl rfl rfl) (NW := 7) rfl rfl rfl rfl rfl ⟨Nat.le_of_ble_eq_true rfl, Nat.le_of_ble_eq_true rfl⟩ ⟨Nat.le_of_ble_eq_true rfl, Nat.le_of_ble_eq_true rfl⟩ (Nat.le_of_ble_eq_true rfl) rfl ?_
          refine Z_ws (fun X1 => mdW 0 X1) (mFall T1 i) (fun X1 eX1 => ?_)
          refine Z_iinc C (L' := [(1, .int (nI (i + 1))), (0, .ref 0)]) (v := nI (i + 1)) dX3_drop_42 rfl (nI_inc _) (by decide) rfl ?_
          refine Z_goto C 2 dX3_drop_45 (by decide) ?_
          rw [show md1 i T1 = X1 from by subst eX1; simp [md1, mHg_t, c2, c3, c4, c5]] at kk
          exact Z_sub (by simp [bI_t, bI_f]) kk
set_option maxHeartbeats 4000000 in
set_option maxRecDepth 20000 in
theorem c_X3_giveWay (M : Md) {n r : Nat} (hn : M.2.2.2 1 = nI n) (h40 : n ≤ 40) (hq : M.2.2.2 2 = nI r) (h30 : r ≤ 30) (ho : okM n M) : CT yX3_giveWay cX3_giveWay 3 none 5 0 0 [.ref 0] (mdW 0 M) none (mdW 0 (mGv M)) := by
  refine CT_of (L := [(0, .ref 0)]) (by decide) (fun _ => rfl) (fun _ => Nat.le_of_ble_eq_true rfl) ?_
  intro p l e s m args below meth c G h A C hr hlk _
  refine Z_iconst C (v := 1) dX3_giveWay_0 (by decide) ?_
  refine Z_istore_n C (L' := [(1, .int 1), (0, .ref 0)]) dX3_giveWay_1 rfl (by decide) rfl ?_
  refine Zind (σ := Md) (fun k T => T.2.2.2 1 = nI n → T.2.2.2 2 = nI r → okM n T → mu n T < k → mgw k T = mgw 1000 M → Z p l e _ s m args below meth c 3 G A h _ 0 0 (mdW 0 T) 2 [(1, .int 1), (0, .ref 0)] []) 1000 M (fun T hTn hTr hTo hmu hg => absurd hmu (Nat.not_lt_zero _)) (fun k T ih hTn hTr hTo hmu hg => ?_) hn hq ho (Nat.lt_of_le_of_lt (mu_le n M) (by omega)) rfl
  refine Z_iload_n C dX3_giveWay_2 rfl rfl ?_
  refine Z_if_eq C 105 dX3_giveWay_3 (by decide) (fun c1 => absurd c1 (by decide)) (fun c1 => ?_)
  refine Z_iconst C (v := 0) dX3_giveWay_6 (by decide) ?_
  refine Z_istore_n C (L' := [(1, .int 0), (0, .ref 0)]) dX3_giveWay_7 rfl (by decide) rfl ?_
  refine Z_aload_n C dX3_giveWay_8 rfl rfl ?_
  refine Z_callV C (ws' := mdW 0 (mRk T)) (st' := []) (rest := []) [0, 1, 2, 3, 4, 5, 6] (c_X3_reckon T hTn h40 hTr h30 hTo) m_X3_reckon K3 g_626 dX3_giveWay_9 rfl rfl rfl (outL 7 rfl rfl rfl) (NW := 7) rfl rfl rfl rfl rfl ⟨Nat.le_of_ble_eq_true rfl, Nat.le_of_ble_eq_true rfl⟩ ⟨Nat.le_of_ble_eq_true rfl, Nat.le_of_ble_eq_true rfl⟩ (Nat.le_of_ble_eq_true rfl) rfl ?_
  refine Z_ws (fun X1 => mdW 0 X1) (mRk T) (fun X1 eX1 => ?_)
  refine Z_iconst C (v := 0) dX3_giveWay_12 (by decide) ?_
  refine Z_istore_n C (L' := [(2, .int 0), (1, .int 0), (0, .ref 0)]) dX3_giveWay_13 rfl (by decide) rfl ?_
  refine Zfor (σ := Md × Bool) (fun i T1 => Z p l e _ s m args below meth c 3 G A h _ 0 0 (mdW 0 (T1.1)) 14 [(2, .int (nI i)), (1, .int (bI T1.2)), (0, .ref 0)] []) (fun i T1 => T1.1.2.2.2 1 = nI n ∧ T1.1.2.2.2 2 = nI r ∧ okM n T1.1) (mg1) n ((X1, false)) (⟨(show X1.2.2.2 1 = nI n from by rw [eX1]; exact ((congrFun (mi_Rk T) 1).trans hTn)), (show X1.2.2.2 2 = nI r from by rw [eX1]; exact ((congrFun (mi_Rk T) 2).trans hTr)), (show okM n X1 from by rw [eX1]; exact (ok_Rk hTo))⟩) (fun i T1 hi hT1 => ⟨(congrFun (mi_g1 i T1) 1).trans hT1.1, (congrFun (mi_g1 i T1) 2).trans hT1.2.1, ok_g1 hi hT1.1 h40 hT1.2.2⟩) (fun T1 hT1 eT1 => ?_) (fun i T1 hi hT1 hT1' kk => ?_)
  · refine Z_iload_n C dX3_giveWay_14 rfl rfl ?_
    refine Z_aload_n C dX3_giveWay_15 rfl rfl ?_
    refine Z_get C K3 (v := .int ((T1.1).2.2.2 1)) 1 dX3_giveWay_16 rfl (by decide) g_573 rfl rfl ?_
    refine Z_icmp_ge C 98 dX3_giveWay_19 (by decide) (fun c2 => ?_) (fun c2 => absurd (ge_yes hT1.1) c2)
    refine Z_aload_n C dX3_giveWay_98 rfl rfl ?_
    refine Z_callV C (ws' := mdW 0 (mDrop (T1.1))) (st' := []) (rest := []) [0, 1, 2, 3, 4, 5, 6] (c_X3_drop (T1.1) hT1.1 h40 hT1.2.1 h30 hT1.2.2) m_X3_drop K3 g_651 dX3_giveWay_99 rfl rfl rfl (outL 7 rfl rfl rfl) (NW := 7) rfl rfl rfl rfl rfl ⟨Nat.le_of_ble_eq_true rfl, Nat.le_of_ble_eq_true rfl⟩ ⟨Nat.le_of_ble_eq_true rfl, Nat.le_of_ble_eq_true rfl⟩ (Nat.le_of_ble_eq_true rfl) rfl ?_
    refine Z_ws (fun X2 => mdW 0 X2) (mDrop (T1.1)) (fun X2 eX2 => ?_)
    refine Z_goto C 2 dX3_giveWay_102 (by decide) ?_
    have eR : mRd T = T1 := by rw [eT1, mRd, mN_eq hTn h40, eX1]
    rcases Bool.eq_false_or_eq_true T1.2 with hf | hf
    · refine Z_pc (L := [(2, .int (nI n)), (1, .int 1), (0, .ref 0)]) (by rw [hf]; rfl) ?_
      exact Z_sub (by simp) (ih X2 (show X2.2.2.2 1 = nI n from by rw [eX2]; exact ((congrFun (mi_Drop (T1.1)) 1).trans hT1.1)) (show X2.2.2.2 2 = nI r from by rw [eX2]; exact ((congrFun (mi_Drop (T1.1)) 2).trans hT1.2.1)) (show okM n X2 from by rw [eX2]; exact (ok_Drop hT1.1 h40 hT1.2.2)) (by rw [eX2, ← eR]; exact mu_round hTn h40 (by rw [eR]; exact hf) hmu) (by rw [← hg, mgw, eR, if_pos hf, eX2]))
    · refine Z_pc (L := [(2, .int (nI n)), (1, .int 0), (0, .ref 0)]) (by rw [hf]; rfl) ?_
      refine Z_iload_n C dX3_giveWay_2 rfl rfl ?_
      refine Z_if_eq C 105 dX3_giveWay_3 (by decide) (fun c3 => ?_) (fun c3 => absurd rfl c3)
      refine Z_aload_n C dX3_giveWay_105 rfl rfl ?_
      refine Z_callV C (ws' := mdW 0 (mRk X2)) (st' := []) (rest := []) [0, 1, 2, 3, 4, 5, 6] (c_X3_reckon X2 (show X2.2.2.2 1 = nI n from by rw [eX2]; exact ((congrFun (mi_Drop (T1.1)) 1).trans hT1.1)) h40 (show X2.2.2.2 2 = nI r from by rw [eX2]; exact ((congrFun (mi_Drop (T1.1)) 2).trans hT1.2.1)) h30 (show okM n X2 from by rw [eX2]; exact (ok_Drop hT1.1 h40 hT1.2.2))) m_X3_reckon K3 g_626 dX3_giveWay_106 rfl rfl rfl (outL 7 rfl rfl rfl) (NW := 7) rfl rfl rfl rfl rfl ⟨Nat.le_of_ble_eq_true rfl, Nat.le_of_ble_eq_true rfl⟩ ⟨Nat.le_of_ble_eq_true rfl, Nat.le_of_ble_eq_true rfl⟩ (Nat.le_of_ble_eq_true rfl) rfl ?_
      refine Z_ws (fun X3 => mdW 0 X3) (mRk X2) (fun X3 eX3 => ?_)
      exact Z_vret C hr hlk dX3_giveWay_109 rfl (by rw [show (mGv M) = X3 from by subst eX1 eT1 eX2 eX3; rw [mGv, ← hg, mgw, eR, if_neg (by rw [hf]; decide)]])
  · refine Z_iload_n C dX3_giveWay_14 rfl rfl ?_
    refine Z_aload_n C dX3_giveWay_15 rfl rfl ?_
    refine Z_get C K3 (v := .int ((T1.1).2.2.2 1)) 1 dX3_giveWay_16 rfl (by decide) g_573 rfl rfl ?_
    refine Z_icmp_ge C 98 dX3_giveWay_19 (by decide) (fun c4 => absurd c4 (ge_no hT1.1 h40 hi)) (fun c4 => ?_)
    refine Z_aload_n C dX3_giveWay_22 rfl rfl ?_
    refine Z_iload_n C dX3_giveWay_23 rfl rfl ?_
    refine Z_callV C (ws' := mdW 0 (T1.1)) (st' := [.int (bI (mHg (T1.1) i))]) (rest := []) [0, 1, 2, 3, 4, 5, 6] (c_X3_hangs (T1.1) (nI i) rfl (by omega)) m_X3_hangs K3 g_630 dX3_giveWay_24 rfl rfl rfl (outR _ _ _) (NW := 7) rfl rfl rfl rfl rfl ⟨Nat.le_of_ble_eq_true rfl, Nat.le_of_ble_eq_true rfl⟩ ⟨Nat.le_of_ble_eq_true rfl, Nat.le_of_ble_eq_true rfl⟩ (Nat.le_of_ble_eq_true rfl) rfl ?_
    refine Z_if_ne C 33 dX3_giveWay_27 (by decide) (fun c5 => ?_) (fun c5 => ?_)
    · have c5 := bI_n0.mp c5
      refine Z_aload_n C dX3_giveWay_33 rfl rfl ?_
      refine Z_get C K3 (v := .ref 5) 7 dX3_giveWay_34 rfl (by decide) g_579 rfl rfl ?_
      refine Z_iload_n C dX3_giveWay_37 rfl rfl ?_
      refine Z_iaN C (v := (T1.1).2.2.1 2 i) dX3_giveWay_38 rfl (by omega) (by decide) rfl ?_
      refine Z_aload_n C dX3_giveWay_39 rfl rfl ?_
      refine Z_iload_n C dX3_giveWay_40 rfl rfl ?_
      refine Z_iconst C (v := 1) dX3_giveWay_41 (by decide) ?_
      refine Z_callV C (ws' := mdW 0 (T1.1)) (st' := [.int ((T1.1).1 1 i), .int ((T1.1).2.2.1 2 i)]) (rest := [.int ((T1.1).2.2.1 2 i)]) [0, 1, 2, 3, 4, 5, 6] (c_X3_to (T1.1) (nI i) 1 rfl (by omega) rfl (by decide)) m_X3_to K3 g_634 dX3_giveWay_42 rfl rfl rfl (outR _ _ _) (NW := 7) rfl rfl rfl rfl rfl ⟨Nat.le_of_ble_eq_true rfl, Nat.le_of_ble_eq_true rfl⟩ ⟨Nat.le_of_ble_eq_true rfl, Nat.le_of_ble_eq_true rfl⟩ (Nat.le_of_ble_eq_true rfl) rfl ?_
      refine Z_icmp_le C 56 dX3_giveWay_45 (by decide) (fun c6 => ?_) (fun c6 => ?_)
      · refine Z_aload_n C dX3_giveWay_56 rfl rfl ?_
        refine Z_iload_n C dX3_giveWay_57 rfl rfl ?_
        refine Z_iconst C (v := 3) dX3_giveWay_58 (by decide) ?_
        refine Z_callV C (ws' := mdW 0 (T1.1)) (st' := [.int ((T1.1).1 3 i)]) (rest := []) [0, 1, 2, 3, 4, 5, 6] (c_X3_to (T1.1) (nI i) 3 rfl (by omega) rfl (by decide)) m_X3_to K3 g_634 dX3_giveWay_59 rfl rfl rfl (outR _ _ _) (NW := 7) rfl rfl rfl rfl rfl ⟨Nat.le_of_ble_eq_true rfl, Nat.le_of_ble_eq_true rfl⟩ ⟨Nat.le_of_ble_eq_true rfl, Nat.le_of_ble_eq_true rfl⟩ (Nat.le_of_ble_eq_true rfl) rfl ?_
        refine Z_if_eq C 92 dX3_giveWay_62 (by decide) (fun c7 => ?_) (fun c7 => ?_)
        · refine Z_iinc C (L' := [(2, .int (nI (i + 1))), (1, .int (bI T1.2)), (0, .ref 0)]) (v := nI (i + 1)) dX3_giveWay_92 rfl (nI_inc _) (by decide) rfl ?_
          refine Z_goto C 14 dX3_giveWay_95 (by decide) ?_
          rw [show mg1 i T1 = ((T1.1), T1.2) from by subst eX1; simp [mg1, mg0, mgE, mHg_t, c4, c5, c6, c7]] at kk
          exact Z_sub (by simp [bI_t, bI_f]) kk
        · refine Z_aload_n C dX3_giveWay_65 rfl rfl ?_
          refine Z_iload_n C dX3_giveWay_66 rfl rfl ?_
          refine Z_iconst C (v := 3) dX3_giveWay_67 (by decide) ?_
          refine Z_callV C (ws' := mdW 0 (T1.1)) (st' := [.int ((T1.1).1 3 i)]) (rest := []) [0, 1, 2, 3, 4, 5, 6] (c_X3_to (T1.1) (nI i) 3 rfl (by omega) rfl (by decide)) m_X3_to K3 g_634 dX3_giveWay_68 rfl rfl rfl (outR _ _ _) (NW := 7) rfl rfl rfl rfl rfl ⟨Nat.le_of_ble_eq_true rfl, Nat.le_of_ble_eq_true rfl⟩ ⟨Nat.le_of_ble_eq_true rfl, Nat.le_of_ble_eq_true rfl⟩ (Nat.le_of_ble_eq_true rfl) rfl ?_
          refine Z_aload_n C dX3_giveWay_71 rfl rfl ?_
          refine Z_get C K3 (v := .ref 4) 6 dX3_giveWay_72 rfl (by decide) g_578 rfl rfl ?_
          refine Z_iload_n C dX3_giveWay_75 rfl rfl ?_
          refine Z_iaN C (v := (T1.1).2.2.1 1 i) dX3_giveWay_76 rfl (by omega) (by decide) rfl ?_
          refine Z_icmp_lt C 83 dX3_giveWay_77 (by decide) (fun c8 => ?_) (fun c8 => ?_)
          · refine Z_aload_n C dX3_giveWay_83 rfl rfl ?_
            refine Z_iload_n C dX3_giveWay_84 rfl rfl ?_
            refine Z_iconst C (v := 3) dX3_giveWay_85 (by decide) ?_
            refine Z_iconst C (v := 0) dX3_giveWay_86 (by decide) ?_
            refine Z_callV C (ws' := mdW 0 (tA (T1.1) 3 i 0)) (st' := []) (rest := []) [0, 1, 2, 3, 4, 5, 6] (c_X3_put (T1.1) (nI i) 3 0 rfl (by omega) rfl (by decide)) m_X3_put K3 g_647 dX3_giveWay_87 rfl rfl rfl (outL 7 rfl rfl rfl) (NW := 7) rfl rfl rfl rfl rfl ⟨Nat.le_of_ble_eq_true rfl, Nat.le_of_ble_eq_true rfl⟩ ⟨Nat.le_of_ble_eq_true rfl, Nat.le_of_ble_eq_true rfl⟩ (Nat.le_of_ble_eq_true rfl) rfl ?_
            refine Z_iconst C (v := 1) dX3_giveWay_90 (by decide) ?_
            refine Z_istore_n C (L' := [(1, .int 1), (2, .int (nI i)), (0, .ref 0)]) dX3_giveWay_91 rfl (by decide) rfl ?_
            refine Z_iinc C (L' := [(2, .int (nI (i + 1))), (1, .int 1), (0, .ref 0)]) (v := nI (i + 1)) dX3_giveWay_92 rfl (nI_inc _) (by decide) rfl ?_
            refine Z_goto C 14 dX3_giveWay_95 (by decide) ?_
            rw [show mg1 i T1 = ((tA (T1.1) 3 i 0), true) from by subst eX1; simp [mg1, mg0, mgE, mHg_t, c4, c5, c6, c7, c8]] at kk
            exact Z_sub (by simp [bI_t, bI_f]) kk
          · refine Z_goto C 92 dX3_giveWay_80 (by decide) ?_
            refine Z_iinc C (L' := [(2, .int (nI (i + 1))), (1, .int (bI T1.2)), (0, .ref 0)]) (v := nI (i + 1)) dX3_giveWay_92 rfl (nI_inc _) (by decide) rfl ?_
            refine Z_goto C 14 dX3_giveWay_95 (by decide) ?_
            rw [show mg1 i T1 = ((T1.1), T1.2) from by subst eX1; simp [mg1, mg0, mgE, mHg_t, c4, c5, c6, c7, c8]] at kk
            exact Z_sub (by simp [bI_t, bI_f]) kk
      · refine Z_iload_n C dX3_giveWay_48 rfl rfl ?_
        refine Z_aload_n C dX3_giveWay_49 rfl rfl ?_
        refine Z_iload_n C dX3_giveWay_50 rfl rfl ?_
        refine Z_callV C (ws' := mdW 0 ((mTear (T1.1) i).1)) (st' := [.int (bI (mTear (T1.1) i).2), .int (bI T1.2)]) (rest := [.int (bI T1.2)]) [0, 1, 2, 3, 4, 5, 6] (c_X3_tear (T1.1) (nI i) hT1.1 h40 hT1.2.1 h30 hT1.2.2 rfl (by omega)) m_X3_tear K3 g_639 dX3_giveWay_51 rfl rfl rfl (outL 7 rfl rfl rfl) (NW := 7) rfl rfl rfl rfl rfl ⟨Nat.le_of_ble_eq_true rfl, Nat.le_of_ble_eq_true rfl⟩ ⟨Nat.le_of_ble_eq_true rfl, Nat.le_of_ble_eq_true rfl⟩ (Nat.le_of_ble_eq_true rfl) rfl ?_
        refine Z_ws (fun X4 => mdW 0 X4) ((mTear (T1.1) i).1) (fun X4 eX4 => ?_)
        refine Z_ior C (v := bI (T1.2 || (mTear (T1.1) i).2)) dX3_giveWay_54 (bI_or _ _) ?_
        refine Z_istore_n C (L' := [(1, .int (bI (T1.2 || (mTear (T1.1) i).2))), (2, .int (nI i)), (0, .ref 0)]) dX3_giveWay_55 rfl (by decide) rfl ?_
        refine Z_aload_n C dX3_giveWay_56 rfl rfl ?_
        refine Z_iload_n C dX3_giveWay_57 rfl rfl ?_
        refine Z_iconst C (v := 3) dX3_giveWay_58 (by decide) ?_
        refine Z_callV C (ws' := mdW 0 X4) (st' := [.int (X4.1 3 i)]) (rest := []) [0, 1, 2, 3, 4, 5, 6] (c_X3_to X4 (nI i) 3 rfl (by omega) rfl (by decide)) m_X3_to K3 g_634 dX3_giveWay_59 rfl rfl rfl (outR _ _ _) (NW := 7) rfl rfl rfl rfl rfl ⟨Nat.le_of_ble_eq_true rfl, Nat.le_of_ble_eq_true rfl⟩ ⟨Nat.le_of_ble_eq_true rfl, Nat.le_of_ble_eq_true rfl⟩ (Nat.le_of_ble_eq_true rfl) rfl ?_
        refine Z_if_eq C 92 dX3_giveWay_62 (by decide) (fun c9 => ?_) (fun c9 => ?_)
        · refine Z_iinc C (L' := [(2, .int (nI (i + 1))), (1, .int (bI (T1.2 || (mTear (T1.1) i).2))), (0, .ref 0)]) (v := nI (i + 1)) dX3_giveWay_92 rfl (nI_inc _) (by decide) rfl ?_
          refine Z_goto C 14 dX3_giveWay_95 (by decide) ?_
          rw [show mg1 i T1 = (X4, (T1.2 || (mTear (T1.1) i).2)) from by subst eX1 eX4; simp [mg1, mg0, mgE, mHg_t, c4, c5, c6, c9]] at kk
          exact Z_sub (by simp [bI_t, bI_f]) kk
        · refine Z_aload_n C dX3_giveWay_65 rfl rfl ?_
          refine Z_iload_n C dX3_giveWay_66 rfl rfl ?_
          refine Z_iconst C (v := 3) dX3_giveWay_67 (by decide) ?_
          refine Z_callV C (ws' := mdW 0 X4) (st' := [.int (X4.1 3 i)]) (rest := []) [0, 1, 2, 3, 4, 5, 6] (c_X3_to X4 (nI i) 3 rfl (by omega) rfl (by decide)) m_X3_to K3 g_634 dX3_giveWay_68 rfl rfl rfl (outR _ _ _) (NW := 7) rfl rfl rfl rfl rfl ⟨Nat.le_of_ble_eq_true rfl, Nat.le_of_ble_eq_true rfl⟩ ⟨Nat.le_of_ble_eq_true rfl, Nat.le_of_ble_eq_true rfl⟩ (Nat.le_of_ble_eq_true rfl) rfl ?_
          refine Z_aload_n C dX3_giveWay_71 rfl rfl ?_
          refine Z_get C K3 (v := .ref 4) 6 dX3_giveWay_72 rfl (by decide) g_578 rfl rfl ?_
          refine Z_iload_n C dX3_giveWay_75 rfl rfl ?_
          refine Z_iaN C (v := X4.2.2.1 1 i) dX3_giveWay_76 rfl (by omega) (by decide) rfl ?_
          refine Z_icmp_lt C 83 dX3_giveWay_77 (by decide) (fun c10 => ?_) (fun c10 => ?_)
          · refine Z_aload_n C dX3_giveWay_83 rfl rfl ?_
            refine Z_iload_n C dX3_giveWay_84 rfl rfl ?_
            refine Z_iconst C (v := 3) dX3_giveWay_85 (by decide) ?_
            refine Z_iconst C (v := 0) dX3_giveWay_86 (by decide) ?_
            refine Z_callV C (ws' := mdW 0 (tA X4 3 i 0)) (st' := []) (rest := []) [0, 1, 2, 3, 4, 5, 6] (c_X3_put X4 (nI i) 3 0 rfl (by omega) rfl (by decide)) m_X3_put K3 g_647 dX3_giveWay_87 rfl rfl rfl (outL 7 rfl rfl rfl) (NW := 7) rfl rfl rfl rfl rfl ⟨Nat.le_of_ble_eq_true rfl, Nat.le_of_ble_eq_true rfl⟩ ⟨Nat.le_of_ble_eq_true rfl, Nat.le_of_ble_eq_true rfl⟩ (Nat.le_of_ble_eq_true rfl) rfl ?_
            refine Z_iconst C (v := 1) dX3_giveWay_90 (by decide) ?_
            refine Z_istore_n C (L' := [(1, .int 1), (2, .int (nI i)), (0, .ref 0)]) dX3_giveWay_91 rfl (by decide) rfl ?_
            refine Z_iinc C (L' := [(2, .int (nI (i + 1))), (1, .int 1), (0, .ref 0)]) (v := nI (i + 1)) dX3_giveWay_92 rfl (nI_inc _) (by decide) rfl ?_
            refine Z_goto C 14 dX3_giveWay_95 (by decide) ?_
            rw [show mg1 i T1 = ((tA X4 3 i 0), true) from by subst eX1 eX4; simp [mg1, mg0, mgE, mHg_t, c4, c5, c6, c9, c10]] at kk
            exact Z_sub (by simp [bI_t, bI_f]) kk
          · refine Z_goto C 92 dX3_giveWay_80 (by decide) ?_
            refine Z_iinc C (L' := [(2, .int (nI (i + 1))), (1, .int (bI (T1.2 || (mTear (T1.1) i).2))), (0, .ref 0)]) (v := nI (i + 1)) dX3_giveWay_92 rfl (nI_inc _) (by decide) rfl ?_
            refine Z_goto C 14 dX3_giveWay_95 (by decide) ?_
            rw [show mg1 i T1 = (X4, (T1.2 || (mTear (T1.1) i).2)) from by subst eX1 eX4; simp [mg1, mg0, mgE, mHg_t, c4, c5, c6, c9, c10]] at kk
            exact Z_sub (by simp [bI_t, bI_f]) kk
    · have c5 := bI_0.mp c5
      refine Z_goto C 92 dX3_giveWay_30 (by decide) ?_
      refine Z_iinc C (L' := [(2, .int (nI (i + 1))), (1, .int (bI T1.2)), (0, .ref 0)]) (v := nI (i + 1)) dX3_giveWay_92 rfl (nI_inc _) (by decide) rfl ?_
      refine Z_goto C 14 dX3_giveWay_95 (by decide) ?_
      rw [show mg1 i T1 = ((T1.1), T1.2) from by subst eX1; simp [mg1, mg0, mgE, mHg_t, c4, c5]] at kk
      exact Z_sub (by simp [bI_t, bI_f]) kk
set_option maxHeartbeats 4000000 in
set_option maxRecDepth 20000 in
theorem c_X3_hanging (M : Md) {n r : Nat} (hn : M.2.2.2 1 = nI n) (h40 : n ≤ 40) (hq : M.2.2.2 2 = nI r) (h30 : r ≤ 30) (ho : okM n M) : CT yX3_hanging cX3_hanging 3 (some .int) 1 0 0 [.ref 0] (mdW 0 M) (some (.int (mHa M))) (mdW 0 M) := by
  refine CT_of (L := [(0, .ref 0)]) (by decide) (fun _ => rfl) (fun _ => Nat.le_of_ble_eq_true rfl) ?_
  intro p l e s m args below meth c G h A C hr hlk _
  refine Z_iconst C (v := 0) dX3_hanging_0 (by decide) ?_
  refine Z_istore_n C (L' := [(1, .int 0), (0, .ref 0)]) dX3_hanging_1 rfl (by decide) rfl ?_
  refine Z_iconst C (v := 0) dX3_hanging_2 (by decide) ?_
  refine Z_istore_n C (L' := [(2, .int 0), (1, .int 0), (0, .ref 0)]) dX3_hanging_3 rfl (by decide) rfl ?_
  refine Zfor (σ := Int32) (fun i T1 => Z p l e _ s m args below meth c 3 G A h _ 0 0 (mdW 0 M) 4 [(2, .int (nI i)), (1, .int T1), (0, .ref 0)] []) (fun i T1 => True) (mHa1 M) n (0) trivial (fun i T1 hi hT1 => trivial) (fun T1 hT1 eT1 => ?_) (fun i T1 hi hT1 hT1' kk => ?_)
  · refine Z_iload_n C dX3_hanging_4 rfl rfl ?_
    refine Z_aload_n C dX3_hanging_5 rfl rfl ?_
    refine Z_get C K3 (v := .int (M.2.2.2 1)) 1 dX3_hanging_6 rfl (by decide) g_573 rfl rfl ?_
    refine Z_icmp_ge C 27 dX3_hanging_9 (by decide) (fun c1 => ?_) (fun c1 => absurd (ge_yes hn) c1)
    refine Z_iload_n C dX3_hanging_27 rfl rfl ?_
    exact Z_iret C hr hlk dX3_hanging_28 (congrArg (fun z => some (Value.int z)) (show (mHa M) = T1 from by subst eT1; simp only [mHa, mN_eq hn h40])) rfl
  · refine Z_iload_n C dX3_hanging_4 rfl rfl ?_
    refine Z_aload_n C dX3_hanging_5 rfl rfl ?_
    refine Z_get C K3 (v := .int (M.2.2.2 1)) 1 dX3_hanging_6 rfl (by decide) g_573 rfl rfl ?_
    refine Z_icmp_ge C 27 dX3_hanging_9 (by decide) (fun c2 => absurd c2 (ge_no hn h40 hi)) (fun c2 => ?_)
    refine Z_iload_n C dX3_hanging_12 rfl rfl ?_
    refine Z_aload_n C dX3_hanging_13 rfl rfl ?_
    refine Z_iload_n C dX3_hanging_14 rfl rfl ?_
    refine Z_iconst C (v := 2) dX3_hanging_15 (by decide) ?_
    refine Z_callV C (ws' := mdW 0 M) (st' := [.int (M.1 2 i), .int T1]) (rest := [.int T1]) [0, 1, 2, 3, 4, 5, 6] (c_X3_to M (nI i) 2 rfl (by omega) rfl (by decide)) m_X3_to K3 g_634 dX3_hanging_16 rfl rfl rfl (outR _ _ _) (NW := 7) rfl rfl rfl rfl rfl ⟨Nat.le_of_ble_eq_true rfl, Nat.le_of_ble_eq_true rfl⟩ ⟨Nat.le_of_ble_eq_true rfl, Nat.le_of_ble_eq_true rfl⟩ (Nat.le_of_ble_eq_true rfl) rfl ?_
    refine Z_iadd C (v := T1 + (M.1 2 i)) dX3_hanging_19 rfl ?_
    refine Z_istore_n C (L' := [(1, .int (T1 + (M.1 2 i))), (2, .int (nI i)), (0, .ref 0)]) dX3_hanging_20 rfl (by decide) rfl ?_
    refine Z_iinc C (L' := [(2, .int (nI (i + 1))), (1, .int (T1 + (M.1 2 i))), (0, .ref 0)]) (v := nI (i + 1)) dX3_hanging_21 rfl (nI_inc _) (by decide) rfl ?_
    refine Z_goto C 4 dX3_hanging_24 (by decide) ?_
    rw [show (mHa1 M) i T1 = T1 + (M.1 2 i) from by simp [mHa1, c2]] at kk
    exact Z_sub (by simp [bI_t, bI_f]) kk
