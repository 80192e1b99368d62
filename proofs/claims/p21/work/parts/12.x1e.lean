set_option maxHeartbeats 4000000 in
set_option maxRecDepth 20000 in
theorem c_X1_topOf (S : St) (x : Int32) {n : Nat} (hn : S.2.2.1 0 = nI n) (h40 : n ≤ 40) : CT yX1_topOf cX1_topOf 4 (some .int) 1 0 0 [.ref 0, .int x] (stW 0 S) (some (.int (topOf S x))) (stW 0 S) := by
  refine CT_of (L := [(0, .ref 0), (1, .int x)]) (by decide) (fun _ => rfl) (fun _ => Nat.le_of_ble_eq_true rfl) ?_
  intro p l e s m args below meth c G h A C hr hlk _
  refine Z_iload_n C dX1_topOf_0 rfl rfl ?_
  refine Z_istore_n C (L' := [(2, .int x), (0, .ref 0), (1, .int x)]) dX1_topOf_1 rfl (by decide) rfl ?_
  refine Z_iconst C (v := 0) dX1_topOf_2 (by decide) ?_
  refine Z_istore_n C (L' := [(3, .int 0), (2, .int x), (0, .ref 0), (1, .int x)]) dX1_topOf_3 rfl (by decide) rfl ?_
  refine Zind (σ := Int32) (fun k T => ∀ r : Nat, r + k = 40 → topN k S T = topOf S x → Z p l e _ s m args below meth c 4 G A h _ 0 0 (stW 0 S) 4 [(3, .int (nI r)), (2, .int T), (0, .ref 0), (1, .int x)] []) 40 x (fun T r hr1 hg => ?_) (fun k T ih r hr1 hg => ?_) 0 (Nat.zero_add _) (topN_def S x)
  · obtain rfl : r = 40 := by omega
    refine Z_aload_n C dX1_topOf_4 rfl rfl ?_
    refine Z_iload_n C dX1_topOf_5 rfl rfl ?_
    refine Z_callV C (ws' := stW 0 S) (st' := [.int (bI (hasB S T))]) (rest := []) [0, 1, 2, 3, 4, 5, 6, 7, 8, 9] (c_X1_has S T) m_X1_has K1 g_208 dX1_topOf_6 rfl rfl rfl (outR _ _ _) (NW := 10) rfl rfl rfl rfl rfl ⟨Nat.le_of_ble_eq_true rfl, Nat.le_of_ble_eq_true rfl⟩ ⟨Nat.le_of_ble_eq_true rfl, Nat.le_of_ble_eq_true rfl⟩ (Nat.le_of_ble_eq_true rfl) rfl ?_
    refine Z_if_eq C 42 dX1_topOf_9 (by decide) (fun c1 => ?_) (fun c1 => ?_)
    · have c1 := bI_0.mp c1
      refine Z_iconst C (v := (-1)) dX1_topOf_42 (by decide) ?_
      exact Z_iret C hr hlk dX1_topOf_43 (congrArg (fun z => some (Value.int z)) (show (topOf S x) = (-1) from by rw [← hg]; simp [topN, c1])) rfl
    · have c1 := bI_n0.mp c1
      refine Z_iload_n C dX1_topOf_12 rfl rfl ?_
      refine Z_bipush C (v := 40) dX1_topOf_13 (by decide) ?_
      refine Z_icmp_ge C 42 dX1_topOf_15 (by decide) (fun c2 => ?_) (fun c2 => absurd (show (40 : Int32) ≤ nI 40 from by decide) c2)
      refine Z_iconst C (v := (-1)) dX1_topOf_42 (by decide) ?_
      exact Z_iret C hr hlk dX1_topOf_43 (congrArg (fun z => some (Value.int z)) (show (topOf S x) = (-1) from by rw [← hg]; simp [topN, c1, c2])) rfl
  · refine Z_aload_n C dX1_topOf_4 rfl rfl ?_
    refine Z_iload_n C dX1_topOf_5 rfl rfl ?_
    refine Z_callV C (ws' := stW 0 S) (st' := [.int (bI (hasB S T))]) (rest := []) [0, 1, 2, 3, 4, 5, 6, 7, 8, 9] (c_X1_has S T) m_X1_has K1 g_208 dX1_topOf_6 rfl rfl rfl (outR _ _ _) (NW := 10) rfl rfl rfl rfl rfl ⟨Nat.le_of_ble_eq_true rfl, Nat.le_of_ble_eq_true rfl⟩ ⟨Nat.le_of_ble_eq_true rfl, Nat.le_of_ble_eq_true rfl⟩ (Nat.le_of_ble_eq_true rfl) rfl ?_
    refine Z_if_eq C 42 dX1_topOf_9 (by decide) (fun c3 => ?_) (fun c3 => ?_)
    · have c3 := bI_0.mp c3
      refine Z_iconst C (v := (-1)) dX1_topOf_42 (by decide) ?_
      exact Z_iret C hr hlk dX1_topOf_43 (congrArg (fun z => some (Value.int z)) (show (topOf S x) = (-1) from by rw [← hg]; simp [topN, c3])) rfl
    · have c3 := bI_n0.mp c3
      obtain ⟨j, hj, rfl⟩ := has_ix hn h40 c3
      have ej : ix (nI j) = j := ix_nI (by omega)
      refine Z_iload_n C dX1_topOf_12 rfl rfl ?_
      refine Z_bipush C (v := 40) dX1_topOf_13 (by decide) ?_
      refine Z_icmp_ge C 42 dX1_topOf_15 (by decide) (fun c4 => absurd c4 (show ¬ (40 : Int32) ≤ nI r from ge_no' (n := 40) (by omega) (by omega))) (fun c4 => ?_)
      refine Z_aload_n C dX1_topOf_18 rfl rfl ?_
      refine Z_get C K1 (v := .ref 4) 3 dX1_topOf_19 rfl (by decide) g_43 rfl rfl ?_
      refine Z_iload_n C dX1_topOf_22 rfl rfl ?_
      refine Z_iaN C (v := S.1 3 j) dX1_topOf_23 rfl (by omega) (by decide) rfl ?_
      refine Z_if_le C 29 dX1_topOf_24 (by decide) (fun c5 => ?_) (fun c5 => ?_)
      · refine Z_aload_n C dX1_topOf_29 rfl rfl ?_
        refine Z_get C K1 (v := .ref 5) 4 dX1_topOf_30 rfl (by decide) g_45 rfl rfl ?_
        refine Z_iload_n C dX1_topOf_33 rfl rfl ?_
        refine Z_iaN C (v := S.1 4 j) dX1_topOf_34 rfl (by omega) (by decide) rfl ?_
        refine Z_istore_n C (L' := [(2, .int (S.1 4 j)), (3, .int (nI r)), (0, .ref 0), (1, .int x)]) dX1_topOf_35 rfl (by decide) rfl ?_
        refine Z_iinc C (L' := [(3, .int (nI (r + 1))), (2, .int (S.1 4 j)), (0, .ref 0), (1, .int x)]) (v := nI (r + 1)) dX1_topOf_36 rfl (nI_inc _) (by decide) rfl ?_
        refine Z_goto C 4 dX1_topOf_39 (by decide) ?_
        exact Z_sub (by simp) (ih (S.1 4 j) (r + 1) (by omega) (by rw [← hg]; simp [topN, c3, ej, c4, c5]))
      · refine Z_iload_n C dX1_topOf_27 rfl rfl ?_
        exact Z_iret C hr hlk dX1_topOf_28 (congrArg (fun z => some (Value.int z)) (show (topOf S x) = (nI j) from by rw [← hg]; simp [topN, c3, ej, c4, c5])) rfl
set_option maxHeartbeats 4000000 in
set_option maxRecDepth 20000 in
theorem c_X1_tell (S : St) (x : Int32) (y : Int32) {n : Nat} (hn : S.2.2.1 0 = nI n) (h40 : n ≤ 40) {w : Nat} (hy : y = nI w) (hw : w ≤ 9) : CT yX1_tell cX1_tell 3 (some .int) 1 0 0 [.ref 0, .int x, .int y] (stW 0 S) (some (.int (tell S x y))) (stW 0 S) := by
  refine CT_of (L := [(0, .ref 0), (1, .int x), (2, .int y)]) (by decide) (fun _ => rfl) (fun _ => Nat.le_of_ble_eq_true rfl) ?_
  intro p l e s m args below meth c G h A C hr hlk _
  subst hy
  refine Z_aload_n C dX1_tell_0 rfl rfl ?_
  refine Z_iload_n C dX1_tell_1 rfl rfl ?_
  refine Z_callV C (ws' := stW 0 S) (st' := [.int (bI (hasB S x))]) (rest := []) [0, 1, 2, 3, 4, 5, 6, 7, 8, 9] (c_X1_has S x) m_X1_has K1 g_208 dX1_tell_2 rfl rfl rfl (outR _ _ _) (NW := 10) rfl rfl rfl rfl rfl ⟨Nat.le_of_ble_eq_true rfl, Nat.le_of_ble_eq_true rfl⟩ ⟨Nat.le_of_ble_eq_true rfl, Nat.le_of_ble_eq_true rfl⟩ (Nat.le_of_ble_eq_true rfl) rfl ?_
  refine Z_if_ne C 10 dX1_tell_5 (by decide) (fun c1 => ?_) (fun c1 => ?_)
  · have c1 := bI_n0.mp c1
    obtain ⟨j, hj, rfl⟩ := has_ix hn h40 c1
    have ej : ix (nI j) = j := ix_nI (by omega)
    refine Z_iload_n C dX1_tell_10 rfl rfl ?_
    rcases (show w = 0 ∨ w = 1 ∨ w = 2 ∨ w = 3 ∨ w = 4 ∨ w = 5 ∨ w = 6 ∨ w = 7 ∨ w = 8 ∨ w = 9 from by omega) with rfl | rfl | rfl | rfl | rfl | rfl | rfl | rfl | rfl | rfl
    · refine Z_tIn C 0 60 dX1_tell_11 (by decide) (by decide) (by decide) rfl (by decide) ?_
      refine Z_aload_n C dX1_tell_60 rfl rfl ?_
      refine Z_get C K1 (v := .ref 1) 0 dX1_tell_61 rfl (by decide) g_40 rfl rfl ?_
      refine Z_iload_n C dX1_tell_64 rfl rfl ?_
      refine Z_iaN C (v := S.1 0 j) dX1_tell_65 rfl (by omega) (by decide) rfl ?_
      exact Z_iret C hr hlk dX1_tell_66 (congrArg (fun z => some (Value.int z)) (show (tell S (nI j) (nI 0)) = (S.1 0 j) from by simp [tell, tellN, ix_9, bI, c1, ej])) rfl
    · refine Z_tIn C 1 67 dX1_tell_11 (by decide) (by decide) (by decide) rfl (by decide) ?_
      refine Z_aload_n C dX1_tell_67 rfl rfl ?_
      refine Z_get C K1 (v := .ref 2) 1 dX1_tell_68 rfl (by decide) g_41 rfl rfl ?_
      refine Z_iload_n C dX1_tell_71 rfl rfl ?_
      refine Z_iaN C (v := S.1 1 j) dX1_tell_72 rfl (by omega) (by decide) rfl ?_
      exact Z_iret C hr hlk dX1_tell_73 (congrArg (fun z => some (Value.int z)) (show (tell S (nI j) (nI 1)) = (S.1 1 j) from by simp [tell, tellN, ix_9, bI, c1, ej])) rfl
    · refine Z_tIn C 2 74 dX1_tell_11 (by decide) (by decide) (by decide) rfl (by decide) ?_
      refine Z_aload_n C dX1_tell_74 rfl rfl ?_
      refine Z_get C K1 (v := .ref 7) 6 dX1_tell_75 rfl (by decide) g_47 rfl rfl ?_
      refine Z_iload_n C dX1_tell_78 rfl rfl ?_
      refine Z_zaN C (v := bI (S.2.1 j)) dX1_tell_79 rfl (by omega) (by decide) rfl ?_
      refine Z_if_eq C 87 dX1_tell_80 (by decide) (fun c2 => ?_) (fun c2 => ?_)
      · have c2 := bI_0.mp c2
        refine Z_iconst C (v := 0) dX1_tell_87 (by decide) ?_
        exact Z_iret C hr hlk dX1_tell_88 (congrArg (fun z => some (Value.int z)) (show (tell S (nI j) (nI 2)) = 0 from by simp [tell, tellN, ix_9, bI, c1, ej, c2])) rfl
      · have c2 := bI_n0.mp c2
        refine Z_iconst C (v := 1) dX1_tell_83 (by decide) ?_
        refine Z_goto C 88 dX1_tell_84 (by decide) ?_
        exact Z_iret C hr hlk dX1_tell_88 (congrArg (fun z => some (Value.int z)) (show (tell S (nI j) (nI 2)) = 1 from by simp [tell, tellN, ix_9, bI, c1, ej, c2])) rfl
    · refine Z_tIn C 3 89 dX1_tell_11 (by decide) (by decide) (by decide) rfl (by decide) ?_
      refine Z_aload_n C dX1_tell_89 rfl rfl ?_
      refine Z_get C K1 (v := .ref 4) 3 dX1_tell_90 rfl (by decide) g_43 rfl rfl ?_
      refine Z_iload_n C dX1_tell_93 rfl rfl ?_
      refine Z_iaN C (v := S.1 3 j) dX1_tell_94 rfl (by omega) (by decide) rfl ?_
      exact Z_iret C hr hlk dX1_tell_95 (congrArg (fun z => some (Value.int z)) (show (tell S (nI j) (nI 3)) = (S.1 3 j) from by simp [tell, tellN, ix_9, bI, c1, ej])) rfl
    · refine Z_tIn C 4 96 dX1_tell_11 (by decide) (by decide) (by decide) rfl (by decide) ?_
      refine Z_aload_n C dX1_tell_96 rfl rfl ?_
      refine Z_get C K1 (v := .ref 5) 4 dX1_tell_97 rfl (by decide) g_45 rfl rfl ?_
      refine Z_iload_n C dX1_tell_100 rfl rfl ?_
      refine Z_iaN C (v := S.1 4 j) dX1_tell_101 rfl (by omega) (by decide) rfl ?_
      exact Z_iret C hr hlk dX1_tell_102 (congrArg (fun z => some (Value.int z)) (show (tell S (nI j) (nI 4)) = (S.1 4 j) from by simp [tell, tellN, ix_9, bI, c1, ej])) rfl
    · refine Z_tIn C 5 103 dX1_tell_11 (by decide) (by decide) (by decide) rfl (by decide) ?_
      refine Z_aload_n C dX1_tell_103 rfl rfl ?_
      refine Z_get C K1 (v := .ref 6) 5 dX1_tell_104 rfl (by decide) g_46 rfl rfl ?_
      refine Z_iload_n C dX1_tell_107 rfl rfl ?_
      refine Z_iaN C (v := S.1 5 j) dX1_tell_108 rfl (by omega) (by decide) rfl ?_
      exact Z_iret C hr hlk dX1_tell_109 (congrArg (fun z => some (Value.int z)) (show (tell S (nI j) (nI 5)) = (S.1 5 j) from by simp [tell, tellN, ix_9, bI, c1, ej])) rfl
    · refine Z_tIn C 6 110 dX1_tell_11 (by decide) (by decide) (by decide) rfl (by decide) ?_
      refine Z_aload_n C dX1_tell_110 rfl rfl ?_
      refine Z_get C K1 (v := .ref 3) 2 dX1_tell_111 rfl (by decide) g_42 rfl rfl ?_
      refine Z_iload_n C dX1_tell_114 rfl rfl ?_
      refine Z_iaN C (v := S.1 2 j) dX1_tell_115 rfl (by omega) (by decide) rfl ?_
      exact Z_iret C hr hlk dX1_tell_116 (congrArg (fun z => some (Value.int z)) (show (tell S (nI j) (nI 6)) = (S.1 2 j) from by simp [tell, tellN, ix_9, bI, c1, ej])) rfl
    · refine Z_tIn C 7 117 dX1_tell_11 (by decide) (by decide) (by decide) rfl (by decide) ?_
      refine Z_aload_n C dX1_tell_117 rfl rfl ?_
      refine Z_get C K1 (v := .ref 8) 7 dX1_tell_118 rfl (by decide) g_48 rfl rfl ?_
      refine Z_iload_n C dX1_tell_121 rfl rfl ?_
      refine Z_iaN C (v := S.1 6 j) dX1_tell_122 rfl (by omega) (by decide) rfl ?_
      exact Z_iret C hr hlk dX1_tell_123 (congrArg (fun z => some (Value.int z)) (show (tell S (nI j) (nI 7)) = (S.1 6 j) from by simp [tell, tellN, ix_9, bI, c1, ej])) rfl
    · refine Z_tIn C 8 124 dX1_tell_11 (by decide) (by decide) (by decide) rfl (by decide) ?_
      refine Z_aload_n C dX1_tell_124 rfl rfl ?_
      refine Z_get C K1 (v := .ref 9) 8 dX1_tell_125 rfl (by decide) g_50 rfl rfl ?_
      refine Z_iload_n C dX1_tell_128 rfl rfl ?_
      refine Z_iaN C (v := S.1 7 j) dX1_tell_129 rfl (by omega) (by decide) rfl ?_
      exact Z_iret C hr hlk dX1_tell_130 (congrArg (fun z => some (Value.int z)) (show (tell S (nI j) (nI 8)) = (S.1 7 j) from by simp [tell, tellN, ix_9, bI, c1, ej])) rfl
    · refine Z_tOut C 131 dX1_tell_11 (by decide) (by decide) ?_
      refine Z_aload_n C dX1_tell_131 rfl rfl ?_
      refine Z_iload_n C dX1_tell_132 rfl rfl ?_
      refine Z_callV C (ws' := stW 0 S) (st' := [.int (heldBy S (nI j))]) (rest := []) [0, 1, 2, 3, 4, 5, 6, 7, 8, 9] (c_X1_countHeldBy S (nI j) hn h40) m_X1_countHeldBy K1 g_244 dX1_tell_133 rfl rfl rfl (outR _ _ _) (NW := 10) rfl rfl rfl rfl rfl ⟨Nat.le_of_ble_eq_true rfl, Nat.le_of_ble_eq_true rfl⟩ ⟨Nat.le_of_ble_eq_true rfl, Nat.le_of_ble_eq_true rfl⟩ (Nat.le_of_ble_eq_true rfl) rfl ?_
      exact Z_iret C hr hlk dX1_tell_136 (congrArg (fun z => some (Value.int z)) (show (tell S (nI j) (nI 9)) = (heldBy S (nI j)) from by simp [tell, tellN, ix_9, bI, c1, ej])) rfl
  · have c1 := bI_0.mp c1
    refine Z_iconst C (v := 0) dX1_tell_8 (by decide) ?_
    exact Z_iret C hr hlk dX1_tell_9 (congrArg (fun z => some (Value.int z)) (show (tell S x (nI w)) = 0 from by simp [tell, tellN, ix_9, bI, c1])) rfl
