set_option maxHeartbeats 4000000 in
set_option maxRecDepth 20000 in
theorem c_X0_has (B : Sr) (x : Int32) : CT yX0_has cX0_has 2 (some .boolean) 0 0 0 [.ref 0, .int x] (srW 0 B) (some (.int (bI (hasR B x)))) (srW 0 B) := by
  refine CT_of (L := [(0, .ref 0), (1, .int x)]) (by decide) (fun _ => rfl) (fun _ => Nat.le_of_ble_eq_true rfl) ?_
  intro p l e s m args below meth c G h A C hr hlk _
  refine Z_iload_n C dX0_has_0 rfl rfl ?_
  refine Z_if_lt C 16 dX0_has_1 (by decide) (fun c1 => ?_) (fun c1 => ?_)
  · refine Z_iconst C (v := 0) dX0_has_16 (by decide) ?_
    exact Z_zret C hr hlk dX0_has_17 rfl (congrArg (fun z => some (Value.int z)) (show (bI (hasR B x)) = 0 from by simp [hasR, bI, c1])) rfl
  · refine Z_iload_n C dX0_has_4 rfl rfl ?_
    refine Z_aload_n C dX0_has_5 rfl rfl ?_
    refine Z_get C K0 (v := .int (B.2 0)) 3 dX0_has_6 rfl (by decide) g_96 rfl rfl ?_
    refine Z_icmp_ge C 16 dX0_has_9 (by decide) (fun c2 => ?_) (fun c2 => ?_)
    · refine Z_iconst C (v := 0) dX0_has_16 (by decide) ?_
      exact Z_zret C hr hlk dX0_has_17 rfl (congrArg (fun z => some (Value.int z)) (show (bI (hasR B x)) = 0 from by simp [hasR, bI, c1, c2])) rfl
    · refine Z_iconst C (v := 1) dX0_has_12 (by decide) ?_
      refine Z_goto C 17 dX0_has_13 (by decide) ?_
      exact Z_zret C hr hlk dX0_has_17 rfl (congrArg (fun z => some (Value.int z)) (show (bI (hasR B x)) = 1 from by simp [hasR, bI, c1, c2])) rfl
set_option maxHeartbeats 4000000 in
set_option maxRecDepth 20000 in
theorem c_X0_isFull (B : Sr) : CT yX0_isFull cX0_isFull 1 (some .boolean) 0 0 0 [.ref 0] (srW 0 B) (some (.int (bI (fullR B)))) (srW 0 B) := by
  refine CT_of (L := [(0, .ref 0)]) (by decide) (fun _ => rfl) (fun _ => Nat.le_of_ble_eq_true rfl) ?_
  intro p l e s m args below meth c G h A C hr hlk _
  refine Z_aload_n C dX0_isFull_0 rfl rfl ?_
  refine Z_get C K0 (v := .int (B.2 0)) 3 dX0_isFull_1 rfl (by decide) g_96 rfl rfl ?_
  refine Z_bipush C (v := 30) dX0_isFull_4 (by decide) ?_
  refine Z_icmp_lt C 13 dX0_isFull_6 (by decide) (fun c1 => ?_) (fun c1 => ?_)
  · refine Z_iconst C (v := 0) dX0_isFull_13 (by decide) ?_
    exact Z_zret C hr hlk dX0_isFull_14 rfl (congrArg (fun z => some (Value.int z)) (show (bI (fullR B)) = 0 from by simp [fullR, bI, c1])) rfl
  · refine Z_iconst C (v := 1) dX0_isFull_9 (by decide) ?_
    refine Z_goto C 14 dX0_isFull_10 (by decide) ?_
    exact Z_zret C hr hlk dX0_isFull_14 rfl (congrArg (fun z => some (Value.int z)) (show (bI (fullR B)) = 1 from by simp [fullR, bI, c1])) rfl
set_option maxHeartbeats 4000000 in
set_option maxRecDepth 20000 in
theorem c_X0_isGone (B : Sr) (S : St) (x : Int32) {b : Nat} (hb : B.2 0 = nI b) (h30 : b ≤ 30) {n : Nat} (hn : S.2.2.1 0 = nI n) (h40 : n ≤ 40) : CT yX0_isGone cX0_isGone 3 (some .boolean) 2 0 0 [.ref 0, .int x, .ref 4] (srW 0 B ++ stW 4 S) (some (.int (bI (goneR B S x)))) (srW 0 B ++ stW 4 S) := by
  refine CT_of (L := [(0, .ref 0), (1, .int x), (2, .ref 4)]) (by decide) (fun _ => rfl) (fun _ => Nat.le_of_ble_eq_true rfl) ?_
  intro p l e s m args below meth c G h A C hr hlk _
  refine Z_aload_n C dX0_isGone_0 rfl rfl ?_
  refine Z_iload_n C dX0_isGone_1 rfl rfl ?_
  refine Z_callV C (ws' := srW 0 B ++ stW 4 S) (st' := [.int (bI (hasR B x))]) (rest := []) [0, 1, 2, 3] (c_X0_has B x) m_X0_has K0 g_199 dX0_isGone_2 rfl rfl rfl (outS 4 rfl (outR _ _ _)) (NW := 14) rfl rfl rfl rfl rfl ⟨Nat.le_of_ble_eq_true rfl, Nat.le_of_ble_eq_true rfl⟩ ⟨Nat.le_of_ble_eq_true rfl, Nat.le_of_ble_eq_true rfl⟩ (Nat.le_of_ble_eq_true rfl) rfl ?_
  refine Z_if_eq C 34 dX0_isGone_5 (by decide) (fun c1 => ?_) (fun c1 => ?_)
  · have c1 := bI_0.mp c1
    refine Z_iconst C (v := 1) dX0_isGone_34 (by decide) ?_
    refine Z_goto C 39 dX0_isGone_35 (by decide) ?_
    exact Z_zret C hr hlk dX0_isGone_39 rfl (congrArg (fun z => some (Value.int z)) (show (bI (goneR B S x)) = 1 from by simp [goneR, bI, c1])) rfl
  · have c1 := bI_n0.mp c1
    obtain ⟨j, hj, rfl⟩ := has_ixR hb h30 c1
    have ej : ix (nI j) = j := ix_nI (by omega)
    refine Z_aload_n C dX0_isGone_8 rfl rfl ?_
    refine Z_aload_n C dX0_isGone_9 rfl rfl ?_
    refine Z_get C K0 (v := .ref 1) 0 dX0_isGone_10 rfl (by decide) g_93 rfl rfl ?_
    refine Z_iload_n C dX0_isGone_13 rfl rfl ?_
    refine Z_iaN C (v := B.1 0 j) dX0_isGone_14 rfl (by omega) (by decide) rfl ?_
    refine Z_callV C (ws' := srW 0 B ++ stW 4 S) (st' := [.int (bI (hangsB S (B.1 0 j)))]) (rest := []) [4, 5, 6, 7, 8, 9, 10, 11, 12, 13] (c_X1_isHanging S (B.1 0 j) hn h40) m_X1_isHanging K1 g_204 dX0_isGone_15 rfl rfl rfl (outS 4 rfl (outR _ _ _)) (NW := 14) rfl rfl rfl rfl rfl ⟨Nat.le_of_ble_eq_true rfl, Nat.le_of_ble_eq_true rfl⟩ ⟨Nat.le_of_ble_eq_true rfl, Nat.le_of_ble_eq_true rfl⟩ (Nat.le_of_ble_eq_true rfl) rfl ?_
    refine Z_if_eq C 34 dX0_isGone_18 (by decide) (fun c2 => ?_) (fun c2 => ?_)
    · have c2 := bI_0.mp c2
      refine Z_iconst C (v := 1) dX0_isGone_34 (by decide) ?_
      refine Z_goto C 39 dX0_isGone_35 (by decide) ?_
      exact Z_zret C hr hlk dX0_isGone_39 rfl (congrArg (fun z => some (Value.int z)) (show (bI (goneR B S (nI j))) = 1 from by simp [goneR, bI, c1, ej, c2])) rfl
    · have c2 := bI_n0.mp c2
      refine Z_aload_n C dX0_isGone_21 rfl rfl ?_
      refine Z_aload_n C dX0_isGone_22 rfl rfl ?_
      refine Z_get C K0 (v := .ref 2) 1 dX0_isGone_23 rfl (by decide) g_94 rfl rfl ?_
      refine Z_iload_n C dX0_isGone_26 rfl rfl ?_
      refine Z_iaN C (v := B.1 1 j) dX0_isGone_27 rfl (by omega) (by decide) rfl ?_
      refine Z_callV C (ws' := srW 0 B ++ stW 4 S) (st' := [.int (bI (hangsB S (B.1 1 j)))]) (rest := []) [4, 5, 6, 7, 8, 9, 10, 11, 12, 13] (c_X1_isHanging S (B.1 1 j) hn h40) m_X1_isHanging K1 g_204 dX0_isGone_28 rfl rfl rfl (outS 4 rfl (outR _ _ _)) (NW := 14) rfl rfl rfl rfl rfl ⟨Nat.le_of_ble_eq_true rfl, Nat.le_of_ble_eq_true rfl⟩ ⟨Nat.le_of_ble_eq_true rfl, Nat.le_of_ble_eq_true rfl⟩ (Nat.le_of_ble_eq_true rfl) rfl ?_
      refine Z_if_ne C 38 dX0_isGone_31 (by decide) (fun c3 => ?_) (fun c3 => ?_)
      · have c3 := bI_n0.mp c3
        refine Z_iconst C (v := 0) dX0_isGone_38 (by decide) ?_
        exact Z_zret C hr hlk dX0_isGone_39 rfl (congrArg (fun z => some (Value.int z)) (show (bI (goneR B S (nI j))) = 0 from by simp [goneR, bI, c1, ej, c2, c3])) rfl
      · have c3 := bI_0.mp c3
        refine Z_iconst C (v := 1) dX0_isGone_34 (by decide) ?_
        refine Z_goto C 39 dX0_isGone_35 (by decide) ?_
        exact Z_zret C hr hlk dX0_isGone_39 rfl (congrArg (fun z => some (Value.int z)) (show (bI (goneR B S (nI j))) = 1 from by simp [goneR, bI, c1, ej, c2, c3])) rfl
set_option maxHeartbeats 4000000 in
set_option maxRecDepth 20000 in
theorem c_X0_add (B : Sr) (x : Int32) (y : Int32) {b : Nat} (hb : B.2 0 = nI b) (hl : b < 30) : CT yX0_add cX0_add 4 (some .int) 1 0 0 [.ref 0, .int x, .int y] (srW 0 B) (some (.int (nI b))) (srW 0 (addR B b x y)) := by
  refine CT_of (L := [(0, .ref 0), (1, .int x), (2, .int y)]) (by decide) (fun _ => rfl) (fun _ => Nat.le_of_ble_eq_true rfl) ?_
  intro p l e s m args below meth c G h A C hr hlk _
  refine Z_aload_n C dX0_add_0 rfl rfl ?_
  refine Z_callV C (ws' := srW 0 B) (st' := [.int (bI (fullR B))]) (rest := []) [0, 1, 2, 3] (c_X0_isFull B) m_X0_isFull K0 g_556 dX0_add_1 rfl rfl rfl (outR _ _ _) (NW := 4) rfl rfl rfl rfl rfl ⟨Nat.le_of_ble_eq_true rfl, Nat.le_of_ble_eq_true rfl⟩ ⟨Nat.le_of_ble_eq_true rfl, Nat.le_of_ble_eq_true rfl⟩ (Nat.le_of_ble_eq_true rfl) rfl ?_
  refine Z_if_eq C 9 dX0_add_4 (by decide) (fun c1 => ?_) (fun c1 => absurd (bI_0.mpr (fullR_no hb hl)) c1)
  refine Z_aload_n C dX0_add_9 rfl rfl ?_
  refine Z_get C K0 (v := .int (nI b)) 3 dX0_add_10 rfl (by decide) g_96 rfl (congrArg (fun z => some (Value.int z)) hb) ?_
  refine Z_istore_n C (L' := [(3, .int (nI b)), (0, .ref 0), (1, .int x), (2, .int y)]) dX0_add_13 rfl (by decide) rfl ?_
  refine Z_aload_n C dX0_add_14 rfl rfl ?_
  refine Z_get C K0 (v := .ref 1) 0 dX0_add_15 rfl (by decide) g_93 rfl rfl ?_
  refine Z_iload_n C dX0_add_18 rfl rfl ?_
  refine Z_iload_n C dX0_add_19 rfl rfl ?_
  refine Z_isN C (ws' := srW 0 (vA B 0 b x)) dX0_add_20 rfl (by omega) (by decide) rfl ?_
  refine Z_aload_n C dX0_add_21 rfl rfl ?_
  refine Z_get C K0 (v := .ref 2) 1 dX0_add_22 rfl (by decide) g_94 rfl rfl ?_
  refine Z_iload_n C dX0_add_25 rfl rfl ?_
  refine Z_iload_n C dX0_add_26 rfl rfl ?_
  refine Z_isN C (ws' := srW 0 (vA (vA B 0 b x) 1 b y)) dX0_add_27 rfl (by omega) (by decide) rfl ?_
  refine Z_aload_n C dX0_add_28 rfl rfl ?_
  refine Z_dup C dX0_add_29 rfl ?_
  refine Z_get C K0 (v := .int (nI b)) 3 dX0_add_30 rfl (by decide) g_96 rfl (congrArg (fun z => some (Value.int z)) hb) ?_
  refine Z_iconst C (v := 1) dX0_add_33 (by decide) ?_
  refine Z_iadd C (v := (nI b) + 1) dX0_add_34 rfl ?_
  refine Z_put C K0 (ws' := srW 0 (vI (vA (vA B 0 b x) 1 b y) 0 ((nI b) + 1))) 3 dX0_add_35 rfl (by decide) g_96 rfl rfl rfl rfl rfl (Nat.le_of_ble_eq_true rfl) rfl ?_
  refine Z_iload_n C dX0_add_38 rfl rfl ?_
  exact Z_iret C hr hlk dX0_add_39 rfl (by rw [show (addR B b x y) = (vI (vA (vA B 0 b x) 1 b y) 0 ((nI b) + 1)) from by simp [addR, c1]])
set_option maxHeartbeats 4000000 in
set_option maxRecDepth 20000 in
theorem c_X0_exchangeEnds (B : Sr) (x : Int32) (y : Int32) {b : Nat} (hb : B.2 0 = nI b) (h30 : b ≤ 30) : CT yX0_exchangeEnds cX0_exchangeEnds 4 (some .boolean) 1 0 0 [.ref 0, .int x, .int y] (srW 0 B) (some (.int (bI (swapB B x y)))) (srW 0 (swapP B x y)) := by
  refine CT_of (L := [(0, .ref 0), (1, .int x), (2, .int y)]) (by decide) (fun _ => rfl) (fun _ => Nat.le_of_ble_eq_true rfl) ?_
  intro p l e s m args below meth c G h A C hr hlk _
  refine Z_aload_n C dX0_exchangeEnds_0 rfl rfl ?_
  refine Z_iload_n C dX0_exchangeEnds_1 rfl rfl ?_
  refine Z_callV C (ws' := srW 0 B) (st' := [.int (bI (hasR B x))]) (rest := []) [0, 1, 2, 3] (c_X0_has B x) m_X0_has K0 g_199 dX0_exchangeEnds_2 rfl rfl rfl (outR _ _ _) (NW := 4) rfl rfl rfl rfl rfl ⟨Nat.le_of_ble_eq_true rfl, Nat.le_of_ble_eq_true rfl⟩ ⟨Nat.le_of_ble_eq_true rfl, Nat.le_of_ble_eq_true rfl⟩ (Nat.le_of_ble_eq_true rfl) rfl ?_
  refine Z_if_eq C 46 dX0_exchangeEnds_5 (by decide) (fun c1 => ?_) (fun c1 => ?_)
  · have c1 := bI_0.mp c1
    refine Z_iconst C (v := 0) dX0_exchangeEnds_46 (by decide) ?_
    exact Z_zret C hr hlk dX0_exchangeEnds_47 rfl (congrArg (fun z => some (Value.int z)) (show (bI (swapB B x y)) = 0 from by simp [swapP, swapB, bI, c1])) (by rw [show (swapP B x y) = B from by simp [swapP, swapB, bI, c1]])
  · have c1 := bI_n0.mp c1
    refine Z_aload_n C dX0_exchangeEnds_8 rfl rfl ?_
    refine Z_iload_n C dX0_exchangeEnds_9 rfl rfl ?_
    refine Z_callV C (ws' := srW 0 B) (st' := [.int (bI (hasR B y))]) (rest := []) [0, 1, 2, 3] (c_X0_has B y) m_X0_has K0 g_199 dX0_exchangeEnds_10 rfl rfl rfl (outR _ _ _) (NW := 4) rfl rfl rfl rfl rfl ⟨Nat.le_of_ble_eq_true rfl, Nat.le_of_ble_eq_true rfl⟩ ⟨Nat.le_of_ble_eq_true rfl, Nat.le_of_ble_eq_true rfl⟩ (Nat.le_of_ble_eq_true rfl) rfl ?_
    refine Z_if_eq C 46 dX0_exchangeEnds_13 (by decide) (fun c2 => ?_) (fun c2 => ?_)
    · have c2 := bI_0.mp c2
      refine Z_iconst C (v := 0) dX0_exchangeEnds_46 (by decide) ?_
      exact Z_zret C hr hlk dX0_exchangeEnds_47 rfl (congrArg (fun z => some (Value.int z)) (show (bI (swapB B x y)) = 0 from by simp [swapP, swapB, bI, c1, c2])) (by rw [show (swapP B x y) = B from by simp [swapP, swapB, bI, c1, c2]])
    · have c2 := bI_n0.mp c2
      obtain ⟨j, hj, rfl⟩ := has_ixR hb h30 c1
      have ej : ix (nI j) = j := ix_nI (by omega)
      obtain ⟨k, hk, rfl⟩ := has_ixR hb h30 c2
      have ek : ix (nI k) = k := ix_nI (by omega)
      refine Z_aload_n C dX0_exchangeEnds_16 rfl rfl ?_
      refine Z_get C K0 (v := .ref 1) 0 dX0_exchangeEnds_17 rfl (by decide) g_93 rfl rfl ?_
      refine Z_iload_n C dX0_exchangeEnds_20 rfl rfl ?_
      refine Z_iaN C (v := B.1 0 j) dX0_exchangeEnds_21 rfl (by omega) (by decide) rfl ?_
      refine Z_aload_n C dX0_exchangeEnds_22 rfl rfl ?_
      refine Z_get C K0 (v := .ref 2) 1 dX0_exchangeEnds_23 rfl (by decide) g_94 rfl rfl ?_
      refine Z_iload_n C dX0_exchangeEnds_26 rfl rfl ?_
      refine Z_iaN C (v := B.1 1 k) dX0_exchangeEnds_27 rfl (by omega) (by decide) rfl ?_
      refine Z_icmp_eq C 46 dX0_exchangeEnds_28 (by decide) (fun c3 => ?_) (fun c3 => ?_)
      · refine Z_iconst C (v := 0) dX0_exchangeEnds_46 (by decide) ?_
        exact Z_zret C hr hlk dX0_exchangeEnds_47 rfl (congrArg (fun z => some (Value.int z)) (show (bI (swapB B (nI j) (nI k))) = 0 from by simp [swapP, swapB, bI, c1, c2, ej, ek, c3])) (by rw [show (swapP B (nI j) (nI k)) = B from by simp [swapP, swapB, bI, c1, c2, ej, ek, c3]])
      · refine Z_aload_n C dX0_exchangeEnds_31 rfl rfl ?_
        refine Z_get C K0 (v := .ref 1) 0 dX0_exchangeEnds_32 rfl (by decide) g_93 rfl rfl ?_
        refine Z_iload_n C dX0_exchangeEnds_35 rfl rfl ?_
        refine Z_iaN C (v := B.1 0 k) dX0_exchangeEnds_36 rfl (by omega) (by decide) rfl ?_
        refine Z_aload_n C dX0_exchangeEnds_37 rfl rfl ?_
        refine Z_get C K0 (v := .ref 2) 1 dX0_exchangeEnds_38 rfl (by decide) g_94 rfl rfl ?_
        refine Z_iload_n C dX0_exchangeEnds_41 rfl rfl ?_
        refine Z_iaN C (v := B.1 1 j) dX0_exchangeEnds_42 rfl (by omega) (by decide) rfl ?_
        refine Z_icmp_ne C 48 dX0_exchangeEnds_43 (by decide) (fun c4 => ?_) (fun c4 => ?_)
        · refine Z_aload_n C dX0_exchangeEnds_48 rfl rfl ?_
          refine Z_get C K0 (v := .ref 2) 1 dX0_exchangeEnds_49 rfl (by decide) g_94 rfl rfl ?_
          refine Z_iload_n C dX0_exchangeEnds_52 rfl rfl ?_
          refine Z_iaN C (v := B.1 1 j) dX0_exchangeEnds_53 rfl (by omega) (by decide) rfl ?_
          refine Z_istore_n C (L' := [(3, .int (B.1 1 j)), (0, .ref 0), (1, .int (nI j)), (2, .int (nI k))]) dX0_exchangeEnds_54 rfl (by decide) rfl ?_
          refine Z_aload_n C dX0_exchangeEnds_55 rfl rfl ?_
          refine Z_get C K0 (v := .ref 2) 1 dX0_exchangeEnds_56 rfl (by decide) g_94 rfl rfl ?_
          refine Z_iload_n C dX0_exchangeEnds_59 rfl rfl ?_
          refine Z_aload_n C dX0_exchangeEnds_60 rfl rfl ?_
          refine Z_get C K0 (v := .ref 2) 1 dX0_exchangeEnds_61 rfl (by decide) g_94 rfl rfl ?_
          refine Z_iload_n C dX0_exchangeEnds_64 rfl rfl ?_
          refine Z_iaN C (v := B.1 1 k) dX0_exchangeEnds_65 rfl (by omega) (by decide) rfl ?_
          refine Z_isN C (ws' := srW 0 (vA B 1 j (B.1 1 k))) dX0_exchangeEnds_66 rfl (by omega) (by decide) rfl ?_
          refine Z_aload_n C dX0_exchangeEnds_67 rfl rfl ?_
          refine Z_get C K0 (v := .ref 2) 1 dX0_exchangeEnds_68 rfl (by decide) g_94 rfl rfl ?_
          refine Z_iload_n C dX0_exchangeEnds_71 rfl rfl ?_
          refine Z_iload_n C dX0_exchangeEnds_72 rfl rfl ?_
          refine Z_isN C (ws' := srW 0 (vA (vA B 1 j (B.1 1 k)) 1 k (B.1 1 j))) dX0_exchangeEnds_73 rfl (by omega) (by decide) rfl ?_
          refine Z_iconst C (v := 1) dX0_exchangeEnds_74 (by decide) ?_
          exact Z_zret C hr hlk dX0_exchangeEnds_75 rfl (congrArg (fun z => some (Value.int z)) (show (bI (swapB B (nI j) (nI k))) = 1 from by simp [swapP, swapB, bI, c1, c2, ej, ek, c3, c4])) (by rw [show (swapP B (nI j) (nI k)) = (vA (vA B 1 j (B.1 1 k)) 1 k (B.1 1 j)) from by simp [swapP, swapB, bI, c1, c2, ej, ek, c3, c4]])
        · refine Z_iconst C (v := 0) dX0_exchangeEnds_46 (by decide) ?_
          exact Z_zret C hr hlk dX0_exchangeEnds_47 rfl (congrArg (fun z => some (Value.int z)) (show (bI (swapB B (nI j) (nI k))) = 0 from by simp [swapP, swapB, bI, c1, c2, ej, ek, c3, c4])) (by rw [show (swapP B (nI j) (nI k)) = B from by simp [swapP, swapB, bI, c1, c2, ej, ek, c3, c4]])
set_option maxHeartbeats 4000000 in
set_option maxRecDepth 20000 in
theorem c_X0_tell (B : Sr) (S : St) (x : Int32) (y : Int32) {b : Nat} (hb : B.2 0 = nI b) (h30 : b ≤ 30) {n : Nat} (hn : S.2.2.1 0 = nI n) (h40 : n ≤ 40) {w : Nat} (hy : y = nI w) (hw : w ≤ 2) : CT yX0_tell cX0_tell 4 (some .int) 3 0 0 [.ref 0, .int x, .int y, .ref 4] (srW 0 B ++ stW 4 S) (some (.int (tellR B S x y))) (srW 0 B ++ stW 4 S) := by
  refine CT_of (L := [(0, .ref 0), (1, .int x), (2, .int y), (3, .ref 4)]) (by decide) (fun _ => rfl) (fun _ => Nat.le_of_ble_eq_true rfl) ?_
  intro p l e s m args below meth c G h A C hr hlk _
  subst hy
  refine Z_aload_n C dX0_tell_0 rfl rfl ?_
  refine Z_iload_n C dX0_tell_1 rfl rfl ?_
  refine Z_callV C (ws' := srW 0 B ++ stW 4 S) (st' := [.int (bI (hasR B x))]) (rest := []) [0, 1, 2, 3] (c_X0_has B x) m_X0_has K0 g_199 dX0_tell_2 rfl rfl rfl (outS 4 rfl (outR _ _ _)) (NW := 14) rfl rfl rfl rfl rfl ⟨Nat.le_of_ble_eq_true rfl, Nat.le_of_ble_eq_true rfl⟩ ⟨Nat.le_of_ble_eq_true rfl, Nat.le_of_ble_eq_true rfl⟩ (Nat.le_of_ble_eq_true rfl) rfl ?_
  refine Z_if_ne C 10 dX0_tell_5 (by decide) (fun c1 => ?_) (fun c1 => ?_)
  · have c1 := bI_n0.mp c1
    obtain ⟨j, hj, rfl⟩ := has_ixR hb h30 c1
    have ej : ix (nI j) = j := ix_nI (by omega)
    refine Z_iload_n C dX0_tell_10 rfl rfl ?_
    rcases (show w = 0 ∨ w = 1 ∨ w = 2 from by omega) with rfl | rfl | rfl
    · refine Z_lkp C (off := 25) 36 dX0_tell_11 (by decide) (by decide) (by decide) ?_
      refine Z_aload_n C dX0_tell_36 rfl rfl ?_
      refine Z_get C K0 (v := .ref 1) 0 dX0_tell_37 rfl (by decide) g_93 rfl rfl ?_
      refine Z_iload_n C dX0_tell_40 rfl rfl ?_
      refine Z_iaN C (v := B.1 0 j) dX0_tell_41 rfl (by omega) (by decide) rfl ?_
      exact Z_iret C hr hlk dX0_tell_42 (congrArg (fun z => some (Value.int z)) (show (tellR B S (nI j) (nI 0)) = (B.1 0 j) from by simp [tellR, tellRN, ix_9, bI, c1, ej])) rfl
    · refine Z_lkp C (off := 32) 43 dX0_tell_11 (by decide) (by decide) (by decide) ?_
      refine Z_aload_n C dX0_tell_43 rfl rfl ?_
      refine Z_get C K0 (v := .ref 2) 1 dX0_tell_44 rfl (by decide) g_94 rfl rfl ?_
      refine Z_iload_n C dX0_tell_47 rfl rfl ?_
      refine Z_iaN C (v := B.1 1 j) dX0_tell_48 rfl (by omega) (by decide) rfl ?_
      exact Z_iret C hr hlk dX0_tell_49 (congrArg (fun z => some (Value.int z)) (show (tellR B S (nI j) (nI 1)) = (B.1 1 j) from by simp [tellR, tellRN, ix_9, bI, c1, ej])) rfl
    · refine Z_lkp C (off := 39) 50 dX0_tell_11 (by decide) (by decide) (by decide) ?_
      refine Z_aload_n C dX0_tell_50 rfl rfl ?_
      refine Z_iload_n C dX0_tell_51 rfl rfl ?_
      refine Z_aload_n C dX0_tell_52 rfl rfl ?_
      refine Z_callV C (ws' := srW 0 B ++ stW 4 S) (st' := [.int (bI (goneR B S (nI j)))]) (rest := []) [0, 1, 2, 3, 4, 5, 6, 7, 8, 9, 10, 11, 12, 13] (c_X0_isGone B S (nI j) hb h30 hn h40) m_X0_isGone K0 g_200 dX0_tell_53 rfl rfl rfl (outS 4 rfl (outR _ _ _)) (NW := 14) rfl rfl rfl rfl rfl ⟨Nat.le_of_ble_eq_true rfl, Nat.le_of_ble_eq_true rfl⟩ ⟨Nat.le_of_ble_eq_true rfl, Nat.le_of_ble_eq_true rfl⟩ (Nat.le_of_ble_eq_true rfl) rfl ?_
      refine Z_if_eq C 63 dX0_tell_56 (by decide) (fun c2 => ?_) (fun c2 => ?_)
      · have c2 := bI_0.mp c2
        refine Z_iconst C (v := 0) dX0_tell_63 (by decide) ?_
        exact Z_iret C hr hlk dX0_tell_64 (congrArg (fun z => some (Value.int z)) (show (tellR B S (nI j) (nI 2)) = 0 from by simp [tellR, tellRN, ix_9, bI, c1, ej, c2])) rfl
      · have c2 := bI_n0.mp c2
        refine Z_iconst C (v := 1) dX0_tell_59 (by decide) ?_
        refine Z_goto C 64 dX0_tell_60 (by decide) ?_
        exact Z_iret C hr hlk dX0_tell_64 (congrArg (fun z => some (Value.int z)) (show (tellR B S (nI j) (nI 2)) = 1 from by simp [tellR, tellRN, ix_9, bI, c1, ej, c2])) rfl
  · have c1 := bI_0.mp c1
    refine Z_iconst C (v := 0) dX0_tell_8 (by decide) ?_
    exact Z_iret C hr hlk dX0_tell_9 (congrArg (fun z => some (Value.int z)) (show (tellR B S x (nI w)) = 0 from by simp [tellR, tellRN, ix_9, bI, c1])) rfl
set_option maxHeartbeats 4000000 in
set_option maxRecDepth 20000 in
theorem c_X0_countLeft (B : Sr) (S : St) {b : Nat} (hb : B.2 0 = nI b) (h30 : b ≤ 30) {n : Nat} (hn : S.2.2.1 0 = nI n) (h40 : n ≤ 40) : CT yX0_countLeft cX0_countLeft 4 (some .int) 3 0 0 [.ref 0, .ref 4] (srW 0 B ++ stW 4 S) (some (.int (leftR B S))) (srW 0 B ++ stW 4 S) := by
  refine CT_of (L := [(0, .ref 0), (1, .ref 4)]) (by decide) (fun _ => rfl) (fun _ => Nat.le_of_ble_eq_true rfl) ?_
  intro p l e s m args below meth c G h A C hr hlk _
  refine Z_iconst C (v := 0) dX0_countLeft_0 (by decide) ?_
  refine Z_istore_n C (L' := [(2, .int 0), (0, .ref 0), (1, .ref 4)]) dX0_countLeft_1 rfl (by decide) rfl ?_
  refine Z_iconst C (v := 0) dX0_countLeft_2 (by decide) ?_
  refine Z_istore_n C (L' := [(3, .int 0), (2, .int 0), (0, .ref 0), (1, .ref 4)]) dX0_countLeft_3 rfl (by decide) rfl ?_
  refine Zfor (σ := Int32) (fun i T1 => Z p l e _ s m args below meth c 4 G A h _ 0 0 (srW 0 B ++ stW 4 S) 4 [(3, .int (nI i)), (2, .int T1), (0, .ref 0), (1, .ref 4)] []) (fun i T1 => True) (left1 B S) b (0) trivial (fun i T1 hi hT1 => trivial) (fun T1 hT1 eT1 => ?_) (fun i T1 hi hT1 hT1' kk => ?_)
  · refine Z_iload_n C dX0_countLeft_4 rfl rfl ?_
    refine Z_aload_n C dX0_countLeft_5 rfl rfl ?_
    refine Z_get C K0 (v := .int (B.2 0)) 3 dX0_countLeft_6 rfl (by decide) g_96 rfl rfl ?_
    refine Z_icmp_ge C 35 dX0_countLeft_9 (by decide) (fun c1 => ?_) (fun c1 => absurd (ge_yes hb) c1)
    refine Z_iload_n C dX0_countLeft_35 rfl rfl ?_
    exact Z_iret C hr hlk dX0_countLeft_36 (congrArg (fun z => some (Value.int z)) (show (leftR B S) = T1 from by subst eT1; simp only [leftR, r_eq hb h30])) rfl
  · refine Z_iload_n C dX0_countLeft_4 rfl rfl ?_
    refine Z_aload_n C dX0_countLeft_5 rfl rfl ?_
    refine Z_get C K0 (v := .int (B.2 0)) 3 dX0_countLeft_6 rfl (by decide) g_96 rfl rfl ?_
    refine Z_icmp_ge C 35 dX0_countLeft_9 (by decide) (fun c2 => absurd c2 (ge_no hb (Nat.le_trans h30 (by decide)) hi)) (fun c2 => ?_)
    refine Z_iload_n C dX0_countLeft_12 rfl rfl ?_
    refine Z_aload_n C dX0_countLeft_13 rfl rfl ?_
    refine Z_iload_n C dX0_countLeft_14 rfl rfl ?_
    refine Z_aload_n C dX0_countLeft_15 rfl rfl ?_
    refine Z_callV C (ws' := srW 0 B ++ stW 4 S) (st' := [.int (bI (goneR B S (nI i))), .int T1]) (rest := [.int T1]) [0, 1, 2, 3, 4, 5, 6, 7, 8, 9, 10, 11, 12, 13] (c_X0_isGone B S (nI i) hb h30 hn h40) m_X0_isGone K0 g_200 dX0_countLeft_16 rfl rfl rfl (outS 4 rfl (outR _ _ _)) (NW := 14) rfl rfl rfl rfl rfl ⟨Nat.le_of_ble_eq_true rfl, Nat.le_of_ble_eq_true rfl⟩ ⟨Nat.le_of_ble_eq_true rfl, Nat.le_of_ble_eq_true rfl⟩ (Nat.le_of_ble_eq_true rfl) rfl ?_
    refine Z_if_eq C 26 dX0_countLeft_19 (by decide) (fun c3 => ?_) (fun c3 => ?_)
    · have c3 := bI_0.mp c3
      refine Z_iconst C (v := 1) dX0_countLeft_26 (by decide) ?_
      refine Z_iadd C (v := T1 + 1) dX0_countLeft_27 rfl ?_
      refine Z_istore_n C (L' := [(2, .int (T1 + 1)), (3, .int (nI i)), (0, .ref 0), (1, .ref 4)]) dX0_countLeft_28 rfl (by decide) rfl ?_
      refine Z_iinc C (L' := [(3, .int (nI (i + 1))), (2, .int (T1 + 1)), (0, .ref 0), (1, .ref 4)]) (v := nI (i + 1)) dX0_countLeft_29 rfl (nI_inc _) (by decide) rfl ?_
      refine Z_goto C 4 dX0_countLeft_32 (by decide) ?_
      rw [show (left1 B S) i T1 = T1 + 1 from by simp [left1, bI, c2, c3]] at kk
      exact Z_sub (by simp [bI_t, bI_f]) kk
    · have c3 := bI_n0.mp c3
      refine Z_iconst C (v := 0) dX0_countLeft_22 (by decide) ?_
      refine Z_goto C 27 dX0_countLeft_23 (by decide) ?_
      refine Z_iadd C (v := T1 + 0) dX0_countLeft_27 rfl ?_
      refine Z_istore_n C (L' := [(2, .int (T1 + 0)), (3, .int (nI i)), (0, .ref 0), (1, .ref 4)]) dX0_countLeft_28 rfl (by decide) rfl ?_
      refine Z_iinc C (L' := [(3, .int (nI (i + 1))), (2, .int (T1 + 0)), (0, .ref 0), (1, .ref 4)]) (v := nI (i + 1)) dX0_countLeft_29 rfl (nI_inc _) (by decide) rfl ?_
      refine Z_goto C 4 dX0_countLeft_32 (by decide) ?_
      rw [show (left1 B S) i T1 = T1 + 0 from by simp [left1, bI, c2, c3]] at kk
      exact Z_sub (by simp [bI_t, bI_f]) kk
set_option maxHeartbeats 4000000 in
set_option maxRecDepth 20000 in
theorem c_X0_isPlace (x : Int32) : CT yX0_isPlace cX0_isPlace 1 (some .boolean) 0 0 0 [.int x] ([]) (some (.int (bI (placeB x)))) ([]) := by
  refine CT_of (L := [(0, .int x)]) (by decide) (fun _ => rfl) (fun _ => Nat.le_of_ble_eq_true rfl) ?_
  intro p l e s m args below meth c G h A C hr hlk _
  refine Z_iload_n C dX0_isPlace_0 rfl rfl ?_
  refine Z_if_lt C 14 dX0_isPlace_1 (by decide) (fun c1 => ?_) (fun c1 => ?_)
  · refine Z_iconst C (v := 0) dX0_isPlace_14 (by decide) ?_
    exact Z_zret C hr hlk dX0_isPlace_15 rfl (congrArg (fun z => some (Value.int z)) (show (bI (placeB x)) = 0 from by simp [placeB, bI, c1])) rfl
  · refine Z_iload_n C dX0_isPlace_4 rfl rfl ?_
    refine Z_bipush C (v := 40) dX0_isPlace_5 (by decide) ?_
    refine Z_icmp_ge C 14 dX0_isPlace_7 (by decide) (fun c2 => ?_) (fun c2 => ?_)
    · refine Z_iconst C (v := 0) dX0_isPlace_14 (by decide) ?_
      exact Z_zret C hr hlk dX0_isPlace_15 rfl (congrArg (fun z => some (Value.int z)) (show (bI (placeB x)) = 0 from by simp [placeB, bI, c1, c2])) rfl
    · refine Z_iconst C (v := 1) dX0_isPlace_10 (by decide) ?_
      refine Z_goto C 15 dX0_isPlace_11 (by decide) ?_
      exact Z_zret C hr hlk dX0_isPlace_15 rfl (congrArg (fun z => some (Value.int z)) (show (bI (placeB x)) = 1 from by simp [placeB, bI, c1, c2])) rfl
set_option maxHeartbeats 4000000 in
set_option maxRecDepth 20000 in
theorem c_X0_stepOver (B : Sr) (f : Int32) (t : Int32) (q : Int32) : CT yX0_stepOver cX0_stepOver 4 (some .boolean) 1 0 0 [.ref 0, .int f, .int t, .int q] (srW 0 B) (some (.int (bI (stepB B f t q)))) (srW 0 (stepP B f t q)) := by
  refine CT_of (L := [(0, .ref 0), (1, .int f), (2, .int t), (3, .int q)]) (by decide) (fun _ => rfl) (fun _ => Nat.le_of_ble_eq_true rfl) ?_
  intro p l e s m args below meth c G h A C hr hlk _
  refine Z_iload_n C dX0_stepOver_0 rfl rfl ?_
  refine Z_callS C (ws' := srW 0 B) (st' := [.int (bI (placeB f))]) (rest := []) [] (c_X0_isPlace f) m_X0_isPlace g_232 dX0_stepOver_1 rfl rfl rfl (outR _ _ _) (NW := 4) rfl rfl rfl rfl ⟨Nat.le_of_ble_eq_true rfl, Nat.le_of_ble_eq_true rfl⟩ ⟨Nat.le_of_ble_eq_true rfl, Nat.le_of_ble_eq_true rfl⟩ (Nat.le_of_ble_eq_true rfl) rfl ?_
  refine Z_if_eq C 34 dX0_stepOver_4 (by decide) (fun c1 => ?_) (fun c1 => ?_)
  · have c1 := bI_0.mp c1
    refine Z_iconst C (v := 0) dX0_stepOver_34 (by decide) ?_
    exact Z_zret C hr hlk dX0_stepOver_35 rfl (congrArg (fun z => some (Value.int z)) (show (bI (stepB B f t q)) = 0 from by simp [stepP, stepB, bI, c1])) (by rw [show (stepP B f t q) = B from by simp [stepP, stepB, bI, c1]])
  · have c1 := bI_n0.mp c1
    refine Z_iload_n C dX0_stepOver_7 rfl rfl ?_
    refine Z_callS C (ws' := srW 0 B) (st' := [.int (bI (placeB t))]) (rest := []) [] (c_X0_isPlace t) m_X0_isPlace g_232 dX0_stepOver_8 rfl rfl rfl (outR _ _ _) (NW := 4) rfl rfl rfl rfl ⟨Nat.le_of_ble_eq_true rfl, Nat.le_of_ble_eq_true rfl⟩ ⟨Nat.le_of_ble_eq_true rfl, Nat.le_of_ble_eq_true rfl⟩ (Nat.le_of_ble_eq_true rfl) rfl ?_
    refine Z_if_eq C 34 dX0_stepOver_11 (by decide) (fun c2 => ?_) (fun c2 => ?_)
    · have c2 := bI_0.mp c2
      refine Z_iconst C (v := 0) dX0_stepOver_34 (by decide) ?_
      exact Z_zret C hr hlk dX0_stepOver_35 rfl (congrArg (fun z => some (Value.int z)) (show (bI (stepB B f t q)) = 0 from by simp [stepP, stepB, bI, c1, c2])) (by rw [show (stepP B f t q) = B from by simp [stepP, stepB, bI, c1, c2]])
    · have c2 := bI_n0.mp c2
      obtain ⟨j, hj, rfl⟩ := place_ix c1
      have ej : ix (nI j) = j := ix_nI (by omega)
      obtain ⟨k, hk, rfl⟩ := place_ix c2
      have ek : ix (nI k) = k := ix_nI (by omega)
      refine Z_aload_n C dX0_stepOver_14 rfl rfl ?_
      refine Z_get C K0 (v := .ref 3) 2 dX0_stepOver_15 rfl (by decide) g_95 rfl rfl ?_
      refine Z_iload_n C dX0_stepOver_18 rfl rfl ?_
      refine Z_iaN C (v := B.1 2 j) dX0_stepOver_19 rfl (by omega) (by decide) rfl ?_
      refine Z_iload_n C dX0_stepOver_20 rfl rfl ?_
      refine Z_icmp_ne C 34 dX0_stepOver_21 (by decide) (fun c3 => ?_) (fun c3 => ?_)
      · refine Z_iconst C (v := 0) dX0_stepOver_34 (by decide) ?_
        exact Z_zret C hr hlk dX0_stepOver_35 rfl (congrArg (fun z => some (Value.int z)) (show (bI (stepB B (nI j) (nI k) q)) = 0 from by simp [stepP, stepB, bI, c1, c2, ej, ek, c3])) (by rw [show (stepP B (nI j) (nI k) q) = B from by simp [stepP, stepB, bI, c1, c2, ej, ek, c3]])
      · refine Z_aload_n C dX0_stepOver_24 rfl rfl ?_
        refine Z_get C K0 (v := .ref 3) 2 dX0_stepOver_25 rfl (by decide) g_95 rfl rfl ?_
        refine Z_iload_n C dX0_stepOver_28 rfl rfl ?_
        refine Z_iaN C (v := B.1 2 k) dX0_stepOver_29 rfl (by omega) (by decide) rfl ?_
        refine Z_iconst C (v := (-1)) dX0_stepOver_30 (by decide) ?_
        refine Z_icmp_eq C 36 dX0_stepOver_31 (by decide) (fun c4 => ?_) (fun c4 => ?_)
        · refine Z_aload_n C dX0_stepOver_36 rfl rfl ?_
          refine Z_get C K0 (v := .ref 3) 2 dX0_stepOver_37 rfl (by decide) g_95 rfl rfl ?_
          refine Z_iload_n C dX0_stepOver_40 rfl rfl ?_
          refine Z_iload_n C dX0_stepOver_41 rfl rfl ?_
          refine Z_iconst C (v := 1) dX0_stepOver_42 (by decide) ?_
          refine Z_iadd C (v := q + 1) dX0_stepOver_43 rfl ?_
          refine Z_isN C (ws' := srW 0 (vA B 2 k (q + 1))) dX0_stepOver_44 rfl (by omega) (by decide) rfl ?_
          refine Z_iconst C (v := 1) dX0_stepOver_45 (by decide) ?_
          exact Z_zret C hr hlk dX0_stepOver_46 rfl (congrArg (fun z => some (Value.int z)) (show (bI (stepB B (nI j) (nI k) q)) = 1 from by simp [stepP, stepB, bI, c1, c2, ej, ek, c3, c4])) (by rw [show (stepP B (nI j) (nI k) q) = (vA B 2 k (q + 1)) from by simp [stepP, stepB, bI, c1, c2, ej, ek, c3, c4]])
        · refine Z_iconst C (v := 0) dX0_stepOver_34 (by decide) ?_
          exact Z_zret C hr hlk dX0_stepOver_35 rfl (congrArg (fun z => some (Value.int z)) (show (bI (stepB B (nI j) (nI k) q)) = 0 from by simp [stepP, stepB, bI, c1, c2, ej, ek, c3, c4])) (by rw [show (stepP B (nI j) (nI k) q) = B from by simp [stepP, stepB, bI, c1, c2, ej, ek, c3, c4]])
set_option maxHeartbeats 4000000 in
set_option maxRecDepth 20000 in
theorem c_X0_reachFrom (B : Sr) (S : St) (q : Int32) {b : Nat} (hb : B.2 0 = nI b) (h30 : b ≤ 30) {n : Nat} (hn : S.2.2.1 0 = nI n) (h40 : n ≤ 40) : CT yX0_reachFrom cX0_reachFrom 5 (some .boolean) 3 0 0 [.ref 0, .int q, .ref 4] (srW 0 B ++ stW 4 S) (some (.int (bI (reachF S q B).2))) (srW 0 ((reachF S q B).1) ++ stW 4 S) := by
  refine CT_of (L := [(0, .ref 0), (1, .int q), (2, .ref 4)]) (by decide) (fun _ => rfl) (fun _ => Nat.le_of_ble_eq_true rfl) ?_
  intro p l e s m args below meth c G h A C hr hlk _
  refine Z_iconst C (v := 0) dX0_reachFrom_0 (by decide) ?_
  refine Z_istore_n C (L' := [(3, .int 0), (0, .ref 0), (1, .int q), (2, .ref 4)]) dX0_reachFrom_1 rfl (by decide) rfl ?_
  refine Z_iconst C (v := 0) dX0_reachFrom_2 (by decide) ?_
  refine Z_istore C (L' := [(4, .int 0), (3, .int 0), (0, .ref 0), (1, .int q), (2, .ref 4)]) dX0_reachFrom_3 (by decide) rfl ?_
  refine Zfor (σ := Sr × Bool) (fun i T1 => Z p l e _ s m args below meth c 5 G A h _ 0 0 (srW 0 (T1.1) ++ stW 4 S) 5 [(4, .int (nI i)), (3, .int (bI T1.2)), (0, .ref 0), (1, .int q), (2, .ref 4)] []) (fun i T1 => T1.1.2 0 = nI b) (reach1 S q) b ((B, false)) hb (fun i T1 hi hT1 => (hb_reach1 _ _ _ _).trans hT1) (fun T1 hT1 eT1 => ?_) (fun i T1 hi hT1 hT1' kk => ?_)
  · refine Z_iload C dX0_reachFrom_5 rfl ?_
    refine Z_aload_n C dX0_reachFrom_7 rfl rfl ?_
    refine Z_get C K0 (v := .int ((T1.1).2 0)) 3 dX0_reachFrom_8 rfl (by decide) g_96 rfl rfl ?_
    refine Z_icmp_ge C 76 dX0_reachFrom_11 (by decide) (fun c1 => ?_) (fun c1 => absurd (ge_yes hT1) c1)
    refine Z_iload_n C dX0_reachFrom_76 rfl rfl ?_
    exact Z_zret C hr hlk dX0_reachFrom_77 (bI_nar _) (congrArg (fun z => some (Value.int z)) (show (bI (reachF S q B).2) = (bI T1.2) from by subst eT1; simp only [reachF, r_eq hb h30])) (by rw [show ((reachF S q B).1) = (T1.1) from by subst eT1; simp only [reachF, r_eq hb h30]])
  · refine Z_iload C dX0_reachFrom_5 rfl ?_
    refine Z_aload_n C dX0_reachFrom_7 rfl rfl ?_
    refine Z_get C K0 (v := .int ((T1.1).2 0)) 3 dX0_reachFrom_8 rfl (by decide) g_96 rfl rfl ?_
    refine Z_icmp_ge C 76 dX0_reachFrom_11 (by decide) (fun c2 => absurd c2 (ge_no hT1 (Nat.le_trans h30 (by decide)) hi)) (fun c2 => ?_)
    refine Z_aload_n C dX0_reachFrom_14 rfl rfl ?_
    refine Z_iload C dX0_reachFrom_15 rfl ?_
    refine Z_aload_n C dX0_reachFrom_17 rfl rfl ?_
    refine Z_callV C (ws' := srW 0 (T1.1) ++ stW 4 S) (st' := [.int (bI (goneR (T1.1) S (nI i)))]) (rest := []) [0, 1, 2, 3, 4, 5, 6, 7, 8, 9, 10, 11, 12, 13] (c_X0_isGone (T1.1) S (nI i) hT1 h30 hn h40) m_X0_isGone K0 g_200 dX0_reachFrom_18 rfl rfl rfl (outS 4 rfl (outR _ _ _)) (NW := 14) rfl rfl rfl rfl rfl ⟨Nat.le_of_ble_eq_true rfl, Nat.le_of_ble_eq_true rfl⟩ ⟨Nat.le_of_ble_eq_true rfl, Nat.le_of_ble_eq_true rfl⟩ (Nat.le_of_ble_eq_true rfl) rfl ?_
    refine Z_if_ne C 70 dX0_reachFrom_21 (by decide) (fun c3 => ?_) (fun c3 => ?_)
    · have c3 := bI_n0.mp c3
      refine Z_iinc C (L' := [(4, .int (nI (i + 1))), (3, .int (bI T1.2)), (0, .ref 0), (1, .int q), (2, .ref 4)]) (v := nI (i + 1)) dX0_reachFrom_70 rfl (nI_inc _) (by decide) rfl ?_
      refine Z_goto C 5 dX0_reachFrom_73 (by decide) ?_
      rw [show (reach1 S q) i T1 = ((T1.1), T1.2) from by simp [reach1, rchA, c2, c3]] at kk
      exact Z_sub (by simp [bI_t, bI_f]) kk
    · have c3 := bI_0.mp c3
      refine Z_aload_n C dX0_reachFrom_24 rfl rfl ?_
      refine Z_aload_n C dX0_reachFrom_25 rfl rfl ?_
      refine Z_get C K0 (v := .ref 1) 0 dX0_reachFrom_26 rfl (by decide) g_93 rfl rfl ?_
      refine Z_iload C dX0_reachFrom_29 rfl ?_
      refine Z_iaN C (v := (T1.1).1 0 i) dX0_reachFrom_31 rfl (by omega) (by decide) rfl ?_
      refine Z_aload_n C dX0_reachFrom_32 rfl rfl ?_
      refine Z_get C K0 (v := .ref 2) 1 dX0_reachFrom_33 rfl (by decide) g_94 rfl rfl ?_
      refine Z_iload C dX0_reachFrom_36 rfl ?_
      refine Z_iaN C (v := (T1.1).1 1 i) dX0_reachFrom_38 rfl (by omega) (by decide) rfl ?_
      refine Z_iload_n C dX0_reachFrom_39 rfl rfl ?_
      refine Z_callV C (ws' := srW 0 (stepP (T1.1) ((T1.1).1 0 i) ((T1.1).1 1 i) q) ++ stW 4 S) (st' := [.int (bI (stepB (T1.1) ((T1.1).1 0 i) ((T1.1).1 1 i) q))]) (rest := []) [0, 1, 2, 3] (c_X0_stepOver (T1.1) ((T1.1).1 0 i) ((T1.1).1 1 i) q) m_X0_stepOver K0 g_228 dX0_reachFrom_40 rfl rfl rfl (outI 4 rfl rfl rfl (outR _ _ _)) (NW := 14) rfl rfl rfl rfl rfl ⟨Nat.le_of_ble_eq_true rfl, Nat.le_of_ble_eq_true rfl⟩ ⟨Nat.le_of_ble_eq_true rfl, Nat.le_of_ble_eq_true rfl⟩ (Nat.le_of_ble_eq_true rfl) rfl ?_
      refine Z_ws (fun X1 => srW 0 X1 ++ stW 4 S) (stepP (T1.1) ((T1.1).1 0 i) ((T1.1).1 1 i) q) (fun X1 eX1 => ?_)
      refine Z_if_ne C 68 dX0_reachFrom_43 (by decide) (fun c4 => ?_) (fun c4 => ?_)
      · have c4 := bI_n0.mp c4
        refine Z_iconst C (v := 1) dX0_reachFrom_68 (by decide) ?_
        refine Z_istore_n C (L' := [(3, .int 1), (4, .int (nI i)), (0, .ref 0), (1, .int q), (2, .ref 4)]) dX0_reachFrom_69 rfl (by decide) rfl ?_
        refine Z_iinc C (L' := [(4, .int (nI (i + 1))), (3, .int 1), (0, .ref 0), (1, .int q), (2, .ref 4)]) (v := nI (i + 1)) dX0_reachFrom_70 rfl (nI_inc _) (by decide) rfl ?_
        refine Z_goto C 5 dX0_reachFrom_73 (by decide) ?_
        rw [show (reach1 S q) i T1 = (X1, true) from by subst eX1; simp [reach1, rchA, c2, c3, c4]] at kk
        exact Z_sub (by simp [bI_t, bI_f]) kk
      · have c4 := bI_0.mp c4
        refine Z_aload_n C dX0_reachFrom_46 rfl rfl ?_
        refine Z_aload_n C dX0_reachFrom_47 rfl rfl ?_
        refine Z_get C K0 (v := .ref 2) 1 dX0_reachFrom_48 rfl (by decide) g_94 rfl rfl ?_
        refine Z_iload C dX0_reachFrom_51 rfl ?_
        refine Z_iaN C (v := X1.1 1 i) dX0_reachFrom_53 rfl (by omega) (by decide) rfl ?_
        refine Z_aload_n C dX0_reachFrom_54 rfl rfl ?_
        refine Z_get C K0 (v := .ref 1) 0 dX0_reachFrom_55 rfl (by decide) g_93 rfl rfl ?_
        refine Z_iload C dX0_reachFrom_58 rfl ?_
        refine Z_iaN C (v := X1.1 0 i) dX0_reachFrom_60 rfl (by omega) (by decide) rfl ?_
        refine Z_iload_n C dX0_reachFrom_61 rfl rfl ?_
        refine Z_callV C (ws' := srW 0 (stepP X1 (X1.1 1 i) (X1.1 0 i) q) ++ stW 4 S) (st' := [.int (bI (stepB X1 (X1.1 1 i) (X1.1 0 i) q))]) (rest := []) [0, 1, 2, 3] (c_X0_stepOver X1 (X1.1 1 i) (X1.1 0 i) q) m_X0_stepOver K0 g_228 dX0_reachFrom_62 rfl rfl rfl (outI 4 rfl rfl rfl (outR _ _ _)) (NW := 14) rfl rfl rfl rfl rfl ⟨Nat.le_of_ble_eq_true rfl, Nat.le_of_ble_eq_true rfl⟩ ⟨Nat.le_of_ble_eq_true rfl, Nat.le_of_ble_eq_true rfl⟩ (Nat.le_of_ble_eq_true rfl) rfl ?_
        refine Z_ws (fun X2 => srW 0 X2 ++ stW 4 S) (stepP X1 (X1.1 1 i) (X1.1 0 i) q) (fun X2 eX2 => ?_)
        refine Z_if_eq C 70 dX0_reachFrom_65 (by decide) (fun c5 => ?_) (fun c5 => ?_)
        · have c5 := bI_0.mp c5
          refine Z_iinc C (L' := [(4, .int (nI (i + 1))), (3, .int (bI T1.2)), (0, .ref 0), (1, .int q), (2, .ref 4)]) (v := nI (i + 1)) dX0_reachFrom_70 rfl (nI_inc _) (by decide) rfl ?_
          refine Z_goto C 5 dX0_reachFrom_73 (by decide) ?_
          rw [show (reach1 S q) i T1 = (X2, T1.2) from by subst eX1 eX2; simp [reach1, rchA, c2, c3, c4, c5]] at kk
          exact Z_sub (by simp [bI_t, bI_f]) kk
        · have c5 := bI_n0.mp c5
          refine Z_iconst C (v := 1) dX0_reachFrom_68 (by decide) ?_
          refine Z_istore_n C (L' := [(3, .int 1), (4, .int (nI i)), (0, .ref 0), (1, .int q), (2, .ref 4)]) dX0_reachFrom_69 rfl (by decide) rfl ?_
          refine Z_iinc C (L' := [(4, .int (nI (i + 1))), (3, .int 1), (0, .ref 0), (1, .int q), (2, .ref 4)]) (v := nI (i + 1)) dX0_reachFrom_70 rfl (nI_inc _) (by decide) rfl ?_
          refine Z_goto C 5 dX0_reachFrom_73 (by decide) ?_
          rw [show (reach1 S q) i T1 = (X2, true) from by subst eX1 eX2; simp [reach1, rchA, c2, c3, c4, c5]] at kk
          exact Z_sub (by simp [bI_t, bI_f]) kk
set_option maxHeartbeats 4000000 in
set_option maxRecDepth 20000 in
theorem c_X0_fewestSteps (B : Sr) (S : St) (x : Int32) (y : Int32) {b : Nat} (hb : B.2 0 = nI b) (h30 : b ≤ 30) {n : Nat} (hn : S.2.2.1 0 = nI n) (h40 : n ≤ 40) : CT yX0_fewestSteps cX0_fewestSteps 6 (some .int) 4 0 0 [.ref 0, .int x, .int y, .ref 4] (srW 0 B ++ stW 4 S) (some (.int (fewV B S x y))) (srW 0 (fewQ B S x y) ++ stW 4 S) := by
  refine CT_of (L := [(0, .ref 0), (1, .int x), (2, .int y), (3, .ref 4)]) (by decide) (fun _ => rfl) (fun _ => Nat.le_of_ble_eq_true rfl) ?_
  intro p l e s m args below meth c G h A C hr hlk _
  refine Z_aload_n C dX0_fewestSteps_0 rfl rfl ?_
  refine Z_iload_n C dX0_fewestSteps_1 rfl rfl ?_
  refine Z_callV C (ws' := srW 0 B ++ stW 4 S) (st' := [.int (bI (hasB S x))]) (rest := []) [4, 5, 6, 7, 8, 9, 10, 11, 12, 13] (c_X1_has S x) m_X1_has K1 g_223 dX0_fewestSteps_2 rfl rfl rfl (outS 4 rfl (outR _ _ _)) (NW := 14) rfl rfl rfl rfl rfl ⟨Nat.le_of_ble_eq_true rfl, Nat.le_of_ble_eq_true rfl⟩ ⟨Nat.le_of_ble_eq_true rfl, Nat.le_of_ble_eq_true rfl⟩ (Nat.le_of_ble_eq_true rfl) rfl ?_
  refine Z_if_eq C 16 dX0_fewestSteps_5 (by decide) (fun c1 => ?_) (fun c1 => ?_)
  · have c1 := bI_0.mp c1
    refine Z_iconst C (v := (-1)) dX0_fewestSteps_16 (by decide) ?_
    exact Z_iret C hr hlk dX0_fewestSteps_17 (congrArg (fun z => some (Value.int z)) (show (fewV B S x y) = (-1) from by simp [fewV, fewQ, c1])) (by rw [show (fewQ B S x y) = B from by simp [fewV, fewQ, c1]])
  · have c1 := bI_n0.mp c1
    refine Z_aload_n C dX0_fewestSteps_8 rfl rfl ?_
    refine Z_iload_n C dX0_fewestSteps_9 rfl rfl ?_
    refine Z_callV C (ws' := srW 0 B ++ stW 4 S) (st' := [.int (bI (hasB S y))]) (rest := []) [4, 5, 6, 7, 8, 9, 10, 11, 12, 13] (c_X1_has S y) m_X1_has K1 g_223 dX0_fewestSteps_10 rfl rfl rfl (outS 4 rfl (outR _ _ _)) (NW := 14) rfl rfl rfl rfl rfl ⟨Nat.le_of_ble_eq_true rfl, Nat.le_of_ble_eq_true rfl⟩ ⟨Nat.le_of_ble_eq_true rfl, Nat.le_of_ble_eq_true rfl⟩ (Nat.le_of_ble_eq_true rfl) rfl ?_
    refine Z_if_ne C 18 dX0_fewestSteps_13 (by decide) (fun c2 => ?_) (fun c2 => ?_)
    · have c2 := bI_n0.mp c2
      obtain ⟨j1, hj1, rfl⟩ := has_ix hn h40 c1
      have ej1 : ix (nI j1) = j1 := ix_nI (by omega)
      obtain ⟨k2, hk2, rfl⟩ := has_ix hn h40 c2
      have ek2 : ix (nI k2) = k2 := ix_nI (by omega)
      refine Z_iconst C (v := 0) dX0_fewestSteps_18 (by decide) ?_
      refine Z_istore C (L' := [(4, .int 0), (0, .ref 0), (1, .int (nI j1)), (2, .int (nI k2)), (3, .ref 4)]) dX0_fewestSteps_19 (by decide) rfl ?_
      refine Zfor (σ := Sr) (fun i T1 => Z p l e _ s m args below meth c 6 G A h _ 0 0 (srW 0 T1 ++ stW 4 S) 21 [(4, .int (nI i)), (0, .ref 0), (1, .int (nI j1)), (2, .int (nI k2)), (3, .ref 4)] []) (fun i T1 => T1.2 0 = nI b) (clr1) 40 (B) hb (fun i T1 hi hT1 => hT1) (fun T1 hT1 eT1 => ?_) (fun i T1 hi hT1 hT1' kk => ?_)
      · refine Z_iload C dX0_fewestSteps_21 rfl ?_
        refine Z_bipush C (v := 40) dX0_fewestSteps_23 (by decide) ?_
        refine Z_icmp_ge C 42 dX0_fewestSteps_25 (by decide) (fun c3 => ?_) (fun c3 => absurd (ge_yes40 hT1) c3)
        refine Z_aload_n C dX0_fewestSteps_42 rfl rfl ?_
        refine Z_get C K0 (v := .ref 3) 2 dX0_fewestSteps_43 rfl (by decide) g_95 rfl rfl ?_
        refine Z_iload_n C dX0_fewestSteps_46 rfl rfl ?_
        refine Z_iconst C (v := 0) dX0_fewestSteps_47 (by decide) ?_
        refine Z_isN C (ws' := srW 0 (vA T1 2 j1 0) ++ stW 4 S) dX0_fewestSteps_48 rfl (by omega) (by decide) rfl ?_
        refine Z_iconst C (v := 1) dX0_fewestSteps_49 (by decide) ?_
        refine Z_istore C (L' := [(4, .int 1), (0, .ref 0), (1, .int (nI j1)), (2, .int (nI k2)), (3, .ref 4)]) dX0_fewestSteps_50 (by decide) rfl ?_
        refine Z_iconst C (v := 0) dX0_fewestSteps_52 (by decide) ?_
        refine Z_istore C (L' := [(5, .int 0), (4, .int 1), (0, .ref 0), (1, .int (nI j1)), (2, .int (nI k2)), (3, .ref 4)]) dX0_fewestSteps_53 (by decide) rfl ?_
        refine Zind (σ := Sr) (fun k T => ∀ d : Nat, d + k = 40 → T.2 0 = nI b → bfs S (ix (nI k2)) k d T = fewP B S (nI j1) (nI k2) → Z p l e _ s m args below meth c 6 G A h _ 0 0 (srW 0 T ++ stW 4 S) 55 [(5, .int (nI d)), (4, .int 1), (0, .ref 0), (1, .int (nI j1)), (2, .int (nI k2)), (3, .ref 4)] []) 40 (vA T1 2 j1 0) (fun T d hd hT hg => ?_) (fun k T ih d hd hT hg => ?_) 0 (Nat.zero_add _) hT1 (by rw [← bfs_def, ej1, eT1])
        · obtain rfl : d = 40 := by omega
          refine Z_iload C dX0_fewestSteps_55 rfl ?_
          refine Z_if_eq C 92 dX0_fewestSteps_57 (by decide) (fun c4 => absurd c4 (show ¬ (1 : Int32) = 0 from by decide)) (fun c4 => ?_)
          refine Z_aload_n C dX0_fewestSteps_60 rfl rfl ?_
          refine Z_get C K0 (v := .ref 3) 2 dX0_fewestSteps_61 rfl (by decide) g_95 rfl rfl ?_
          refine Z_iload_n C dX0_fewestSteps_64 rfl rfl ?_
          refine Z_iaN C (v := T.1 2 k2) dX0_fewestSteps_65 rfl (by omega) (by decide) rfl ?_
          refine Z_iconst C (v := (-1)) dX0_fewestSteps_66 (by decide) ?_
          refine Z_icmp_ne C 92 dX0_fewestSteps_67 (by decide) (fun c5 => ?_) (fun c5 => ?_)
          · refine Z_aload_n C dX0_fewestSteps_92 rfl rfl ?_
            refine Z_get C K0 (v := .ref 3) 2 dX0_fewestSteps_93 rfl (by decide) g_95 rfl rfl ?_
            refine Z_iload_n C dX0_fewestSteps_96 rfl rfl ?_
            refine Z_iaN C (v := T.1 2 k2) dX0_fewestSteps_97 rfl (by omega) (by decide) rfl ?_
            exact Z_iret C hr hlk dX0_fewestSteps_98 (congrArg (fun z => some (Value.int z)) (show (fewV B S (nI j1) (nI k2)) = (T.1 2 k2) from by simp [fewV, fewQ, ← hg, bfs, c1, c2, ej1, ek2, c3, c4, c5])) (by rw [show (fewQ B S (nI j1) (nI k2)) = T from by simp [fewV, fewQ, ← hg, bfs, c1, c2, ej1, ek2, c3, c4, c5]])
          · refine Z_iload C dX0_fewestSteps_70 rfl ?_
            refine Z_bipush C (v := 40) dX0_fewestSteps_72 (by decide) ?_
            refine Z_icmp_ge C 92 dX0_fewestSteps_74 (by decide) (fun c6 => ?_) (fun c6 => absurd (show (40 : Int32) ≤ nI 40 from by decide) c6)
            refine Z_aload_n C dX0_fewestSteps_92 rfl rfl ?_
            refine Z_get C K0 (v := .ref 3) 2 dX0_fewestSteps_93 rfl (by decide) g_95 rfl rfl ?_
            refine Z_iload_n C dX0_fewestSteps_96 rfl rfl ?_
            refine Z_iaN C (v := T.1 2 k2) dX0_fewestSteps_97 rfl (by omega) (by decide) rfl ?_
            exact Z_iret C hr hlk dX0_fewestSteps_98 (congrArg (fun z => some (Value.int z)) (show (fewV B S (nI j1) (nI k2)) = (T.1 2 k2) from by simp [fewV, fewQ, ← hg, bfs, c1, c2, ej1, ek2, c3, c4, c5, c6])) (by rw [show (fewQ B S (nI j1) (nI k2)) = T from by simp [fewV, fewQ, ← hg, bfs, c1, c2, ej1, ek2, c3, c4, c5, c6]])
        · refine Z_iload C dX0_fewestSteps_55 rfl ?_
          refine Z_if_eq C 92 dX0_fewestSteps_57 (by decide) (fun c7 => absurd c7 (show ¬ (1 : Int32) = 0 from by decide)) (fun c7 => ?_)
          refine Z_aload_n C dX0_fewestSteps_60 rfl rfl ?_
          refine Z_get C K0 (v := .ref 3) 2 dX0_fewestSteps_61 rfl (by decide) g_95 rfl rfl ?_
          refine Z_iload_n C dX0_fewestSteps_64 rfl rfl ?_
          refine Z_iaN C (v := T.1 2 k2) dX0_fewestSteps_65 rfl (by omega) (by decide) rfl ?_
          refine Z_iconst C (v := (-1)) dX0_fewestSteps_66 (by decide) ?_
          refine Z_icmp_ne C 92 dX0_fewestSteps_67 (by decide) (fun c8 => ?_) (fun c8 => ?_)
          · refine Z_aload_n C dX0_fewestSteps_92 rfl rfl ?_
            refine Z_get C K0 (v := .ref 3) 2 dX0_fewestSteps_93 rfl (by decide) g_95 rfl rfl ?_
            refine Z_iload_n C dX0_fewestSteps_96 rfl rfl ?_
            refine Z_iaN C (v := T.1 2 k2) dX0_fewestSteps_97 rfl (by omega) (by decide) rfl ?_
            exact Z_iret C hr hlk dX0_fewestSteps_98 (congrArg (fun z => some (Value.int z)) (show (fewV B S (nI j1) (nI k2)) = (T.1 2 k2) from by simp [fewV, fewQ, ← hg, bfs, c1, c2, ej1, ek2, c3, c7, c8])) (by rw [show (fewQ B S (nI j1) (nI k2)) = T from by simp [fewV, fewQ, ← hg, bfs, c1, c2, ej1, ek2, c3, c7, c8]])
          · refine Z_iload C dX0_fewestSteps_70 rfl ?_
            refine Z_bipush C (v := 40) dX0_fewestSteps_72 (by decide) ?_
            refine Z_icmp_ge C 92 dX0_fewestSteps_74 (by decide) (fun c9 => absurd c9 (show ¬ (40 : Int32) ≤ nI d from ge_no' (n := 40) (by omega) (by omega))) (fun c9 => ?_)
            refine Z_aload_n C dX0_fewestSteps_77 rfl rfl ?_
            refine Z_iload C dX0_fewestSteps_78 rfl ?_
            refine Z_aload_n C dX0_fewestSteps_80 rfl rfl ?_
            refine Z_callV C (ws' := srW 0 ((reachF S (nI d) T).1) ++ stW 4 S) (st' := [.int (bI (reachF S (nI d) T).2)]) (rest := []) [0, 1, 2, 3, 4, 5, 6, 7, 8, 9, 10, 11, 12, 13] (c_X0_reachFrom T S (nI d) hT h30 hn h40) m_X0_reachFrom K0 g_224 dX0_fewestSteps_81 rfl rfl rfl (outI 4 rfl rfl rfl (outR _ _ _)) (NW := 14) rfl rfl rfl rfl rfl ⟨Nat.le_of_ble_eq_true rfl, Nat.le_of_ble_eq_true rfl⟩ ⟨Nat.le_of_ble_eq_true rfl, Nat.le_of_ble_eq_true rfl⟩ (Nat.le_of_ble_eq_true rfl) rfl ?_
            refine Z_ws (fun X1 => srW 0 X1 ++ stW 4 S) ((reachF S (nI d) T).1) (fun X1 eX1 => ?_)
            refine Z_istore C (L' := [(4, .int (bI (reachF S (nI d) T).2)), (5, .int (nI d)), (0, .ref 0), (1, .int (nI j1)), (2, .int (nI k2)), (3, .ref 4)]) dX0_fewestSteps_84 (by decide) rfl ?_
            refine Z_iinc C (L' := [(5, .int (nI (d + 1))), (4, .int (bI (reachF S (nI d) T).2)), (0, .ref 0), (1, .int (nI j1)), (2, .int (nI k2)), (3, .ref 4)]) (v := nI (d + 1)) dX0_fewestSteps_86 rfl (nI_inc _) (by decide) rfl ?_
            refine Z_goto C 55 dX0_fewestSteps_89 (by decide) ?_
            cases hf : (reachF S (nI d) T).2 with
            | true =>
              refine Z_pc (L := [(5, .int (nI (d + 1))), (4, .int 1), (0, .ref 0), (1, .int (nI j1)), (2, .int (nI k2)), (3, .ref 4)]) rfl ?_
              exact Z_sub (by simp) (ih X1 (d + 1) (by omega) (show X1.2 0 = nI _ from by rw [eX1]; exact ((hb_reachF S (nI d) T).trans hT)) (by subst eX1; rw [← hg]; simp [bfs, hf, c1, c2, ej1, ek2, c3, c7, c8, c9]))
            | false =>
              refine Z_pc (L := [(5, .int (nI (d + 1))), (4, .int 0), (0, .ref 0), (1, .int (nI j1)), (2, .int (nI k2)), (3, .ref 4)]) rfl ?_
              refine Z_iload C dX0_fewestSteps_55 rfl ?_
              refine Z_if_eq C 92 dX0_fewestSteps_57 (by decide) (fun c10 => ?_) (fun c10 => absurd (show (0 : Int32) = 0 from rfl) c10)
              refine Z_aload_n C dX0_fewestSteps_92 rfl rfl ?_
              refine Z_get C K0 (v := .ref 3) 2 dX0_fewestSteps_93 rfl (by decide) g_95 rfl rfl ?_
              refine Z_iload_n C dX0_fewestSteps_96 rfl rfl ?_
              refine Z_iaN C (v := X1.1 2 k2) dX0_fewestSteps_97 rfl (by omega) (by decide) rfl ?_
              exact Z_iret C hr hlk dX0_fewestSteps_98 (congrArg (fun z => some (Value.int z)) (show (fewV B S (nI j1) (nI k2)) = (X1.1 2 k2) from by subst eX1; simp [fewV, fewQ, ← hg, bfs, c1, c2, ej1, ek2, c3, c7, c8, c9, hf, c10])) (by rw [show (fewQ B S (nI j1) (nI k2)) = X1 from by subst eX1; simp [fewV, fewQ, ← hg, bfs, c1, c2, ej1, ek2, c3, c7, c8, c9, hf, c10]])
      · refine Z_iload C dX0_fewestSteps_21 rfl ?_
        refine Z_bipush C (v := 40) dX0_fewestSteps_23 (by decide) ?_
        refine Z_icmp_ge C 42 dX0_fewestSteps_25 (by decide) (fun c11 => absurd c11 (ge_no40 hT1 h40 hi)) (fun c11 => ?_)
        refine Z_aload_n C dX0_fewestSteps_28 rfl rfl ?_
        refine Z_get C K0 (v := .ref 3) 2 dX0_fewestSteps_29 rfl (by decide) g_95 rfl rfl ?_
        refine Z_iload C dX0_fewestSteps_32 rfl ?_
        refine Z_iconst C (v := (-1)) dX0_fewestSteps_34 (by decide) ?_
        refine Z_isN C (ws' := srW 0 (vA T1 2 i (-1)) ++ stW 4 S) dX0_fewestSteps_35 rfl (by omega) (by decide) rfl ?_
        refine Z_iinc C (L' := [(4, .int (nI (i + 1))), (0, .ref 0), (1, .int (nI j1)), (2, .int (nI k2)), (3, .ref 4)]) (v := nI (i + 1)) dX0_fewestSteps_36 rfl (nI_inc _) (by decide) rfl ?_
        refine Z_goto C 21 dX0_fewestSteps_39 (by decide) ?_
        rw [show clr1 i T1 = (vA T1 2 i (-1)) from by simp [clr1, c1, c2, ej1, ek2, c11]] at kk
        exact Z_sub (by simp [bI_t, bI_f]) kk
    · have c2 := bI_0.mp c2
      refine Z_iconst C (v := (-1)) dX0_fewestSteps_16 (by decide) ?_
      exact Z_iret C hr hlk dX0_fewestSteps_17 (congrArg (fun z => some (Value.int z)) (show (fewV B S x y) = (-1) from by simp [fewV, fewQ, c1, c2])) (by rw [show (fewQ B S x y) = B from by simp [fewV, fewQ, c1, c2]])
