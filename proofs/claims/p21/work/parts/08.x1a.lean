set_option maxHeartbeats 4000000 in
set_option maxRecDepth 20000 in
theorem c_X1_has (S : St) (x : Int32) : CT yX1_has cX1_has 2 (some .boolean) 0 0 0 [.ref 0, .int x] (stW 0 S) (some (.int (bI (hasB S x)))) (stW 0 S) := by
  refine CT_of (L := [(0, .ref 0), (1, .int x)]) (by decide) (fun _ => rfl) (fun _ => Nat.le_of_ble_eq_true rfl) ?_
  intro p l e s m args below meth c G h A C hr hlk _
  refine Z_iload_n C dX1_has_0 rfl rfl ?_
  refine Z_if_lt C 16 dX1_has_1 (by decide) (fun c1 => ?_) (fun c1 => ?_)
  · refine Z_iconst C (v := 0) dX1_has_16 (by decide) ?_
    exact Z_zret C hr hlk dX1_has_17 rfl (congrArg (fun z => some (Value.int z)) (show (bI (hasB S x)) = 0 from by simp [hasB, bI, c1])) rfl
  · refine Z_iload_n C dX1_has_4 rfl rfl ?_
    refine Z_aload_n C dX1_has_5 rfl rfl ?_
    refine Z_get C K1 (v := .int (S.2.2.1 0)) 9 dX1_has_6 rfl (by decide) g_51 rfl rfl ?_
    refine Z_icmp_ge C 16 dX1_has_9 (by decide) (fun c2 => ?_) (fun c2 => ?_)
    · refine Z_iconst C (v := 0) dX1_has_16 (by decide) ?_
      exact Z_zret C hr hlk dX1_has_17 rfl (congrArg (fun z => some (Value.int z)) (show (bI (hasB S x)) = 0 from by simp [hasB, bI, c1, c2])) rfl
    · refine Z_iconst C (v := 1) dX1_has_12 (by decide) ?_
      refine Z_goto C 17 dX1_has_13 (by decide) ?_
      exact Z_zret C hr hlk dX1_has_17 rfl (congrArg (fun z => some (Value.int z)) (show (bI (hasB S x)) = 1 from by simp [hasB, bI, c1, c2])) rfl
set_option maxHeartbeats 4000000 in
set_option maxRecDepth 20000 in
theorem c_X1_isFull (S : St) : CT yX1_isFull cX1_isFull 1 (some .boolean) 0 0 0 [.ref 0] (stW 0 S) (some (.int (bI (isFullB S)))) (stW 0 S) := by
  refine CT_of (L := [(0, .ref 0)]) (by decide) (fun _ => rfl) (fun _ => Nat.le_of_ble_eq_true rfl) ?_
  intro p l e s m args below meth c G h A C hr hlk _
  refine Z_aload_n C dX1_isFull_0 rfl rfl ?_
  refine Z_get C K1 (v := .int (S.2.2.1 0)) 9 dX1_isFull_1 rfl (by decide) g_51 rfl rfl ?_
  refine Z_bipush C (v := 40) dX1_isFull_4 (by decide) ?_
  refine Z_icmp_lt C 13 dX1_isFull_6 (by decide) (fun c1 => ?_) (fun c1 => ?_)
  · refine Z_iconst C (v := 0) dX1_isFull_13 (by decide) ?_
    exact Z_zret C hr hlk dX1_isFull_14 rfl (congrArg (fun z => some (Value.int z)) (show (bI (isFullB S)) = 0 from by simp [isFullB, bI, c1])) rfl
  · refine Z_iconst C (v := 1) dX1_isFull_9 (by decide) ?_
    refine Z_goto C 14 dX1_isFull_10 (by decide) ?_
    exact Z_zret C hr hlk dX1_isFull_14 rfl (congrArg (fun z => some (Value.int z)) (show (bI (isFullB S)) = 1 from by simp [isFullB, bI, c1])) rfl
set_option maxHeartbeats 4000000 in
set_option maxRecDepth 20000 in
theorem c_X1_isHanging (S : St) (x : Int32) {n : Nat} (hn : S.2.2.1 0 = nI n) (h40 : n ≤ 40) : CT yX1_isHanging cX1_isHanging 2 (some .boolean) 1 0 0 [.ref 0, .int x] (stW 0 S) (some (.int (bI (hangsB S x)))) (stW 0 S) := by
  refine CT_of (L := [(0, .ref 0), (1, .int x)]) (by decide) (fun _ => rfl) (fun _ => Nat.le_of_ble_eq_true rfl) ?_
  intro p l e s m args below meth c G h A C hr hlk _
  refine Z_aload_n C dX1_isHanging_0 rfl rfl ?_
  refine Z_iload_n C dX1_isHanging_1 rfl rfl ?_
  refine Z_callV C (ws' := stW 0 S) (st' := [.int (bI (hasB S x))]) (rest := []) [0, 1, 2, 3, 4, 5, 6, 7, 8, 9] (c_X1_has S x) m_X1_has K1 g_208 dX1_isHanging_2 rfl rfl rfl (outR _ _ _) (NW := 10) rfl rfl rfl rfl rfl ⟨Nat.le_of_ble_eq_true rfl, Nat.le_of_ble_eq_true rfl⟩ ⟨Nat.le_of_ble_eq_true rfl, Nat.le_of_ble_eq_true rfl⟩ (Nat.le_of_ble_eq_true rfl) rfl ?_
  refine Z_if_eq C 21 dX1_isHanging_5 (by decide) (fun c1 => ?_) (fun c1 => ?_)
  · have c1 := bI_0.mp c1
    refine Z_iconst C (v := 0) dX1_isHanging_21 (by decide) ?_
    exact Z_zret C hr hlk dX1_isHanging_22 rfl (congrArg (fun z => some (Value.int z)) (show (bI (hangsB S x)) = 0 from by simp [hangsB, bI, c1])) rfl
  · have c1 := bI_n0.mp c1
    obtain ⟨j, hj, rfl⟩ := has_ix hn h40 c1
    have ej : ix (nI j) = j := ix_nI (by omega)
    refine Z_aload_n C dX1_isHanging_8 rfl rfl ?_
    refine Z_get C K1 (v := .ref 7) 6 dX1_isHanging_9 rfl (by decide) g_47 rfl rfl ?_
    refine Z_iload_n C dX1_isHanging_12 rfl rfl ?_
    refine Z_zaN C (v := bI (S.2.1 j)) dX1_isHanging_13 rfl (by omega) (by decide) rfl ?_
    refine Z_if_eq C 21 dX1_isHanging_14 (by decide) (fun c2 => ?_) (fun c2 => ?_)
    · have c2 := bI_0.mp c2
      refine Z_iconst C (v := 0) dX1_isHanging_21 (by decide) ?_
      exact Z_zret C hr hlk dX1_isHanging_22 rfl (congrArg (fun z => some (Value.int z)) (show (bI (hangsB S (nI j))) = 0 from by simp [hangsB, bI, c1, ej, c2])) rfl
    · have c2 := bI_n0.mp c2
      refine Z_iconst C (v := 1) dX1_isHanging_17 (by decide) ?_
      refine Z_goto C 22 dX1_isHanging_18 (by decide) ?_
      exact Z_zret C hr hlk dX1_isHanging_22 rfl (congrArg (fun z => some (Value.int z)) (show (bI (hangsB S (nI j))) = 1 from by simp [hangsB, bI, c1, ej, c2])) rfl
set_option maxHeartbeats 4000000 in
set_option maxRecDepth 20000 in
theorem c_X1_hasSpell (S : St) (x : Int32) {n : Nat} (hn : S.2.2.1 0 = nI n) (h40 : n ≤ 40) : CT yX1_hasSpell cX1_hasSpell 2 (some .boolean) 1 0 0 [.ref 0, .int x] (stW 0 S) (some (.int (bI (hasSpellB S x)))) (stW 0 S) := by
  refine CT_of (L := [(0, .ref 0), (1, .int x)]) (by decide) (fun _ => rfl) (fun _ => Nat.le_of_ble_eq_true rfl) ?_
  intro p l e s m args below meth c G h A C hr hlk _
  refine Z_aload_n C dX1_hasSpell_0 rfl rfl ?_
  refine Z_iload_n C dX1_hasSpell_1 rfl rfl ?_
  refine Z_callV C (ws' := stW 0 S) (st' := [.int (bI (hasB S x))]) (rest := []) [0, 1, 2, 3, 4, 5, 6, 7, 8, 9] (c_X1_has S x) m_X1_has K1 g_208 dX1_hasSpell_2 rfl rfl rfl (outR _ _ _) (NW := 10) rfl rfl rfl rfl rfl ⟨Nat.le_of_ble_eq_true rfl, Nat.le_of_ble_eq_true rfl⟩ ⟨Nat.le_of_ble_eq_true rfl, Nat.le_of_ble_eq_true rfl⟩ (Nat.le_of_ble_eq_true rfl) rfl ?_
  refine Z_if_eq C 21 dX1_hasSpell_5 (by decide) (fun c1 => ?_) (fun c1 => ?_)
  · have c1 := bI_0.mp c1
    refine Z_iconst C (v := 0) dX1_hasSpell_21 (by decide) ?_
    exact Z_zret C hr hlk dX1_hasSpell_22 rfl (congrArg (fun z => some (Value.int z)) (show (bI (hasSpellB S x)) = 0 from by simp [hasSpellB, bI, c1])) rfl
  · have c1 := bI_n0.mp c1
    obtain ⟨j, hj, rfl⟩ := has_ix hn h40 c1
    have ej : ix (nI j) = j := ix_nI (by omega)
    refine Z_aload_n C dX1_hasSpell_8 rfl rfl ?_
    refine Z_get C K1 (v := .ref 4) 3 dX1_hasSpell_9 rfl (by decide) g_43 rfl rfl ?_
    refine Z_iload_n C dX1_hasSpell_12 rfl rfl ?_
    refine Z_iaN C (v := S.1 3 j) dX1_hasSpell_13 rfl (by omega) (by decide) rfl ?_
    refine Z_if_le C 21 dX1_hasSpell_14 (by decide) (fun c2 => ?_) (fun c2 => ?_)
    · refine Z_iconst C (v := 0) dX1_hasSpell_21 (by decide) ?_
      exact Z_zret C hr hlk dX1_hasSpell_22 rfl (congrArg (fun z => some (Value.int z)) (show (bI (hasSpellB S (nI j))) = 0 from by simp [hasSpellB, bI, c1, ej, c2])) rfl
    · refine Z_iconst C (v := 1) dX1_hasSpell_17 (by decide) ?_
      refine Z_goto C 22 dX1_hasSpell_18 (by decide) ?_
      exact Z_zret C hr hlk dX1_hasSpell_22 rfl (congrArg (fun z => some (Value.int z)) (show (bI (hasSpellB S (nI j))) = 1 from by simp [hasSpellB, bI, c1, ej, c2])) rfl
set_option maxHeartbeats 4000000 in
set_option maxRecDepth 20000 in
theorem c_X1_bear (S : St) (x : Int32) (y : Int32) {n : Nat} (hn : S.2.2.1 0 = nI n) (h40 : n ≤ 40) : CT yX1_bear cX1_bear 3 none 0 0 0 [.ref 0, .int x, .int y] (stW 0 S) none (stW 0 (bear S x y)) := by
  refine CT_of (L := [(0, .ref 0), (1, .int x), (2, .int y)]) (by decide) (fun _ => rfl) (fun _ => Nat.le_of_ble_eq_true rfl) ?_
  intro p l e s m args below meth c G h A C hr hlk _
  refine Z_iload_n C dX1_bear_0 rfl rfl ?_
  refine Z_if_lt C 22 dX1_bear_1 (by decide) (fun c1 => ?_) (fun c1 => ?_)
  · exact Z_vret C hr hlk dX1_bear_22 rfl (by rw [show (bear S x y) = S from by simp [bear, hasB, c1]])
  · refine Z_iload_n C dX1_bear_4 rfl rfl ?_
    refine Z_aload_n C dX1_bear_5 rfl rfl ?_
    refine Z_get C K1 (v := .int (S.2.2.1 0)) 9 dX1_bear_6 rfl (by decide) g_51 rfl rfl ?_
    refine Z_icmp_ge C 22 dX1_bear_9 (by decide) (fun c2 => ?_) (fun c2 => ?_)
    · exact Z_vret C hr hlk dX1_bear_22 rfl (by rw [show (bear S x y) = S from by simp [bear, hasB, c1, c2]])
    · obtain ⟨j, hj, rfl⟩ := ix_of hn h40 c1 c2
      have ej : ix (nI j) = j := ix_nI (by omega)
      refine Z_aload_n C dX1_bear_12 rfl rfl ?_
      refine Z_get C K1 (v := .ref 9) 8 dX1_bear_13 rfl (by decide) g_50 rfl rfl ?_
      refine Z_iload_n C dX1_bear_16 rfl rfl ?_
      refine Z_dup2_11 C dX1_bear_17 rfl rfl ?_
      refine Z_iaN C (v := S.1 7 j) dX1_bear_18 rfl (by omega) (by decide) rfl ?_
      refine Z_iload_n C dX1_bear_19 rfl rfl ?_
      refine Z_iadd C (v := (S.1 7 j) + y) dX1_bear_20 rfl ?_
      refine Z_isN C (ws' := stW 0 (uA S 7 j ((S.1 7 j) + y))) dX1_bear_21 rfl (by omega) (by decide) rfl ?_
      exact Z_vret C hr hlk dX1_bear_22 rfl (by rw [show (bear S (nI j) y) = (uA S 7 j ((S.1 7 j) + y)) from by simp [bear, hasB, c1, c2, ej]])
set_option maxHeartbeats 4000000 in
set_option maxRecDepth 20000 in
theorem c_X1_endSpell (S : St) (x : Int32) {n : Nat} (hn : S.2.2.1 0 = nI n) (h40 : n ≤ 40) : CT yX1_endSpell cX1_endSpell 2 none 0 0 0 [.ref 0, .int x] (stW 0 S) none (stW 0 (endSpell S x)) := by
  refine CT_of (L := [(0, .ref 0), (1, .int x)]) (by decide) (fun _ => rfl) (fun _ => Nat.le_of_ble_eq_true rfl) ?_
  intro p l e s m args below meth c G h A C hr hlk _
  refine Z_iload_n C dX1_endSpell_0 rfl rfl ?_
  refine Z_if_lt C 24 dX1_endSpell_1 (by decide) (fun c1 => ?_) (fun c1 => ?_)
  · exact Z_vret C hr hlk dX1_endSpell_24 rfl (by rw [show (endSpell S x) = S from by simp [endSpell, hasB, c1]])
  · refine Z_iload_n C dX1_endSpell_4 rfl rfl ?_
    refine Z_aload_n C dX1_endSpell_5 rfl rfl ?_
    refine Z_get C K1 (v := .int (S.2.2.1 0)) 9 dX1_endSpell_6 rfl (by decide) g_51 rfl rfl ?_
    refine Z_icmp_ge C 24 dX1_endSpell_9 (by decide) (fun c2 => ?_) (fun c2 => ?_)
    · exact Z_vret C hr hlk dX1_endSpell_24 rfl (by rw [show (endSpell S x) = S from by simp [endSpell, hasB, c1, c2]])
    · obtain ⟨j, hj, rfl⟩ := ix_of hn h40 c1 c2
      have ej : ix (nI j) = j := ix_nI (by omega)
      refine Z_aload_n C dX1_endSpell_12 rfl rfl ?_
      refine Z_get C K1 (v := .ref 4) 3 dX1_endSpell_13 rfl (by decide) g_43 rfl rfl ?_
      refine Z_iload_n C dX1_endSpell_16 rfl rfl ?_
      refine Z_iconst C (v := 0) dX1_endSpell_17 (by decide) ?_
      refine Z_isN C (ws' := stW 0 (uA S 3 j 0)) dX1_endSpell_18 rfl (by omega) (by decide) rfl ?_
      refine Z_aload_n C dX1_endSpell_19 rfl rfl ?_
      refine Z_iconst C (v := 1) dX1_endSpell_20 (by decide) ?_
      refine Z_put C K1 (ws' := stW 0 (uS (uA S 3 j 0) true)) 12 dX1_endSpell_21 rfl (by decide) g_57 rfl rfl rfl rfl rfl (Nat.le_of_ble_eq_true rfl) rfl ?_
      exact Z_vret C hr hlk dX1_endSpell_24 rfl (by rw [show (endSpell S (nI j)) = (uS (uA S 3 j 0) true) from by simp [endSpell, hasB, c1, c2, ej]])
