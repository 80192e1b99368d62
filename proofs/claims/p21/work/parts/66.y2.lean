/-! small methods of the law's -/
def bl (x y : Int32) : Int32 := (x &&& 2147483647) - (x &&& 2147483647) / y * y
set_option maxHeartbeats 4000000 in
set_option maxRecDepth 20000 in
theorem c_L_below {w : WF} {x y : Int32} (hy : ¬ y = 0) : CTm yL_below cL_below 2 (some .int) 0 0 0 [.int x, .int y] (w) (fun _ => True) (fun r' w' => r' = some (.int (bl x y)) ∧ w' = w) := by
  refine CTm_of (L := [(0, .int x), (1, .int y)]) (by decide) (fun _ => rfl) (fun _ => Nat.le_of_ble_eq_true rfl) ?_
  intro p l e s m args below meth c G h A b N xs C S hr hlk hnm
  refine Y_iload_n C dL_below_0 rfl rfl ?_
  refine Y_ldc C (v := 2147483647) dL_below_1 g_430 ?_
  refine Y_iand C (v := x &&& 2147483647) dL_below_3 rfl ?_
  refine Y_iload_n C dL_below_4 rfl rfl ?_
  refine Y_irem C (v := bl x y) dL_below_5 hy rfl ?_
  exact Y_iret C hr hlk dL_below_6 (fun _ _ => rfl) ⟨rfl, rfl⟩
def cel (N : Nat) (xs : Nat → Int32) (j : Nat) : Int32 := if nI N ≤ nI j then 790386105 * (nI j + 3) else xs j
set_option maxHeartbeats 4000000 in
set_option maxRecDepth 20000 in
theorem c_L_cell {w : WF} {j N : Nat} {xs : Nat → Int32} (hj : j < 2 ^ 31) (hN : N < 2 ^ 31) : CTs yL_cell cL_cell 2 (some .int) 0 0 0 [.ref 1000, .int (nI j)] N xs w (fun _ => True) (fun r' w' => r' = some (.int (cel N xs j)) ∧ w' = w) := by
  refine CTs_of (L := [(0, .ref 1000), (1, .int (nI j))]) (by decide) (fun _ => rfl) (fun _ => Nat.le_of_ble_eq_true rfl) ?_
  intro p l e s m args below meth c G h A b hh C S hr hlk hnm
  refine Y_iload_n C dL_cell_0 rfl rfl ?_
  refine Y_aload_n C dL_cell_1 rfl rfl ?_
  refine Y_slen C S.2.2.1 S.2.2.2.1 S.2.2.2.2 hh (v := nI N) dL_cell_2 rfl ?_
  refine Y_icmp_ge C 12 dL_cell_3 (by decide) (fun c1 => ?_) (fun c1 => ?_)
  · refine Y_ldc C (v := 790386105) dL_cell_12 g_434 ?_
    refine Y_iload_n C dL_cell_14 rfl rfl ?_
    refine Y_iconst C (v := 3) dL_cell_15 (by decide) ?_
    refine Y_iadd C (v := (nI j) + 3) dL_cell_16 rfl ?_
    refine Y_imul C (v := 790386105 * ((nI j) + 3)) dL_cell_17 rfl ?_
    exact Y_iret C hr hlk dL_cell_18 (fun _ _ => rfl) ⟨by rw [cel, if_pos c1], rfl⟩
  · refine Y_aload_n C dL_cell_6 rfl rfl ?_
    refine Y_iload_n C dL_cell_7 rfl rfl ?_
    have hjN : j < N := Nat.not_le.mp (fun q => c1 (nI_le q hj))
    refine Y_sld C S.2.2.1 S.2.2.2.1 S.2.2.2.2 hh (v := xs j) dL_cell_8 (vp_in_nI hjN hN) (by rw [nI_clamp hj]) ?_
    refine Y_goto C 18 dL_cell_9 (by decide) ?_
    exact Y_iret C hr hlk dL_cell_18 (fun _ _ => rfl) ⟨by rw [cel, if_neg c1], rfl⟩
set_option maxHeartbeats 4000000 in
set_option maxRecDepth 20000 in
theorem c_X3_hanging {V : List va_E} {n r : Nat} {M : Md} {T : WF} (h40 : n ≤ 40) (h30 : r ≤ 30) (hb : ∀ i, i < n → M.1 2 i = 0 ∨ M.1 2 i = 1) : CTm yX3_hanging cX3_hanging 6 (some .int) 0 0 0 [.ref 100] (gW V n r M T) (fun _ => True) (fun r' w' => r' = some (.int (fr (mHa1 M) n 0)) ∧ w' = gW V n r M T) := by
  refine CTm_of (L := [(0, .ref 100)]) (by decide) (fun _ => rfl) (fun _ => Nat.le_of_ble_eq_true rfl) ?_
  intro p l e s m args below meth c G h A b N xs C S hr hlk hnm
  refine Y_iconst C (v := 0) dX3_hanging_0 (by decide) ?_
  refine Y_istore_n C (L' := [(1, .int 0), (0, .ref 100)]) dX3_hanging_1 rfl (by decide) rfl ?_
  refine Y_aload_n C dX3_hanging_2 rfl rfl ?_
  refine Y_get C K3 (v := .ref 101) 0 dX3_hanging_3 gW_100 (by decide) g_577 rfl rfl ?_
  refine Y_astore_n C (L' := [(2, .ref 101), (1, .int 0), (0, .ref 100)]) dX3_hanging_6 rfl (by decide) rfl ?_
  refine Y_aload_n C dX3_hanging_7 rfl rfl ?_
  refine Y_alen C (i := 2) (v := nI n) dX3_hanging_8 gW_101 rfl rfl ?_
  refine Y_istore_n C (L' := [(3, .int (nI n)), (2, .ref 101), (1, .int 0), (0, .ref 100)]) dX3_hanging_9 rfl (by decide) rfl ?_
  refine Y_iconst C (v := nI 0) dX3_hanging_10 (by decide) ?_
  refine Y_istore C (L' := [(4, .int (nI 0)), (3, .int (nI n)), (2, .ref 101), (1, .int 0), (0, .ref 100)]) dX3_hanging_11 (by decide) rfl ?_
  refine Zfor (σ := Int32) (fun i1 X1 => Y p l e _ s m args below meth c 6 G A h _ 0 0 (gW V n r M T) 13 [(4, .int (nI i1)), (3, .int (nI n)), (2, .ref 101), (1, .int X1), (0, .ref 100)] []) (fun i1 X1 => True) (mHa1 M) n 0 trivial (fun _ _ _ _ => trivial) (fun X1 hX1 eX1 => ?_) (fun i1 X1 hi1 hX1 hX1' kk1 => ?_)
  · skip
    refine Y_iload C dX3_hanging_13 rfl ?_
    refine Y_iload_n C dX3_hanging_15 rfl rfl ?_
    refine Y_icmp_ge C 47 dX3_hanging_16 (by decide) (fun c2 => ?_) (fun c2 => absurd (Int32.le_refl _) c2)
    refine Y_iload_n C dX3_hanging_47 rfl rfl ?_
    exact Y_iret C hr hlk dX3_hanging_48 (fun _ _ => rfl) ⟨by rw [eX1], rfl⟩
  · skip
    refine Y_iload C dX3_hanging_13 rfl ?_
    refine Y_iload_n C dX3_hanging_15 rfl rfl ?_
    refine Y_icmp_ge C 47 dX3_hanging_16 (by decide) (fun c3 => absurd c3 (nI_ge hi1 (by omega))) (fun c3 => ?_)
    refine Y_aload_n C dX3_hanging_19 rfl rfl ?_
    refine Y_iload C dX3_hanging_20 rfl ?_
    refine Y_aaldq C (j := 200 + 2 * i1) dX3_hanging_22 gW_101 (vp_in_nI hi1 (by omega)) (by rw [nI_clamp (by omega)]; exact rfS_at hi1) ?_
    refine Y_astore C (L' := [(5, .ref (200 + 2 * i1)), (4, .int (nI i1)), (3, .int (nI n)), (2, .ref 101), (1, .int X1), (0, .ref 100)]) dX3_hanging_23 (by decide) rfl ?_
    refine Y_iload_n C dX3_hanging_25 rfl rfl ?_
    refine Y_aload C dX3_hanging_26 rfl ?_
    refine Y_get C K4 (v := .int (M.1 2 i1)) 2 dX3_hanging_28 (gW_st h40 hi1) (by decide) g_452 rfl rfl ?_
    refine Y_if_eq C 38 dX3_hanging_31 (by decide) (fun c4 => ?_) (fun c4 => ?_)
    · refine Y_iconst C (v := 0) dX3_hanging_38 (by decide) ?_
      refine Y_iadd C (v := X1 + 0) dX3_hanging_39 rfl ?_
      refine Y_istore_n C (L' := [(1, .int (X1 + 0)), (5, .ref (200 + 2 * i1)), (4, .int (nI i1)), (3, .int (nI n)), (2, .ref 101), (0, .ref 100)]) dX3_hanging_40 rfl (by decide) rfl ?_
      refine Y_iinc C (L' := [(4, .int (nI (i1 + 1))), (1, .int (X1 + 0)), (5, .ref (200 + 2 * i1)), (3, .int (nI n)), (2, .ref 101), (0, .ref 100)]) (v := nI (i1 + 1)) dX3_hanging_41 rfl (nI_inc _) (by decide) rfl ?_
      refine Y_goto C 13 dX3_hanging_44 (by decide) ?_
      rw [show mHa1 M i1 X1 = X1 + 0 from by (simp only [mHa1]; rcases hb _ hi1 with z | z <;> simp_all)] at kk1
      exact Y_sub (by simp) (kk1)
    · refine Y_iconst C (v := 1) dX3_hanging_34 (by decide) ?_
      refine Y_goto C 39 dX3_hanging_35 (by decide) ?_
      refine Y_iadd C (v := X1 + 1) dX3_hanging_39 rfl ?_
      refine Y_istore_n C (L' := [(1, .int (X1 + 1)), (5, .ref (200 + 2 * i1)), (4, .int (nI i1)), (3, .int (nI n)), (2, .ref 101), (0, .ref 100)]) dX3_hanging_40 rfl (by decide) rfl ?_
      refine Y_iinc C (L' := [(4, .int (nI (i1 + 1))), (1, .int (X1 + 1)), (5, .ref (200 + 2 * i1)), (3, .int (nI n)), (2, .ref 101), (0, .ref 100)]) (v := nI (i1 + 1)) dX3_hanging_41 rfl (nI_inc _) (by decide) rfl ?_
      refine Y_goto C 13 dX3_hanging_44 (by decide) ?_
      rw [show mHa1 M i1 X1 = X1 + 1 from by (simp only [mHa1]; rcases hb _ hi1 with z | z <;> simp_all)] at kk1
      exact Y_sub (by simp) (kk1)
set_option maxHeartbeats 4000000 in
set_option maxRecDepth 20000 in
theorem c_X3_stairs {V : List va_E} {n r : Nat} {M : Md} {T : WF} (h40 : n ≤ 40) (h30 : r ≤ 30) : CTm yX3_stairs cX3_stairs 6 (some .int) 0 0 0 [.ref 100] (gW V n r M T) (fun _ => True) (fun r' w' => r' = some (.int (fr (mk4 M) r 0)) ∧ w' = gW V n r M T) := by
  refine CTm_of (L := [(0, .ref 100)]) (by decide) (fun _ => rfl) (fun _ => Nat.le_of_ble_eq_true rfl) ?_
  intro p l e s m args below meth c G h A b N xs C S hr hlk hnm
  refine Y_iconst C (v := 0) dX3_stairs_0 (by decide) ?_
  refine Y_istore_n C (L' := [(1, .int 0), (0, .ref 100)]) dX3_stairs_1 rfl (by decide) rfl ?_
  refine Y_aload_n C dX3_stairs_2 rfl rfl ?_
  refine Y_get C K3 (v := .ref 102) 1 dX3_stairs_3 gW_100 (by decide) g_579 rfl rfl ?_
  refine Y_astore_n C (L' := [(2, .ref 102), (1, .int 0), (0, .ref 100)]) dX3_stairs_6 rfl (by decide) rfl ?_
  refine Y_aload_n C dX3_stairs_7 rfl rfl ?_
  refine Y_alen C (i := 3) (v := nI r) dX3_stairs_8 gW_102 rfl rfl ?_
  refine Y_istore_n C (L' := [(3, .int (nI r)), (2, .ref 102), (1, .int 0), (0, .ref 100)]) dX3_stairs_9 rfl (by decide) rfl ?_
  refine Y_iconst C (v := nI 0) dX3_stairs_10 (by decide) ?_
  refine Y_istore C (L' := [(4, .int (nI 0)), (3, .int (nI r)), (2, .ref 102), (1, .int 0), (0, .ref 100)]) dX3_stairs_11 (by decide) rfl ?_
  refine Zfor (σ := Int32) (fun i1 X1 => Y p l e _ s m args below meth c 6 G A h _ 0 0 (gW V n r M T) 13 [(4, .int (nI i1)), (3, .int (nI r)), (2, .ref 102), (1, .int X1), (0, .ref 100)] []) (fun i1 X1 => True) (mk4 M) r 0 trivial (fun _ _ _ _ => trivial) (fun X1 hX1 eX1 => ?_) (fun i1 X1 hi1 hX1 hX1' kk1 => ?_)
  · skip
    refine Y_iload C dX3_stairs_13 rfl ?_
    refine Y_iload_n C dX3_stairs_15 rfl rfl ?_
    refine Y_icmp_ge C 40 dX3_stairs_16 (by decide) (fun c2 => ?_) (fun c2 => absurd (Int32.le_refl _) c2)
    refine Y_iload_n C dX3_stairs_40 rfl rfl ?_
    exact Y_iret C hr hlk dX3_stairs_41 (fun _ _ => rfl) ⟨by rw [eX1], rfl⟩
  · skip
    refine Y_iload C dX3_stairs_13 rfl ?_
    refine Y_iload_n C dX3_stairs_15 rfl rfl ?_
    refine Y_icmp_ge C 40 dX3_stairs_16 (by decide) (fun c3 => absurd c3 (nI_ge hi1 (by omega))) (fun c3 => ?_)
    refine Y_aload_n C dX3_stairs_19 rfl rfl ?_
    refine Y_iload C dX3_stairs_20 rfl ?_
    refine Y_aald C (j := 300 + i1) dX3_stairs_22 gW_102 (vp_in_nI hi1 (by omega)) (by rw [nI_clamp (by omega)]; exact rfT_at hi1) ?_
    refine Y_astore C (L' := [(5, .ref (300 + i1)), (4, .int (nI i1)), (3, .int (nI r)), (2, .ref 102), (1, .int X1), (0, .ref 100)]) dX3_stairs_23 (by decide) rfl ?_
    refine Y_iload_n C dX3_stairs_25 rfl rfl ?_
    refine Y_iconst C (v := 1) dX3_stairs_26 (by decide) ?_
    refine Y_aload C dX3_stairs_27 rfl ?_
    refine Y_iconst C (v := 2) dX3_stairs_29 (by decide) ?_
    refine Y_iald C (v := M.2.1 2 i1) dX3_stairs_30 (gW_sa h40 h30 hi1) (vp_in_nI (n := 2) (N := 3) (by decide) (by decide)) rfl ?_
    refine Y_isub C (v := 1 - (M.2.1 2 i1)) dX3_stairs_31 rfl ?_
    refine Y_iadd C (v := X1 + (1 - (M.2.1 2 i1))) dX3_stairs_32 rfl ?_
    refine Y_istore_n C (L' := [(1, .int (X1 + (1 - (M.2.1 2 i1)))), (5, .ref (300 + i1)), (4, .int (nI i1)), (3, .int (nI r)), (2, .ref 102), (0, .ref 100)]) dX3_stairs_33 rfl (by decide) rfl ?_
    refine Y_iinc C (L' := [(4, .int (nI (i1 + 1))), (1, .int (X1 + (1 - (M.2.1 2 i1)))), (5, .ref (300 + i1)), (3, .int (nI r)), (2, .ref 102), (0, .ref 100)]) (v := nI (i1 + 1)) dX3_stairs_34 rfl (nI_inc _) (by decide) rfl ?_
    refine Y_goto C 13 dX3_stairs_37 (by decide) ?_
    rw [show mk4 M i1 X1 = X1 + (1 - (M.2.1 2 i1)) from by simp [mk4]] at kk1
    exact Y_sub (by simp) (kk1)
def jp1 (M : Md) (i : Nat) (a : Int32) : Int32 := a + (if M.1 2 i = 0 then 0 else M.1 3 i)
set_option maxHeartbeats 4000000 in
set_option maxRecDepth 20000 in
theorem c_X3_power {V : List va_E} {n r : Nat} {M : Md} {T : WF} (h40 : n ≤ 40) (h30 : r ≤ 30) : CTm yX3_power cX3_power 6 (some .int) 0 0 0 [.ref 100] (gW V n r M T) (fun _ => True) (fun r' w' => r' = some (.int (fr (jp1 M) n 0)) ∧ w' = gW V n r M T) := by
  refine CTm_of (L := [(0, .ref 100)]) (by decide) (fun _ => rfl) (fun _ => Nat.le_of_ble_eq_true rfl) ?_
  intro p l e s m args below meth c G h A b N xs C S hr hlk hnm
  refine Y_iconst C (v := 0) dX3_power_0 (by decide) ?_
  refine Y_istore_n C (L' := [(1, .int 0), (0, .ref 100)]) dX3_power_1 rfl (by decide) rfl ?_
  refine Y_aload_n C dX3_power_2 rfl rfl ?_
  refine Y_get C K3 (v := .ref 101) 0 dX3_power_3 gW_100 (by decide) g_577 rfl rfl ?_
  refine Y_astore_n C (L' := [(2, .ref 101), (1, .int 0), (0, .ref 100)]) dX3_power_6 rfl (by decide) rfl ?_
  refine Y_aload_n C dX3_power_7 rfl rfl ?_
  refine Y_alen C (i := 2) (v := nI n) dX3_power_8 gW_101 rfl rfl ?_
  refine Y_istore_n C (L' := [(3, .int (nI n)), (2, .ref 101), (1, .int 0), (0, .ref 100)]) dX3_power_9 rfl (by decide) rfl ?_
  refine Y_iconst C (v := nI 0) dX3_power_10 (by decide) ?_
  refine Y_istore C (L' := [(4, .int (nI 0)), (3, .int (nI n)), (2, .ref 101), (1, .int 0), (0, .ref 100)]) dX3_power_11 (by decide) rfl ?_
  refine Zfor (σ := Int32) (fun i1 X1 => Y p l e _ s m args below meth c 6 G A h _ 0 0 (gW V n r M T) 13 [(4, .int (nI i1)), (3, .int (nI n)), (2, .ref 101), (1, .int X1), (0, .ref 100)] []) (fun i1 X1 => True) (jp1 M) n 0 trivial (fun _ _ _ _ => trivial) (fun X1 hX1 eX1 => ?_) (fun i1 X1 hi1 hX1 hX1' kk1 => ?_)
  · skip
    refine Y_iload C dX3_power_13 rfl ?_
    refine Y_iload_n C dX3_power_15 rfl rfl ?_
    refine Y_icmp_ge C 51 dX3_power_16 (by decide) (fun c2 => ?_) (fun c2 => absurd (Int32.le_refl _) c2)
    refine Y_iload_n C dX3_power_51 rfl rfl ?_
    exact Y_iret C hr hlk dX3_power_52 (fun _ _ => rfl) ⟨by rw [eX1], rfl⟩
  · skip
    refine Y_iload C dX3_power_13 rfl ?_
    refine Y_iload_n C dX3_power_15 rfl rfl ?_
    refine Y_icmp_ge C 51 dX3_power_16 (by decide) (fun c3 => absurd c3 (nI_ge hi1 (by omega))) (fun c3 => ?_)
    refine Y_aload_n C dX3_power_19 rfl rfl ?_
    refine Y_iload C dX3_power_20 rfl ?_
    refine Y_aaldq C (j := 200 + 2 * i1) dX3_power_22 gW_101 (vp_in_nI hi1 (by omega)) (by rw [nI_clamp (by omega)]; exact rfS_at hi1) ?_
    refine Y_astore C (L' := [(5, .ref (200 + 2 * i1)), (4, .int (nI i1)), (3, .int (nI n)), (2, .ref 101), (1, .int X1), (0, .ref 100)]) dX3_power_23 (by decide) rfl ?_
    refine Y_iload_n C dX3_power_25 rfl rfl ?_
    refine Y_aload C dX3_power_26 rfl ?_
    refine Y_get C K4 (v := .int (M.1 2 i1)) 2 dX3_power_28 (gW_st h40 hi1) (by decide) g_452 rfl rfl ?_
    refine Y_if_eq C 42 dX3_power_31 (by decide) (fun c4 => ?_) (fun c4 => ?_)
    · refine Y_iconst C (v := 0) dX3_power_42 (by decide) ?_
      refine Y_iadd C (v := X1 + 0) dX3_power_43 rfl ?_
      refine Y_istore_n C (L' := [(1, .int (X1 + 0)), (5, .ref (200 + 2 * i1)), (4, .int (nI i1)), (3, .int (nI n)), (2, .ref 101), (0, .ref 100)]) dX3_power_44 rfl (by decide) rfl ?_
      refine Y_iinc C (L' := [(4, .int (nI (i1 + 1))), (1, .int (X1 + 0)), (5, .ref (200 + 2 * i1)), (3, .int (nI n)), (2, .ref 101), (0, .ref 100)]) (v := nI (i1 + 1)) dX3_power_45 rfl (nI_inc _) (by decide) rfl ?_
      refine Y_goto C 13 dX3_power_48 (by decide) ?_
      rw [show jp1 M i1 X1 = X1 + 0 from by simp [jp1, c4]] at kk1
      exact Y_sub (by simp) (kk1)
    · refine Y_aload C dX3_power_34 rfl ?_
      refine Y_get C K4 (v := .int (M.1 3 i1)) 3 dX3_power_36 (gW_st h40 hi1) (by decide) g_454 rfl rfl ?_
      refine Y_goto C 43 dX3_power_39 (by decide) ?_
      refine Y_iadd C (v := X1 + (M.1 3 i1)) dX3_power_43 rfl ?_
      refine Y_istore_n C (L' := [(1, .int (X1 + (M.1 3 i1))), (5, .ref (200 + 2 * i1)), (4, .int (nI i1)), (3, .int (nI n)), (2, .ref 101), (0, .ref 100)]) dX3_power_44 rfl (by decide) rfl ?_
      refine Y_iinc C (L' := [(4, .int (nI (i1 + 1))), (1, .int (X1 + (M.1 3 i1))), (5, .ref (200 + 2 * i1)), (3, .int (nI n)), (2, .ref 101), (0, .ref 100)]) (v := nI (i1 + 1)) dX3_power_45 rfl (nI_inc _) (by decide) rfl ?_
      refine Y_goto C 13 dX3_power_48 (by decide) ?_
      rw [show jp1 M i1 X1 = X1 + (M.1 3 i1) from by simp [jp1, c4]] at kk1
      exact Y_sub (by simp) (kk1)
