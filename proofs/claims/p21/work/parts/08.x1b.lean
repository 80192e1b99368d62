set_option maxHeartbeats 4000000 in
set_option maxRecDepth 20000 in
theorem c_X1_tearHoldsFrom (S : St) (x : Int32) {n : Nat} (hn : S.2.2.1 0 = nI n) (h40 : n ≤ 40) : CT yX1_tearHoldsFrom cX1_tearHoldsFrom 3 none 0 0 0 [.ref 0, .int x] (stW 0 S) none (stW 0 (tearF S x)) := by
  refine CT_of (L := [(0, .ref 0), (1, .int x)]) (by decide) (fun _ => rfl) (fun _ => Nat.le_of_ble_eq_true rfl) ?_
  intro p l e s m args below meth c G h A C hr hlk _
  refine Z_iconst C (v := 0) dX1_tearHoldsFrom_0 (by decide) ?_
  refine Z_istore_n C (L' := [(2, .int 0), (0, .ref 0), (1, .int x)]) dX1_tearHoldsFrom_1 rfl (by decide) rfl ?_
  refine Zfor (σ := St) (fun i T1 => Z p l e _ s m args below meth c 3 G A h _ 0 0 (stW 0 T1) 2 [(2, .int (nI i)), (0, .ref 0), (1, .int x)] []) (fun i T1 => T1.2.2.1 0 = nI n) (tear1 x) n (S) hn (fun i T1 hi hT1 => (hk_tear1 _ _ _).trans hT1) (fun T1 hT1 eT1 => ?_) (fun i T1 hi hT1 hT1' kk => ?_)
  · refine Z_iload_n C dX1_tearHoldsFrom_2 rfl rfl ?_
    refine Z_aload_n C dX1_tearHoldsFrom_3 rfl rfl ?_
    refine Z_get C K1 (v := .int (T1.2.2.1 0)) 9 dX1_tearHoldsFrom_4 rfl (by decide) g_51 rfl rfl ?_
    refine Z_icmp_ge C 75 dX1_tearHoldsFrom_7 (by decide) (fun c1 => ?_) (fun c1 => absurd (ge_yes hT1) c1)
    exact Z_vret C hr hlk dX1_tearHoldsFrom_75 rfl (by rw [show (tearF S x) = T1 from by subst eT1; simp only [tearF, nn_eq hn h40]])
  · refine Z_iload_n C dX1_tearHoldsFrom_2 rfl rfl ?_
    refine Z_aload_n C dX1_tearHoldsFrom_3 rfl rfl ?_
    refine Z_get C K1 (v := .int (T1.2.2.1 0)) 9 dX1_tearHoldsFrom_4 rfl (by decide) g_51 rfl rfl ?_
    refine Z_icmp_ge C 75 dX1_tearHoldsFrom_7 (by decide) (fun c2 => absurd c2 (ge_no hT1 h40 hi)) (fun c2 => ?_)
    refine Z_aload_n C dX1_tearHoldsFrom_10 rfl rfl ?_
    refine Z_get C K1 (v := .ref 5) 4 dX1_tearHoldsFrom_11 rfl (by decide) g_45 rfl rfl ?_
    refine Z_iload_n C dX1_tearHoldsFrom_14 rfl rfl ?_
    refine Z_iaN C (v := T1.1 4 i) dX1_tearHoldsFrom_15 rfl (by omega) (by decide) rfl ?_
    refine Z_iload_n C dX1_tearHoldsFrom_16 rfl rfl ?_
    refine Z_icmp_ne C 47 dX1_tearHoldsFrom_17 (by decide) (fun c3 => ?_) (fun c3 => ?_)
    · refine Z_aload_n C dX1_tearHoldsFrom_47 rfl rfl ?_
      refine Z_get C K1 (v := .ref 6) 5 dX1_tearHoldsFrom_48 rfl (by decide) g_46 rfl rfl ?_
      refine Z_iload_n C dX1_tearHoldsFrom_51 rfl rfl ?_
      refine Z_iaN C (v := T1.1 5 i) dX1_tearHoldsFrom_52 rfl (by omega) (by decide) rfl ?_
      refine Z_iload_n C dX1_tearHoldsFrom_53 rfl rfl ?_
      refine Z_icmp_ne C 69 dX1_tearHoldsFrom_54 (by decide) (fun c4 => ?_) (fun c4 => ?_)
      · refine Z_iinc C (L' := [(2, .int (nI (i + 1))), (0, .ref 0), (1, .int x)]) (v := nI (i + 1)) dX1_tearHoldsFrom_69 rfl (nI_inc _) (by decide) rfl ?_
        refine Z_goto C 2 dX1_tearHoldsFrom_72 (by decide) ?_
        rw [show (tear1 x) i T1 = T1 from by simp [tear1, c2, c3, c4]] at kk
        exact Z_sub (by simp [bI_t, bI_f]) kk
      · refine Z_aload_n C dX1_tearHoldsFrom_57 rfl rfl ?_
        refine Z_get C K1 (v := .ref 6) 5 dX1_tearHoldsFrom_58 rfl (by decide) g_46 rfl rfl ?_
        refine Z_iload_n C dX1_tearHoldsFrom_61 rfl rfl ?_
        refine Z_iconst C (v := (-1)) dX1_tearHoldsFrom_62 (by decide) ?_
        refine Z_isN C (ws' := stW 0 (uA T1 5 i (-1))) dX1_tearHoldsFrom_63 rfl (by omega) (by decide) rfl ?_
        refine Z_aload_n C dX1_tearHoldsFrom_64 rfl rfl ?_
        refine Z_iconst C (v := 1) dX1_tearHoldsFrom_65 (by decide) ?_
        refine Z_put C K1 (ws' := stW 0 (uS (uA T1 5 i (-1)) true)) 12 dX1_tearHoldsFrom_66 rfl (by decide) g_57 rfl rfl rfl rfl rfl (Nat.le_of_ble_eq_true rfl) rfl ?_
        refine Z_iinc C (L' := [(2, .int (nI (i + 1))), (0, .ref 0), (1, .int x)]) (v := nI (i + 1)) dX1_tearHoldsFrom_69 rfl (nI_inc _) (by decide) rfl ?_
        refine Z_goto C 2 dX1_tearHoldsFrom_72 (by decide) ?_
        rw [show (tear1 x) i T1 = (uS (uA T1 5 i (-1)) true) from by simp [tear1, c2, c3, c4]] at kk
        exact Z_sub (by simp [bI_t, bI_f]) kk
    · refine Z_aload_n C dX1_tearHoldsFrom_20 rfl rfl ?_
      refine Z_get C K1 (v := .ref 5) 4 dX1_tearHoldsFrom_21 rfl (by decide) g_45 rfl rfl ?_
      refine Z_iload_n C dX1_tearHoldsFrom_24 rfl rfl ?_
      refine Z_aload_n C dX1_tearHoldsFrom_25 rfl rfl ?_
      refine Z_get C K1 (v := .ref 6) 5 dX1_tearHoldsFrom_26 rfl (by decide) g_46 rfl rfl ?_
      refine Z_iload_n C dX1_tearHoldsFrom_29 rfl rfl ?_
      refine Z_iaN C (v := T1.1 5 i) dX1_tearHoldsFrom_30 rfl (by omega) (by decide) rfl ?_
      refine Z_isN C (ws' := stW 0 (uA T1 4 i (T1.1 5 i))) dX1_tearHoldsFrom_31 rfl (by omega) (by decide) rfl ?_
      refine Z_aload_n C dX1_tearHoldsFrom_32 rfl rfl ?_
      refine Z_get C K1 (v := .ref 6) 5 dX1_tearHoldsFrom_33 rfl (by decide) g_46 rfl rfl ?_
      refine Z_iload_n C dX1_tearHoldsFrom_36 rfl rfl ?_
      refine Z_iconst C (v := (-1)) dX1_tearHoldsFrom_37 (by decide) ?_
      refine Z_isN C (ws' := stW 0 (uA (uA T1 4 i (T1.1 5 i)) 5 i (-1))) dX1_tearHoldsFrom_38 rfl (by omega) (by decide) rfl ?_
      refine Z_aload_n C dX1_tearHoldsFrom_39 rfl rfl ?_
      refine Z_iconst C (v := 1) dX1_tearHoldsFrom_40 (by decide) ?_
      refine Z_put C K1 (ws' := stW 0 (uS (uA (uA T1 4 i (T1.1 5 i)) 5 i (-1)) true)) 12 dX1_tearHoldsFrom_41 rfl (by decide) g_57 rfl rfl rfl rfl rfl (Nat.le_of_ble_eq_true rfl) rfl ?_
      refine Z_goto C 69 dX1_tearHoldsFrom_44 (by decide) ?_
      refine Z_iinc C (L' := [(2, .int (nI (i + 1))), (0, .ref 0), (1, .int x)]) (v := nI (i + 1)) dX1_tearHoldsFrom_69 rfl (nI_inc _) (by decide) rfl ?_
      refine Z_goto C 2 dX1_tearHoldsFrom_72 (by decide) ?_
      rw [show (tear1 x) i T1 = (uS (uA (uA T1 4 i (T1.1 5 i)) 5 i (-1)) true) from by simp [tear1, c2, c3]] at kk
      exact Z_sub (by simp [bI_t, bI_f]) kk
set_option maxHeartbeats 4000000 in
set_option maxRecDepth 20000 in
theorem c_X1_tearOverpulled (S : St) {n : Nat} (hn : S.2.2.1 0 = nI n) (h40 : n ≤ 40) : CT yX1_tearOverpulled cX1_tearOverpulled 2 none 1 0 0 [.ref 0] (stW 0 S) none (stW 0 (tearO S)) := by
  refine CT_of (L := [(0, .ref 0)]) (by decide) (fun _ => rfl) (fun _ => Nat.le_of_ble_eq_true rfl) ?_
  intro p l e s m args below meth c G h A C hr hlk _
  refine Z_iconst C (v := 0) dX1_tearOverpulled_0 (by decide) ?_
  refine Z_istore_n C (L' := [(1, .int 0), (0, .ref 0)]) dX1_tearOverpulled_1 rfl (by decide) rfl ?_
  refine Zfor (σ := St) (fun i T1 => Z p l e _ s m args below meth c 2 G A h _ 0 0 (stW 0 T1) 2 [(1, .int (nI i)), (0, .ref 0)] []) (fun i T1 => T1.2.2.1 0 = nI n) (tearO1) n (S) hn (fun i T1 hi hT1 => (hk_tearO1 _ _).trans hT1) (fun T1 hT1 eT1 => ?_) (fun i T1 hi hT1 hT1' kk => ?_)
  · refine Z_iload_n C dX1_tearOverpulled_2 rfl rfl ?_
    refine Z_aload_n C dX1_tearOverpulled_3 rfl rfl ?_
    refine Z_get C K1 (v := .int (T1.2.2.1 0)) 9 dX1_tearOverpulled_4 rfl (by decide) g_51 rfl rfl ?_
    refine Z_icmp_ge C 36 dX1_tearOverpulled_7 (by decide) (fun c1 => ?_) (fun c1 => absurd (ge_yes hT1) c1)
    exact Z_vret C hr hlk dX1_tearOverpulled_36 rfl (by rw [show (tearO S) = T1 from by subst eT1; simp only [tearO, nn_eq hn h40]])
  · refine Z_iload_n C dX1_tearOverpulled_2 rfl rfl ?_
    refine Z_aload_n C dX1_tearOverpulled_3 rfl rfl ?_
    refine Z_get C K1 (v := .int (T1.2.2.1 0)) 9 dX1_tearOverpulled_4 rfl (by decide) g_51 rfl rfl ?_
    refine Z_icmp_ge C 36 dX1_tearOverpulled_7 (by decide) (fun c2 => absurd c2 (ge_no hT1 h40 hi)) (fun c2 => ?_)
    refine Z_aload_n C dX1_tearOverpulled_10 rfl rfl ?_
    refine Z_get C K1 (v := .ref 9) 8 dX1_tearOverpulled_11 rfl (by decide) g_50 rfl rfl ?_
    refine Z_iload_n C dX1_tearOverpulled_14 rfl rfl ?_
    refine Z_iaN C (v := T1.1 7 i) dX1_tearOverpulled_15 rfl (by omega) (by decide) rfl ?_
    refine Z_aload_n C dX1_tearOverpulled_16 rfl rfl ?_
    refine Z_get C K1 (v := .ref 2) 1 dX1_tearOverpulled_17 rfl (by decide) g_41 rfl rfl ?_
    refine Z_iload_n C dX1_tearOverpulled_20 rfl rfl ?_
    refine Z_iaN C (v := T1.1 1 i) dX1_tearOverpulled_21 rfl (by omega) (by decide) rfl ?_
    refine Z_icmp_le C 30 dX1_tearOverpulled_22 (by decide) (fun c3 => ?_) (fun c3 => ?_)
    · refine Z_iinc C (L' := [(1, .int (nI (i + 1))), (0, .ref 0)]) (v := nI (i + 1)) dX1_tearOverpulled_30 rfl (nI_inc _) (by decide) rfl ?_
      refine Z_goto C 2 dX1_tearOverpulled_33 (by decide) ?_
      rw [show tearO1 i T1 = T1 from by simp [tearO1, c2, c3]] at kk
      exact Z_sub (by simp [bI_t, bI_f]) kk
    · refine Z_aload_n C dX1_tearOverpulled_25 rfl rfl ?_
      refine Z_iload_n C dX1_tearOverpulled_26 rfl rfl ?_
      refine Z_callV C (ws' := stW 0 (tearF T1 (nI i))) (st' := []) (rest := []) [0, 1, 2, 3, 4, 5, 6, 7, 8, 9] (c_X1_tearHoldsFrom T1 (nI i) hT1 h40) m_X1_tearHoldsFrom K1 g_325 dX1_tearOverpulled_27 rfl rfl rfl (outL 10 rfl rfl rfl) (NW := 10) rfl rfl rfl rfl rfl ⟨Nat.le_of_ble_eq_true rfl, Nat.le_of_ble_eq_true rfl⟩ ⟨Nat.le_of_ble_eq_true rfl, Nat.le_of_ble_eq_true rfl⟩ (Nat.le_of_ble_eq_true rfl) rfl ?_
      refine Z_ws (fun X1 => stW 0 X1) (tearF T1 (nI i)) (fun X1 eX1 => ?_)
      refine Z_iinc C (L' := [(1, .int (nI (i + 1))), (0, .ref 0)]) (v := nI (i + 1)) dX1_tearOverpulled_30 rfl (nI_inc _) (by decide) rfl ?_
      refine Z_goto C 2 dX1_tearOverpulled_33 (by decide) ?_
      rw [show tearO1 i T1 = X1 from by subst eX1; simp [tearO1, c2, c3]] at kk
      exact Z_sub (by simp [bI_t, bI_f]) kk
set_option maxHeartbeats 4000000 in
set_option maxRecDepth 20000 in
theorem c_X1_endOverloaded (S : St) {n : Nat} (hn : S.2.2.1 0 = nI n) (h40 : n ≤ 40) : CT yX1_endOverloaded cX1_endOverloaded 2 none 1 0 0 [.ref 0] (stW 0 S) none (stW 0 (endO S)) := by
  refine CT_of (L := [(0, .ref 0)]) (by decide) (fun _ => rfl) (fun _ => Nat.le_of_ble_eq_true rfl) ?_
  intro p l e s m args below meth c G h A C hr hlk _
  refine Z_iconst C (v := 0) dX1_endOverloaded_0 (by decide) ?_
  refine Z_istore_n C (L' := [(1, .int 0), (0, .ref 0)]) dX1_endOverloaded_1 rfl (by decide) rfl ?_
  refine Zfor (σ := St) (fun i T1 => Z p l e _ s m args below meth c 2 G A h _ 0 0 (stW 0 T1) 2 [(1, .int (nI i)), (0, .ref 0)] []) (fun i T1 => T1.2.2.1 0 = nI n) (endO1) n (S) hn (fun i T1 hi hT1 => (hk_endO1 _ _).trans hT1) (fun T1 hT1 eT1 => ?_) (fun i T1 hi hT1 hT1' kk => ?_)
  · refine Z_iload_n C dX1_endOverloaded_2 rfl rfl ?_
    refine Z_aload_n C dX1_endOverloaded_3 rfl rfl ?_
    refine Z_get C K1 (v := .int (T1.2.2.1 0)) 9 dX1_endOverloaded_4 rfl (by decide) g_51 rfl rfl ?_
    refine Z_icmp_ge C 45 dX1_endOverloaded_7 (by decide) (fun c1 => ?_) (fun c1 => absurd (ge_yes hT1) c1)
    exact Z_vret C hr hlk dX1_endOverloaded_45 rfl (by rw [show (endO S) = T1 from by subst eT1; simp only [endO, nn_eq hn h40]])
  · refine Z_iload_n C dX1_endOverloaded_2 rfl rfl ?_
    refine Z_aload_n C dX1_endOverloaded_3 rfl rfl ?_
    refine Z_get C K1 (v := .int (T1.2.2.1 0)) 9 dX1_endOverloaded_4 rfl (by decide) g_51 rfl rfl ?_
    refine Z_icmp_ge C 45 dX1_endOverloaded_7 (by decide) (fun c2 => absurd c2 (ge_no hT1 h40 hi)) (fun c2 => ?_)
    refine Z_aload_n C dX1_endOverloaded_10 rfl rfl ?_
    refine Z_get C K1 (v := .ref 4) 3 dX1_endOverloaded_11 rfl (by decide) g_43 rfl rfl ?_
    refine Z_iload_n C dX1_endOverloaded_14 rfl rfl ?_
    refine Z_iaN C (v := T1.1 3 i) dX1_endOverloaded_15 rfl (by omega) (by decide) rfl ?_
    refine Z_if_le C 39 dX1_endOverloaded_16 (by decide) (fun c3 => ?_) (fun c3 => ?_)
    · refine Z_iinc C (L' := [(1, .int (nI (i + 1))), (0, .ref 0)]) (v := nI (i + 1)) dX1_endOverloaded_39 rfl (nI_inc _) (by decide) rfl ?_
      refine Z_goto C 2 dX1_endOverloaded_42 (by decide) ?_
      rw [show endO1 i T1 = T1 from by simp [endO1, c2, c3]] at kk
      exact Z_sub (by simp [bI_t, bI_f]) kk
    · refine Z_aload_n C dX1_endOverloaded_19 rfl rfl ?_
      refine Z_get C K1 (v := .ref 4) 3 dX1_endOverloaded_20 rfl (by decide) g_43 rfl rfl ?_
      refine Z_iload_n C dX1_endOverloaded_23 rfl rfl ?_
      refine Z_iaN C (v := T1.1 3 i) dX1_endOverloaded_24 rfl (by omega) (by decide) rfl ?_
      refine Z_aload_n C dX1_endOverloaded_25 rfl rfl ?_
      refine Z_get C K1 (v := .ref 8) 7 dX1_endOverloaded_26 rfl (by decide) g_48 rfl rfl ?_
      refine Z_iload_n C dX1_endOverloaded_29 rfl rfl ?_
      refine Z_iaN C (v := T1.1 6 i) dX1_endOverloaded_30 rfl (by omega) (by decide) rfl ?_
      refine Z_icmp_ge C 39 dX1_endOverloaded_31 (by decide) (fun c4 => ?_) (fun c4 => ?_)
      · refine Z_iinc C (L' := [(1, .int (nI (i + 1))), (0, .ref 0)]) (v := nI (i + 1)) dX1_endOverloaded_39 rfl (nI_inc _) (by decide) rfl ?_
        refine Z_goto C 2 dX1_endOverloaded_42 (by decide) ?_
        rw [show endO1 i T1 = T1 from by simp [endO1, c2, c3, c4]] at kk
        exact Z_sub (by simp [bI_t, bI_f]) kk
      · refine Z_aload_n C dX1_endOverloaded_34 rfl rfl ?_
        refine Z_iload_n C dX1_endOverloaded_35 rfl rfl ?_
        refine Z_callV C (ws' := stW 0 (endSpell T1 (nI i))) (st' := []) (rest := []) [0, 1, 2, 3, 4, 5, 6, 7, 8, 9] (c_X1_endSpell T1 (nI i) hT1 h40) m_X1_endSpell K1 g_317 dX1_endOverloaded_36 rfl rfl rfl (outL 10 rfl rfl rfl) (NW := 10) rfl rfl rfl rfl rfl ⟨Nat.le_of_ble_eq_true rfl, Nat.le_of_ble_eq_true rfl⟩ ⟨Nat.le_of_ble_eq_true rfl, Nat.le_of_ble_eq_true rfl⟩ (Nat.le_of_ble_eq_true rfl) rfl ?_
        refine Z_ws (fun X1 => stW 0 X1) (endSpell T1 (nI i)) (fun X1 eX1 => ?_)
        refine Z_iinc C (L' := [(1, .int (nI (i + 1))), (0, .ref 0)]) (v := nI (i + 1)) dX1_endOverloaded_39 rfl (nI_inc _) (by decide) rfl ?_
        refine Z_goto C 2 dX1_endOverloaded_42 (by decide) ?_
        rw [show endO1 i T1 = X1 from by subst eX1; simp [endO1, c2, c3, c4]] at kk
        exact Z_sub (by simp [bI_t, bI_f]) kk
set_option maxHeartbeats 4000000 in
set_option maxRecDepth 20000 in
theorem c_X1_dropLoose (S : St) {n : Nat} (hn : S.2.2.1 0 = nI n) (h40 : n ≤ 40) : CT yX1_dropLoose cX1_dropLoose 2 none 1 0 0 [.ref 0] (stW 0 S) none (stW 0 (dropL S)) := by
  refine CT_of (L := [(0, .ref 0)]) (by decide) (fun _ => rfl) (fun _ => Nat.le_of_ble_eq_true rfl) ?_
  intro p l e s m args below meth c G h A C hr hlk _
  refine Z_iconst C (v := 0) dX1_dropLoose_0 (by decide) ?_
  refine Z_istore_n C (L' := [(1, .int 0), (0, .ref 0)]) dX1_dropLoose_1 rfl (by decide) rfl ?_
  refine Zfor (σ := St) (fun i T1 => Z p l e _ s m args below meth c 2 G A h _ 0 0 (stW 0 T1) 2 [(1, .int (nI i)), (0, .ref 0)] []) (fun i T1 => T1.2.2.1 0 = nI n) (drop1) n (S) hn (fun i T1 hi hT1 => (hk_drop1 _ _).trans hT1) (fun T1 hT1 eT1 => ?_) (fun i T1 hi hT1 hT1' kk => ?_)
  · refine Z_iload_n C dX1_dropLoose_2 rfl rfl ?_
    refine Z_aload_n C dX1_dropLoose_3 rfl rfl ?_
    refine Z_get C K1 (v := .int (T1.2.2.1 0)) 9 dX1_dropLoose_4 rfl (by decide) g_51 rfl rfl ?_
    refine Z_icmp_ge C 71 dX1_dropLoose_7 (by decide) (fun c1 => ?_) (fun c1 => absurd (ge_yes hT1) c1)
    exact Z_vret C hr hlk dX1_dropLoose_71 rfl (by rw [show (dropL S) = T1 from by subst eT1; simp only [dropL, nn_eq hn h40]])
  · refine Z_iload_n C dX1_dropLoose_2 rfl rfl ?_
    refine Z_aload_n C dX1_dropLoose_3 rfl rfl ?_
    refine Z_get C K1 (v := .int (T1.2.2.1 0)) 9 dX1_dropLoose_4 rfl (by decide) g_51 rfl rfl ?_
    refine Z_icmp_ge C 71 dX1_dropLoose_7 (by decide) (fun c2 => absurd c2 (ge_no hT1 h40 hi)) (fun c2 => ?_)
    refine Z_aload_n C dX1_dropLoose_10 rfl rfl ?_
    refine Z_get C K1 (v := .ref 7) 6 dX1_dropLoose_11 rfl (by decide) g_47 rfl rfl ?_
    refine Z_iload_n C dX1_dropLoose_14 rfl rfl ?_
    refine Z_zaN C (v := bI (T1.2.1 i)) dX1_dropLoose_15 rfl (by omega) (by decide) rfl ?_
    refine Z_if_eq C 65 dX1_dropLoose_16 (by decide) (fun c3 => ?_) (fun c3 => ?_)
    · have c3 := bI_0.mp c3
      refine Z_iinc C (L' := [(1, .int (nI (i + 1))), (0, .ref 0)]) (v := nI (i + 1)) dX1_dropLoose_65 rfl (nI_inc _) (by decide) rfl ?_
      refine Z_goto C 2 dX1_dropLoose_68 (by decide) ?_
      rw [show drop1 i T1 = T1 from by simp [drop1, c2, c3]] at kk
      exact Z_sub (by simp [bI_t, bI_f]) kk
    · have c3 := bI_n0.mp c3
      refine Z_aload_n C dX1_dropLoose_19 rfl rfl ?_
      refine Z_get C K1 (v := .ref 4) 3 dX1_dropLoose_20 rfl (by decide) g_43 rfl rfl ?_
      refine Z_iload_n C dX1_dropLoose_23 rfl rfl ?_
      refine Z_iaN C (v := T1.1 3 i) dX1_dropLoose_24 rfl (by omega) (by decide) rfl ?_
      refine Z_if_gt C 65 dX1_dropLoose_25 (by decide) (fun c4 => ?_) (fun c4 => ?_)
      · refine Z_iinc C (L' := [(1, .int (nI (i + 1))), (0, .ref 0)]) (v := nI (i + 1)) dX1_dropLoose_65 rfl (nI_inc _) (by decide) rfl ?_
        refine Z_goto C 2 dX1_dropLoose_68 (by decide) ?_
        rw [show drop1 i T1 = T1 from by simp [drop1, c2, c3, c4]] at kk
        exact Z_sub (by simp [bI_t, bI_f]) kk
      · refine Z_aload_n C dX1_dropLoose_28 rfl rfl ?_
        refine Z_get C K1 (v := .ref 5) 4 dX1_dropLoose_29 rfl (by decide) g_45 rfl rfl ?_
        refine Z_iload_n C dX1_dropLoose_32 rfl rfl ?_
        refine Z_iaN C (v := T1.1 4 i) dX1_dropLoose_33 rfl (by omega) (by decide) rfl ?_
        refine Z_iconst C (v := (-1)) dX1_dropLoose_34 (by decide) ?_
        refine Z_icmp_ne C 65 dX1_dropLoose_35 (by decide) (fun c5 => ?_) (fun c5 => ?_)
        · refine Z_iinc C (L' := [(1, .int (nI (i + 1))), (0, .ref 0)]) (v := nI (i + 1)) dX1_dropLoose_65 rfl (nI_inc _) (by decide) rfl ?_
          refine Z_goto C 2 dX1_dropLoose_68 (by decide) ?_
          rw [show drop1 i T1 = T1 from by simp [drop1, c2, c3, c4, c5]] at kk
          exact Z_sub (by simp [bI_t, bI_f]) kk
        · refine Z_aload_n C dX1_dropLoose_38 rfl rfl ?_
          refine Z_get C K1 (v := .ref 7) 6 dX1_dropLoose_39 rfl (by decide) g_47 rfl rfl ?_
          refine Z_iload_n C dX1_dropLoose_42 rfl rfl ?_
          refine Z_iconst C (v := 0) dX1_dropLoose_43 (by decide) ?_
          refine Z_zsN C (b := false) (ws' := stW 0 (uH T1 i false)) dX1_dropLoose_44 rfl rfl (by omega) (by decide) rfl ?_
          refine Z_aload_n C dX1_dropLoose_45 rfl rfl ?_
          refine Z_dup C dX1_dropLoose_46 rfl ?_
          refine Z_get C K1 (v := .int (T1.2.2.1 1)) 10 dX1_dropLoose_47 rfl (by decide) g_54 rfl rfl ?_
          refine Z_iconst C (v := 1) dX1_dropLoose_50 (by decide) ?_
          refine Z_isub C (v := (T1.2.2.1 1) - 1) dX1_dropLoose_51 rfl ?_
          refine Z_put C K1 (ws' := stW 0 (uI (uH T1 i false) 1 ((T1.2.2.1 1) - 1))) 10 dX1_dropLoose_52 rfl (by decide) g_54 rfl rfl rfl rfl rfl (Nat.le_of_ble_eq_true rfl) rfl ?_
          refine Z_aload_n C dX1_dropLoose_55 rfl rfl ?_
          refine Z_iconst C (v := 1) dX1_dropLoose_56 (by decide) ?_
          refine Z_put C K1 (ws' := stW 0 (uS (uI (uH T1 i false) 1 ((T1.2.2.1 1) - 1)) true)) 12 dX1_dropLoose_57 rfl (by decide) g_57 rfl rfl rfl rfl rfl (Nat.le_of_ble_eq_true rfl) rfl ?_
          refine Z_aload_n C dX1_dropLoose_60 rfl rfl ?_
          refine Z_iload_n C dX1_dropLoose_61 rfl rfl ?_
          refine Z_callV C (ws' := stW 0 (tearF (uS (uI (uH T1 i false) 1 ((T1.2.2.1 1) - 1)) true) (nI i))) (st' := []) (rest := []) [0, 1, 2, 3, 4, 5, 6, 7, 8, 9] (c_X1_tearHoldsFrom (uS (uI (uH T1 i false) 1 ((T1.2.2.1 1) - 1)) true) (nI i) hT1 h40) m_X1_tearHoldsFrom K1 g_325 dX1_dropLoose_62 rfl rfl rfl (outL 10 rfl rfl rfl) (NW := 10) rfl rfl rfl rfl rfl ⟨Nat.le_of_ble_eq_true rfl, Nat.le_of_ble_eq_true rfl⟩ ⟨Nat.le_of_ble_eq_true rfl, Nat.le_of_ble_eq_true rfl⟩ (Nat.le_of_ble_eq_true rfl) rfl ?_
          refine Z_ws (fun X1 => stW 0 X1) (tearF (uS (uI (uH T1 i false) 1 ((T1.2.2.1 1) - 1)) true) (nI i)) (fun X1 eX1 => ?_)
          refine Z_iinc C (L' := [(1, .int (nI (i + 1))), (0, .ref 0)]) (v := nI (i + 1)) dX1_dropLoose_65 rfl (nI_inc _) (by decide) rfl ?_
          refine Z_goto C 2 dX1_dropLoose_68 (by decide) ?_
          rw [show drop1 i T1 = X1 from by subst eX1; simp [drop1, c2, c3, c4, c5]] at kk
          exact Z_sub (by simp [bI_t, bI_f]) kk
