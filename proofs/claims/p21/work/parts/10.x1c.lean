set_option maxHeartbeats 4000000 in
set_option maxRecDepth 20000 in
theorem c_X1_measure (S : St) {n : Nat} (hn : S.2.2.1 0 = nI n) (h40 : n ≤ 40) : CT yX1_measure cX1_measure 2 none 1 0 0 [.ref 0] (stW 0 S) none (stW 0 (measure S)) := by
  refine CT_of (L := [(0, .ref 0)]) (by decide) (fun _ => rfl) (fun _ => Nat.le_of_ble_eq_true rfl) ?_
  intro p l e s m args below meth c G h A C hr hlk _
  refine Z_iconst C (v := 0) dX1_measure_0 (by decide) ?_
  refine Z_istore_n C (L' := [(1, .int 0), (0, .ref 0)]) dX1_measure_1 rfl (by decide) rfl ?_
  refine Zfor (σ := St) (fun i T1 => Z p l e _ s m args below meth c 2 G A h _ 0 0 (stW 0 T1) 2 [(1, .int (nI i)), (0, .ref 0)] []) (fun i T1 => T1.2.2.1 0 = nI n) (meas0) n (S) hn (fun i T1 hi hT1 => hT1) (fun T1 hT1 eT1 => ?_) (fun i T1 hi hT1 hT1' kk => ?_)
  · refine Z_iload_n C dX1_measure_2 rfl rfl ?_
    refine Z_aload_n C dX1_measure_3 rfl rfl ?_
    refine Z_get C K1 (v := .int (T1.2.2.1 0)) 9 dX1_measure_4 rfl (by decide) g_51 rfl rfl ?_
    refine Z_icmp_ge C 23 dX1_measure_7 (by decide) (fun c1 => ?_) (fun c1 => absurd (ge_yes hT1) c1)
    refine Z_aload_n C dX1_measure_23 rfl rfl ?_
    refine Z_get C K1 (v := .int (T1.2.2.1 0)) 9 dX1_measure_24 rfl (by decide) g_51 rfl rfl ?_
    refine Z_iconst C (v := 1) dX1_measure_27 (by decide) ?_
    refine Z_isub C (v := dn n) dX1_measure_28 (by rw [show T1.2.2.1 0 = nI n from hT1]; exact dn_sub n) ?_
    refine Z_istore_n C (L' := [(1, .int (dn n)), (0, .ref 0)]) dX1_measure_29 rfl (by decide) rfl ?_
    refine ZforD (σ := St) (fun i T2 => Z p l e _ s m args below meth c 2 G A h _ 0 0 (stW 0 T2) 30 [(1, .int (dn i)), (0, .ref 0)] []) (fun i T2 => T2.2.2.1 0 = nI n) (meas1) n (T1) hT1 (fun i T2 hi hT2 => (hk_meas1 _ _).trans hT2) (fun T2 hT2 eT2 => ?_) (fun i T2 hi hT2 hT2' kk => ?_)
    · refine Z_iload_n C dX1_measure_30 rfl rfl ?_
      refine Z_if_lt C 150 dX1_measure_31 (by decide) (fun c2 => ?_) (fun c2 => absurd (show dn 0 < 0 from by decide) c2)
      refine Z_aload_n C dX1_measure_150 rfl rfl ?_
      refine Z_iconst C (v := 0) dX1_measure_151 (by decide) ?_
      refine Z_put C K1 (ws' := stW 0 (uS T2 false)) 12 dX1_measure_152 rfl (by decide) g_57 rfl rfl rfl rfl rfl (Nat.le_of_ble_eq_true rfl) rfl ?_
      exact Z_vret C hr hlk dX1_measure_155 rfl (by rw [show (measure S) = (uS T2 false) from by subst eT1 eT2; simp only [measure, nn_eq hn h40]])
    · refine Z_pc (L := [(1, .int (nI i)), (0, .ref 0)]) (by simp [dn]) ?_
      refine Z_iload_n C dX1_measure_30 rfl rfl ?_
      refine Z_if_lt C 150 dX1_measure_31 (by decide) (fun c3 => absurd c3 (show ¬ nI i < 0 from nI_pos (by omega))) (fun c3 => ?_)
      refine Z_aload_n C dX1_measure_34 rfl rfl ?_
      refine Z_get C K1 (v := .ref 8) 7 dX1_measure_35 rfl (by decide) g_48 rfl rfl ?_
      refine Z_iload_n C dX1_measure_38 rfl rfl ?_
      refine Z_aload_n C dX1_measure_39 rfl rfl ?_
      refine Z_get C K1 (v := .ref 7) 6 dX1_measure_40 rfl (by decide) g_47 rfl rfl ?_
      refine Z_iload_n C dX1_measure_43 rfl rfl ?_
      refine Z_zaN C (v := bI (T2.2.1 i)) dX1_measure_44 rfl (by omega) (by decide) rfl ?_
      refine Z_if_eq C 75 dX1_measure_45 (by decide) (fun c4 => ?_) (fun c4 => ?_)
      · have c4 := bI_0.mp c4
        refine Z_iconst C (v := 0) dX1_measure_75 (by decide) ?_
        refine Z_isN C (ws' := stW 0 (uA T2 6 i 0)) dX1_measure_76 rfl (by omega) (by decide) rfl ?_
        refine Z_aload_n C dX1_measure_77 rfl rfl ?_
        refine Z_get C K1 (v := .ref 6) 5 dX1_measure_78 rfl (by decide) g_46 rfl rfl ?_
        refine Z_iload_n C dX1_measure_81 rfl rfl ?_
        refine Z_iaN C (v := T2.1 5 i) dX1_measure_82 rfl (by omega) (by decide) rfl ?_
        refine Z_iconst C (v := (-1)) dX1_measure_83 (by decide) ?_
        refine Z_icmp_ne C 106 dX1_measure_84 (by decide) (fun c5 => ?_) (fun c5 => ?_)
        · refine Z_aload_n C dX1_measure_106 rfl rfl ?_
          refine Z_aload_n C dX1_measure_107 rfl rfl ?_
          refine Z_get C K1 (v := .ref 5) 4 dX1_measure_108 rfl (by decide) g_45 rfl rfl ?_
          refine Z_iload_n C dX1_measure_111 rfl rfl ?_
          refine Z_iaN C (v := T2.1 4 i) dX1_measure_112 rfl (by omega) (by decide) rfl ?_
          refine Z_aload_n C dX1_measure_113 rfl rfl ?_
          refine Z_get C K1 (v := .ref 8) 7 dX1_measure_114 rfl (by decide) g_48 rfl rfl ?_
          refine Z_iload_n C dX1_measure_117 rfl rfl ?_
          refine Z_iaN C (v := (uA T2 6 i 0).1 6 i) dX1_measure_118 rfl (by omega) (by decide) rfl ?_
          refine Z_iconst C (v := 1) dX1_measure_119 (by decide) ?_
          refine Z_iadd C (v := ((uA T2 6 i 0).1 6 i) + 1) dX1_measure_120 rfl ?_
          refine Z_iconst C (v := 2) dX1_measure_121 (by decide) ?_
          refine Z_idiv C (v := (((uA T2 6 i 0).1 6 i) + 1) / 2) dX1_measure_122 (by decide) rfl ?_
          refine Z_callV C (ws' := stW 0 (bear (uA T2 6 i 0) (T2.1 4 i) ((((uA T2 6 i 0).1 6 i) + 1) / 2))) (st' := []) (rest := []) [0, 1, 2, 3, 4, 5, 6, 7, 8, 9] (c_X1_bear (uA T2 6 i 0) (T2.1 4 i) ((((uA T2 6 i 0).1 6 i) + 1) / 2) hT2 h40) m_X1_bear K1 g_340 dX1_measure_123 rfl rfl rfl (outL 10 rfl rfl rfl) (NW := 10) rfl rfl rfl rfl rfl ⟨Nat.le_of_ble_eq_true rfl, Nat.le_of_ble_eq_true rfl⟩ ⟨Nat.le_of_ble_eq_true rfl, Nat.le_of_ble_eq_true rfl⟩ (Nat.le_of_ble_eq_true rfl) rfl ?_
          refine Z_ws (fun X1 => stW 0 X1) (bear (uA T2 6 i 0) (T2.1 4 i) ((((uA T2 6 i 0).1 6 i) + 1) / 2)) (fun X1 eX1 => ?_)
          refine Z_aload_n C dX1_measure_126 rfl rfl ?_
          refine Z_aload_n C dX1_measure_127 rfl rfl ?_
          refine Z_get C K1 (v := .ref 6) 5 dX1_measure_128 rfl (by decide) g_46 rfl rfl ?_
          refine Z_iload_n C dX1_measure_131 rfl rfl ?_
          refine Z_iaN C (v := X1.1 5 i) dX1_measure_132 rfl (by omega) (by decide) rfl ?_
          refine Z_aload_n C dX1_measure_133 rfl rfl ?_
          refine Z_get C K1 (v := .ref 8) 7 dX1_measure_134 rfl (by decide) g_48 rfl rfl ?_
          refine Z_iload_n C dX1_measure_137 rfl rfl ?_
          refine Z_iaN C (v := X1.1 6 i) dX1_measure_138 rfl (by omega) (by decide) rfl ?_
          refine Z_iconst C (v := 2) dX1_measure_139 (by decide) ?_
          refine Z_idiv C (v := (X1.1 6 i) / 2) dX1_measure_140 (by decide) rfl ?_
          refine Z_callV C (ws' := stW 0 (bear X1 (X1.1 5 i) ((X1.1 6 i) / 2))) (st' := []) (rest := []) [0, 1, 2, 3, 4, 5, 6, 7, 8, 9] (c_X1_bear X1 (X1.1 5 i) ((X1.1 6 i) / 2) (show X1.2.2.1 0 = nI _ from by rw [eX1]; exact ((hk_bear (uA T2 6 i 0) (T2.1 4 i) ((((uA T2 6 i 0).1 6 i) + 1) / 2)).trans hT2)) h40) m_X1_bear K1 g_340 dX1_measure_141 rfl rfl rfl (outL 10 rfl rfl rfl) (NW := 10) rfl rfl rfl rfl rfl ⟨Nat.le_of_ble_eq_true rfl, Nat.le_of_ble_eq_true rfl⟩ ⟨Nat.le_of_ble_eq_true rfl, Nat.le_of_ble_eq_true rfl⟩ (Nat.le_of_ble_eq_true rfl) rfl ?_
          refine Z_ws (fun X2 => stW 0 X2) (bear X1 (X1.1 5 i) ((X1.1 6 i) / 2)) (fun X2 eX2 => ?_)
          refine Z_iinc C (L' := [(1, .int (dn i)), (0, .ref 0)]) (v := dn i) dX1_measure_144 rfl (dn_dec _) (by decide) rfl ?_
          refine Z_goto C 30 dX1_measure_147 (by decide) ?_
          rw [show meas1 i T2 = X2 from by subst eT1 eX1 eX2; simp [meas1, measB, measL, upd, c1, c3, c4, c5]] at kk
          exact Z_sub (by simp [bI_t, bI_f]) kk
        · refine Z_aload_n C dX1_measure_87 rfl rfl ?_
          refine Z_aload_n C dX1_measure_88 rfl rfl ?_
          refine Z_get C K1 (v := .ref 5) 4 dX1_measure_89 rfl (by decide) g_45 rfl rfl ?_
          refine Z_iload_n C dX1_measure_92 rfl rfl ?_
          refine Z_iaN C (v := T2.1 4 i) dX1_measure_93 rfl (by omega) (by decide) rfl ?_
          refine Z_aload_n C dX1_measure_94 rfl rfl ?_
          refine Z_get C K1 (v := .ref 8) 7 dX1_measure_95 rfl (by decide) g_48 rfl rfl ?_
          refine Z_iload_n C dX1_measure_98 rfl rfl ?_
          refine Z_iaN C (v := (uA T2 6 i 0).1 6 i) dX1_measure_99 rfl (by omega) (by decide) rfl ?_
          refine Z_callV C (ws' := stW 0 (bear (uA T2 6 i 0) (T2.1 4 i) ((uA T2 6 i 0).1 6 i))) (st' := []) (rest := []) [0, 1, 2, 3, 4, 5, 6, 7, 8, 9] (c_X1_bear (uA T2 6 i 0) (T2.1 4 i) ((uA T2 6 i 0).1 6 i) hT2 h40) m_X1_bear K1 g_340 dX1_measure_100 rfl rfl rfl (outL 10 rfl rfl rfl) (NW := 10) rfl rfl rfl rfl rfl ⟨Nat.le_of_ble_eq_true rfl, Nat.le_of_ble_eq_true rfl⟩ ⟨Nat.le_of_ble_eq_true rfl, Nat.le_of_ble_eq_true rfl⟩ (Nat.le_of_ble_eq_true rfl) rfl ?_
          refine Z_ws (fun X3 => stW 0 X3) (bear (uA T2 6 i 0) (T2.1 4 i) ((uA T2 6 i 0).1 6 i)) (fun X3 eX3 => ?_)
          refine Z_goto C 144 dX1_measure_103 (by decide) ?_
          refine Z_iinc C (L' := [(1, .int (dn i)), (0, .ref 0)]) (v := dn i) dX1_measure_144 rfl (dn_dec _) (by decide) rfl ?_
          refine Z_goto C 30 dX1_measure_147 (by decide) ?_
          rw [show meas1 i T2 = X3 from by subst eT1 eX3; simp [meas1, measB, measL, upd, c1, c3, c4, c5]] at kk
          exact Z_sub (by simp [bI_t, bI_f]) kk
      · have c4 := bI_n0.mp c4
        refine Z_iconst C (v := 0) dX1_measure_48 (by decide) ?_
        refine Z_aload_n C dX1_measure_49 rfl rfl ?_
        refine Z_get C K1 (v := .ref 1) 0 dX1_measure_50 rfl (by decide) g_40 rfl rfl ?_
        refine Z_iload_n C dX1_measure_53 rfl rfl ?_
        refine Z_iaN C (v := T2.1 0 i) dX1_measure_54 rfl (by omega) (by decide) rfl ?_
        refine Z_aload_n C dX1_measure_55 rfl rfl ?_
        refine Z_get C K1 (v := .ref 9) 8 dX1_measure_56 rfl (by decide) g_50 rfl rfl ?_
        refine Z_iload_n C dX1_measure_59 rfl rfl ?_
        refine Z_iaN C (v := T2.1 7 i) dX1_measure_60 rfl (by omega) (by decide) rfl ?_
        refine Z_iadd C (v := (T2.1 0 i) + (T2.1 7 i)) dX1_measure_61 rfl ?_
        refine Z_aload_n C dX1_measure_62 rfl rfl ?_
        refine Z_get C K1 (v := .ref 3) 2 dX1_measure_63 rfl (by decide) g_42 rfl rfl ?_
        refine Z_iload_n C dX1_measure_66 rfl rfl ?_
        refine Z_iaN C (v := T2.1 2 i) dX1_measure_67 rfl (by omega) (by decide) rfl ?_
        refine Z_isub C (v := ((T2.1 0 i) + (T2.1 7 i)) - (T2.1 2 i)) dX1_measure_68 rfl ?_
        refine Z_mmax C (v := mx 0 (((T2.1 0 i) + (T2.1 7 i)) - (T2.1 2 i))) dX1_measure_69 g_337 g_338 g_24 g_339 (Nat.le_of_ble_eq_true rfl) (Nat.le_of_ble_eq_true rfl) ⟨Nat.le_of_ble_eq_true rfl, Nat.le_of_ble_eq_true rfl⟩ rfl ?_
        refine Z_goto C 76 dX1_measure_72 (by decide) ?_
        refine Z_isN C (ws' := stW 0 (uA T2 6 i (mx 0 (((T2.1 0 i) + (T2.1 7 i)) - (T2.1 2 i))))) dX1_measure_76 rfl (by omega) (by decide) rfl ?_
        refine Z_aload_n C dX1_measure_77 rfl rfl ?_
        refine Z_get C K1 (v := .ref 6) 5 dX1_measure_78 rfl (by decide) g_46 rfl rfl ?_
        refine Z_iload_n C dX1_measure_81 rfl rfl ?_
        refine Z_iaN C (v := T2.1 5 i) dX1_measure_82 rfl (by omega) (by decide) rfl ?_
        refine Z_iconst C (v := (-1)) dX1_measure_83 (by decide) ?_
        refine Z_icmp_ne C 106 dX1_measure_84 (by decide) (fun c6 => ?_) (fun c6 => ?_)
        · refine Z_aload_n C dX1_measure_106 rfl rfl ?_
          refine Z_aload_n C dX1_measure_107 rfl rfl ?_
          refine Z_get C K1 (v := .ref 5) 4 dX1_measure_108 rfl (by decide) g_45 rfl rfl ?_
          refine Z_iload_n C dX1_measure_111 rfl rfl ?_
          refine Z_iaN C (v := T2.1 4 i) dX1_measure_112 rfl (by omega) (by decide) rfl ?_
          refine Z_aload_n C dX1_measure_113 rfl rfl ?_
          refine Z_get C K1 (v := .ref 8) 7 dX1_measure_114 rfl (by decide) g_48 rfl rfl ?_
          refine Z_iload_n C dX1_measure_117 rfl rfl ?_
          refine Z_iaN C (v := (uA T2 6 i (mx 0 (((T2.1 0 i) + (T2.1 7 i)) - (T2.1 2 i)))).1 6 i) dX1_measure_118 rfl (by omega) (by decide) rfl ?_
          refine Z_iconst C (v := 1) dX1_measure_119 (by decide) ?_
          refine Z_iadd C (v := ((uA T2 6 i (mx 0 (((T2.1 0 i) + (T2.1 7 i)) - (T2.1 2 i)))).1 6 i) + 1) dX1_measure_120 rfl ?_
          refine Z_iconst C (v := 2) dX1_measure_121 (by decide) ?_
          refine Z_idiv C (v := (((uA T2 6 i (mx 0 (((T2.1 0 i) + (T2.1 7 i)) - (T2.1 2 i)))).1 6 i) + 1) / 2) dX1_measure_122 (by decide) rfl ?_
          refine Z_callV C (ws' := stW 0 (bear (uA T2 6 i (mx 0 (((T2.1 0 i) + (T2.1 7 i)) - (T2.1 2 i)))) (T2.1 4 i) ((((uA T2 6 i (mx 0 (((T2.1 0 i) + (T2.1 7 i)) - (T2.1 2 i)))).1 6 i) + 1) / 2))) (st' := []) (rest := []) [0, 1, 2, 3, 4, 5, 6, 7, 8, 9] (c_X1_bear (uA T2 6 i (mx 0 (((T2.1 0 i) + (T2.1 7 i)) - (T2.1 2 i)))) (T2.1 4 i) ((((uA T2 6 i (mx 0 (((T2.1 0 i) + (T2.1 7 i)) - (T2.1 2 i)))).1 6 i) + 1) / 2) hT2 h40) m_X1_bear K1 g_340 dX1_measure_123 rfl rfl rfl (outL 10 rfl rfl rfl) (NW := 10) rfl rfl rfl rfl rfl ⟨Nat.le_of_ble_eq_true rfl, Nat.le_of_ble_eq_true rfl⟩ ⟨Nat.le_of_ble_eq_true rfl, Nat.le_of_ble_eq_true rfl⟩ (Nat.le_of_ble_eq_true rfl) rfl ?_
          refine Z_ws (fun X4 => stW 0 X4) (bear (uA T2 6 i (mx 0 (((T2.1 0 i) + (T2.1 7 i)) - (T2.1 2 i)))) (T2.1 4 i) ((((uA T2 6 i (mx 0 (((T2.1 0 i) + (T2.1 7 i)) - (T2.1 2 i)))).1 6 i) + 1) / 2)) (fun X4 eX4 => ?_)
          refine Z_aload_n C dX1_measure_126 rfl rfl ?_
          refine Z_aload_n C dX1_measure_127 rfl rfl ?_
          refine Z_get C K1 (v := .ref 6) 5 dX1_measure_128 rfl (by decide) g_46 rfl rfl ?_
          refine Z_iload_n C dX1_measure_131 rfl rfl ?_
          refine Z_iaN C (v := X4.1 5 i) dX1_measure_132 rfl (by omega) (by decide) rfl ?_
          refine Z_aload_n C dX1_measure_133 rfl rfl ?_
          refine Z_get C K1 (v := .ref 8) 7 dX1_measure_134 rfl (by decide) g_48 rfl rfl ?_
          refine Z_iload_n C dX1_measure_137 rfl rfl ?_
          refine Z_iaN C (v := X4.1 6 i) dX1_measure_138 rfl (by omega) (by decide) rfl ?_
          refine Z_iconst C (v := 2) dX1_measure_139 (by decide) ?_
          refine Z_idiv C (v := (X4.1 6 i) / 2) dX1_measure_140 (by decide) rfl ?_
          refine Z_callV C (ws' := stW 0 (bear X4 (X4.1 5 i) ((X4.1 6 i) / 2))) (st' := []) (rest := []) [0, 1, 2, 3, 4, 5, 6, 7, 8, 9] (c_X1_bear X4 (X4.1 5 i) ((X4.1 6 i) / 2) (show X4.2.2.1 0 = nI _ from by rw [eX4]; exact ((hk_bear (uA T2 6 i (mx 0 (((T2.1 0 i) + (T2.1 7 i)) - (T2.1 2 i)))) (T2.1 4 i) ((((uA T2 6 i (mx 0 (((T2.1 0 i) + (T2.1 7 i)) - (T2.1 2 i)))).1 6 i) + 1) / 2)).trans hT2)) h40) m_X1_bear K1 g_340 dX1_measure_141 rfl rfl rfl (outL 10 rfl rfl rfl) (NW := 10) rfl rfl rfl rfl rfl ⟨Nat.le_of_ble_eq_true rfl, Nat.le_of_ble_eq_true rfl⟩ ⟨Nat.le_of_ble_eq_true rfl, Nat.le_of_ble_eq_true rfl⟩ (Nat.le_of_ble_eq_true rfl) rfl ?_
          refine Z_ws (fun X5 => stW 0 X5) (bear X4 (X4.1 5 i) ((X4.1 6 i) / 2)) (fun X5 eX5 => ?_)
          refine Z_iinc C (L' := [(1, .int (dn i)), (0, .ref 0)]) (v := dn i) dX1_measure_144 rfl (dn_dec _) (by decide) rfl ?_
          refine Z_goto C 30 dX1_measure_147 (by decide) ?_
          rw [show meas1 i T2 = X5 from by subst eT1 eX4 eX5; simp [meas1, measB, measL, upd, c1, c3, c4, c6]] at kk
          exact Z_sub (by simp [bI_t, bI_f]) kk
        · refine Z_aload_n C dX1_measure_87 rfl rfl ?_
          refine Z_aload_n C dX1_measure_88 rfl rfl ?_
          refine Z_get C K1 (v := .ref 5) 4 dX1_measure_89 rfl (by decide) g_45 rfl rfl ?_
          refine Z_iload_n C dX1_measure_92 rfl rfl ?_
          refine Z_iaN C (v := T2.1 4 i) dX1_measure_93 rfl (by omega) (by decide) rfl ?_
          refine Z_aload_n C dX1_measure_94 rfl rfl ?_
          refine Z_get C K1 (v := .ref 8) 7 dX1_measure_95 rfl (by decide) g_48 rfl rfl ?_
          refine Z_iload_n C dX1_measure_98 rfl rfl ?_
          refine Z_iaN C (v := (uA T2 6 i (mx 0 (((T2.1 0 i) + (T2.1 7 i)) - (T2.1 2 i)))).1 6 i) dX1_measure_99 rfl (by omega) (by decide) rfl ?_
          refine Z_callV C (ws' := stW 0 (bear (uA T2 6 i (mx 0 (((T2.1 0 i) + (T2.1 7 i)) - (T2.1 2 i)))) (T2.1 4 i) ((uA T2 6 i (mx 0 (((T2.1 0 i) + (T2.1 7 i)) - (T2.1 2 i)))).1 6 i))) (st' := []) (rest := []) [0, 1, 2, 3, 4, 5, 6, 7, 8, 9] (c_X1_bear (uA T2 6 i (mx 0 (((T2.1 0 i) + (T2.1 7 i)) - (T2.1 2 i)))) (T2.1 4 i) ((uA T2 6 i (mx 0 (((T2.1 0 i) + (T2.1 7 i)) - (T2.1 2 i)))).1 6 i) hT2 h40) m_X1_bear K1 g_340 dX1_measure_100 rfl rfl rfl (outL 10 rfl rfl rfl) (NW := 10) rfl rfl rfl rfl rfl ⟨Nat.le_of_ble_eq_true rfl, Nat.le_of_ble_eq_true rfl⟩ ⟨Nat.le_of_ble_eq_true rfl, Nat.le_of_ble_eq_true rfl⟩ (Nat.le_of_ble_eq_true rfl) rfl ?_
          refine Z_ws (fun X6 => stW 0 X6) (bear (uA T2 6 i (mx 0 (((T2.1 0 i) + (T2.1 7 i)) - (T2.1 2 i)))) (T2.1 4 i) ((uA T2 6 i (mx 0 (((T2.1 0 i) + (T2.1 7 i)) - (T2.1 2 i)))).1 6 i)) (fun X6 eX6 => ?_)
          refine Z_goto C 144 dX1_measure_103 (by decide) ?_
          refine Z_iinc C (L' := [(1, .int (dn i)), (0, .ref 0)]) (v := dn i) dX1_measure_144 rfl (dn_dec _) (by decide) rfl ?_
          refine Z_goto C 30 dX1_measure_147 (by decide) ?_
          rw [show meas1 i T2 = X6 from by subst eT1 eX6; simp [meas1, measB, measL, upd, c1, c3, c4, c6]] at kk
          exact Z_sub (by simp [bI_t, bI_f]) kk
  · refine Z_iload_n C dX1_measure_2 rfl rfl ?_
    refine Z_aload_n C dX1_measure_3 rfl rfl ?_
    refine Z_get C K1 (v := .int (T1.2.2.1 0)) 9 dX1_measure_4 rfl (by decide) g_51 rfl rfl ?_
    refine Z_icmp_ge C 23 dX1_measure_7 (by decide) (fun c7 => absurd c7 (ge_no hT1 h40 hi)) (fun c7 => ?_)
    refine Z_aload_n C dX1_measure_10 rfl rfl ?_
    refine Z_get C K1 (v := .ref 9) 8 dX1_measure_11 rfl (by decide) g_50 rfl rfl ?_
    refine Z_iload_n C dX1_measure_14 rfl rfl ?_
    refine Z_iconst C (v := 0) dX1_measure_15 (by decide) ?_
    refine Z_isN C (ws' := stW 0 (uA T1 7 i 0)) dX1_measure_16 rfl (by omega) (by decide) rfl ?_
    refine Z_iinc C (L' := [(1, .int (nI (i + 1))), (0, .ref 0)]) (v := nI (i + 1)) dX1_measure_17 rfl (nI_inc _) (by decide) rfl ?_
    refine Z_goto C 2 dX1_measure_20 (by decide) ?_
    rw [show meas0 i T1 = (uA T1 7 i 0) from by simp [meas0, c7]] at kk
    exact Z_sub (by simp [bI_t, bI_f]) kk
set_option maxHeartbeats 4000000 in
set_option maxRecDepth 20000 in
theorem c_X1_fade (S : St) {n : Nat} (hn : S.2.2.1 0 = nI n) (h40 : n ≤ 40) : CT yX1_fade cX1_fade 2 none 1 0 0 [.ref 0] (stW 0 S) none (stW 0 (fade S)) := by
  refine CT_of (L := [(0, .ref 0)]) (by decide) (fun _ => rfl) (fun _ => Nat.le_of_ble_eq_true rfl) ?_
  intro p l e s m args below meth c G h A C hr hlk _
  refine Z_iconst C (v := 0) dX1_fade_0 (by decide) ?_
  refine Z_istore_n C (L' := [(1, .int 0), (0, .ref 0)]) dX1_fade_1 rfl (by decide) rfl ?_
  refine Zfor (σ := St) (fun i T1 => Z p l e _ s m args below meth c 2 G A h _ 0 0 (stW 0 T1) 2 [(1, .int (nI i)), (0, .ref 0)] []) (fun i T1 => T1.2.2.1 0 = nI n) (fade1) n (S) hn (fun i T1 hi hT1 => (hk_fade1 _ _).trans hT1) (fun T1 hT1 eT1 => ?_) (fun i T1 hi hT1 hT1' kk => ?_)
  · refine Z_iload_n C dX1_fade_2 rfl rfl ?_
    refine Z_aload_n C dX1_fade_3 rfl rfl ?_
    refine Z_get C K1 (v := .int (T1.2.2.1 0)) 9 dX1_fade_4 rfl (by decide) g_51 rfl rfl ?_
    refine Z_icmp_ge C 53 dX1_fade_7 (by decide) (fun c1 => ?_) (fun c1 => absurd (ge_yes hT1) c1)
    exact Z_vret C hr hlk dX1_fade_53 rfl (by rw [show (fade S) = T1 from by subst eT1; simp only [fade, nn_eq hn h40]])
  · refine Z_iload_n C dX1_fade_2 rfl rfl ?_
    refine Z_aload_n C dX1_fade_3 rfl rfl ?_
    refine Z_get C K1 (v := .int (T1.2.2.1 0)) 9 dX1_fade_4 rfl (by decide) g_51 rfl rfl ?_
    refine Z_icmp_ge C 53 dX1_fade_7 (by decide) (fun c2 => absurd c2 (ge_no hT1 h40 hi)) (fun c2 => ?_)
    refine Z_aload_n C dX1_fade_10 rfl rfl ?_
    refine Z_get C K1 (v := .ref 4) 3 dX1_fade_11 rfl (by decide) g_43 rfl rfl ?_
    refine Z_iload_n C dX1_fade_14 rfl rfl ?_
    refine Z_iaN C (v := T1.1 3 i) dX1_fade_15 rfl (by omega) (by decide) rfl ?_
    refine Z_iconst C (v := 2) dX1_fade_16 (by decide) ?_
    refine Z_icmp_le C 33 dX1_fade_17 (by decide) (fun c3 => ?_) (fun c3 => ?_)
    · refine Z_aload_n C dX1_fade_33 rfl rfl ?_
      refine Z_get C K1 (v := .ref 4) 3 dX1_fade_34 rfl (by decide) g_43 rfl rfl ?_
      refine Z_iload_n C dX1_fade_37 rfl rfl ?_
      refine Z_iaN C (v := T1.1 3 i) dX1_fade_38 rfl (by omega) (by decide) rfl ?_
      refine Z_if_le C 47 dX1_fade_39 (by decide) (fun c4 => ?_) (fun c4 => ?_)
      · refine Z_iinc C (L' := [(1, .int (nI (i + 1))), (0, .ref 0)]) (v := nI (i + 1)) dX1_fade_47 rfl (nI_inc _) (by decide) rfl ?_
        refine Z_goto C 2 dX1_fade_50 (by decide) ?_
        rw [show fade1 i T1 = T1 from by simp [fade1, c2, c3, c4]] at kk
        exact Z_sub (by simp [bI_t, bI_f]) kk
      · refine Z_aload_n C dX1_fade_42 rfl rfl ?_
        refine Z_iload_n C dX1_fade_43 rfl rfl ?_
        refine Z_callV C (ws' := stW 0 (endSpell T1 (nI i))) (st' := []) (rest := []) [0, 1, 2, 3, 4, 5, 6, 7, 8, 9] (c_X1_endSpell T1 (nI i) hT1 h40) m_X1_endSpell K1 g_317 dX1_fade_44 rfl rfl rfl (outL 10 rfl rfl rfl) (NW := 10) rfl rfl rfl rfl rfl ⟨Nat.le_of_ble_eq_true rfl, Nat.le_of_ble_eq_true rfl⟩ ⟨Nat.le_of_ble_eq_true rfl, Nat.le_of_ble_eq_true rfl⟩ (Nat.le_of_ble_eq_true rfl) rfl ?_
        refine Z_ws (fun X1 => stW 0 X1) (endSpell T1 (nI i)) (fun X1 eX1 => ?_)
        refine Z_iinc C (L' := [(1, .int (nI (i + 1))), (0, .ref 0)]) (v := nI (i + 1)) dX1_fade_47 rfl (nI_inc _) (by decide) rfl ?_
        refine Z_goto C 2 dX1_fade_50 (by decide) ?_
        rw [show fade1 i T1 = X1 from by subst eX1; simp [fade1, c2, c3, c4]] at kk
        exact Z_sub (by simp [bI_t, bI_f]) kk
    · refine Z_aload_n C dX1_fade_20 rfl rfl ?_
      refine Z_get C K1 (v := .ref 4) 3 dX1_fade_21 rfl (by decide) g_43 rfl rfl ?_
      refine Z_iload_n C dX1_fade_24 rfl rfl ?_
      refine Z_dup2_11 C dX1_fade_25 rfl rfl ?_
      refine Z_iaN C (v := T1.1 3 i) dX1_fade_26 rfl (by omega) (by decide) rfl ?_
      refine Z_iconst C (v := 2) dX1_fade_27 (by decide) ?_
      refine Z_isub C (v := (T1.1 3 i) - 2) dX1_fade_28 rfl ?_
      refine Z_isN C (ws' := stW 0 (uA T1 3 i ((T1.1 3 i) - 2))) dX1_fade_29 rfl (by omega) (by decide) rfl ?_
      refine Z_goto C 47 dX1_fade_30 (by decide) ?_
      refine Z_iinc C (L' := [(1, .int (nI (i + 1))), (0, .ref 0)]) (v := nI (i + 1)) dX1_fade_47 rfl (nI_inc _) (by decide) rfl ?_
      refine Z_goto C 2 dX1_fade_50 (by decide) ?_
      rw [show fade1 i T1 = (uA T1 3 i ((T1.1 3 i) - 2)) from by simp [fade1, c2, c3]] at kk
      exact Z_sub (by simp [bI_t, bI_f]) kk
set_option maxHeartbeats 4000000 in
set_option maxRecDepth 20000 in
theorem c_X1_countHeldBy (S : St) (x : Int32) {n : Nat} (hn : S.2.2.1 0 = nI n) (h40 : n ≤ 40) : CT yX1_countHeldBy cX1_countHeldBy 4 (some .int) 0 0 0 [.ref 0, .int x] (stW 0 S) (some (.int (heldBy S x))) (stW 0 S) := by
  refine CT_of (L := [(0, .ref 0), (1, .int x)]) (by decide) (fun _ => rfl) (fun _ => Nat.le_of_ble_eq_true rfl) ?_
  intro p l e s m args below meth c G h A C hr hlk _
  refine Z_iconst C (v := 0) dX1_countHeldBy_0 (by decide) ?_
  refine Z_istore_n C (L' := [(2, .int 0), (0, .ref 0), (1, .int x)]) dX1_countHeldBy_1 rfl (by decide) rfl ?_
  refine Z_iconst C (v := 0) dX1_countHeldBy_2 (by decide) ?_
  refine Z_istore_n C (L' := [(3, .int 0), (2, .int 0), (0, .ref 0), (1, .int x)]) dX1_countHeldBy_3 rfl (by decide) rfl ?_
  refine Zfor (σ := Int32) (fun i T1 => Z p l e _ s m args below meth c 4 G A h _ 0 0 (stW 0 S) 4 [(3, .int (nI i)), (2, .int T1), (0, .ref 0), (1, .int x)] []) (fun i T1 => True) (held1 S x) n (0) trivial (fun i T1 hi hT1 => trivial) (fun T1 hT1 eT1 => ?_) (fun i T1 hi hT1 hT1' kk => ?_)
  · refine Z_iload_n C dX1_countHeldBy_4 rfl rfl ?_
    refine Z_aload_n C dX1_countHeldBy_5 rfl rfl ?_
    refine Z_get C K1 (v := .int (S.2.2.1 0)) 9 dX1_countHeldBy_6 rfl (by decide) g_51 rfl rfl ?_
    refine Z_icmp_ge C 41 dX1_countHeldBy_9 (by decide) (fun c1 => ?_) (fun c1 => absurd (ge_yes hn) c1)
    refine Z_iload_n C dX1_countHeldBy_41 rfl rfl ?_
    exact Z_iret C hr hlk dX1_countHeldBy_42 (congrArg (fun z => some (Value.int z)) (show (heldBy S x) = T1 from by subst eT1; simp only [heldBy, nn_eq hn h40])) rfl
  · refine Z_iload_n C dX1_countHeldBy_4 rfl rfl ?_
    refine Z_aload_n C dX1_countHeldBy_5 rfl rfl ?_
    refine Z_get C K1 (v := .int (S.2.2.1 0)) 9 dX1_countHeldBy_6 rfl (by decide) g_51 rfl rfl ?_
    refine Z_icmp_ge C 41 dX1_countHeldBy_9 (by decide) (fun c2 => absurd c2 (ge_no hn h40 hi)) (fun c2 => ?_)
    refine Z_aload_n C dX1_countHeldBy_12 rfl rfl ?_
    refine Z_get C K1 (v := .ref 5) 4 dX1_countHeldBy_13 rfl (by decide) g_45 rfl rfl ?_
    refine Z_iload_n C dX1_countHeldBy_16 rfl rfl ?_
    refine Z_iaN C (v := S.1 4 i) dX1_countHeldBy_17 rfl (by omega) (by decide) rfl ?_
    refine Z_iload_n C dX1_countHeldBy_18 rfl rfl ?_
    refine Z_icmp_eq C 32 dX1_countHeldBy_19 (by decide) (fun c3 => ?_) (fun c3 => ?_)
    · refine Z_iinc C (L' := [(2, .int (T1 + 1)), (3, .int (nI i)), (0, .ref 0), (1, .int x)]) (v := T1 + 1) dX1_countHeldBy_32 rfl rfl (by decide) rfl ?_
      refine Z_iinc C (L' := [(3, .int (nI (i + 1))), (2, .int (T1 + 1)), (0, .ref 0), (1, .int x)]) (v := nI (i + 1)) dX1_countHeldBy_35 rfl (nI_inc _) (by decide) rfl ?_
      refine Z_goto C 4 dX1_countHeldBy_38 (by decide) ?_
      rw [show (held1 S x) i T1 = T1 + 1 from by simp [held1, c2, c3]] at kk
      exact Z_sub (by simp [bI_t, bI_f]) kk
    · refine Z_aload_n C dX1_countHeldBy_22 rfl rfl ?_
      refine Z_get C K1 (v := .ref 6) 5 dX1_countHeldBy_23 rfl (by decide) g_46 rfl rfl ?_
      refine Z_iload_n C dX1_countHeldBy_26 rfl rfl ?_
      refine Z_iaN C (v := S.1 5 i) dX1_countHeldBy_27 rfl (by omega) (by decide) rfl ?_
      refine Z_iload_n C dX1_countHeldBy_28 rfl rfl ?_
      refine Z_icmp_ne C 35 dX1_countHeldBy_29 (by decide) (fun c4 => ?_) (fun c4 => ?_)
      · refine Z_iinc C (L' := [(3, .int (nI (i + 1))), (2, .int T1), (0, .ref 0), (1, .int x)]) (v := nI (i + 1)) dX1_countHeldBy_35 rfl (nI_inc _) (by decide) rfl ?_
        refine Z_goto C 4 dX1_countHeldBy_38 (by decide) ?_
        rw [show (held1 S x) i T1 = T1 from by simp [held1, c2, c3, c4]] at kk
        exact Z_sub (by simp [bI_t, bI_f]) kk
      · refine Z_iinc C (L' := [(2, .int (T1 + 1)), (3, .int (nI i)), (0, .ref 0), (1, .int x)]) (v := T1 + 1) dX1_countHeldBy_32 rfl rfl (by decide) rfl ?_
        refine Z_iinc C (L' := [(3, .int (nI (i + 1))), (2, .int (T1 + 1)), (0, .ref 0), (1, .int x)]) (v := nI (i + 1)) dX1_countHeldBy_35 rfl (nI_inc _) (by decide) rfl ?_
        refine Z_goto C 4 dX1_countHeldBy_38 (by decide) ?_
        rw [show (held1 S x) i T1 = T1 + 1 from by simp [held1, c2, c3, c4]] at kk
        exact Z_sub (by simp [bI_t, bI_f]) kk
set_option maxHeartbeats 4000000 in
set_option maxRecDepth 20000 in
theorem c_X1_countSpells (S : St) {n : Nat} (hn : S.2.2.1 0 = nI n) (h40 : n ≤ 40) : CT yX1_countSpells cX1_countSpells 3 (some .int) 0 0 0 [.ref 0] (stW 0 S) (some (.int (cSp S))) (stW 0 S) := by
  refine CT_of (L := [(0, .ref 0)]) (by decide) (fun _ => rfl) (fun _ => Nat.le_of_ble_eq_true rfl) ?_
  intro p l e s m args below meth c G h A C hr hlk _
  refine Z_iconst C (v := 0) dX1_countSpells_0 (by decide) ?_
  refine Z_istore_n C (L' := [(1, .int 0), (0, .ref 0)]) dX1_countSpells_1 rfl (by decide) rfl ?_
  refine Z_iconst C (v := 0) dX1_countSpells_2 (by decide) ?_
  refine Z_istore_n C (L' := [(2, .int 0), (1, .int 0), (0, .ref 0)]) dX1_countSpells_3 rfl (by decide) rfl ?_
  refine Zfor (σ := Int32) (fun i T1 => Z p l e _ s m args below meth c 3 G A h _ 0 0 (stW 0 S) 4 [(2, .int (nI i)), (1, .int T1), (0, .ref 0)] []) (fun i T1 => True) (cSp1 S) n (0) trivial (fun i T1 hi hT1 => trivial) (fun T1 hT1 eT1 => ?_) (fun i T1 hi hT1 hT1' kk => ?_)
  · refine Z_iload_n C dX1_countSpells_4 rfl rfl ?_
    refine Z_aload_n C dX1_countSpells_5 rfl rfl ?_
    refine Z_get C K1 (v := .int (S.2.2.1 0)) 9 dX1_countSpells_6 rfl (by decide) g_51 rfl rfl ?_
    refine Z_icmp_ge C 35 dX1_countSpells_9 (by decide) (fun c1 => ?_) (fun c1 => absurd (ge_yes hn) c1)
    refine Z_iload_n C dX1_countSpells_35 rfl rfl ?_
    exact Z_iret C hr hlk dX1_countSpells_36 (congrArg (fun z => some (Value.int z)) (show (cSp S) = T1 from by subst eT1; simp only [cSp, nn_eq hn h40])) rfl
  · refine Z_iload_n C dX1_countSpells_4 rfl rfl ?_
    refine Z_aload_n C dX1_countSpells_5 rfl rfl ?_
    refine Z_get C K1 (v := .int (S.2.2.1 0)) 9 dX1_countSpells_6 rfl (by decide) g_51 rfl rfl ?_
    refine Z_icmp_ge C 35 dX1_countSpells_9 (by decide) (fun c2 => absurd c2 (ge_no hn h40 hi)) (fun c2 => ?_)
    refine Z_iload_n C dX1_countSpells_12 rfl rfl ?_
    refine Z_aload_n C dX1_countSpells_13 rfl rfl ?_
    refine Z_get C K1 (v := .ref 4) 3 dX1_countSpells_14 rfl (by decide) g_43 rfl rfl ?_
    refine Z_iload_n C dX1_countSpells_17 rfl rfl ?_
    refine Z_iaN C (v := S.1 3 i) dX1_countSpells_18 rfl (by omega) (by decide) rfl ?_
    refine Z_if_le C 26 dX1_countSpells_19 (by decide) (fun c3 => ?_) (fun c3 => ?_)
    · refine Z_iconst C (v := 0) dX1_countSpells_26 (by decide) ?_
      refine Z_iadd C (v := T1 + 0) dX1_countSpells_27 rfl ?_
      refine Z_istore_n C (L' := [(1, .int (T1 + 0)), (2, .int (nI i)), (0, .ref 0)]) dX1_countSpells_28 rfl (by decide) rfl ?_
      refine Z_iinc C (L' := [(2, .int (nI (i + 1))), (1, .int (T1 + 0)), (0, .ref 0)]) (v := nI (i + 1)) dX1_countSpells_29 rfl (nI_inc _) (by decide) rfl ?_
      refine Z_goto C 4 dX1_countSpells_32 (by decide) ?_
      rw [show (cSp1 S) i T1 = T1 + 0 from by simp [cSp1, c2, c3]] at kk
      exact Z_sub (by simp [bI_t, bI_f]) kk
    · refine Z_iconst C (v := 1) dX1_countSpells_22 (by decide) ?_
      refine Z_goto C 27 dX1_countSpells_23 (by decide) ?_
      refine Z_iadd C (v := T1 + 1) dX1_countSpells_27 rfl ?_
      refine Z_istore_n C (L' := [(1, .int (T1 + 1)), (2, .int (nI i)), (0, .ref 0)]) dX1_countSpells_28 rfl (by decide) rfl ?_
      refine Z_iinc C (L' := [(2, .int (nI (i + 1))), (1, .int (T1 + 1)), (0, .ref 0)]) (v := nI (i + 1)) dX1_countSpells_29 rfl (nI_inc _) (by decide) rfl ?_
      refine Z_goto C 4 dX1_countSpells_32 (by decide) ?_
      rw [show (cSp1 S) i T1 = T1 + 1 from by simp [cSp1, c2, c3]] at kk
      exact Z_sub (by simp [bI_t, bI_f]) kk
set_option maxHeartbeats 4000000 in
set_option maxRecDepth 20000 in
theorem c_X1_sumOfPowers (S : St) {n : Nat} (hn : S.2.2.1 0 = nI n) (h40 : n ≤ 40) : CT yX1_sumOfPowers cX1_sumOfPowers 3 (some .int) 0 0 0 [.ref 0] (stW 0 S) (some (.int (sPw S))) (stW 0 S) := by
  refine CT_of (L := [(0, .ref 0)]) (by decide) (fun _ => rfl) (fun _ => Nat.le_of_ble_eq_true rfl) ?_
  intro p l e s m args below meth c G h A C hr hlk _
  refine Z_iconst C (v := 0) dX1_sumOfPowers_0 (by decide) ?_
  refine Z_istore_n C (L' := [(1, .int 0), (0, .ref 0)]) dX1_sumOfPowers_1 rfl (by decide) rfl ?_
  refine Z_iconst C (v := 0) dX1_sumOfPowers_2 (by decide) ?_
  refine Z_istore_n C (L' := [(2, .int 0), (1, .int 0), (0, .ref 0)]) dX1_sumOfPowers_3 rfl (by decide) rfl ?_
  refine Zfor (σ := Int32) (fun i T1 => Z p l e _ s m args below meth c 3 G A h _ 0 0 (stW 0 S) 4 [(2, .int (nI i)), (1, .int T1), (0, .ref 0)] []) (fun i T1 => True) (sPw1 S) n (0) trivial (fun i T1 hi hT1 => trivial) (fun T1 hT1 eT1 => ?_) (fun i T1 hi hT1 hT1' kk => ?_)
  · refine Z_iload_n C dX1_sumOfPowers_4 rfl rfl ?_
    refine Z_aload_n C dX1_sumOfPowers_5 rfl rfl ?_
    refine Z_get C K1 (v := .int (S.2.2.1 0)) 9 dX1_sumOfPowers_6 rfl (by decide) g_51 rfl rfl ?_
    refine Z_icmp_ge C 27 dX1_sumOfPowers_9 (by decide) (fun c1 => ?_) (fun c1 => absurd (ge_yes hn) c1)
    refine Z_iload_n C dX1_sumOfPowers_27 rfl rfl ?_
    exact Z_iret C hr hlk dX1_sumOfPowers_28 (congrArg (fun z => some (Value.int z)) (show (sPw S) = T1 from by subst eT1; simp only [sPw, nn_eq hn h40])) rfl
  · refine Z_iload_n C dX1_sumOfPowers_4 rfl rfl ?_
    refine Z_aload_n C dX1_sumOfPowers_5 rfl rfl ?_
    refine Z_get C K1 (v := .int (S.2.2.1 0)) 9 dX1_sumOfPowers_6 rfl (by decide) g_51 rfl rfl ?_
    refine Z_icmp_ge C 27 dX1_sumOfPowers_9 (by decide) (fun c2 => absurd c2 (ge_no hn h40 hi)) (fun c2 => ?_)
    refine Z_iload_n C dX1_sumOfPowers_12 rfl rfl ?_
    refine Z_aload_n C dX1_sumOfPowers_13 rfl rfl ?_
    refine Z_get C K1 (v := .ref 4) 3 dX1_sumOfPowers_14 rfl (by decide) g_43 rfl rfl ?_
    refine Z_iload_n C dX1_sumOfPowers_17 rfl rfl ?_
    refine Z_iaN C (v := S.1 3 i) dX1_sumOfPowers_18 rfl (by omega) (by decide) rfl ?_
    refine Z_iadd C (v := T1 + (S.1 3 i)) dX1_sumOfPowers_19 rfl ?_
    refine Z_istore_n C (L' := [(1, .int (T1 + (S.1 3 i))), (2, .int (nI i)), (0, .ref 0)]) dX1_sumOfPowers_20 rfl (by decide) rfl ?_
    refine Z_iinc C (L' := [(2, .int (nI (i + 1))), (1, .int (T1 + (S.1 3 i))), (0, .ref 0)]) (v := nI (i + 1)) dX1_sumOfPowers_21 rfl (nI_inc _) (by decide) rfl ?_
    refine Z_goto C 4 dX1_sumOfPowers_24 (by decide) ?_
    rw [show (sPw1 S) i T1 = T1 + (S.1 3 i) from by simp [sPw1, c2]] at kk
    exact Z_sub (by simp [bI_t, bI_f]) kk
set_option maxHeartbeats 4000000 in
set_option maxRecDepth 20000 in
theorem c_X1_sumOfProps (S : St) {n : Nat} (hn : S.2.2.1 0 = nI n) (h40 : n ≤ 40) : CT yX1_sumOfProps cX1_sumOfProps 3 (some .int) 0 0 0 [.ref 0] (stW 0 S) (some (.int (sPr S))) (stW 0 S) := by
  refine CT_of (L := [(0, .ref 0)]) (by decide) (fun _ => rfl) (fun _ => Nat.le_of_ble_eq_true rfl) ?_
  intro p l e s m args below meth c G h A C hr hlk _
  refine Z_iconst C (v := 0) dX1_sumOfProps_0 (by decide) ?_
  refine Z_istore_n C (L' := [(1, .int 0), (0, .ref 0)]) dX1_sumOfProps_1 rfl (by decide) rfl ?_
  refine Z_iconst C (v := 0) dX1_sumOfProps_2 (by decide) ?_
  refine Z_istore_n C (L' := [(2, .int 0), (1, .int 0), (0, .ref 0)]) dX1_sumOfProps_3 rfl (by decide) rfl ?_
  refine Zfor (σ := Int32) (fun i T1 => Z p l e _ s m args below meth c 3 G A h _ 0 0 (stW 0 S) 4 [(2, .int (nI i)), (1, .int T1), (0, .ref 0)] []) (fun i T1 => True) (sPr1 S) n (0) trivial (fun i T1 hi hT1 => trivial) (fun T1 hT1 eT1 => ?_) (fun i T1 hi hT1 hT1' kk => ?_)
  · refine Z_iload_n C dX1_sumOfProps_4 rfl rfl ?_
    refine Z_aload_n C dX1_sumOfProps_5 rfl rfl ?_
    refine Z_get C K1 (v := .int (S.2.2.1 0)) 9 dX1_sumOfProps_6 rfl (by decide) g_51 rfl rfl ?_
    refine Z_icmp_ge C 40 dX1_sumOfProps_9 (by decide) (fun c1 => ?_) (fun c1 => absurd (ge_yes hn) c1)
    refine Z_iload_n C dX1_sumOfProps_40 rfl rfl ?_
    exact Z_iret C hr hlk dX1_sumOfProps_41 (congrArg (fun z => some (Value.int z)) (show (sPr S) = T1 from by subst eT1; simp only [sPr, nn_eq hn h40])) rfl
  · refine Z_iload_n C dX1_sumOfProps_4 rfl rfl ?_
    refine Z_aload_n C dX1_sumOfProps_5 rfl rfl ?_
    refine Z_get C K1 (v := .int (S.2.2.1 0)) 9 dX1_sumOfProps_6 rfl (by decide) g_51 rfl rfl ?_
    refine Z_icmp_ge C 40 dX1_sumOfProps_9 (by decide) (fun c2 => absurd c2 (ge_no hn h40 hi)) (fun c2 => ?_)
    refine Z_iload_n C dX1_sumOfProps_12 rfl rfl ?_
    refine Z_aload_n C dX1_sumOfProps_13 rfl rfl ?_
    refine Z_get C K1 (v := .ref 7) 6 dX1_sumOfProps_14 rfl (by decide) g_47 rfl rfl ?_
    refine Z_iload_n C dX1_sumOfProps_17 rfl rfl ?_
    refine Z_zaN C (v := bI (S.2.1 i)) dX1_sumOfProps_18 rfl (by omega) (by decide) rfl ?_
    refine Z_if_eq C 31 dX1_sumOfProps_19 (by decide) (fun c3 => ?_) (fun c3 => ?_)
    · have c3 := bI_0.mp c3
      refine Z_iconst C (v := 0) dX1_sumOfProps_31 (by decide) ?_
      refine Z_iadd C (v := T1 + 0) dX1_sumOfProps_32 rfl ?_
      refine Z_istore_n C (L' := [(1, .int (T1 + 0)), (2, .int (nI i)), (0, .ref 0)]) dX1_sumOfProps_33 rfl (by decide) rfl ?_
      refine Z_iinc C (L' := [(2, .int (nI (i + 1))), (1, .int (T1 + 0)), (0, .ref 0)]) (v := nI (i + 1)) dX1_sumOfProps_34 rfl (nI_inc _) (by decide) rfl ?_
      refine Z_goto C 4 dX1_sumOfProps_37 (by decide) ?_
      rw [show (sPr1 S) i T1 = T1 + 0 from by simp [sPr1, c2, c3]] at kk
      exact Z_sub (by simp [bI_t, bI_f]) kk
    · have c3 := bI_n0.mp c3
      refine Z_aload_n C dX1_sumOfProps_22 rfl rfl ?_
      refine Z_get C K1 (v := .ref 3) 2 dX1_sumOfProps_23 rfl (by decide) g_42 rfl rfl ?_
      refine Z_iload_n C dX1_sumOfProps_26 rfl rfl ?_
      refine Z_iaN C (v := S.1 2 i) dX1_sumOfProps_27 rfl (by omega) (by decide) rfl ?_
      refine Z_goto C 32 dX1_sumOfProps_28 (by decide) ?_
      refine Z_iadd C (v := T1 + (S.1 2 i)) dX1_sumOfProps_32 rfl ?_
      refine Z_istore_n C (L' := [(1, .int (T1 + (S.1 2 i))), (2, .int (nI i)), (0, .ref 0)]) dX1_sumOfProps_33 rfl (by decide) rfl ?_
      refine Z_iinc C (L' := [(2, .int (nI (i + 1))), (1, .int (T1 + (S.1 2 i))), (0, .ref 0)]) (v := nI (i + 1)) dX1_sumOfProps_34 rfl (nI_inc _) (by decide) rfl ?_
      refine Z_goto C 4 dX1_sumOfProps_37 (by decide) ?_
      rw [show (sPr1 S) i T1 = T1 + (S.1 2 i) from by simp [sPr1, c2, c3]] at kk
      exact Z_sub (by simp [bI_t, bI_f]) kk
set_option maxHeartbeats 4000000 in
set_option maxRecDepth 20000 in
theorem c_X1_sumOfLoads (S : St) {n : Nat} (hn : S.2.2.1 0 = nI n) (h40 : n ≤ 40) : CT yX1_sumOfLoads cX1_sumOfLoads 3 (some .int) 0 0 0 [.ref 0] (stW 0 S) (some (.int (sLd S))) (stW 0 S) := by
  refine CT_of (L := [(0, .ref 0)]) (by decide) (fun _ => rfl) (fun _ => Nat.le_of_ble_eq_true rfl) ?_
  intro p l e s m args below meth c G h A C hr hlk _
  refine Z_iconst C (v := 0) dX1_sumOfLoads_0 (by decide) ?_
  refine Z_istore_n C (L' := [(1, .int 0), (0, .ref 0)]) dX1_sumOfLoads_1 rfl (by decide) rfl ?_
  refine Z_iconst C (v := 0) dX1_sumOfLoads_2 (by decide) ?_
  refine Z_istore_n C (L' := [(2, .int 0), (1, .int 0), (0, .ref 0)]) dX1_sumOfLoads_3 rfl (by decide) rfl ?_
  refine Zfor (σ := Int32) (fun i T1 => Z p l e _ s m args below meth c 3 G A h _ 0 0 (stW 0 S) 4 [(2, .int (nI i)), (1, .int T1), (0, .ref 0)] []) (fun i T1 => True) (sLd1 S) n (0) trivial (fun i T1 hi hT1 => trivial) (fun T1 hT1 eT1 => ?_) (fun i T1 hi hT1 hT1' kk => ?_)
  · refine Z_iload_n C dX1_sumOfLoads_4 rfl rfl ?_
    refine Z_aload_n C dX1_sumOfLoads_5 rfl rfl ?_
    refine Z_get C K1 (v := .int (S.2.2.1 0)) 9 dX1_sumOfLoads_6 rfl (by decide) g_51 rfl rfl ?_
    refine Z_icmp_ge C 27 dX1_sumOfLoads_9 (by decide) (fun c1 => ?_) (fun c1 => absurd (ge_yes hn) c1)
    refine Z_iload_n C dX1_sumOfLoads_27 rfl rfl ?_
    exact Z_iret C hr hlk dX1_sumOfLoads_28 (congrArg (fun z => some (Value.int z)) (show (sLd S) = T1 from by subst eT1; simp only [sLd, nn_eq hn h40])) rfl
  · refine Z_iload_n C dX1_sumOfLoads_4 rfl rfl ?_
    refine Z_aload_n C dX1_sumOfLoads_5 rfl rfl ?_
    refine Z_get C K1 (v := .int (S.2.2.1 0)) 9 dX1_sumOfLoads_6 rfl (by decide) g_51 rfl rfl ?_
    refine Z_icmp_ge C 27 dX1_sumOfLoads_9 (by decide) (fun c2 => absurd c2 (ge_no hn h40 hi)) (fun c2 => ?_)
    refine Z_iload_n C dX1_sumOfLoads_12 rfl rfl ?_
    refine Z_aload_n C dX1_sumOfLoads_13 rfl rfl ?_
    refine Z_get C K1 (v := .ref 8) 7 dX1_sumOfLoads_14 rfl (by decide) g_48 rfl rfl ?_
    refine Z_iload_n C dX1_sumOfLoads_17 rfl rfl ?_
    refine Z_iaN C (v := S.1 6 i) dX1_sumOfLoads_18 rfl (by omega) (by decide) rfl ?_
    refine Z_iadd C (v := T1 + (S.1 6 i)) dX1_sumOfLoads_19 rfl ?_
    refine Z_istore_n C (L' := [(1, .int (T1 + (S.1 6 i))), (2, .int (nI i)), (0, .ref 0)]) dX1_sumOfLoads_20 rfl (by decide) rfl ?_
    refine Z_iinc C (L' := [(2, .int (nI (i + 1))), (1, .int (T1 + (S.1 6 i))), (0, .ref 0)]) (v := nI (i + 1)) dX1_sumOfLoads_21 rfl (nI_inc _) (by decide) rfl ?_
    refine Z_goto C 4 dX1_sumOfLoads_24 (by decide) ?_
    rw [show (sLd1 S) i T1 = T1 + (S.1 6 i) from by simp [sLd1, c2]] at kk
    exact Z_sub (by simp [bI_t, bI_f]) kk
set_option maxHeartbeats 4000000 in
set_option maxRecDepth 20000 in
theorem c_X1_sumOfSpelledLoads (S : St) {n : Nat} (hn : S.2.2.1 0 = nI n) (h40 : n ≤ 40) : CT yX1_sumOfSpelledLoads cX1_sumOfSpelledLoads 3 (some .int) 0 0 0 [.ref 0] (stW 0 S) (some (.int (sSl S))) (stW 0 S) := by
  refine CT_of (L := [(0, .ref 0)]) (by decide) (fun _ => rfl) (fun _ => Nat.le_of_ble_eq_true rfl) ?_
  intro p l e s m args below meth c G h A C hr hlk _
  refine Z_iconst C (v := 0) dX1_sumOfSpelledLoads_0 (by decide) ?_
  refine Z_istore_n C (L' := [(1, .int 0), (0, .ref 0)]) dX1_sumOfSpelledLoads_1 rfl (by decide) rfl ?_
  refine Z_iconst C (v := 0) dX1_sumOfSpelledLoads_2 (by decide) ?_
  refine Z_istore_n C (L' := [(2, .int 0), (1, .int 0), (0, .ref 0)]) dX1_sumOfSpelledLoads_3 rfl (by decide) rfl ?_
  refine Zfor (σ := Int32) (fun i T1 => Z p l e _ s m args below meth c 3 G A h _ 0 0 (stW 0 S) 4 [(2, .int (nI i)), (1, .int T1), (0, .ref 0)] []) (fun i T1 => True) (sSl1 S) n (0) trivial (fun i T1 hi hT1 => trivial) (fun T1 hT1 eT1 => ?_) (fun i T1 hi hT1 hT1' kk => ?_)
  · refine Z_iload_n C dX1_sumOfSpelledLoads_4 rfl rfl ?_
    refine Z_aload_n C dX1_sumOfSpelledLoads_5 rfl rfl ?_
    refine Z_get C K1 (v := .int (S.2.2.1 0)) 9 dX1_sumOfSpelledLoads_6 rfl (by decide) g_51 rfl rfl ?_
    refine Z_icmp_ge C 40 dX1_sumOfSpelledLoads_9 (by decide) (fun c1 => ?_) (fun c1 => absurd (ge_yes hn) c1)
    refine Z_iload_n C dX1_sumOfSpelledLoads_40 rfl rfl ?_
    exact Z_iret C hr hlk dX1_sumOfSpelledLoads_41 (congrArg (fun z => some (Value.int z)) (show (sSl S) = T1 from by subst eT1; simp only [sSl, nn_eq hn h40])) rfl
  · refine Z_iload_n C dX1_sumOfSpelledLoads_4 rfl rfl ?_
    refine Z_aload_n C dX1_sumOfSpelledLoads_5 rfl rfl ?_
    refine Z_get C K1 (v := .int (S.2.2.1 0)) 9 dX1_sumOfSpelledLoads_6 rfl (by decide) g_51 rfl rfl ?_
    refine Z_icmp_ge C 40 dX1_sumOfSpelledLoads_9 (by decide) (fun c2 => absurd c2 (ge_no hn h40 hi)) (fun c2 => ?_)
    refine Z_iload_n C dX1_sumOfSpelledLoads_12 rfl rfl ?_
    refine Z_aload_n C dX1_sumOfSpelledLoads_13 rfl rfl ?_
    refine Z_get C K1 (v := .ref 4) 3 dX1_sumOfSpelledLoads_14 rfl (by decide) g_43 rfl rfl ?_
    refine Z_iload_n C dX1_sumOfSpelledLoads_17 rfl rfl ?_
    refine Z_iaN C (v := S.1 3 i) dX1_sumOfSpelledLoads_18 rfl (by omega) (by decide) rfl ?_
    refine Z_if_le C 31 dX1_sumOfSpelledLoads_19 (by decide) (fun c3 => ?_) (fun c3 => ?_)
    · refine Z_iconst C (v := 0) dX1_sumOfSpelledLoads_31 (by decide) ?_
      refine Z_iadd C (v := T1 + 0) dX1_sumOfSpelledLoads_32 rfl ?_
      refine Z_istore_n C (L' := [(1, .int (T1 + 0)), (2, .int (nI i)), (0, .ref 0)]) dX1_sumOfSpelledLoads_33 rfl (by decide) rfl ?_
      refine Z_iinc C (L' := [(2, .int (nI (i + 1))), (1, .int (T1 + 0)), (0, .ref 0)]) (v := nI (i + 1)) dX1_sumOfSpelledLoads_34 rfl (nI_inc _) (by decide) rfl ?_
      refine Z_goto C 4 dX1_sumOfSpelledLoads_37 (by decide) ?_
      rw [show (sSl1 S) i T1 = T1 + 0 from by simp [sSl1, c2, c3]] at kk
      exact Z_sub (by simp [bI_t, bI_f]) kk
    · refine Z_aload_n C dX1_sumOfSpelledLoads_22 rfl rfl ?_
      refine Z_get C K1 (v := .ref 8) 7 dX1_sumOfSpelledLoads_23 rfl (by decide) g_48 rfl rfl ?_
      refine Z_iload_n C dX1_sumOfSpelledLoads_26 rfl rfl ?_
      refine Z_iaN C (v := S.1 6 i) dX1_sumOfSpelledLoads_27 rfl (by omega) (by decide) rfl ?_
      refine Z_goto C 32 dX1_sumOfSpelledLoads_28 (by decide) ?_
      refine Z_iadd C (v := T1 + (S.1 6 i)) dX1_sumOfSpelledLoads_32 rfl ?_
      refine Z_istore_n C (L' := [(1, .int (T1 + (S.1 6 i))), (2, .int (nI i)), (0, .ref 0)]) dX1_sumOfSpelledLoads_33 rfl (by decide) rfl ?_
      refine Z_iinc C (L' := [(2, .int (nI (i + 1))), (1, .int (T1 + (S.1 6 i))), (0, .ref 0)]) (v := nI (i + 1)) dX1_sumOfSpelledLoads_34 rfl (nI_inc _) (by decide) rfl ?_
      refine Z_goto C 4 dX1_sumOfSpelledLoads_37 (by decide) ?_
      rw [show (sSl1 S) i T1 = T1 + (S.1 6 i) from by simp [sSl1, c2, c3]] at kk
      exact Z_sub (by simp [bI_t, bI_f]) kk
set_option maxHeartbeats 4000000 in
set_option maxRecDepth 20000 in
theorem c_X1_addByHolds (S : St) (w : Int32) (t : Int32) (f : Int32) (o : Int32) {n : Nat} (hn : S.2.2.1 0 = nI n) (hl : n < 40) : CT yX1_addByHolds cX1_addByHolds 6 (some .int) 1 0 0 [.ref 0, .int w, .int t, .int f, .int o] (stW 0 S) (some (.int (nI n))) (stW 0 (addH S n w t f o)) := by
  refine CT_of (L := [(0, .ref 0), (1, .int w), (2, .int t), (3, .int f), (4, .int o)]) (by decide) (fun _ => rfl) (fun _ => Nat.le_of_ble_eq_true rfl) ?_
  intro p l e s m args below meth c G h A C hr hlk _
  refine Z_aload_n C dX1_addByHolds_0 rfl rfl ?_
  refine Z_callV C (ws' := stW 0 S) (st' := [.int (bI (isFullB S))]) (rest := []) [0, 1, 2, 3, 4, 5, 6, 7, 8, 9] (c_X1_isFull S) m_X1_isFull K1 g_509 dX1_addByHolds_1 rfl rfl rfl (outR _ _ _) (NW := 10) rfl rfl rfl rfl rfl ⟨Nat.le_of_ble_eq_true rfl, Nat.le_of_ble_eq_true rfl⟩ ⟨Nat.le_of_ble_eq_true rfl, Nat.le_of_ble_eq_true rfl⟩ (Nat.le_of_ble_eq_true rfl) rfl ?_
  refine Z_if_eq C 9 dX1_addByHolds_4 (by decide) (fun c1 => ?_) (fun c1 => absurd (bI_0.mpr (full_no hn hl)) c1)
  refine Z_aload_n C dX1_addByHolds_9 rfl rfl ?_
  refine Z_get C K1 (v := .int (nI n)) 9 dX1_addByHolds_10 rfl (by decide) g_51 rfl (congrArg (fun z => some (Value.int z)) hn) ?_
  refine Z_istore C (L' := [(5, .int (nI n)), (0, .ref 0), (1, .int w), (2, .int t), (3, .int f), (4, .int o)]) dX1_addByHolds_13 (by decide) rfl ?_
  refine Z_aload_n C dX1_addByHolds_15 rfl rfl ?_
  refine Z_get C K1 (v := .ref 1) 0 dX1_addByHolds_16 rfl (by decide) g_40 rfl rfl ?_
  refine Z_iload C dX1_addByHolds_19 rfl ?_
  refine Z_iload_n C dX1_addByHolds_21 rfl rfl ?_
  refine Z_isN C (ws' := stW 0 (uA S 0 n w)) dX1_addByHolds_22 rfl (by omega) (by decide) rfl ?_
  refine Z_aload_n C dX1_addByHolds_23 rfl rfl ?_
  refine Z_get C K1 (v := .ref 2) 1 dX1_addByHolds_24 rfl (by decide) g_41 rfl rfl ?_
  refine Z_iload C dX1_addByHolds_27 rfl ?_
  refine Z_iload_n C dX1_addByHolds_29 rfl rfl ?_
  refine Z_isN C (ws' := stW 0 (uA (uA S 0 n w) 1 n t)) dX1_addByHolds_30 rfl (by omega) (by decide) rfl ?_
  refine Z_aload_n C dX1_addByHolds_31 rfl rfl ?_
  refine Z_get C K1 (v := .ref 5) 4 dX1_addByHolds_32 rfl (by decide) g_45 rfl rfl ?_
  refine Z_iload C dX1_addByHolds_35 rfl ?_
  refine Z_iload_n C dX1_addByHolds_37 rfl rfl ?_
  refine Z_isN C (ws' := stW 0 (uA (uA (uA S 0 n w) 1 n t) 4 n f)) dX1_addByHolds_38 rfl (by omega) (by decide) rfl ?_
  refine Z_aload_n C dX1_addByHolds_39 rfl rfl ?_
  refine Z_get C K1 (v := .ref 6) 5 dX1_addByHolds_40 rfl (by decide) g_46 rfl rfl ?_
  refine Z_iload C dX1_addByHolds_43 rfl ?_
  refine Z_iload C dX1_addByHolds_45 rfl ?_
  refine Z_isN C (ws' := stW 0 (uA (uA (uA (uA S 0 n w) 1 n t) 4 n f) 5 n o)) dX1_addByHolds_47 rfl (by omega) (by decide) rfl ?_
  refine Z_aload_n C dX1_addByHolds_48 rfl rfl ?_
  refine Z_get C K1 (v := .ref 7) 6 dX1_addByHolds_49 rfl (by decide) g_47 rfl rfl ?_
  refine Z_iload C dX1_addByHolds_52 rfl ?_
  refine Z_iconst C (v := 1) dX1_addByHolds_54 (by decide) ?_
  refine Z_zsN C (b := true) (ws' := stW 0 (uH (uA (uA (uA (uA S 0 n w) 1 n t) 4 n f) 5 n o) n true)) dX1_addByHolds_55 rfl rfl (by omega) (by decide) rfl ?_
  refine Z_aload_n C dX1_addByHolds_56 rfl rfl ?_
  refine Z_dup C dX1_addByHolds_57 rfl ?_
  refine Z_get C K1 (v := .int (nI n)) 9 dX1_addByHolds_58 rfl (by decide) g_51 rfl (congrArg (fun z => some (Value.int z)) hn) ?_
  refine Z_iconst C (v := 1) dX1_addByHolds_61 (by decide) ?_
  refine Z_iadd C (v := nI n + 1) dX1_addByHolds_62 rfl ?_
  refine Z_put C K1 (ws' := stW 0 (uI (uH (uA (uA (uA (uA S 0 n w) 1 n t) 4 n f) 5 n o) n true) 0 (nI n + 1))) 9 dX1_addByHolds_63 rfl (by decide) g_51 rfl rfl rfl rfl rfl (Nat.le_of_ble_eq_true rfl) rfl ?_
  refine Z_aload_n C dX1_addByHolds_66 rfl rfl ?_
  refine Z_dup C dX1_addByHolds_67 rfl ?_
  refine Z_get C K1 (v := .int (S.2.2.1 1)) 10 dX1_addByHolds_68 rfl (by decide) g_54 rfl rfl ?_
  refine Z_iconst C (v := 1) dX1_addByHolds_71 (by decide) ?_
  refine Z_iadd C (v := (S.2.2.1 1) + 1) dX1_addByHolds_72 rfl ?_
  refine Z_put C K1 (ws' := stW 0 (uI (uI (uH (uA (uA (uA (uA S 0 n w) 1 n t) 4 n f) 5 n o) n true) 0 (nI n + 1)) 1 ((S.2.2.1 1) + 1))) 10 dX1_addByHolds_73 rfl (by decide) g_54 rfl rfl rfl rfl rfl (Nat.le_of_ble_eq_true rfl) rfl ?_
  refine Z_aload_n C dX1_addByHolds_76 rfl rfl ?_
  refine Z_iconst C (v := 1) dX1_addByHolds_77 (by decide) ?_
  refine Z_put C K1 (ws' := stW 0 (uS (uI (uI (uH (uA (uA (uA (uA S 0 n w) 1 n t) 4 n f) 5 n o) n true) 0 (nI n + 1)) 1 ((S.2.2.1 1) + 1)) true)) 12 dX1_addByHolds_78 rfl (by decide) g_57 rfl rfl rfl rfl rfl (Nat.le_of_ble_eq_true rfl) rfl ?_
  refine Z_iload C dX1_addByHolds_81 rfl ?_
  exact Z_iret C hr hlk dX1_addByHolds_83 rfl (by rw [show (addH S n w t f o) = (uS (uI (uI (uH (uA (uA (uA (uA S 0 n w) 1 n t) 4 n f) 5 n o) n true) 0 (nI n + 1)) 1 ((S.2.2.1 1) + 1)) true) from by simp [addH, c1]])
set_option maxHeartbeats 4000000 in
set_option maxRecDepth 20000 in
theorem c_X1_addBySpell (S : St) (w : Int32) (t : Int32) (q : Int32) {n : Nat} (hn : S.2.2.1 0 = nI n) (hl : n < 40) : CT yX1_addBySpell cX1_addBySpell 5 (some .int) 2 0 0 [.ref 0, .int w, .int t, .int q] (stW 0 S) (some (.int (nI n))) (stW 0 (addP S n w t q)) := by
  refine CT_of (L := [(0, .ref 0), (1, .int w), (2, .int t), (3, .int q)]) (by decide) (fun _ => rfl) (fun _ => Nat.le_of_ble_eq_true rfl) ?_
  intro p l e s m args below meth c G h A C hr hlk _
  refine Z_aload_n C dX1_addBySpell_0 rfl rfl ?_
  refine Z_iload_n C dX1_addBySpell_1 rfl rfl ?_
  refine Z_iload_n C dX1_addBySpell_2 rfl rfl ?_
  refine Z_iconst C (v := (-1)) dX1_addBySpell_3 (by decide) ?_
  refine Z_iconst C (v := (-1)) dX1_addBySpell_4 (by decide) ?_
  refine Z_callV C (ws' := stW 0 (addH S n w t (-1) (-1))) (st' := [.int (nI n)]) (rest := []) [0, 1, 2, 3, 4, 5, 6, 7, 8, 9] (c_X1_addByHolds S w t (-1) (-1) hn hl) m_X1_addByHolds K1 g_505 dX1_addBySpell_5 rfl rfl rfl (outL 10 rfl rfl rfl) (NW := 10) rfl rfl rfl rfl rfl ⟨Nat.le_of_ble_eq_true rfl, Nat.le_of_ble_eq_true rfl⟩ ⟨Nat.le_of_ble_eq_true rfl, Nat.le_of_ble_eq_true rfl⟩ (Nat.le_of_ble_eq_true rfl) rfl ?_
  refine Z_ws (fun X1 => stW 0 X1) (addH S n w t (-1) (-1)) (fun X1 eX1 => ?_)
  refine Z_istore C (L' := [(4, .int (nI n)), (0, .ref 0), (1, .int w), (2, .int t), (3, .int q)]) dX1_addBySpell_8 (by decide) rfl ?_
  refine Z_aload_n C dX1_addBySpell_10 rfl rfl ?_
  refine Z_iload C dX1_addBySpell_11 rfl ?_
  refine Z_callV C (ws' := stW 0 X1) (st' := [.int (bI (hasB X1 (nI n)))]) (rest := []) [0, 1, 2, 3, 4, 5, 6, 7, 8, 9] (c_X1_has X1 (nI n)) m_X1_has K1 g_208 dX1_addBySpell_13 rfl rfl rfl (outR _ _ _) (NW := 10) rfl rfl rfl rfl rfl ⟨Nat.le_of_ble_eq_true rfl, Nat.le_of_ble_eq_true rfl⟩ ⟨Nat.le_of_ble_eq_true rfl, Nat.le_of_ble_eq_true rfl⟩ (Nat.le_of_ble_eq_true rfl) rfl ?_
  refine Z_if_eq C 27 dX1_addBySpell_16 (by decide) (fun c1 => absurd c1 (bI_n0.mpr (has_nI (n := n + 1) (show X1.2.2.1 0 = nI (n + 1) from by rw [eX1]; exact nI_1 n) (by omega) (by omega)))) (fun c1 => ?_)
  refine Z_aload_n C dX1_addBySpell_19 rfl rfl ?_
  refine Z_get C K1 (v := .ref 4) 3 dX1_addBySpell_20 rfl (by decide) g_43 rfl rfl ?_
  refine Z_iload C dX1_addBySpell_23 rfl ?_
  refine Z_iload_n C dX1_addBySpell_25 rfl rfl ?_
  refine Z_isN C (ws' := stW 0 (uA X1 3 n q)) dX1_addBySpell_26 rfl (by omega) (by decide) rfl ?_
  refine Z_iload C dX1_addBySpell_27 rfl ?_
  exact Z_iret C hr hlk dX1_addBySpell_29 rfl (by rw [show (addP S n w t q) = (uA X1 3 n q) from by subst eX1; simp [addP, c1]])
set_option maxHeartbeats 4000000 in
set_option maxRecDepth 20000 in
theorem c_X1_setProp (S : St) (x : Int32) (q : Int32) {n : Nat} (hn : S.2.2.1 0 = nI n) (h40 : n ≤ 40) : CT yX1_setProp cX1_setProp 3 none 1 0 0 [.ref 0, .int x, .int q] (stW 0 S) none (stW 0 (setProp S x q)) := by
  refine CT_of (L := [(0, .ref 0), (1, .int x), (2, .int q)]) (by decide) (fun _ => rfl) (fun _ => Nat.le_of_ble_eq_true rfl) ?_
  intro p l e s m args below meth c G h A C hr hlk _
  refine Z_aload_n C dX1_setProp_0 rfl rfl ?_
  refine Z_iload_n C dX1_setProp_1 rfl rfl ?_
  refine Z_callV C (ws' := stW 0 S) (st' := [.int (bI (hasB S x))]) (rest := []) [0, 1, 2, 3, 4, 5, 6, 7, 8, 9] (c_X1_has S x) m_X1_has K1 g_208 dX1_setProp_2 rfl rfl rfl (outR _ _ _) (NW := 10) rfl rfl rfl rfl rfl ⟨Nat.le_of_ble_eq_true rfl, Nat.le_of_ble_eq_true rfl⟩ ⟨Nat.le_of_ble_eq_true rfl, Nat.le_of_ble_eq_true rfl⟩ (Nat.le_of_ble_eq_true rfl) rfl ?_
  refine Z_if_eq C 20 dX1_setProp_5 (by decide) (fun c1 => ?_) (fun c1 => ?_)
  · have c1 := bI_0.mp c1
    exact Z_vret C hr hlk dX1_setProp_20 rfl (by rw [show (setProp S x q) = S from by simp [setProp, c1]])
  · have c1 := bI_n0.mp c1
    obtain ⟨j, hj, rfl⟩ := has_ix hn h40 c1
    have ej : ix (nI j) = j := ix_nI (by omega)
    refine Z_aload_n C dX1_setProp_8 rfl rfl ?_
    refine Z_get C K1 (v := .ref 3) 2 dX1_setProp_9 rfl (by decide) g_42 rfl rfl ?_
    refine Z_iload_n C dX1_setProp_12 rfl rfl ?_
    refine Z_iload_n C dX1_setProp_13 rfl rfl ?_
    refine Z_isN C (ws' := stW 0 (uA S 2 j q)) dX1_setProp_14 rfl (by omega) (by decide) rfl ?_
    refine Z_aload_n C dX1_setProp_15 rfl rfl ?_
    refine Z_iconst C (v := 1) dX1_setProp_16 (by decide) ?_
    refine Z_put C K1 (ws' := stW 0 (uS (uA S 2 j q) true)) 12 dX1_setProp_17 rfl (by decide) g_57 rfl rfl rfl rfl rfl (Nat.le_of_ble_eq_true rfl) rfl ?_
    exact Z_vret C hr hlk dX1_setProp_20 rfl (by rw [show (setProp S (nI j) q) = (uS (uA S 2 j q) true) from by simp [setProp, c1, ej]])
set_option maxHeartbeats 4000000 in
set_option maxRecDepth 20000 in
theorem c_X1_copyFrom (S : St) (O : St) {n : Nat} (hO : O.2.2.1 0 = nI n) (h40 : n ≤ 40) : CT yX1_copyFrom cX1_copyFrom 3 none 0 0 0 [.ref 0, .ref 10] (stW 0 S ++ stW 10 O) none (stW 0 (copyF S O) ++ stW 10 O) := by
  refine CT_of (L := [(0, .ref 0), (1, .ref 10)]) (by decide) (fun _ => rfl) (fun _ => Nat.le_of_ble_eq_true rfl) ?_
  intro p l e s m args below meth c G h A C hr hlk _
  refine Z_iconst C (v := 0) dX1_copyFrom_0 (by decide) ?_
  refine Z_istore_n C (L' := [(2, .int 0), (0, .ref 0), (1, .ref 10)]) dX1_copyFrom_1 rfl (by decide) rfl ?_
  refine Zfor (σ := St) (fun i T1 => Z p l e _ s m args below meth c 3 G A h _ 0 0 (stW 0 T1 ++ stW 10 O) 2 [(2, .int (nI i)), (0, .ref 0), (1, .ref 10)] []) (fun i T1 => True) (cp1 O) n (S) trivial (fun i T1 hi hT1 => trivial) (fun T1 hT1 eT1 => ?_) (fun i T1 hi hT1 hT1' kk => ?_)
  · refine Z_iload_n C dX1_copyFrom_2 rfl rfl ?_
    refine Z_aload_n C dX1_copyFrom_3 rfl rfl ?_
    refine Z_get C K1 (v := .int (O.2.2.1 0)) 9 dX1_copyFrom_4 rfl (by decide) g_51 rfl rfl ?_
    refine Z_icmp_ge C 124 dX1_copyFrom_7 (by decide) (fun c1 => ?_) (fun c1 => absurd (ge_yes hO) c1)
    refine Z_aload_n C dX1_copyFrom_124 rfl rfl ?_
    refine Z_aload_n C dX1_copyFrom_125 rfl rfl ?_
    refine Z_get C K1 (v := .int (O.2.2.1 0)) 9 dX1_copyFrom_126 rfl (by decide) g_51 rfl rfl ?_
    refine Z_put C K1 (ws' := stW 0 (uI T1 0 (O.2.2.1 0)) ++ stW 10 O) 9 dX1_copyFrom_129 rfl (by decide) g_51 rfl rfl rfl rfl rfl (Nat.le_of_ble_eq_true rfl) rfl ?_
    refine Z_aload_n C dX1_copyFrom_132 rfl rfl ?_
    refine Z_aload_n C dX1_copyFrom_133 rfl rfl ?_
    refine Z_get C K1 (v := .int (O.2.2.1 1)) 10 dX1_copyFrom_134 rfl (by decide) g_54 rfl rfl ?_
    refine Z_put C K1 (ws' := stW 0 (uI (uI T1 0 (O.2.2.1 0)) 1 (O.2.2.1 1)) ++ stW 10 O) 10 dX1_copyFrom_137 rfl (by decide) g_54 rfl rfl rfl rfl rfl (Nat.le_of_ble_eq_true rfl) rfl ?_
    refine Z_aload_n C dX1_copyFrom_140 rfl rfl ?_
    refine Z_aload_n C dX1_copyFrom_141 rfl rfl ?_
    refine Z_get C K1 (v := .int (O.2.2.1 2)) 11 dX1_copyFrom_142 rfl (by decide) g_55 rfl rfl ?_
    refine Z_put C K1 (ws' := stW 0 (uI (uI (uI T1 0 (O.2.2.1 0)) 1 (O.2.2.1 1)) 2 (O.2.2.1 2)) ++ stW 10 O) 11 dX1_copyFrom_145 rfl (by decide) g_55 rfl rfl rfl rfl rfl (Nat.le_of_ble_eq_true rfl) rfl ?_
    refine Z_aload_n C dX1_copyFrom_148 rfl rfl ?_
    refine Z_aload_n C dX1_copyFrom_149 rfl rfl ?_
    refine Z_get C K1 (v := .int (bI O.2.2.2)) 12 dX1_copyFrom_150 rfl (by decide) g_57 rfl rfl ?_
    refine Z_put C K1 (ws' := stW 0 (uS (uI (uI (uI T1 0 (O.2.2.1 0)) 1 (O.2.2.1 1)) 2 (O.2.2.1 2)) O.2.2.2) ++ stW 10 O) 12 dX1_copyFrom_153 rfl (by decide) g_57 rfl rfl rfl (bI_nar _) (bI_fit _) (Nat.le_of_ble_eq_true rfl) rfl ?_
    exact Z_vret C hr hlk dX1_copyFrom_156 rfl (by rw [show (copyF S O) = (uS (uI (uI (uI T1 0 (O.2.2.1 0)) 1 (O.2.2.1 1)) 2 (O.2.2.1 2)) O.2.2.2) from by subst eT1; simp only [copyF, nn_eq hO h40]])
  · refine Z_iload_n C dX1_copyFrom_2 rfl rfl ?_
    refine Z_aload_n C dX1_copyFrom_3 rfl rfl ?_
    refine Z_get C K1 (v := .int (O.2.2.1 0)) 9 dX1_copyFrom_4 rfl (by decide) g_51 rfl rfl ?_
    refine Z_icmp_ge C 124 dX1_copyFrom_7 (by decide) (fun c2 => absurd c2 (ge_no hO h40 hi)) (fun c2 => ?_)
    refine Z_aload_n C dX1_copyFrom_10 rfl rfl ?_
    refine Z_get C K1 (v := .ref 1) 0 dX1_copyFrom_11 rfl (by decide) g_40 rfl rfl ?_
    refine Z_iload_n C dX1_copyFrom_14 rfl rfl ?_
    refine Z_aload_n C dX1_copyFrom_15 rfl rfl ?_
    refine Z_get C K1 (v := .ref 11) 0 dX1_copyFrom_16 rfl (by decide) g_40 rfl rfl ?_
    refine Z_iload_n C dX1_copyFrom_19 rfl rfl ?_
    refine Z_iaN C (v := O.1 0 i) dX1_copyFrom_20 rfl (by omega) (by decide) rfl ?_
    refine Z_isN C (ws' := stW 0 (uA T1 0 i (O.1 0 i)) ++ stW 10 O) dX1_copyFrom_21 rfl (by omega) (by decide) rfl ?_
    refine Z_aload_n C dX1_copyFrom_22 rfl rfl ?_
    refine Z_get C K1 (v := .ref 2) 1 dX1_copyFrom_23 rfl (by decide) g_41 rfl rfl ?_
    refine Z_iload_n C dX1_copyFrom_26 rfl rfl ?_
    refine Z_aload_n C dX1_copyFrom_27 rfl rfl ?_
    refine Z_get C K1 (v := .ref 12) 1 dX1_copyFrom_28 rfl (by decide) g_41 rfl rfl ?_
    refine Z_iload_n C dX1_copyFrom_31 rfl rfl ?_
    refine Z_iaN C (v := O.1 1 i) dX1_copyFrom_32 rfl (by omega) (by decide) rfl ?_
    refine Z_isN C (ws' := stW 0 (uA (uA T1 0 i (O.1 0 i)) 1 i (O.1 1 i)) ++ stW 10 O) dX1_copyFrom_33 rfl (by omega) (by decide) rfl ?_
    refine Z_aload_n C dX1_copyFrom_34 rfl rfl ?_
    refine Z_get C K1 (v := .ref 3) 2 dX1_copyFrom_35 rfl (by decide) g_42 rfl rfl ?_
    refine Z_iload_n C dX1_copyFrom_38 rfl rfl ?_
    refine Z_aload_n C dX1_copyFrom_39 rfl rfl ?_
    refine Z_get C K1 (v := .ref 13) 2 dX1_copyFrom_40 rfl (by decide) g_42 rfl rfl ?_
    refine Z_iload_n C dX1_copyFrom_43 rfl rfl ?_
    refine Z_iaN C (v := O.1 2 i) dX1_copyFrom_44 rfl (by omega) (by decide) rfl ?_
    refine Z_isN C (ws' := stW 0 (uA (uA (uA T1 0 i (O.1 0 i)) 1 i (O.1 1 i)) 2 i (O.1 2 i)) ++ stW 10 O) dX1_copyFrom_45 rfl (by omega) (by decide) rfl ?_
    refine Z_aload_n C dX1_copyFrom_46 rfl rfl ?_
    refine Z_get C K1 (v := .ref 4) 3 dX1_copyFrom_47 rfl (by decide) g_43 rfl rfl ?_
    refine Z_iload_n C dX1_copyFrom_50 rfl rfl ?_
    refine Z_aload_n C dX1_copyFrom_51 rfl rfl ?_
    refine Z_get C K1 (v := .ref 14) 3 dX1_copyFrom_52 rfl (by decide) g_43 rfl rfl ?_
    refine Z_iload_n C dX1_copyFrom_55 rfl rfl ?_
    refine Z_iaN C (v := O.1 3 i) dX1_copyFrom_56 rfl (by omega) (by decide) rfl ?_
    refine Z_isN C (ws' := stW 0 (uA (uA (uA (uA T1 0 i (O.1 0 i)) 1 i (O.1 1 i)) 2 i (O.1 2 i)) 3 i (O.1 3 i)) ++ stW 10 O) dX1_copyFrom_57 rfl (by omega) (by decide) rfl ?_
    refine Z_aload_n C dX1_copyFrom_58 rfl rfl ?_
    refine Z_get C K1 (v := .ref 5) 4 dX1_copyFrom_59 rfl (by decide) g_45 rfl rfl ?_
    refine Z_iload_n C dX1_copyFrom_62 rfl rfl ?_
    refine Z_aload_n C dX1_copyFrom_63 rfl rfl ?_
    refine Z_get C K1 (v := .ref 15) 4 dX1_copyFrom_64 rfl (by decide) g_45 rfl rfl ?_
    refine Z_iload_n C dX1_copyFrom_67 rfl rfl ?_
    refine Z_iaN C (v := O.1 4 i) dX1_copyFrom_68 rfl (by omega) (by decide) rfl ?_
    refine Z_isN C (ws' := stW 0 (uA (uA (uA (uA (uA T1 0 i (O.1 0 i)) 1 i (O.1 1 i)) 2 i (O.1 2 i)) 3 i (O.1 3 i)) 4 i (O.1 4 i)) ++ stW 10 O) dX1_copyFrom_69 rfl (by omega) (by decide) rfl ?_
    refine Z_aload_n C dX1_copyFrom_70 rfl rfl ?_
    refine Z_get C K1 (v := .ref 6) 5 dX1_copyFrom_71 rfl (by decide) g_46 rfl rfl ?_
    refine Z_iload_n C dX1_copyFrom_74 rfl rfl ?_
    refine Z_aload_n C dX1_copyFrom_75 rfl rfl ?_
    refine Z_get C K1 (v := .ref 16) 5 dX1_copyFrom_76 rfl (by decide) g_46 rfl rfl ?_
    refine Z_iload_n C dX1_copyFrom_79 rfl rfl ?_
    refine Z_iaN C (v := O.1 5 i) dX1_copyFrom_80 rfl (by omega) (by decide) rfl ?_
    refine Z_isN C (ws' := stW 0 (uA (uA (uA (uA (uA (uA T1 0 i (O.1 0 i)) 1 i (O.1 1 i)) 2 i (O.1 2 i)) 3 i (O.1 3 i)) 4 i (O.1 4 i)) 5 i (O.1 5 i)) ++ stW 10 O) dX1_copyFrom_81 rfl (by omega) (by decide) rfl ?_
    refine Z_aload_n C dX1_copyFrom_82 rfl rfl ?_
    refine Z_get C K1 (v := .ref 7) 6 dX1_copyFrom_83 rfl (by decide) g_47 rfl rfl ?_
    refine Z_iload_n C dX1_copyFrom_86 rfl rfl ?_
    refine Z_aload_n C dX1_copyFrom_87 rfl rfl ?_
    refine Z_get C K1 (v := .ref 17) 6 dX1_copyFrom_88 rfl (by decide) g_47 rfl rfl ?_
    refine Z_iload_n C dX1_copyFrom_91 rfl rfl ?_
    refine Z_zaN C (v := bI (O.2.1 i)) dX1_copyFrom_92 rfl (by omega) (by decide) rfl ?_
    refine Z_zsN C (b := (O.2.1 i)) (ws' := stW 0 (uH (uA (uA (uA (uA (uA (uA T1 0 i (O.1 0 i)) 1 i (O.1 1 i)) 2 i (O.1 2 i)) 3 i (O.1 3 i)) 4 i (O.1 4 i)) 5 i (O.1 5 i)) i (O.2.1 i)) ++ stW 10 O) dX1_copyFrom_93 rfl rfl (by omega) (by decide) rfl ?_
    refine Z_aload_n C dX1_copyFrom_94 rfl rfl ?_
    refine Z_get C K1 (v := .ref 8) 7 dX1_copyFrom_95 rfl (by decide) g_48 rfl rfl ?_
    refine Z_iload_n C dX1_copyFrom_98 rfl rfl ?_
    refine Z_aload_n C dX1_copyFrom_99 rfl rfl ?_
    refine Z_get C K1 (v := .ref 18) 7 dX1_copyFrom_100 rfl (by decide) g_48 rfl rfl ?_
    refine Z_iload_n C dX1_copyFrom_103 rfl rfl ?_
    refine Z_iaN C (v := O.1 6 i) dX1_copyFrom_104 rfl (by omega) (by decide) rfl ?_
    refine Z_isN C (ws' := stW 0 (uA (uH (uA (uA (uA (uA (uA (uA T1 0 i (O.1 0 i)) 1 i (O.1 1 i)) 2 i (O.1 2 i)) 3 i (O.1 3 i)) 4 i (O.1 4 i)) 5 i (O.1 5 i)) i (O.2.1 i)) 6 i (O.1 6 i)) ++ stW 10 O) dX1_copyFrom_105 rfl (by omega) (by decide) rfl ?_
    refine Z_aload_n C dX1_copyFrom_106 rfl rfl ?_
    refine Z_get C K1 (v := .ref 9) 8 dX1_copyFrom_107 rfl (by decide) g_50 rfl rfl ?_
    refine Z_iload_n C dX1_copyFrom_110 rfl rfl ?_
    refine Z_aload_n C dX1_copyFrom_111 rfl rfl ?_
    refine Z_get C K1 (v := .ref 19) 8 dX1_copyFrom_112 rfl (by decide) g_50 rfl rfl ?_
    refine Z_iload_n C dX1_copyFrom_115 rfl rfl ?_
    refine Z_iaN C (v := O.1 7 i) dX1_copyFrom_116 rfl (by omega) (by decide) rfl ?_
    refine Z_isN C (ws' := stW 0 (uA (uA (uH (uA (uA (uA (uA (uA (uA T1 0 i (O.1 0 i)) 1 i (O.1 1 i)) 2 i (O.1 2 i)) 3 i (O.1 3 i)) 4 i (O.1 4 i)) 5 i (O.1 5 i)) i (O.2.1 i)) 6 i (O.1 6 i)) 7 i (O.1 7 i)) ++ stW 10 O) dX1_copyFrom_117 rfl (by omega) (by decide) rfl ?_
    refine Z_iinc C (L' := [(2, .int (nI (i + 1))), (0, .ref 0), (1, .ref 10)]) (v := nI (i + 1)) dX1_copyFrom_118 rfl (nI_inc _) (by decide) rfl ?_
    refine Z_goto C 2 dX1_copyFrom_121 (by decide) ?_
    rw [show (cp1 O) i T1 = (uA (uA (uH (uA (uA (uA (uA (uA (uA T1 0 i (O.1 0 i)) 1 i (O.1 1 i)) 2 i (O.1 2 i)) 3 i (O.1 3 i)) 4 i (O.1 4 i)) 5 i (O.1 5 i)) i (O.2.1 i)) 6 i (O.1 6 i)) 7 i (O.1 7 i)) from by simp [cp1, c2]] at kk
    exact Z_sub (by simp [bI_t, bI_f]) kk
