set_option maxHeartbeats 4000000 in
set_option maxRecDepth 20000 in
theorem c_X3_counted (M : Md) (x : Int32) {n r : Nat} (hn : M.2.2.2 1 = nI n) (h40 : n ≤ 40) (hq : M.2.2.2 2 = nI r) (h30 : r ≤ 30) (ho : okM n M) {w : Nat} (hx : x = nI w) (hw : w < 8) : CT yX3_counted cX3_counted 5 (some .int) 2 0 0 [.ref 0, .int x] (mdW 0 M) (some (.int (mCt M w))) (mdW 0 M) := by
  refine CT_of (L := [(0, .ref 0), (1, .int x)]) (by decide) (fun _ => rfl) (fun _ => Nat.le_of_ble_eq_true rfl) ?_
  intro p l e s m args below meth c G h A C hr hlk _
  have eN : mN M = n := mN_eq hn h40; have eR : mR M = r := mR_eq hq h30
  subst hx
  refine Z_iconst C (v := 0) dX3_counted_0 (by decide) ?_
  refine Z_istore_n C (L' := [(2, .int 0), (0, .ref 0), (1, .int (nI w))]) dX3_counted_1 rfl (by decide) rfl ?_
  rcases (show w = 0 ∨ w = 1 ∨ w = 2 ∨ w = 3 ∨ w = 4 ∨ w = 5 ∨ w = 6 ∨ w = 7 from by omega) with rfl | rfl | rfl | rfl | rfl | rfl | rfl | rfl
  · refine Z_iload_n C dX3_counted_2 rfl rfl ?_
    refine Z_if_ne C 13 dX3_counted_3 (by decide) (fun c1 => absurd (by decide) c1) (fun c1 => ?_)
    refine Z_aload_n C dX3_counted_6 rfl rfl ?_
    refine Z_get C K3 (v := .ref 3) 5 dX3_counted_7 rfl (by decide) g_577 rfl rfl ?_
    refine Z_iconst C (v := 0) dX3_counted_10 (by decide) ?_
    refine Z_iaN C (j := 0) (v := M.2.2.1 0 0) dX3_counted_11 rfl (by decide) (by decide) rfl ?_
    exact Z_iret C hr hlk dX3_counted_12 (congrArg (fun z => some (Value.int z)) (show (mCt M 0) = (M.2.2.1 0 0) from by simp [mCt, eN, eR])) rfl
  · refine Z_iload_n C dX3_counted_2 rfl rfl ?_
    refine Z_if_ne C 13 dX3_counted_3 (by decide) (fun c2 => ?_) (fun c2 => absurd c2 (by decide))
    refine Z_iload_n C dX3_counted_13 rfl rfl ?_
    refine Z_iconst C (v := 1) dX3_counted_14 (by decide) ?_
    refine Z_icmp_ne C 23 dX3_counted_15 (by decide) (fun c3 => absurd c3 (by decide)) (fun c3 => ?_)
    refine Z_aload_n C dX3_counted_18 rfl rfl ?_
    refine Z_get C K3 (v := .int (M.2.2.2 1)) 1 dX3_counted_19 rfl (by decide) g_573 rfl rfl ?_
    exact Z_iret C hr hlk dX3_counted_22 (congrArg (fun z => some (Value.int z)) (show (mCt M 1) = (M.2.2.2 1) from by simp [mCt, eN, eR])) rfl
  · refine Z_iload_n C dX3_counted_2 rfl rfl ?_
    refine Z_if_ne C 13 dX3_counted_3 (by decide) (fun c4 => ?_) (fun c4 => absurd c4 (by decide))
    refine Z_iload_n C dX3_counted_13 rfl rfl ?_
    refine Z_iconst C (v := 1) dX3_counted_14 (by decide) ?_
    refine Z_icmp_ne C 23 dX3_counted_15 (by decide) (fun c5 => ?_) (fun c5 => absurd c5 (by decide))
    refine Z_iconst C (v := 0) dX3_counted_23 (by decide) ?_
    refine Z_istore_n C (L' := [(3, .int 0), (2, .int 0), (0, .ref 0), (1, .int (nI 2))]) dX3_counted_24 rfl (by decide) rfl ?_
    refine Z_join 55 [(3, .int 0), (2, .int 0), (0, .ref 0), (1, .int (nI 2))] [] ?_ (fun hE => ?_)
    · refine Z_iconst C (v := 0) dX3_counted_55 (by decide) ?_
      refine Z_istore_n C (L' := [(3, .int 0), (2, .int 0), (0, .ref 0), (1, .int (nI 2))]) dX3_counted_56 rfl (by decide) rfl ?_
      refine Zfor (σ := Int32) (fun i T1 => Z p l e _ s m args below meth c 5 G A h _ 0 0 (mdW 0 M) 57 [(3, .int (nI i)), (2, .int T1), (0, .ref 0), (1, .int (nI 2))] []) (fun i T1 => True) (mc1 M 2) n (0) trivial (fun i T1 hi hT1 => trivial) (fun T1 hT1 eT1 => ?_) (fun i T1 hi hT1 hT1' kk => ?_)
      · refine Z_iload_n C dX3_counted_57 rfl rfl ?_
        refine Z_aload_n C dX3_counted_58 rfl rfl ?_
        refine Z_get C K3 (v := .int (M.2.2.2 1)) 1 dX3_counted_59 rfl (by decide) g_573 rfl rfl ?_
        refine Z_icmp_ge C 178 dX3_counted_62 (by decide) (fun c6 => ?_) (fun c6 => absurd (ge_yes hn) c6)
        refine Z_iload_n C dX3_counted_178 rfl rfl ?_
        exact Z_iret C hr hlk dX3_counted_179 (congrArg (fun z => some (Value.int z)) (show (mCt M 2) = T1 from by subst eT1; simp [mCt, eN, eR])) rfl
      · refine Z_iload_n C dX3_counted_57 rfl rfl ?_
        refine Z_aload_n C dX3_counted_58 rfl rfl ?_
        refine Z_get C K3 (v := .int (M.2.2.2 1)) 1 dX3_counted_59 rfl (by decide) g_573 rfl rfl ?_
        refine Z_icmp_ge C 178 dX3_counted_62 (by decide) (fun c7 => absurd c7 (ge_no hn h40 hi)) (fun c7 => ?_)
        refine Z_iload_n C dX3_counted_65 rfl rfl ?_
        refine Z_iconst C (v := 4) dX3_counted_66 (by decide) ?_
        refine Z_icmp_eq C 178 dX3_counted_67 (by decide) (fun c8 => absurd c8 (by decide)) (fun c8 => ?_)
        refine Z_aload_n C dX3_counted_70 rfl rfl ?_
        refine Z_iload_n C dX3_counted_71 rfl rfl ?_
        refine Z_callV C (ws' := mdW 0 M) (st' := [.int (bI (mHg M i))]) (rest := []) [0, 1, 2, 3, 4, 5, 6] (c_X3_hangs M (nI i) rfl (by omega)) m_X3_hangs K3 g_630 dX3_counted_72 rfl rfl rfl (outR _ _ _) (NW := 7) rfl rfl rfl rfl rfl ⟨Nat.le_of_ble_eq_true rfl, Nat.le_of_ble_eq_true rfl⟩ ⟨Nat.le_of_ble_eq_true rfl, Nat.le_of_ble_eq_true rfl⟩ (Nat.le_of_ble_eq_true rfl) rfl ?_
        refine Z_if_ne C 81 dX3_counted_75 (by decide) (fun c9 => ?_) (fun c9 => ?_)
        · have c9 := bI_n0.mp c9
          refine Z_aload_n C dX3_counted_81 rfl rfl ?_
          refine Z_iload_n C dX3_counted_82 rfl rfl ?_
          refine Z_iconst C (v := 3) dX3_counted_83 (by decide) ?_
          refine Z_callV C (ws' := mdW 0 M) (st' := [.int (M.1 3 i)]) (rest := []) [0, 1, 2, 3, 4, 5, 6] (c_X3_to M (nI i) 3 rfl (by omega) rfl (by decide)) m_X3_to K3 g_634 dX3_counted_84 rfl rfl rfl (outR _ _ _) (NW := 7) rfl rfl rfl rfl rfl ⟨Nat.le_of_ble_eq_true rfl, Nat.le_of_ble_eq_true rfl⟩ ⟨Nat.le_of_ble_eq_true rfl, Nat.le_of_ble_eq_true rfl⟩ (Nat.le_of_ble_eq_true rfl) rfl ?_
          refine Z_if_le C 94 dX3_counted_87 (by decide) (fun c10 => ?_) (fun c10 => ?_)
          · refine Z_iconst C (v := 0) dX3_counted_94 (by decide) ?_
            refine Z_istore C (L' := [(4, .int 0), (3, .int (nI i)), (2, .int T1), (0, .ref 0), (1, .int (nI 2))]) dX3_counted_95 (by decide) rfl ?_
            refine Z_iload_n C dX3_counted_97 rfl rfl ?_
            refine Z_iload_n C dX3_counted_98 rfl rfl ?_
            refine Z_iconst C (v := 2) dX3_counted_99 (by decide) ?_
            refine Z_icmp_ne C 107 dX3_counted_100 (by decide) (fun c11 => absurd c11 (by decide)) (fun c11 => ?_)
            refine Z_iconst C (v := 1) dX3_counted_103 (by decide) ?_
            refine Z_goto C 170 dX3_counted_104 (by decide) ?_
            refine Z_iadd C (v := T1 + 1) dX3_counted_170 rfl ?_
            refine Z_istore_n C (L' := [(2, .int (T1 + 1)), (4, .int 0), (3, .int (nI i)), (0, .ref 0), (1, .int (nI 2))]) dX3_counted_171 rfl (by decide) rfl ?_
            refine Z_iinc C (L' := [(3, .int (nI (i + 1))), (2, .int (T1 + 1)), (4, .int 0), (0, .ref 0), (1, .int (nI 2))]) (v := nI (i + 1)) dX3_counted_172 rfl (nI_inc _) (by decide) rfl ?_
            refine Z_goto C 57 dX3_counted_175 (by decide) ?_
            rw [show (mc1 M 2) i T1 = T1 + 1 from by simp [mc1, c7, c9, c10]] at kk
            exact Z_sub (by simp [bI_t, bI_f]) kk
          · refine Z_iconst C (v := 1) dX3_counted_90 (by decide) ?_
            refine Z_goto C 95 dX3_counted_91 (by decide) ?_
            refine Z_istore C (L' := [(4, .int 1), (3, .int (nI i)), (2, .int T1), (0, .ref 0), (1, .int (nI 2))]) dX3_counted_95 (by decide) rfl ?_
            refine Z_iload_n C dX3_counted_97 rfl rfl ?_
            refine Z_iload_n C dX3_counted_98 rfl rfl ?_
            refine Z_iconst C (v := 2) dX3_counted_99 (by decide) ?_
            refine Z_icmp_ne C 107 dX3_counted_100 (by decide) (fun c12 => absurd c12 (by decide)) (fun c12 => ?_)
            refine Z_iconst C (v := 1) dX3_counted_103 (by decide) ?_
            refine Z_goto C 170 dX3_counted_104 (by decide) ?_
            refine Z_iadd C (v := T1 + 1) dX3_counted_170 rfl ?_
            refine Z_istore_n C (L' := [(2, .int (T1 + 1)), (4, .int 1), (3, .int (nI i)), (0, .ref 0), (1, .int (nI 2))]) dX3_counted_171 rfl (by decide) rfl ?_
            refine Z_iinc C (L' := [(3, .int (nI (i + 1))), (2, .int (T1 + 1)), (4, .int 1), (0, .ref 0), (1, .int (nI 2))]) (v := nI (i + 1)) dX3_counted_172 rfl (nI_inc _) (by decide) rfl ?_
            refine Z_goto C 57 dX3_counted_175 (by decide) ?_
            rw [show (mc1 M 2) i T1 = T1 + 1 from by simp [mc1, c7, c9, c10]] at kk
            exact Z_sub (by simp [bI_t, bI_f]) kk
        · have c9 := bI_0.mp c9
          refine Z_goto C 172 dX3_counted_78 (by decide) ?_
          refine Z_iinc C (L' := [(3, .int (nI (i + 1))), (2, .int T1), (0, .ref 0), (1, .int (nI 2))]) (v := nI (i + 1)) dX3_counted_172 rfl (nI_inc _) (by decide) rfl ?_
          refine Z_goto C 57 dX3_counted_175 (by decide) ?_
          rw [show (mc1 M 2) i T1 = T1 from by simp [mc1, c7, c9]] at kk
          exact Z_sub (by simp [bI_t, bI_f]) kk
    · refine Z_iload_n C dX3_counted_25 rfl rfl ?_
      refine Z_aload_n C dX3_counted_26 rfl rfl ?_
      refine Z_get C K3 (v := .int (M.2.2.2 2)) 2 dX3_counted_27 rfl (by decide) g_574 rfl rfl ?_
      refine Z_icmp_ge C 55 dX3_counted_30 (by decide) (fun c13 => ?_) (fun c13 => ?_)
      · exact hE
      · refine Z_iload_n C dX3_counted_33 rfl rfl ?_
        refine Z_iconst C (v := 4) dX3_counted_34 (by decide) ?_
        refine Z_icmp_ne C 55 dX3_counted_35 (by decide) (fun c14 => ?_) (fun c14 => absurd c14 (by decide))
        exact hE
  · refine Z_iload_n C dX3_counted_2 rfl rfl ?_
    refine Z_if_ne C 13 dX3_counted_3 (by decide) (fun c15 => ?_) (fun c15 => absurd c15 (by decide))
    refine Z_iload_n C dX3_counted_13 rfl rfl ?_
    refine Z_iconst C (v := 1) dX3_counted_14 (by decide) ?_
    refine Z_icmp_ne C 23 dX3_counted_15 (by decide) (fun c16 => ?_) (fun c16 => absurd c16 (by decide))
    refine Z_iconst C (v := 0) dX3_counted_23 (by decide) ?_
    refine Z_istore_n C (L' := [(3, .int 0), (2, .int 0), (0, .ref 0), (1, .int (nI 3))]) dX3_counted_24 rfl (by decide) rfl ?_
    refine Z_join 55 [(3, .int 0), (2, .int 0), (0, .ref 0), (1, .int (nI 3))] [] ?_ (fun hE => ?_)
    · refine Z_iconst C (v := 0) dX3_counted_55 (by decide) ?_
      refine Z_istore_n C (L' := [(3, .int 0), (2, .int 0), (0, .ref 0), (1, .int (nI 3))]) dX3_counted_56 rfl (by decide) rfl ?_
      refine Zfor (σ := Int32) (fun i T2 => Z p l e _ s m args below meth c 5 G A h _ 0 0 (mdW 0 M) 57 [(3, .int (nI i)), (2, .int T2), (0, .ref 0), (1, .int (nI 3))] []) (fun i T2 => True) (mc1 M 3) n (0) trivial (fun i T2 hi hT2 => trivial) (fun T2 hT2 eT2 => ?_) (fun i T2 hi hT2 hT2' kk => ?_)
      · refine Z_iload_n C dX3_counted_57 rfl rfl ?_
        refine Z_aload_n C dX3_counted_58 rfl rfl ?_
        refine Z_get C K3 (v := .int (M.2.2.2 1)) 1 dX3_counted_59 rfl (by decide) g_573 rfl rfl ?_
        refine Z_icmp_ge C 178 dX3_counted_62 (by decide) (fun c17 => ?_) (fun c17 => absurd (ge_yes hn) c17)
        refine Z_iload_n C dX3_counted_178 rfl rfl ?_
        exact Z_iret C hr hlk dX3_counted_179 (congrArg (fun z => some (Value.int z)) (show (mCt M 3) = T2 from by subst eT2; simp [mCt, eN, eR])) rfl
      · refine Z_iload_n C dX3_counted_57 rfl rfl ?_
        refine Z_aload_n C dX3_counted_58 rfl rfl ?_
        refine Z_get C K3 (v := .int (M.2.2.2 1)) 1 dX3_counted_59 rfl (by decide) g_573 rfl rfl ?_
        refine Z_icmp_ge C 178 dX3_counted_62 (by decide) (fun c18 => absurd c18 (ge_no hn h40 hi)) (fun c18 => ?_)
        refine Z_iload_n C dX3_counted_65 rfl rfl ?_
        refine Z_iconst C (v := 4) dX3_counted_66 (by decide) ?_
        refine Z_icmp_eq C 178 dX3_counted_67 (by decide) (fun c19 => absurd c19 (by decide)) (fun c19 => ?_)
        refine Z_aload_n C dX3_counted_70 rfl rfl ?_
        refine Z_iload_n C dX3_counted_71 rfl rfl ?_
        refine Z_callV C (ws' := mdW 0 M) (st' := [.int (bI (mHg M i))]) (rest := []) [0, 1, 2, 3, 4, 5, 6] (c_X3_hangs M (nI i) rfl (by omega)) m_X3_hangs K3 g_630 dX3_counted_72 rfl rfl rfl (outR _ _ _) (NW := 7) rfl rfl rfl rfl rfl ⟨Nat.le_of_ble_eq_true rfl, Nat.le_of_ble_eq_true rfl⟩ ⟨Nat.le_of_ble_eq_true rfl, Nat.le_of_ble_eq_true rfl⟩ (Nat.le_of_ble_eq_true rfl) rfl ?_
        refine Z_if_ne C 81 dX3_counted_75 (by decide) (fun c20 => ?_) (fun c20 => ?_)
        · have c20 := bI_n0.mp c20
          refine Z_aload_n C dX3_counted_81 rfl rfl ?_
          refine Z_iload_n C dX3_counted_82 rfl rfl ?_
          refine Z_iconst C (v := 3) dX3_counted_83 (by decide) ?_
          refine Z_callV C (ws' := mdW 0 M) (st' := [.int (M.1 3 i)]) (rest := []) [0, 1, 2, 3, 4, 5, 6] (c_X3_to M (nI i) 3 rfl (by omega) rfl (by decide)) m_X3_to K3 g_634 dX3_counted_84 rfl rfl rfl (outR _ _ _) (NW := 7) rfl rfl rfl rfl rfl ⟨Nat.le_of_ble_eq_true rfl, Nat.le_of_ble_eq_true rfl⟩ ⟨Nat.le_of_ble_eq_true rfl, Nat.le_of_ble_eq_true rfl⟩ (Nat.le_of_ble_eq_true rfl) rfl ?_
          refine Z_if_le C 94 dX3_counted_87 (by decide) (fun c21 => ?_) (fun c21 => ?_)
          · refine Z_iconst C (v := 0) dX3_counted_94 (by decide) ?_
            refine Z_istore C (L' := [(4, .int 0), (3, .int (nI i)), (2, .int T2), (0, .ref 0), (1, .int (nI 3))]) dX3_counted_95 (by decide) rfl ?_
            refine Z_iload_n C dX3_counted_97 rfl rfl ?_
            refine Z_iload_n C dX3_counted_98 rfl rfl ?_
            refine Z_iconst C (v := 2) dX3_counted_99 (by decide) ?_
            refine Z_icmp_ne C 107 dX3_counted_100 (by decide) (fun c22 => ?_) (fun c22 => absurd c22 (by decide))
            refine Z_iload_n C dX3_counted_107 rfl rfl ?_
            refine Z_iconst C (v := 3) dX3_counted_108 (by decide) ?_
            refine Z_icmp_ne C 125 dX3_counted_109 (by decide) (fun c23 => absurd c23 (by decide)) (fun c23 => ?_)
            refine Z_iload C dX3_counted_112 rfl ?_
            refine Z_if_eq C 121 dX3_counted_114 (by decide) (fun c24 => ?_) (fun c24 => absurd rfl c24)
            refine Z_iconst C (v := 0) dX3_counted_121 (by decide) ?_
            refine Z_goto C 170 dX3_counted_122 (by decide) ?_
            refine Z_iadd C (v := T2 + 0) dX3_counted_170 rfl ?_
            refine Z_istore_n C (L' := [(2, .int (T2 + 0)), (4, .int 0), (3, .int (nI i)), (0, .ref 0), (1, .int (nI 3))]) dX3_counted_171 rfl (by decide) rfl ?_
            refine Z_iinc C (L' := [(3, .int (nI (i + 1))), (2, .int (T2 + 0)), (4, .int 0), (0, .ref 0), (1, .int (nI 3))]) (v := nI (i + 1)) dX3_counted_172 rfl (nI_inc _) (by decide) rfl ?_
            refine Z_goto C 57 dX3_counted_175 (by decide) ?_
            rw [show (mc1 M 3) i T2 = T2 + 0 from by simp [mc1, c18, c20, c21]] at kk
            exact Z_sub (by simp [bI_t, bI_f]) kk
          · refine Z_iconst C (v := 1) dX3_counted_90 (by decide) ?_
            refine Z_goto C 95 dX3_counted_91 (by decide) ?_
            refine Z_istore C (L' := [(4, .int 1), (3, .int (nI i)), (2, .int T2), (0, .ref 0), (1, .int (nI 3))]) dX3_counted_95 (by decide) rfl ?_
            refine Z_iload_n C dX3_counted_97 rfl rfl ?_
            refine Z_iload_n C dX3_counted_98 rfl rfl ?_
            refine Z_iconst C (v := 2) dX3_counted_99 (by decide) ?_
            refine Z_icmp_ne C 107 dX3_counted_100 (by decide) (fun c25 => ?_) (fun c25 => absurd c25 (by decide))
            refine Z_iload_n C dX3_counted_107 rfl rfl ?_
            refine Z_iconst C (v := 3) dX3_counted_108 (by decide) ?_
            refine Z_icmp_ne C 125 dX3_counted_109 (by decide) (fun c26 => absurd c26 (by decide)) (fun c26 => ?_)
            refine Z_iload C dX3_counted_112 rfl ?_
            refine Z_if_eq C 121 dX3_counted_114 (by decide) (fun c27 => absurd c27 (by decide)) (fun c27 => ?_)
            refine Z_iconst C (v := 1) dX3_counted_117 (by decide) ?_
            refine Z_goto C 170 dX3_counted_118 (by decide) ?_
            refine Z_iadd C (v := T2 + 1) dX3_counted_170 rfl ?_
            refine Z_istore_n C (L' := [(2, .int (T2 + 1)), (4, .int 1), (3, .int (nI i)), (0, .ref 0), (1, .int (nI 3))]) dX3_counted_171 rfl (by decide) rfl ?_
            refine Z_iinc C (L' := [(3, .int (nI (i + 1))), (2, .int (T2 + 1)), (4, .int 1), (0, .ref 0), (1, .int (nI 3))]) (v := nI (i + 1)) dX3_counted_172 rfl (nI_inc _) (by decide) rfl ?_
            refine Z_goto C 57 dX3_counted_175 (by decide) ?_
            rw [show (mc1 M 3) i T2 = T2 + 1 from by simp [mc1, c18, c20, c21]] at kk
            exact Z_sub (by simp [bI_t, bI_f]) kk
        · have c20 := bI_0.mp c20
          refine Z_goto C 172 dX3_counted_78 (by decide) ?_
          refine Z_iinc C (L' := [(3, .int (nI (i + 1))), (2, .int T2), (0, .ref 0), (1, .int (nI 3))]) (v := nI (i + 1)) dX3_counted_172 rfl (nI_inc _) (by decide) rfl ?_
          refine Z_goto C 57 dX3_counted_175 (by decide) ?_
          rw [show (mc1 M 3) i T2 = T2 from by simp [mc1, c18, c20]] at kk
          exact Z_sub (by simp [bI_t, bI_f]) kk
    · refine Z_iload_n C dX3_counted_25 rfl rfl ?_
      refine Z_aload_n C dX3_counted_26 rfl rfl ?_
      refine Z_get C K3 (v := .int (M.2.2.2 2)) 2 dX3_counted_27 rfl (by decide) g_574 rfl rfl ?_
      refine Z_icmp_ge C 55 dX3_counted_30 (by decide) (fun c28 => ?_) (fun c28 => ?_)
      · exact hE
      · refine Z_iload_n C dX3_counted_33 rfl rfl ?_
        refine Z_iconst C (v := 4) dX3_counted_34 (by decide) ?_
        refine Z_icmp_ne C 55 dX3_counted_35 (by decide) (fun c29 => ?_) (fun c29 => absurd c29 (by decide))
        exact hE
  · refine Z_iload_n C dX3_counted_2 rfl rfl ?_
    refine Z_if_ne C 13 dX3_counted_3 (by decide) (fun c30 => ?_) (fun c30 => absurd c30 (by decide))
    refine Z_iload_n C dX3_counted_13 rfl rfl ?_
    refine Z_iconst C (v := 1) dX3_counted_14 (by decide) ?_
    refine Z_icmp_ne C 23 dX3_counted_15 (by decide) (fun c31 => ?_) (fun c31 => absurd c31 (by decide))
    refine Z_iconst C (v := 0) dX3_counted_23 (by decide) ?_
    refine Z_istore_n C (L' := [(3, .int 0), (2, .int 0), (0, .ref 0), (1, .int (nI 4))]) dX3_counted_24 rfl (by decide) rfl ?_
    refine Zfor (σ := Int32) (fun i T3 => Z p l e _ s m args below meth c 5 G A h _ 0 0 (mdW 0 M) 25 [(3, .int (nI i)), (2, .int T3), (0, .ref 0), (1, .int (nI 4))] []) (fun i T3 => True) (mk4 M) r (0) trivial (fun i T3 hi hT3 => trivial) (fun T3 hT3 eT3 => ?_) (fun i T3 hi hT3 hT3' kk => ?_)
    · refine Z_iload_n C dX3_counted_25 rfl rfl ?_
      refine Z_aload_n C dX3_counted_26 rfl rfl ?_
      refine Z_get C K3 (v := .int (M.2.2.2 2)) 2 dX3_counted_27 rfl (by decide) g_574 rfl rfl ?_
      refine Z_icmp_ge C 55 dX3_counted_30 (by decide) (fun c32 => ?_) (fun c32 => absurd (ge_yes hq) c32)
      refine Z_iconst C (v := 0) dX3_counted_55 (by decide) ?_
      refine Z_istore_n C (L' := [(3, .int 0), (2, .int T3), (0, .ref 0), (1, .int (nI 4))]) dX3_counted_56 rfl (by decide) rfl ?_
      refine Z_join 178 [(3, .int 0), (2, .int T3), (0, .ref 0), (1, .int (nI 4))] [] ?_ (fun hE => ?_)
      · refine Z_iload_n C dX3_counted_178 rfl rfl ?_
        exact Z_iret C hr hlk dX3_counted_179 (congrArg (fun z => some (Value.int z)) (show (mCt M 4) = T3 from by subst eT3; simp [mCt, eN, eR])) rfl
      · refine Z_iload_n C dX3_counted_57 rfl rfl ?_
        refine Z_aload_n C dX3_counted_58 rfl rfl ?_
        refine Z_get C K3 (v := .int (M.2.2.2 1)) 1 dX3_counted_59 rfl (by decide) g_573 rfl rfl ?_
        refine Z_icmp_ge C 178 dX3_counted_62 (by decide) (fun c33 => ?_) (fun c33 => ?_)
        · exact hE
        · refine Z_iload_n C dX3_counted_65 rfl rfl ?_
          refine Z_iconst C (v := 4) dX3_counted_66 (by decide) ?_
          refine Z_icmp_eq C 178 dX3_counted_67 (by decide) (fun c34 => ?_) (fun c34 => absurd c34 (by decide))
          exact hE
    · refine Z_iload_n C dX3_counted_25 rfl rfl ?_
      refine Z_aload_n C dX3_counted_26 rfl rfl ?_
      refine Z_get C K3 (v := .int (M.2.2.2 2)) 2 dX3_counted_27 rfl (by decide) g_574 rfl rfl ?_
      refine Z_icmp_ge C 55 dX3_counted_30 (by decide) (fun c35 => absurd c35 (ge_no hq (Nat.le_trans h30 (by decide)) hi)) (fun c35 => ?_)
      refine Z_iload_n C dX3_counted_33 rfl rfl ?_
      refine Z_iconst C (v := 4) dX3_counted_34 (by decide) ?_
      refine Z_icmp_ne C 55 dX3_counted_35 (by decide) (fun c36 => absurd c36 (by decide)) (fun c36 => ?_)
      refine Z_iload_n C dX3_counted_38 rfl rfl ?_
      refine Z_iconst C (v := 1) dX3_counted_39 (by decide) ?_
      refine Z_aload_n C dX3_counted_40 rfl rfl ?_
      refine Z_iload_n C dX3_counted_41 rfl rfl ?_
      refine Z_iconst C (v := 2) dX3_counted_42 (by decide) ?_
      refine Z_callV C (ws' := mdW 0 M) (st' := [.int (M.2.1 2 i), .int 1, .int T3]) (rest := [.int 1, .int T3]) [0, 1, 2, 3, 4, 5, 6] (c_X3_st M (nI i) 2 rfl (by omega) rfl (by first | decide | omega)) m_X3_st K3 g_659 dX3_counted_43 rfl rfl rfl (outR _ _ _) (NW := 7) rfl rfl rfl rfl rfl ⟨Nat.le_of_ble_eq_true rfl, Nat.le_of_ble_eq_true rfl⟩ ⟨Nat.le_of_ble_eq_true rfl, Nat.le_of_ble_eq_true rfl⟩ (Nat.le_of_ble_eq_true rfl) rfl ?_
      refine Z_isub C (v := 1 - (M.2.1 2 i)) dX3_counted_46 rfl ?_
      refine Z_iadd C (v := T3 + (1 - (M.2.1 2 i))) dX3_counted_47 rfl ?_
      refine Z_istore_n C (L' := [(2, .int (T3 + (1 - (M.2.1 2 i)))), (3, .int (nI i)), (0, .ref 0), (1, .int (nI 4))]) dX3_counted_48 rfl (by decide) rfl ?_
      refine Z_iinc C (L' := [(3, .int (nI (i + 1))), (2, .int (T3 + (1 - (M.2.1 2 i)))), (0, .ref 0), (1, .int (nI 4))]) (v := nI (i + 1)) dX3_counted_49 rfl (nI_inc _) (by decide) rfl ?_
      refine Z_goto C 25 dX3_counted_52 (by decide) ?_
      rw [show (mk4 M) i T3 = T3 + (1 - (M.2.1 2 i)) from by simp [mk4, c35]] at kk
      exact Z_sub (by simp [bI_t, bI_f]) kk
  · refine Z_iload_n C dX3_counted_2 rfl rfl ?_
    refine Z_if_ne C 13 dX3_counted_3 (by decide) (fun c37 => ?_) (fun c37 => absurd c37 (by decide))
    refine Z_iload_n C dX3_counted_13 rfl rfl ?_
    refine Z_iconst C (v := 1) dX3_counted_14 (by decide) ?_
    refine Z_icmp_ne C 23 dX3_counted_15 (by decide) (fun c38 => ?_) (fun c38 => absurd c38 (by decide))
    refine Z_iconst C (v := 0) dX3_counted_23 (by decide) ?_
    refine Z_istore_n C (L' := [(3, .int 0), (2, .int 0), (0, .ref 0), (1, .int (nI 5))]) dX3_counted_24 rfl (by decide) rfl ?_
    refine Z_join 55 [(3, .int 0), (2, .int 0), (0, .ref 0), (1, .int (nI 5))] [] ?_ (fun hE => ?_)
    · refine Z_iconst C (v := 0) dX3_counted_55 (by decide) ?_
      refine Z_istore_n C (L' := [(3, .int 0), (2, .int 0), (0, .ref 0), (1, .int (nI 5))]) dX3_counted_56 rfl (by decide) rfl ?_
      refine Zfor (σ := Int32) (fun i T4 => Z p l e _ s m args below meth c 5 G A h _ 0 0 (mdW 0 M) 57 [(3, .int (nI i)), (2, .int T4), (0, .ref 0), (1, .int (nI 5))] []) (fun i T4 => True) (mc1 M 5) n (0) trivial (fun i T4 hi hT4 => trivial) (fun T4 hT4 eT4 => ?_) (fun i T4 hi hT4 hT4' kk => ?_)
      · refine Z_iload_n C dX3_counted_57 rfl rfl ?_
        refine Z_aload_n C dX3_counted_58 rfl rfl ?_
        refine Z_get C K3 (v := .int (M.2.2.2 1)) 1 dX3_counted_59 rfl (by decide) g_573 rfl rfl ?_
        refine Z_icmp_ge C 178 dX3_counted_62 (by decide) (fun c39 => ?_) (fun c39 => absurd (ge_yes hn) c39)
        refine Z_iload_n C dX3_counted_178 rfl rfl ?_
        exact Z_iret C hr hlk dX3_counted_179 (congrArg (fun z => some (Value.int z)) (show (mCt M 5) = T4 from by subst eT4; simp [mCt, eN, eR])) rfl
      · refine Z_iload_n C dX3_counted_57 rfl rfl ?_
        refine Z_aload_n C dX3_counted_58 rfl rfl ?_
        refine Z_get C K3 (v := .int (M.2.2.2 1)) 1 dX3_counted_59 rfl (by decide) g_573 rfl rfl ?_
        refine Z_icmp_ge C 178 dX3_counted_62 (by decide) (fun c40 => absurd c40 (ge_no hn h40 hi)) (fun c40 => ?_)
        refine Z_iload_n C dX3_counted_65 rfl rfl ?_
        refine Z_iconst C (v := 4) dX3_counted_66 (by decide) ?_
        refine Z_icmp_eq C 178 dX3_counted_67 (by decide) (fun c41 => absurd c41 (by decide)) (fun c41 => ?_)
        refine Z_aload_n C dX3_counted_70 rfl rfl ?_
        refine Z_iload_n C dX3_counted_71 rfl rfl ?_
        refine Z_callV C (ws' := mdW 0 M) (st' := [.int (bI (mHg M i))]) (rest := []) [0, 1, 2, 3, 4, 5, 6] (c_X3_hangs M (nI i) rfl (by omega)) m_X3_hangs K3 g_630 dX3_counted_72 rfl rfl rfl (outR _ _ _) (NW := 7) rfl rfl rfl rfl rfl ⟨Nat.le_of_ble_eq_true rfl, Nat.le_of_ble_eq_true rfl⟩ ⟨Nat.le_of_ble_eq_true rfl, Nat.le_of_ble_eq_true rfl⟩ (Nat.le_of_ble_eq_true rfl) rfl ?_
        refine Z_if_ne C 81 dX3_counted_75 (by decide) (fun c42 => ?_) (fun c42 => ?_)
        · have c42 := bI_n0.mp c42
          refine Z_aload_n C dX3_counted_81 rfl rfl ?_
          refine Z_iload_n C dX3_counted_82 rfl rfl ?_
          refine Z_iconst C (v := 3) dX3_counted_83 (by decide) ?_
          refine Z_callV C (ws' := mdW 0 M) (st' := [.int (M.1 3 i)]) (rest := []) [0, 1, 2, 3, 4, 5, 6] (c_X3_to M (nI i) 3 rfl (by omega) rfl (by decide)) m_X3_to K3 g_634 dX3_counted_84 rfl rfl rfl (outR _ _ _) (NW := 7) rfl rfl rfl rfl rfl ⟨Nat.le_of_ble_eq_true rfl, Nat.le_of_ble_eq_true rfl⟩ ⟨Nat.le_of_ble_eq_true rfl, Nat.le_of_ble_eq_true rfl⟩ (Nat.le_of_ble_eq_true rfl) rfl ?_
          refine Z_if_le C 94 dX3_counted_87 (by decide) (fun c43 => ?_) (fun c43 => ?_)
          · refine Z_iconst C (v := 0) dX3_counted_94 (by decide) ?_
            refine Z_istore C (L' := [(4, .int 0), (3, .int (nI i)), (2, .int T4), (0, .ref 0), (1, .int (nI 5))]) dX3_counted_95 (by decide) rfl ?_
            refine Z_iload_n C dX3_counted_97 rfl rfl ?_
            refine Z_iload_n C dX3_counted_98 rfl rfl ?_
            refine Z_iconst C (v := 2) dX3_counted_99 (by decide) ?_
            refine Z_icmp_ne C 107 dX3_counted_100 (by decide) (fun c44 => ?_) (fun c44 => absurd c44 (by decide))
            refine Z_iload_n C dX3_counted_107 rfl rfl ?_
            refine Z_iconst C (v := 3) dX3_counted_108 (by decide) ?_
            refine Z_icmp_ne C 125 dX3_counted_109 (by decide) (fun c45 => ?_) (fun c45 => absurd c45 (by decide))
            refine Z_iload_n C dX3_counted_125 rfl rfl ?_
            refine Z_iconst C (v := 5) dX3_counted_126 (by decide) ?_
            refine Z_icmp_ne C 139 dX3_counted_127 (by decide) (fun c46 => absurd c46 (by decide)) (fun c46 => ?_)
            refine Z_aload_n C dX3_counted_130 rfl rfl ?_
            refine Z_iload_n C dX3_counted_131 rfl rfl ?_
            refine Z_iconst C (v := 3) dX3_counted_132 (by decide) ?_
            refine Z_callV C (ws' := mdW 0 M) (st' := [.int (M.1 3 i), .int T4]) (rest := [.int T4]) [0, 1, 2, 3, 4, 5, 6] (c_X3_to M (nI i) 3 rfl (by omega) rfl (by decide)) m_X3_to K3 g_634 dX3_counted_133 rfl rfl rfl (outR _ _ _) (NW := 7) rfl rfl rfl rfl rfl ⟨Nat.le_of_ble_eq_true rfl, Nat.le_of_ble_eq_true rfl⟩ ⟨Nat.le_of_ble_eq_true rfl, Nat.le_of_ble_eq_true rfl⟩ (Nat.le_of_ble_eq_true rfl) rfl ?_
            refine Z_goto C 170 dX3_counted_136 (by decide) ?_
            refine Z_iadd C (v := T4 + (M.1 3 i)) dX3_counted_170 rfl ?_
            refine Z_istore_n C (L' := [(2, .int (T4 + (M.1 3 i))), (4, .int 0), (3, .int (nI i)), (0, .ref 0), (1, .int (nI 5))]) dX3_counted_171 rfl (by decide) rfl ?_
            refine Z_iinc C (L' := [(3, .int (nI (i + 1))), (2, .int (T4 + (M.1 3 i))), (4, .int 0), (0, .ref 0), (1, .int (nI 5))]) (v := nI (i + 1)) dX3_counted_172 rfl (nI_inc _) (by decide) rfl ?_
            refine Z_goto C 57 dX3_counted_175 (by decide) ?_
            rw [show (mc1 M 5) i T4 = T4 + (M.1 3 i) from by simp [mc1, c40, c42, c43]] at kk
            exact Z_sub (by simp [bI_t, bI_f]) kk
          · refine Z_iconst C (v := 1) dX3_counted_90 (by decide) ?_
            refine Z_goto C 95 dX3_counted_91 (by decide) ?_
            refine Z_istore C (L' := [(4, .int 1), (3, .int (nI i)), (2, .int T4), (0, .ref 0), (1, .int (nI 5))]) dX3_counted_95 (by decide) rfl ?_
            refine Z_iload_n C dX3_counted_97 rfl rfl ?_
            refine Z_iload_n C dX3_counted_98 rfl rfl ?_
            refine Z_iconst C (v := 2) dX3_counted_99 (by decide) ?_
            refine Z_icmp_ne C 107 dX3_counted_100 (by decide) (fun c47 => ?_) (fun c47 => absurd c47 (by decide))
            refine Z_iload_n C dX3_counted_107 rfl rfl ?_
            refine Z_iconst C (v := 3) dX3_counted_108 (by decide) ?_
            refine Z_icmp_ne C 125 dX3_counted_109 (by decide) (fun c48 => ?_) (fun c48 => absurd c48 (by decide))
            refine Z_iload_n C dX3_counted_125 rfl rfl ?_
            refine Z_iconst C (v := 5) dX3_counted_126 (by decide) ?_
            refine Z_icmp_ne C 139 dX3_counted_127 (by decide) (fun c49 => absurd c49 (by decide)) (fun c49 => ?_)
            refine Z_aload_n C dX3_counted_130 rfl rfl ?_
            refine Z_iload_n C dX3_counted_131 rfl rfl ?_
            refine Z_iconst C (v := 3) dX3_counted_132 (by decide) ?_
            refine Z_callV C (ws' := mdW 0 M) (st' := [.int (M.1 3 i), .int T4]) (rest := [.int T4]) [0, 1, 2, 3, 4, 5, 6] (c_X3_to M (nI i) 3 rfl (by omega) rfl (by decide)) m_X3_to K3 g_634 dX3_counted_133 rfl rfl rfl (outR _ _ _) (NW := 7) rfl rfl rfl rfl rfl ⟨Nat.le_of_ble_eq_true rfl, Nat.le_of_ble_eq_true rfl⟩ ⟨Nat.le_of_ble_eq_true rfl, Nat.le_of_ble_eq_true rfl⟩ (Nat.le_of_ble_eq_true rfl) rfl ?_
            refine Z_goto C 170 dX3_counted_136 (by decide) ?_
            refine Z_iadd C (v := T4 + (M.1 3 i)) dX3_counted_170 rfl ?_
            refine Z_istore_n C (L' := [(2, .int (T4 + (M.1 3 i))), (4, .int 1), (3, .int (nI i)), (0, .ref 0), (1, .int (nI 5))]) dX3_counted_171 rfl (by decide) rfl ?_
            refine Z_iinc C (L' := [(3, .int (nI (i + 1))), (2, .int (T4 + (M.1 3 i))), (4, .int 1), (0, .ref 0), (1, .int (nI 5))]) (v := nI (i + 1)) dX3_counted_172 rfl (nI_inc _) (by decide) rfl ?_
            refine Z_goto C 57 dX3_counted_175 (by decide) ?_
            rw [show (mc1 M 5) i T4 = T4 + (M.1 3 i) from by simp [mc1, c40, c42, c43]] at kk
            exact Z_sub (by simp [bI_t, bI_f]) kk
        · have c42 := bI_0.mp c42
          refine Z_goto C 172 dX3_counted_78 (by decide) ?_
          refine Z_iinc C (L' := [(3, .int (nI (i + 1))), (2, .int T4), (0, .ref 0), (1, .int (nI 5))]) (v := nI (i + 1)) dX3_counted_172 rfl (nI_inc _) (by decide) rfl ?_
          refine Z_goto C 57 dX3_counted_175 (by decide) ?_
          rw [show (mc1 M 5) i T4 = T4 from by simp [mc1, c40, c42]] at kk
          exact Z_sub (by simp [bI_t, bI_f]) kk
    · refine Z_iload_n C dX3_counted_25 rfl rfl ?_
      refine Z_aload_n C dX3_counted_26 rfl rfl ?_
      refine Z_get C K3 (v := .int (M.2.2.2 2)) 2 dX3_counted_27 rfl (by decide) g_574 rfl rfl ?_
      refine Z_icmp_ge C 55 dX3_counted_30 (by decide) (fun c50 => ?_) (fun c50 => ?_)
      · exact hE
      · refine Z_iload_n C dX3_counted_33 rfl rfl ?_
        refine Z_iconst C (v := 4) dX3_counted_34 (by decide) ?_
        refine Z_icmp_ne C 55 dX3_counted_35 (by decide) (fun c51 => ?_) (fun c51 => absurd c51 (by decide))
        exact hE
  · refine Z_iload_n C dX3_counted_2 rfl rfl ?_
    refine Z_if_ne C 13 dX3_counted_3 (by decide) (fun c52 => ?_) (fun c52 => absurd c52 (by decide))
    refine Z_iload_n C dX3_counted_13 rfl rfl ?_
    refine Z_iconst C (v := 1) dX3_counted_14 (by decide) ?_
    refine Z_icmp_ne C 23 dX3_counted_15 (by decide) (fun c53 => ?_) (fun c53 => absurd c53 (by decide))
    refine Z_iconst C (v := 0) dX3_counted_23 (by decide) ?_
    refine Z_istore_n C (L' := [(3, .int 0), (2, .int 0), (0, .ref 0), (1, .int (nI 6))]) dX3_counted_24 rfl (by decide) rfl ?_
    refine Z_join 55 [(3, .int 0), (2, .int 0), (0, .ref 0), (1, .int (nI 6))] [] ?_ (fun hE => ?_)
    · refine Z_iconst C (v := 0) dX3_counted_55 (by decide) ?_
      refine Z_istore_n C (L' := [(3, .int 0), (2, .int 0), (0, .ref 0), (1, .int (nI 6))]) dX3_counted_56 rfl (by decide) rfl ?_
      refine Zfor (σ := Int32) (fun i T5 => Z p l e _ s m args below meth c 5 G A h _ 0 0 (mdW 0 M) 57 [(3, .int (nI i)), (2, .int T5), (0, .ref 0), (1, .int (nI 6))] []) (fun i T5 => True) (mc1 M 6) n (0) trivial (fun i T5 hi hT5 => trivial) (fun T5 hT5 eT5 => ?_) (fun i T5 hi hT5 hT5' kk => ?_)
      · refine Z_iload_n C dX3_counted_57 rfl rfl ?_
        refine Z_aload_n C dX3_counted_58 rfl rfl ?_
        refine Z_get C K3 (v := .int (M.2.2.2 1)) 1 dX3_counted_59 rfl (by decide) g_573 rfl rfl ?_
        refine Z_icmp_ge C 178 dX3_counted_62 (by decide) (fun c54 => ?_) (fun c54 => absurd (ge_yes hn) c54)
        refine Z_iload_n C dX3_counted_178 rfl rfl ?_
        exact Z_iret C hr hlk dX3_counted_179 (congrArg (fun z => some (Value.int z)) (show (mCt M 6) = T5 from by subst eT5; simp [mCt, eN, eR])) rfl
      · refine Z_iload_n C dX3_counted_57 rfl rfl ?_
        refine Z_aload_n C dX3_counted_58 rfl rfl ?_
        refine Z_get C K3 (v := .int (M.2.2.2 1)) 1 dX3_counted_59 rfl (by decide) g_573 rfl rfl ?_
        refine Z_icmp_ge C 178 dX3_counted_62 (by decide) (fun c55 => absurd c55 (ge_no hn h40 hi)) (fun c55 => ?_)
        refine Z_iload_n C dX3_counted_65 rfl rfl ?_
        refine Z_iconst C (v := 4) dX3_counted_66 (by decide) ?_
        refine Z_icmp_eq C 178 dX3_counted_67 (by decide) (fun c56 => absurd c56 (by decide)) (fun c56 => ?_)
        refine Z_aload_n C dX3_counted_70 rfl rfl ?_
        refine Z_iload_n C dX3_counted_71 rfl rfl ?_
        refine Z_callV C (ws' := mdW 0 M) (st' := [.int (bI (mHg M i))]) (rest := []) [0, 1, 2, 3, 4, 5, 6] (c_X3_hangs M (nI i) rfl (by omega)) m_X3_hangs K3 g_630 dX3_counted_72 rfl rfl rfl (outR _ _ _) (NW := 7) rfl rfl rfl rfl rfl ⟨Nat.le_of_ble_eq_true rfl, Nat.le_of_ble_eq_true rfl⟩ ⟨Nat.le_of_ble_eq_true rfl, Nat.le_of_ble_eq_true rfl⟩ (Nat.le_of_ble_eq_true rfl) rfl ?_
        refine Z_if_ne C 81 dX3_counted_75 (by decide) (fun c57 => ?_) (fun c57 => ?_)
        · have c57 := bI_n0.mp c57
          refine Z_aload_n C dX3_counted_81 rfl rfl ?_
          refine Z_iload_n C dX3_counted_82 rfl rfl ?_
          refine Z_iconst C (v := 3) dX3_counted_83 (by decide) ?_
          refine Z_callV C (ws' := mdW 0 M) (st' := [.int (M.1 3 i)]) (rest := []) [0, 1, 2, 3, 4, 5, 6] (c_X3_to M (nI i) 3 rfl (by omega) rfl (by decide)) m_X3_to K3 g_634 dX3_counted_84 rfl rfl rfl (outR _ _ _) (NW := 7) rfl rfl rfl rfl rfl ⟨Nat.le_of_ble_eq_true rfl, Nat.le_of_ble_eq_true rfl⟩ ⟨Nat.le_of_ble_eq_true rfl, Nat.le_of_ble_eq_true rfl⟩ (Nat.le_of_ble_eq_true rfl) rfl ?_
          refine Z_if_le C 94 dX3_counted_87 (by decide) (fun c58 => ?_) (fun c58 => ?_)
          · refine Z_iconst C (v := 0) dX3_counted_94 (by decide) ?_
            refine Z_istore C (L' := [(4, .int 0), (3, .int (nI i)), (2, .int T5), (0, .ref 0), (1, .int (nI 6))]) dX3_counted_95 (by decide) rfl ?_
            refine Z_iload_n C dX3_counted_97 rfl rfl ?_
            refine Z_iload_n C dX3_counted_98 rfl rfl ?_
            refine Z_iconst C (v := 2) dX3_counted_99 (by decide) ?_
            refine Z_icmp_ne C 107 dX3_counted_100 (by decide) (fun c59 => ?_) (fun c59 => absurd c59 (by decide))
            refine Z_iload_n C dX3_counted_107 rfl rfl ?_
            refine Z_iconst C (v := 3) dX3_counted_108 (by decide) ?_
            refine Z_icmp_ne C 125 dX3_counted_109 (by decide) (fun c60 => ?_) (fun c60 => absurd c60 (by decide))
            refine Z_iload_n C dX3_counted_125 rfl rfl ?_
            refine Z_iconst C (v := 5) dX3_counted_126 (by decide) ?_
            refine Z_icmp_ne C 139 dX3_counted_127 (by decide) (fun c61 => ?_) (fun c61 => absurd c61 (by decide))
            refine Z_iload_n C dX3_counted_139 rfl rfl ?_
            refine Z_bipush C (v := 6) dX3_counted_140 (by decide) ?_
            refine Z_icmp_ne C 155 dX3_counted_142 (by decide) (fun c62 => absurd c62 (by decide)) (fun c62 => ?_)
            refine Z_aload_n C dX3_counted_145 rfl rfl ?_
            refine Z_iload_n C dX3_counted_146 rfl rfl ?_
            refine Z_bipush C (v := 6) dX3_counted_147 (by decide) ?_
            refine Z_callV C (ws' := mdW 0 M) (st' := [.int (M.1 6 i), .int T5]) (rest := [.int T5]) [0, 1, 2, 3, 4, 5, 6] (c_X3_to M (nI i) 6 rfl (by omega) rfl (by decide)) m_X3_to K3 g_634 dX3_counted_149 rfl rfl rfl (outR _ _ _) (NW := 7) rfl rfl rfl rfl rfl ⟨Nat.le_of_ble_eq_true rfl, Nat.le_of_ble_eq_true rfl⟩ ⟨Nat.le_of_ble_eq_true rfl, Nat.le_of_ble_eq_true rfl⟩ (Nat.le_of_ble_eq_true rfl) rfl ?_
            refine Z_goto C 170 dX3_counted_152 (by decide) ?_
            refine Z_iadd C (v := T5 + (M.1 6 i)) dX3_counted_170 rfl ?_
            refine Z_istore_n C (L' := [(2, .int (T5 + (M.1 6 i))), (4, .int 0), (3, .int (nI i)), (0, .ref 0), (1, .int (nI 6))]) dX3_counted_171 rfl (by decide) rfl ?_
            refine Z_iinc C (L' := [(3, .int (nI (i + 1))), (2, .int (T5 + (M.1 6 i))), (4, .int 0), (0, .ref 0), (1, .int (nI 6))]) (v := nI (i + 1)) dX3_counted_172 rfl (nI_inc _) (by decide) rfl ?_
            refine Z_goto C 57 dX3_counted_175 (by decide) ?_
            rw [show (mc1 M 6) i T5 = T5 + (M.1 6 i) from by simp [mc1, c55, c57, c58]] at kk
            exact Z_sub (by simp [bI_t, bI_f]) kk
          · refine Z_iconst C (v := 1) dX3_counted_90 (by decide) ?_
            refine Z_goto C 95 dX3_counted_91 (by decide) ?_
            refine Z_istore C (L' := [(4, .int 1), (3, .int (nI i)), (2, .int T5), (0, .ref 0), (1, .int (nI 6))]) dX3_counted_95 (by decide) rfl ?_
            refine Z_iload_n C dX3_counted_97 rfl rfl ?_
            refine Z_iload_n C dX3_counted_98 rfl rfl ?_
            refine Z_iconst C (v := 2) dX3_counted_99 (by decide) ?_
            refine Z_icmp_ne C 107 dX3_counted_100 (by decide) (fun c63 => ?_) (fun c63 => absurd c63 (by decide))
            refine Z_iload_n C dX3_counted_107 rfl rfl ?_
            refine Z_iconst C (v := 3) dX3_counted_108 (by decide) ?_
            refine Z_icmp_ne C 125 dX3_counted_109 (by decide) (fun c64 => ?_) (fun c64 => absurd c64 (by decide))
            refine Z_iload_n C dX3_counted_125 rfl rfl ?_
            refine Z_iconst C (v := 5) dX3_counted_126 (by decide) ?_
            refine Z_icmp_ne C 139 dX3_counted_127 (by decide) (fun c65 => ?_) (fun c65 => absurd c65 (by decide))
            refine Z_iload_n C dX3_counted_139 rfl rfl ?_
            refine Z_bipush C (v := 6) dX3_counted_140 (by decide) ?_
            refine Z_icmp_ne C 155 dX3_counted_142 (by decide) (fun c66 => absurd c66 (by decide)) (fun c66 => ?_)
            refine Z_aload_n C dX3_counted_145 rfl rfl ?_
            refine Z_iload_n C dX3_counted_146 rfl rfl ?_
            refine Z_bipush C (v := 6) dX3_counted_147 (by decide) ?_
            refine Z_callV C (ws' := mdW 0 M) (st' := [.int (M.1 6 i), .int T5]) (rest := [.int T5]) [0, 1, 2, 3, 4, 5, 6] (c_X3_to M (nI i) 6 rfl (by omega) rfl (by decide)) m_X3_to K3 g_634 dX3_counted_149 rfl rfl rfl (outR _ _ _) (NW := 7) rfl rfl rfl rfl rfl ⟨Nat.le_of_ble_eq_true rfl, Nat.le_of_ble_eq_true rfl⟩ ⟨Nat.le_of_ble_eq_true rfl, Nat.le_of_ble_eq_true rfl⟩ (Nat.le_of_ble_eq_true rfl) rfl ?_
            refine Z_goto C 170 dX3_counted_152 (by decide) ?_
            refine Z_iadd C (v := T5 + (M.1 6 i)) dX3_counted_170 rfl ?_
            refine Z_istore_n C (L' := [(2, .int (T5 + (M.1 6 i))), (4, .int 1), (3, .int (nI i)), (0, .ref 0), (1, .int (nI 6))]) dX3_counted_171 rfl (by decide) rfl ?_
            refine Z_iinc C (L' := [(3, .int (nI (i + 1))), (2, .int (T5 + (M.1 6 i))), (4, .int 1), (0, .ref 0), (1, .int (nI 6))]) (v := nI (i + 1)) dX3_counted_172 rfl (nI_inc _) (by decide) rfl ?_
            refine Z_goto C 57 dX3_counted_175 (by decide) ?_
            rw [show (mc1 M 6) i T5 = T5 + (M.1 6 i) from by simp [mc1, c55, c57, c58]] at kk
            exact Z_sub (by simp [bI_t, bI_f]) kk
        · have c57 := bI_0.mp c57
          refine Z_goto C 172 dX3_counted_78 (by decide) ?_
          refine Z_iinc C (L' := [(3, .int (nI (i + 1))), (2, .int T5), (0, .ref 0), (1, .int (nI 6))]) (v := nI (i + 1)) dX3_counted_172 rfl (nI_inc _) (by decide) rfl ?_
          refine Z_goto C 57 dX3_counted_175 (by decide) ?_
          rw [show (mc1 M 6) i T5 = T5 from by simp [mc1, c55, c57]] at kk
          exact Z_sub (by simp [bI_t, bI_f]) kk
    · refine Z_iload_n C dX3_counted_25 rfl rfl ?_
      refine Z_aload_n C dX3_counted_26 rfl rfl ?_
      refine Z_get C K3 (v := .int (M.2.2.2 2)) 2 dX3_counted_27 rfl (by decide) g_574 rfl rfl ?_
      refine Z_icmp_ge C 55 dX3_counted_30 (by decide) (fun c67 => ?_) (fun c67 => ?_)
      · exact hE
      · refine Z_iload_n C dX3_counted_33 rfl rfl ?_
        refine Z_iconst C (v := 4) dX3_counted_34 (by decide) ?_
        refine Z_icmp_ne C 55 dX3_counted_35 (by decide) (fun c68 => ?_) (fun c68 => absurd c68 (by decide))
        exact hE
  · refine Z_iload_n C dX3_counted_2 rfl rfl ?_
    refine Z_if_ne C 13 dX3_counted_3 (by decide) (fun c69 => ?_) (fun c69 => absurd c69 (by decide))
    refine Z_iload_n C dX3_counted_13 rfl rfl ?_
    refine Z_iconst C (v := 1) dX3_counted_14 (by decide) ?_
    refine Z_icmp_ne C 23 dX3_counted_15 (by decide) (fun c70 => ?_) (fun c70 => absurd c70 (by decide))
    refine Z_iconst C (v := 0) dX3_counted_23 (by decide) ?_
    refine Z_istore_n C (L' := [(3, .int 0), (2, .int 0), (0, .ref 0), (1, .int (nI 7))]) dX3_counted_24 rfl (by decide) rfl ?_
    refine Z_join 55 [(3, .int 0), (2, .int 0), (0, .ref 0), (1, .int (nI 7))] [] ?_ (fun hE => ?_)
    · refine Z_iconst C (v := 0) dX3_counted_55 (by decide) ?_
      refine Z_istore_n C (L' := [(3, .int 0), (2, .int 0), (0, .ref 0), (1, .int (nI 7))]) dX3_counted_56 rfl (by decide) rfl ?_
      refine Zfor (σ := Int32) (fun i T6 => Z p l e _ s m args below meth c 5 G A h _ 0 0 (mdW 0 M) 57 [(3, .int (nI i)), (2, .int T6), (0, .ref 0), (1, .int (nI 7))] []) (fun i T6 => True) (mc1 M 7) n (0) trivial (fun i T6 hi hT6 => trivial) (fun T6 hT6 eT6 => ?_) (fun i T6 hi hT6 hT6' kk => ?_)
      · refine Z_iload_n C dX3_counted_57 rfl rfl ?_
        refine Z_aload_n C dX3_counted_58 rfl rfl ?_
        refine Z_get C K3 (v := .int (M.2.2.2 1)) 1 dX3_counted_59 rfl (by decide) g_573 rfl rfl ?_
        refine Z_icmp_ge C 178 dX3_counted_62 (by decide) (fun c71 => ?_) (fun c71 => absurd (ge_yes hn) c71)
        refine Z_iload_n C dX3_counted_178 rfl rfl ?_
        exact Z_iret C hr hlk dX3_counted_179 (congrArg (fun z => some (Value.int z)) (show (mCt M 7) = T6 from by subst eT6; simp [mCt, eN, eR])) rfl
      · refine Z_iload_n C dX3_counted_57 rfl rfl ?_
        refine Z_aload_n C dX3_counted_58 rfl rfl ?_
        refine Z_get C K3 (v := .int (M.2.2.2 1)) 1 dX3_counted_59 rfl (by decide) g_573 rfl rfl ?_
        refine Z_icmp_ge C 178 dX3_counted_62 (by decide) (fun c72 => absurd c72 (ge_no hn h40 hi)) (fun c72 => ?_)
        refine Z_iload_n C dX3_counted_65 rfl rfl ?_
        refine Z_iconst C (v := 4) dX3_counted_66 (by decide) ?_
        refine Z_icmp_eq C 178 dX3_counted_67 (by decide) (fun c73 => absurd c73 (by decide)) (fun c73 => ?_)
        refine Z_aload_n C dX3_counted_70 rfl rfl ?_
        refine Z_iload_n C dX3_counted_71 rfl rfl ?_
        refine Z_callV C (ws' := mdW 0 M) (st' := [.int (bI (mHg M i))]) (rest := []) [0, 1, 2, 3, 4, 5, 6] (c_X3_hangs M (nI i) rfl (by omega)) m_X3_hangs K3 g_630 dX3_counted_72 rfl rfl rfl (outR _ _ _) (NW := 7) rfl rfl rfl rfl rfl ⟨Nat.le_of_ble_eq_true rfl, Nat.le_of_ble_eq_true rfl⟩ ⟨Nat.le_of_ble_eq_true rfl, Nat.le_of_ble_eq_true rfl⟩ (Nat.le_of_ble_eq_true rfl) rfl ?_
        refine Z_if_ne C 81 dX3_counted_75 (by decide) (fun c74 => ?_) (fun c74 => ?_)
        · have c74 := bI_n0.mp c74
          refine Z_aload_n C dX3_counted_81 rfl rfl ?_
          refine Z_iload_n C dX3_counted_82 rfl rfl ?_
          refine Z_iconst C (v := 3) dX3_counted_83 (by decide) ?_
          refine Z_callV C (ws' := mdW 0 M) (st' := [.int (M.1 3 i)]) (rest := []) [0, 1, 2, 3, 4, 5, 6] (c_X3_to M (nI i) 3 rfl (by omega) rfl (by decide)) m_X3_to K3 g_634 dX3_counted_84 rfl rfl rfl (outR _ _ _) (NW := 7) rfl rfl rfl rfl rfl ⟨Nat.le_of_ble_eq_true rfl, Nat.le_of_ble_eq_true rfl⟩ ⟨Nat.le_of_ble_eq_true rfl, Nat.le_of_ble_eq_true rfl⟩ (Nat.le_of_ble_eq_true rfl) rfl ?_
          refine Z_if_le C 94 dX3_counted_87 (by decide) (fun c75 => ?_) (fun c75 => ?_)
          · refine Z_iconst C (v := 0) dX3_counted_94 (by decide) ?_
            refine Z_istore C (L' := [(4, .int 0), (3, .int (nI i)), (2, .int T6), (0, .ref 0), (1, .int (nI 7))]) dX3_counted_95 (by decide) rfl ?_
            refine Z_iload_n C dX3_counted_97 rfl rfl ?_
            refine Z_iload_n C dX3_counted_98 rfl rfl ?_
            refine Z_iconst C (v := 2) dX3_counted_99 (by decide) ?_
            refine Z_icmp_ne C 107 dX3_counted_100 (by decide) (fun c76 => ?_) (fun c76 => absurd c76 (by decide))
            refine Z_iload_n C dX3_counted_107 rfl rfl ?_
            refine Z_iconst C (v := 3) dX3_counted_108 (by decide) ?_
            refine Z_icmp_ne C 125 dX3_counted_109 (by decide) (fun c77 => ?_) (fun c77 => absurd c77 (by decide))
            refine Z_iload_n C dX3_counted_125 rfl rfl ?_
            refine Z_iconst C (v := 5) dX3_counted_126 (by decide) ?_
            refine Z_icmp_ne C 139 dX3_counted_127 (by decide) (fun c78 => ?_) (fun c78 => absurd c78 (by decide))
            refine Z_iload_n C dX3_counted_139 rfl rfl ?_
            refine Z_bipush C (v := 6) dX3_counted_140 (by decide) ?_
            refine Z_icmp_ne C 155 dX3_counted_142 (by decide) (fun c79 => ?_) (fun c79 => absurd c79 (by decide))
            refine Z_iload C dX3_counted_155 rfl ?_
            refine Z_if_eq C 169 dX3_counted_157 (by decide) (fun c80 => ?_) (fun c80 => absurd rfl c80)
            refine Z_iconst C (v := 0) dX3_counted_169 (by decide) ?_
            refine Z_iadd C (v := T6 + 0) dX3_counted_170 rfl ?_
            refine Z_istore_n C (L' := [(2, .int (T6 + 0)), (4, .int 0), (3, .int (nI i)), (0, .ref 0), (1, .int (nI 7))]) dX3_counted_171 rfl (by decide) rfl ?_
            refine Z_iinc C (L' := [(3, .int (nI (i + 1))), (2, .int (T6 + 0)), (4, .int 0), (0, .ref 0), (1, .int (nI 7))]) (v := nI (i + 1)) dX3_counted_172 rfl (nI_inc _) (by decide) rfl ?_
            refine Z_goto C 57 dX3_counted_175 (by decide) ?_
            rw [show (mc1 M 7) i T6 = T6 + 0 from by simp [mc1, c72, c74, c75]] at kk
            exact Z_sub (by simp [bI_t, bI_f]) kk
          · refine Z_iconst C (v := 1) dX3_counted_90 (by decide) ?_
            refine Z_goto C 95 dX3_counted_91 (by decide) ?_
            refine Z_istore C (L' := [(4, .int 1), (3, .int (nI i)), (2, .int T6), (0, .ref 0), (1, .int (nI 7))]) dX3_counted_95 (by decide) rfl ?_
            refine Z_iload_n C dX3_counted_97 rfl rfl ?_
            refine Z_iload_n C dX3_counted_98 rfl rfl ?_
            refine Z_iconst C (v := 2) dX3_counted_99 (by decide) ?_
            refine Z_icmp_ne C 107 dX3_counted_100 (by decide) (fun c81 => ?_) (fun c81 => absurd c81 (by decide))
            refine Z_iload_n C dX3_counted_107 rfl rfl ?_
            refine Z_iconst C (v := 3) dX3_counted_108 (by decide) ?_
            refine Z_icmp_ne C 125 dX3_counted_109 (by decide) (fun c82 => ?_) (fun c82 => absurd c82 (by decide))
            refine Z_iload_n C dX3_counted_125 rfl rfl ?_
            refine Z_iconst C (v := 5) dX3_counted_126 (by decide) ?_
            refine Z_icmp_ne C 139 dX3_counted_127 (by decide) (fun c83 => ?_) (fun c83 => absurd c83 (by decide))
            refine Z_iload_n C dX3_counted_139 rfl rfl ?_
            refine Z_bipush C (v := 6) dX3_counted_140 (by decide) ?_
            refine Z_icmp_ne C 155 dX3_counted_142 (by decide) (fun c84 => ?_) (fun c84 => absurd c84 (by decide))
            refine Z_iload C dX3_counted_155 rfl ?_
            refine Z_if_eq C 169 dX3_counted_157 (by decide) (fun c85 => absurd c85 (by decide)) (fun c85 => ?_)
            refine Z_aload_n C dX3_counted_160 rfl rfl ?_
            refine Z_get C K3 (v := .ref 4) 6 dX3_counted_161 rfl (by decide) g_578 rfl rfl ?_
            refine Z_iload_n C dX3_counted_164 rfl rfl ?_
            refine Z_iaN C (v := M.2.2.1 1 i) dX3_counted_165 rfl (by omega) (by decide) rfl ?_
            refine Z_goto C 170 dX3_counted_166 (by decide) ?_
            refine Z_iadd C (v := T6 + (M.2.2.1 1 i)) dX3_counted_170 rfl ?_
            refine Z_istore_n C (L' := [(2, .int (T6 + (M.2.2.1 1 i))), (4, .int 1), (3, .int (nI i)), (0, .ref 0), (1, .int (nI 7))]) dX3_counted_171 rfl (by decide) rfl ?_
            refine Z_iinc C (L' := [(3, .int (nI (i + 1))), (2, .int (T6 + (M.2.2.1 1 i))), (4, .int 1), (0, .ref 0), (1, .int (nI 7))]) (v := nI (i + 1)) dX3_counted_172 rfl (nI_inc _) (by decide) rfl ?_
            refine Z_goto C 57 dX3_counted_175 (by decide) ?_
            rw [show (mc1 M 7) i T6 = T6 + (M.2.2.1 1 i) from by simp [mc1, c72, c74, c75]] at kk
            exact Z_sub (by simp [bI_t, bI_f]) kk
        · have c74 := bI_0.mp c74
          refine Z_goto C 172 dX3_counted_78 (by decide) ?_
          refine Z_iinc C (L' := [(3, .int (nI (i + 1))), (2, .int T6), (0, .ref 0), (1, .int (nI 7))]) (v := nI (i + 1)) dX3_counted_172 rfl (nI_inc _) (by decide) rfl ?_
          refine Z_goto C 57 dX3_counted_175 (by decide) ?_
          rw [show (mc1 M 7) i T6 = T6 from by simp [mc1, c72, c74]] at kk
          exact Z_sub (by simp [bI_t, bI_f]) kk
    · refine Z_iload_n C dX3_counted_25 rfl rfl ?_
      refine Z_aload_n C dX3_counted_26 rfl rfl ?_
      refine Z_get C K3 (v := .int (M.2.2.2 2)) 2 dX3_counted_27 rfl (by decide) g_574 rfl rfl ?_
      refine Z_icmp_ge C 55 dX3_counted_30 (by decide) (fun c86 => ?_) (fun c86 => ?_)
      · exact hE
      · refine Z_iload_n C dX3_counted_33 rfl rfl ?_
        refine Z_iconst C (v := 4) dX3_counted_34 (by decide) ?_
        refine Z_icmp_ne C 55 dX3_counted_35 (by decide) (fun c87 => ?_) (fun c87 => absurd c87 (by decide))
        exact hE
set_option maxHeartbeats 4000000 in
set_option maxRecDepth 20000 in
theorem c_X3_count (M : Md) (x : Int32) {n r : Nat} (hn : M.2.2.2 1 = nI n) (h40 : n ≤ 40) (hq : M.2.2.2 2 = nI r) (h30 : r ≤ 30) (ho : okM n M) : CT yX3_count cX3_count 2 (some .int) 3 0 0 [.ref 0, .int x] (mdW 0 M) (some (.int ((mCount M x).2))) (mdW 0 ((mCount M x).1)) := by
  refine CT_of (L := [(0, .ref 0), (1, .int x)]) (by decide) (fun _ => rfl) (fun _ => Nat.le_of_ble_eq_true rfl) ?_
  intro p l e s m args below meth c G h A C hr hlk _
  have eN : mN M = n := mN_eq hn h40; have eR : mR M = r := mR_eq hq h30
  refine Z_aload_n C dX3_count_0 rfl rfl ?_
  refine Z_iconst C (v := 0) dX3_count_1 (by decide) ?_
  refine Z_put C K3 (ws' := mdW 0 (mI M 0 0)) 0 dX3_count_2 rfl (by decide) g_572 rfl rfl rfl rfl rfl (Nat.le_of_ble_eq_true rfl) rfl ?_
  refine Z_iload_n C dX3_count_5 rfl rfl ?_
  refine Z_iconst C (v := 0) dX3_count_6 (by decide) ?_
  refine Z_bipush C (v := 7) dX3_count_7 (by decide) ?_
  refine Z_callS C (ws' := mdW 0 (mI M 0 0)) (st' := [.int (bI (isInB x 0 7))]) (rest := []) [] (c_X3_isIn x 0 7) m_X3_isIn g_608 dX3_count_9 rfl rfl rfl (outR _ _ _) (NW := 7) rfl rfl rfl rfl ⟨Nat.le_of_ble_eq_true rfl, Nat.le_of_ble_eq_true rfl⟩ ⟨Nat.le_of_ble_eq_true rfl, Nat.le_of_ble_eq_true rfl⟩ (Nat.le_of_ble_eq_true rfl) rfl ?_
  refine Z_if_ne C 21 dX3_count_12 (by decide) (fun c1 => ?_) (fun c1 => ?_)
  · have c1 := bI_n0.mp c1
    obtain ⟨w, hw, qw⟩ := isIn_lit 7 rfl (by decide) c1
    subst qw
    have ew : ix (nI w) = w := ix_nI (by omega)
    refine Z_aload_n C dX3_count_21 rfl rfl ?_
    refine Z_callV C (ws' := mdW 0 (mRk (mI M 0 0))) (st' := []) (rest := []) [0, 1, 2, 3, 4, 5, 6] (c_X3_reckon (mI M 0 0) hn h40 hq h30 ho) m_X3_reckon K3 g_626 dX3_count_22 rfl rfl rfl (outL 7 rfl rfl rfl) (NW := 7) rfl rfl rfl rfl rfl ⟨Nat.le_of_ble_eq_true rfl, Nat.le_of_ble_eq_true rfl⟩ ⟨Nat.le_of_ble_eq_true rfl, Nat.le_of_ble_eq_true rfl⟩ (Nat.le_of_ble_eq_true rfl) rfl ?_
    refine Z_ws (fun X1 => mdW 0 X1) (mRk (mI M 0 0)) (fun X1 eX1 => ?_)
    refine Z_aload_n C dX3_count_25 rfl rfl ?_
    refine Z_iload_n C dX3_count_26 rfl rfl ?_
    refine Z_callV C (ws' := mdW 0 X1) (st' := [.int (mCt X1 w)]) (rest := []) [0, 1, 2, 3, 4, 5, 6] (c_X3_counted X1 (nI w) (show X1.2.2.2 1 = nI n from by rw [eX1]; exact ((congrFun (mi_Rk (mI M 0 0)) 1).trans hn)) h40 (show X1.2.2.2 2 = nI r from by rw [eX1]; exact ((congrFun (mi_Rk (mI M 0 0)) 2).trans hq)) h30 (show okM n X1 from by rw [eX1]; exact (ok_Rk ho)) rfl (by first | decide | omega)) m_X3_counted K3 g_723 dX3_count_27 rfl rfl rfl (outR _ _ _) (NW := 7) rfl rfl rfl rfl rfl ⟨Nat.le_of_ble_eq_true rfl, Nat.le_of_ble_eq_true rfl⟩ ⟨Nat.le_of_ble_eq_true rfl, Nat.le_of_ble_eq_true rfl⟩ (Nat.le_of_ble_eq_true rfl) rfl ?_
    exact Z_iret C hr hlk dX3_count_30 (congrArg (fun z => some (Value.int z)) (show ((mCount M (nI w)).2) = (mCt X1 w) from by subst eX1; simp [mCount, c1, ew, eN, eR])) (by rw [show ((mCount M (nI w)).1) = X1 from by subst eX1; simp [mCount, c1, ew, eN, eR]])
  · have c1 := bI_0.mp c1
    refine Z_aload_n C dX3_count_15 rfl rfl ?_
    refine Z_iconst C (v := 1) dX3_count_16 (by decide) ?_
    refine Z_callV C (ws' := mdW 0 (mI (mI M 0 0) 0 1)) (st' := [.int 0]) (rest := []) [0, 1, 2, 3, 4, 5, 6] (c_X3_fail (mI M 0 0) 1) m_X3_fail K3 g_611 dX3_count_17 rfl rfl rfl (outL 7 rfl rfl rfl) (NW := 7) rfl rfl rfl rfl rfl ⟨Nat.le_of_ble_eq_true rfl, Nat.le_of_ble_eq_true rfl⟩ ⟨Nat.le_of_ble_eq_true rfl, Nat.le_of_ble_eq_true rfl⟩ (Nat.le_of_ble_eq_true rfl) rfl ?_
    exact Z_iret C hr hlk dX3_count_20 (congrArg (fun z => some (Value.int z)) (show ((mCount M x).2) = 0 from by simp [mCount, c1, eN, eR])) (by rw [show ((mCount M x).1) = (mI (mI M 0 0) 0 1) from by simp [mCount, c1, eN, eR]])
set_option maxHeartbeats 4000000 in
set_option maxRecDepth 20000 in
theorem c_X3_dayOn (M : Md) {n r : Nat} (hn : M.2.2.2 1 = nI n) (h40 : n ≤ 40) (hq : M.2.2.2 2 = nI r) (h30 : r ≤ 30) (ho : okM n M) : CT yX3_dayOn cX3_dayOn 2 none 6 0 0 [.ref 0] (mdW 0 M) none (mdW 0 (mDy M)) := by
  refine CT_of (L := [(0, .ref 0)]) (by decide) (fun _ => rfl) (fun _ => Nat.le_of_ble_eq_true rfl) ?_
  intro p l e s m args below meth c G h A C hr hlk _
  refine Z_iconst C (v := 0) dX3_dayOn_0 (by decide) ?_
  refine Z_istore_n C (L' := [(1, .int 0), (0, .ref 0)]) dX3_dayOn_1 rfl (by decide) rfl ?_
  refine Zfor (σ := Md) (fun i T1 => Z p l e _ s m args below meth c 2 G A h _ 0 0 (mdW 0 T1) 2 [(1, .int (nI i)), (0, .ref 0)] []) (fun i T1 => T1.2.2.2 1 = nI n ∧ T1.2.2.2 2 = nI r ∧ okM n T1) (mdy0) n (M) (⟨hn, hq, ho⟩) (fun i T1 hi hT1 => ⟨hT1.1, hT1.2.1, ok_dy0 hT1.2.2⟩) (fun T1 hT1 eT1 => ?_) (fun i T1 hi hT1 hT1' kk => ?_)
  · refine Z_iload_n C dX3_dayOn_2 rfl rfl ?_
    refine Z_aload_n C dX3_dayOn_3 rfl rfl ?_
    refine Z_get C K3 (v := .int (T1.2.2.2 1)) 1 dX3_dayOn_4 rfl (by decide) g_573 rfl rfl ?_
    refine Z_icmp_ge C 34 dX3_dayOn_7 (by decide) (fun c1 => ?_) (fun c1 => absurd (ge_yes hT1.1) c1)
    refine Z_aload_n C dX3_dayOn_34 rfl rfl ?_
    refine Z_callV C (ws' := mdW 0 (mDrop T1)) (st' := []) (rest := []) [0, 1, 2, 3, 4, 5, 6] (c_X3_drop T1 hT1.1 h40 hT1.2.1 h30 hT1.2.2) m_X3_drop K3 g_651 dX3_dayOn_35 rfl rfl rfl (outL 7 rfl rfl rfl) (NW := 7) rfl rfl rfl rfl rfl ⟨Nat.le_of_ble_eq_true rfl, Nat.le_of_ble_eq_true rfl⟩ ⟨Nat.le_of_ble_eq_true rfl, Nat.le_of_ble_eq_true rfl⟩ (Nat.le_of_ble_eq_true rfl) rfl ?_
    refine Z_ws (fun X1 => mdW 0 X1) (mDrop T1) (fun X1 eX1 => ?_)
    refine Z_aload_n C dX3_dayOn_38 rfl rfl ?_
    refine Z_callV C (ws' := mdW 0 (mGv X1)) (st' := []) (rest := []) [0, 1, 2, 3, 4, 5, 6] (c_X3_giveWay X1 (show X1.2.2.2 1 = nI n from by rw [eX1]; exact ((congrFun (mi_Drop T1) 1).trans hT1.1)) h40 (show X1.2.2.2 2 = nI r from by rw [eX1]; exact ((congrFun (mi_Drop T1) 2).trans hT1.2.1)) h30 (show okM n X1 from by rw [eX1]; exact (ok_Drop hT1.1 h40 hT1.2.2))) m_X3_giveWay K3 g_622 dX3_dayOn_39 rfl rfl rfl (outL 7 rfl rfl rfl) (NW := 7) rfl rfl rfl rfl rfl ⟨Nat.le_of_ble_eq_true rfl, Nat.le_of_ble_eq_true rfl⟩ ⟨Nat.le_of_ble_eq_true rfl, Nat.le_of_ble_eq_true rfl⟩ (Nat.le_of_ble_eq_true rfl) rfl ?_
    refine Z_ws (fun X2 => mdW 0 X2) (mGv X1) (fun X2 eX2 => ?_)
    refine Z_aload_n C dX3_dayOn_42 rfl rfl ?_
    refine Z_get C K3 (v := .ref 3) 5 dX3_dayOn_43 rfl (by decide) g_577 rfl rfl ?_
    refine Z_iconst C (v := 0) dX3_dayOn_46 (by decide) ?_
    refine Z_dup2_11 C dX3_dayOn_47 rfl rfl ?_
    refine Z_iaN C (j := 0) (v := X2.2.2.1 0 0) dX3_dayOn_48 rfl (by decide) (by decide) rfl ?_
    refine Z_iconst C (v := 1) dX3_dayOn_49 (by decide) ?_
    refine Z_iadd C (v := (X2.2.2.1 0 0) + 1) dX3_dayOn_50 rfl ?_
    refine Z_isN C (j := 0) (ws' := mdW 0 (aA X2 0 0 ((X2.2.2.1 0 0) + 1))) dX3_dayOn_51 rfl (by decide) (by decide) rfl ?_
    exact Z_vret C hr hlk dX3_dayOn_52 rfl (by rw [show (mDy M) = (aA X2 0 0 ((X2.2.2.1 0 0) + 1)) from by subst eT1 eX1 eX2; rw [mDy, dyU, mDyG, mN_eq hn h40]])
  · refine Z_iload_n C dX3_dayOn_2 rfl rfl ?_
    refine Z_aload_n C dX3_dayOn_3 rfl rfl ?_
    refine Z_get C K3 (v := .int (T1.2.2.2 1)) 1 dX3_dayOn_4 rfl (by decide) g_573 rfl rfl ?_
    refine Z_icmp_ge C 34 dX3_dayOn_7 (by decide) (fun c2 => absurd c2 (ge_no hT1.1 h40 hi)) (fun c2 => ?_)
    refine Z_aload_n C dX3_dayOn_10 rfl rfl ?_
    refine Z_iload_n C dX3_dayOn_11 rfl rfl ?_
    refine Z_iconst C (v := 3) dX3_dayOn_12 (by decide) ?_
    refine Z_iconst C (v := 0) dX3_dayOn_13 (by decide) ?_
    refine Z_aload_n C dX3_dayOn_14 rfl rfl ?_
    refine Z_iload_n C dX3_dayOn_15 rfl rfl ?_
    refine Z_iconst C (v := 3) dX3_dayOn_16 (by decide) ?_
    refine Z_callV C (ws' := mdW 0 T1) (st' := [.int (T1.1 3 i), .int 0, .int 3, .int (nI i), .ref 0]) (rest := [.int 0, .int 3, .int (nI i), .ref 0]) [0, 1, 2, 3, 4, 5, 6] (c_X3_to T1 (nI i) 3 rfl (by omega) rfl (by decide)) m_X3_to K3 g_634 dX3_dayOn_17 rfl rfl rfl (outR _ _ _) (NW := 7) rfl rfl rfl rfl rfl ⟨Nat.le_of_ble_eq_true rfl, Nat.le_of_ble_eq_true rfl⟩ ⟨Nat.le_of_ble_eq_true rfl, Nat.le_of_ble_eq_true rfl⟩ (Nat.le_of_ble_eq_true rfl) rfl ?_
    refine Z_iconst C (v := 2) dX3_dayOn_20 (by decide) ?_
    refine Z_isub C (v := (T1.1 3 i) - 2) dX3_dayOn_21 rfl ?_
    refine Z_mmax C (v := mx 0 ((T1.1 3 i) - 2)) dX3_dayOn_22 g_638 g_328 g_46 g_329 (Nat.le_of_ble_eq_true rfl) (Nat.le_of_ble_eq_true rfl) ⟨Nat.le_of_ble_eq_true rfl, Nat.le_of_ble_eq_true rfl⟩ rfl ?_
    refine Z_callV C (ws' := mdW 0 (tA T1 3 i (mx 0 ((T1.1 3 i) - 2)))) (st' := []) (rest := []) [0, 1, 2, 3, 4, 5, 6] (c_X3_put T1 (nI i) 3 (mx 0 ((T1.1 3 i) - 2)) rfl (by omega) rfl (by decide)) m_X3_put K3 g_647 dX3_dayOn_25 rfl rfl rfl (outL 7 rfl rfl rfl) (NW := 7) rfl rfl rfl rfl rfl ⟨Nat.le_of_ble_eq_true rfl, Nat.le_of_ble_eq_true rfl⟩ ⟨Nat.le_of_ble_eq_true rfl, Nat.le_of_ble_eq_true rfl⟩ (Nat.le_of_ble_eq_true rfl) rfl ?_
    refine Z_iinc C (L' := [(1, .int (nI (i + 1))), (0, .ref 0)]) (v := nI (i + 1)) dX3_dayOn_28 rfl (nI_inc _) (by decide) rfl ?_
    refine Z_goto C 2 dX3_dayOn_31 (by decide) ?_
    rw [show mdy0 i T1 = (tA T1 3 i (mx 0 ((T1.1 3 i) - 2))) from by simp [mdy0, c2]] at kk
    exact Z_sub (by simp [bI_t, bI_f]) kk
set_option maxHeartbeats 4000000 in
set_option maxRecDepth 20000 in
theorem c_X3_daysOn (M : Md) (x : Int32) {n r : Nat} (hn : M.2.2.2 1 = nI n) (h40 : n ≤ 40) (hq : M.2.2.2 2 = nI r) (h30 : r ≤ 30) (ho : okM n M) {d : Nat} (hx : x = nI d) (hd : d ≤ 120) : CT yX3_daysOn cX3_daysOn 3 none 7 0 0 [.ref 0, .int x] (mdW 0 M) none (mdW 0 (mDys M d)) := by
  refine CT_of (L := [(0, .ref 0), (1, .int x)]) (by decide) (fun _ => rfl) (fun _ => Nat.le_of_ble_eq_true rfl) ?_
  intro p l e s m args below meth c G h A C hr hlk _
  subst hx
  refine Z_iconst C (v := 0) dX3_daysOn_0 (by decide) ?_
  refine Z_istore_n C (L' := [(2, .int 0), (0, .ref 0), (1, .int (nI d))]) dX3_daysOn_1 rfl (by decide) rfl ?_
  refine Zfor (σ := Md) (fun i T1 => Z p l e _ s m args below meth c 3 G A h _ 0 0 (mdW 0 T1) 2 [(2, .int (nI i)), (0, .ref 0), (1, .int (nI d))] []) (fun i T1 => T1.2.2.2 1 = nI n ∧ T1.2.2.2 2 = nI r ∧ okM n T1) (mDys1) d (M) (⟨hn, hq, ho⟩) (fun i T1 hi hT1 => ⟨(congrFun (mi_Dy T1) 1).trans hT1.1, (congrFun (mi_Dy T1) 2).trans hT1.2.1, ok_Dy hT1.1 h40 hT1.2.2⟩) (fun T1 hT1 eT1 => ?_) (fun i T1 hi hT1 hT1' kk => ?_)
  · refine Z_iload_n C dX3_daysOn_2 rfl rfl ?_
    refine Z_iload_n C dX3_daysOn_3 rfl rfl ?_
    refine Z_icmp_ge C 17 dX3_daysOn_4 (by decide) (fun c1 => ?_) (fun c1 => absurd (ge_yes2 hT1.1) c1)
    exact Z_vret C hr hlk dX3_daysOn_17 rfl (by rw [show (mDys M d) = T1 from by subst eT1; simp only [mDys]])
  · refine Z_iload_n C dX3_daysOn_2 rfl rfl ?_
    refine Z_iload_n C dX3_daysOn_3 rfl rfl ?_
    refine Z_icmp_ge C 17 dX3_daysOn_4 (by decide) (fun c2 => absurd c2 (ge_no2 hT1.1 hd hi)) (fun c2 => ?_)
    refine Z_aload_n C dX3_daysOn_7 rfl rfl ?_
    refine Z_callV C (ws' := mdW 0 (mDy T1)) (st' := []) (rest := []) [0, 1, 2, 3, 4, 5, 6] (c_X3_dayOn T1 hT1.1 h40 hT1.2.1 h30 hT1.2.2) m_X3_dayOn K3 g_735 dX3_daysOn_8 rfl rfl rfl (outL 7 rfl rfl rfl) (NW := 7) rfl rfl rfl rfl rfl ⟨Nat.le_of_ble_eq_true rfl, Nat.le_of_ble_eq_true rfl⟩ ⟨Nat.le_of_ble_eq_true rfl, Nat.le_of_ble_eq_true rfl⟩ (Nat.le_of_ble_eq_true rfl) rfl ?_
    refine Z_ws (fun X1 => mdW 0 X1) (mDy T1) (fun X1 eX1 => ?_)
    refine Z_iinc C (L' := [(2, .int (nI (i + 1))), (0, .ref 0), (1, .int (nI d))]) (v := nI (i + 1)) dX3_daysOn_11 rfl (nI_inc _) (by decide) rfl ?_
    refine Z_goto C 2 dX3_daysOn_14 (by decide) ?_
    rw [show mDys1 i T1 = X1 from by subst eX1; simp [mDys1, c2]] at kk
    exact Z_sub (by simp [bI_t, bI_f]) kk
set_option maxHeartbeats 4000000 in
set_option maxRecDepth 20000 in
theorem c_X3_pass (M : Md) (x : Int32) {n r : Nat} (hn : M.2.2.2 1 = nI n) (h40 : n ≤ 40) (hq : M.2.2.2 2 = nI r) (h30 : r ≤ 30) (ho : okM n M) : CT yX3_pass cX3_pass 3 (some .int) 8 0 0 [.ref 0, .int x] (mdW 0 M) (some (.int ((mPass M x).2))) (mdW 0 ((mPass M x).1)) := by
  refine CT_of (L := [(0, .ref 0), (1, .int x)]) (by decide) (fun _ => rfl) (fun _ => Nat.le_of_ble_eq_true rfl) ?_
  intro p l e s m args below meth c G h A C hr hlk _
  have eN : mN M = n := mN_eq hn h40; have eR : mR M = r := mR_eq hq h30
  refine Z_aload_n C dX3_pass_0 rfl rfl ?_
  refine Z_iconst C (v := 0) dX3_pass_1 (by decide) ?_
  refine Z_put C K3 (ws' := mdW 0 (mI M 0 0)) 0 dX3_pass_2 rfl (by decide) g_572 rfl rfl rfl rfl rfl (Nat.le_of_ble_eq_true rfl) rfl ?_
  refine Z_iload_n C dX3_pass_5 rfl rfl ?_
  refine Z_iconst C (v := 1) dX3_pass_6 (by decide) ?_
  refine Z_bipush C (v := 120) dX3_pass_7 (by decide) ?_
  refine Z_callS C (ws' := mdW 0 (mI M 0 0)) (st' := [.int (bI (isInB x 1 120))]) (rest := []) [] (c_X3_isIn x 1 120) m_X3_isIn g_608 dX3_pass_9 rfl rfl rfl (outR _ _ _) (NW := 7) rfl rfl rfl rfl ⟨Nat.le_of_ble_eq_true rfl, Nat.le_of_ble_eq_true rfl⟩ ⟨Nat.le_of_ble_eq_true rfl, Nat.le_of_ble_eq_true rfl⟩ (Nat.le_of_ble_eq_true rfl) rfl ?_
  refine Z_if_ne C 21 dX3_pass_12 (by decide) (fun c1 => ?_) (fun c1 => ?_)
  · have c1 := bI_n0.mp c1
    obtain ⟨d, hd, qd⟩ := isIn_lit1 120 rfl (by decide) c1
    subst qd
    have ed : ix (nI d) = d := ix_nI (by omega)
    refine Z_aload_n C dX3_pass_21 rfl rfl ?_
    refine Z_callV C (ws' := mdW 0 (mI M 0 0)) (st' := [.int (mHa (mI M 0 0))]) (rest := []) [0, 1, 2, 3, 4, 5, 6] (c_X3_hanging (mI M 0 0) hn h40 hq h30 ho) m_X3_hanging K3 g_675 dX3_pass_22 rfl rfl rfl (outR _ _ _) (NW := 7) rfl rfl rfl rfl rfl ⟨Nat.le_of_ble_eq_true rfl, Nat.le_of_ble_eq_true rfl⟩ ⟨Nat.le_of_ble_eq_true rfl, Nat.le_of_ble_eq_true rfl⟩ (Nat.le_of_ble_eq_true rfl) rfl ?_
    refine Z_istore_n C (L' := [(2, .int (mHa (mI M 0 0))), (0, .ref 0), (1, .int (nI d))]) dX3_pass_25 rfl (by decide) rfl ?_
    refine Z_aload_n C dX3_pass_26 rfl rfl ?_
    refine Z_iload_n C dX3_pass_27 rfl rfl ?_
    refine Z_callV C (ws' := mdW 0 (mDys (mI M 0 0) d)) (st' := []) (rest := []) [0, 1, 2, 3, 4, 5, 6] (c_X3_daysOn (mI M 0 0) (nI d) hn h40 hq h30 ho rfl (by omega)) m_X3_daysOn K3 g_731 dX3_pass_28 rfl rfl rfl (outL 7 rfl rfl rfl) (NW := 7) rfl rfl rfl rfl rfl ⟨Nat.le_of_ble_eq_true rfl, Nat.le_of_ble_eq_true rfl⟩ ⟨Nat.le_of_ble_eq_true rfl, Nat.le_of_ble_eq_true rfl⟩ (Nat.le_of_ble_eq_true rfl) rfl ?_
    refine Z_ws (fun X1 => mdW 0 X1) (mDys (mI M 0 0) d) (fun X1 eX1 => ?_)
    refine Z_iload_n C dX3_pass_31 rfl rfl ?_
    refine Z_aload_n C dX3_pass_32 rfl rfl ?_
    refine Z_callV C (ws' := mdW 0 X1) (st' := [.int (mHa X1), .int (mHa (mI M 0 0))]) (rest := [.int (mHa (mI M 0 0))]) [0, 1, 2, 3, 4, 5, 6] (c_X3_hanging X1 (show X1.2.2.2 1 = nI n from by rw [eX1]; exact ((congrFun (mi_Dys (mI M 0 0) d) 1).trans hn)) h40 (show X1.2.2.2 2 = nI r from by rw [eX1]; exact ((congrFun (mi_Dys (mI M 0 0) d) 2).trans hq)) h30 (show okM n X1 from by rw [eX1]; exact (ok_Dys d hn h40 ho))) m_X3_hanging K3 g_675 dX3_pass_33 rfl rfl rfl (outR _ _ _) (NW := 7) rfl rfl rfl rfl rfl ⟨Nat.le_of_ble_eq_true rfl, Nat.le_of_ble_eq_true rfl⟩ ⟨Nat.le_of_ble_eq_true rfl, Nat.le_of_ble_eq_true rfl⟩ (Nat.le_of_ble_eq_true rfl) rfl ?_
    refine Z_isub C (v := (mHa (mI M 0 0)) - (mHa X1)) dX3_pass_36 rfl ?_
    exact Z_iret C hr hlk dX3_pass_37 (congrArg (fun z => some (Value.int z)) (show ((mPass M (nI d)).2) = ((mHa (mI M 0 0)) - (mHa X1)) from by subst eX1; simp [mPass, c1, ed, eN, eR])) (by rw [show ((mPass M (nI d)).1) = X1 from by subst eX1; simp [mPass, c1, ed, eN, eR]])
  · have c1 := bI_0.mp c1
    refine Z_aload_n C dX3_pass_15 rfl rfl ?_
    refine Z_iconst C (v := 1) dX3_pass_16 (by decide) ?_
    refine Z_callV C (ws' := mdW 0 (mI (mI M 0 0) 0 1)) (st' := [.int 0]) (rest := []) [0, 1, 2, 3, 4, 5, 6] (c_X3_fail (mI M 0 0) 1) m_X3_fail K3 g_611 dX3_pass_17 rfl rfl rfl (outL 7 rfl rfl rfl) (NW := 7) rfl rfl rfl rfl rfl ⟨Nat.le_of_ble_eq_true rfl, Nat.le_of_ble_eq_true rfl⟩ ⟨Nat.le_of_ble_eq_true rfl, Nat.le_of_ble_eq_true rfl⟩ (Nat.le_of_ble_eq_true rfl) rfl ?_
    exact Z_iret C hr hlk dX3_pass_20 (congrArg (fun z => some (Value.int z)) (show ((mPass M x).2) = 0 from by simp [mPass, c1, eN, eR])) (by rw [show ((mPass M x).1) = (mI (mI M 0 0) 0 1) from by simp [mPass, c1, eN, eR]])
