/-! the reference's digest -/
theorem ge_yesL {q : Prop} {b : Nat} (B : Int32) (hB : B = nI b) (_ : q) : B ≤ nI b := by rw [hB]; exact Int32.le_refl _
theorem ge_noL {q : Prop} {b i : Nat} (B : Int32) (hB : B = nI b) (_ : q) (hb : b < 2 ^ 31) (hi : i < b) : ¬ B ≤ nI i := by rw [hB]; exact nI_ge hi hb
def dg0 (M : Md) (i : Nat) (d : Int64) : Int64 := d * 31 + (mCt M i).toInt64
def dg1 (M : Md) (i j : Nat) (d : Int64) : Int64 := d * 31 + (mTold M i j).toInt64
def dgS (M : Md) (i : Nat) (d : Int64) : Int64 := fr (dg1 M i) 10 d
def dg2 (M : Md) (i j : Nat) (d : Int64) : Int64 := d * 31 + (M.2.1 j i).toInt64
def dgW (M : Md) (i : Nat) (d : Int64) : Int64 := fr (dg2 M i) 3 d
def mDg (M : Md) : Int64 := fr (dgW (mRk (mI M 0 0))) (mR M) (fr (dgS (mRk (mI M 0 0))) (mN M) (fr (dg0 (mRk (mI M 0 0))) 8 971))
set_option maxHeartbeats 4000000 in
set_option maxRecDepth 20000 in
theorem c_X3_digest (M : Md) {n r : Nat} (hn : M.2.2.2 1 = nI n) (h40 : n ≤ 40) (hq : M.2.2.2 2 = nI r) (h30 : r ≤ 30) (ho : okM n M) : CT yX3_digest cX3_digest 5 (some .long) 4 0 0 [.ref 0] (mdW 0 M) (some (.long (mDg M))) (mdW 0 (mRk (mI M 0 0))) := by
  refine CT_of (L := [(0, .ref 0)]) (by decide) (fun _ => rfl) (fun _ => Nat.le_of_ble_eq_true rfl) ?_
  intro p l e s m args below meth c G h A C hr hlk _
  have eN : mN M = n := mN_eq hn h40; have eR : mR M = r := mR_eq hq h30
  refine Z_aload_n C dX3_digest_0 rfl rfl ?_
  refine Z_iconst C (v := 0) dX3_digest_1 (by decide) ?_
  refine Z_put C K3 (ws' := mdW 0 (mI M 0 0)) 0 dX3_digest_2 rfl (by decide) g_572 rfl rfl rfl rfl rfl (Nat.le_of_ble_eq_true rfl) rfl ?_
  refine Z_aload_n C dX3_digest_5 rfl rfl ?_
  refine Z_callV C (ws' := mdW 0 (mRk (mI M 0 0))) (st' := []) (rest := []) [0, 1, 2, 3, 4, 5, 6] (c_X3_reckon (mI M 0 0) hn h40 hq h30 ho) m_X3_reckon K3 g_626 dX3_digest_6 rfl rfl rfl (outL 7 rfl rfl rfl) (NW := 7) rfl rfl rfl rfl rfl ⟨Nat.le_of_ble_eq_true rfl, Nat.le_of_ble_eq_true rfl⟩ ⟨Nat.le_of_ble_eq_true rfl, Nat.le_of_ble_eq_true rfl⟩ (Nat.le_of_ble_eq_true rfl) rfl ?_
  refine Z_ws (fun X1 => mdW 0 X1) (mRk (mI M 0 0)) (fun X1 eX1 => ?_)
  refine Z_ldc2 C (v := 971) dX3_digest_9 g_780 ?_
  refine Z_lstore_n C (L' := [(1, .long 971), (0, .ref 0)]) dX3_digest_12 rfl (by decide) rfl ?_
  refine Z_iconst C (v := 0) dX3_digest_13 (by decide) ?_
  refine Z_istore_n C (L' := [(3, .int 0), (1, .long 971), (0, .ref 0)]) dX3_digest_14 rfl (by decide) rfl ?_
  refine Zfor (σ := Int64) (fun i T1 => Z p l e _ s m args below meth c 5 G A h _ 0 0 (mdW 0 X1) 15 [(3, .int (nI i)), (1, .long T1), (0, .ref 0)] []) (fun i T1 => True) (dg0 X1) 8 (971) trivial (fun i T1 hi hT1 => trivial) (fun T1 hT1 eT1 => ?_) (fun i T1 hi hT1 hT1' kk => ?_)
  · refine Z_iload_n C dX3_digest_15 rfl rfl ?_
    refine Z_bipush C (v := 8) dX3_digest_16 (by decide) ?_
    refine Z_icmp_ge C 40 dX3_digest_18 (by decide) (fun c1 => ?_) (fun c1 => absurd (ge_yesL 8 rfl (show X1.2.2.2 1 = nI n from by rw [eX1]; exact ((congrFun (mi_Rk (mI M 0 0)) 1).trans hn))) c1)
    refine Z_iconst C (v := 0) dX3_digest_40 (by decide) ?_
    refine Z_istore_n C (L' := [(3, .int 0), (1, .long T1), (0, .ref 0)]) dX3_digest_41 rfl (by decide) rfl ?_
    refine Zfor (σ := Int64) (fun i T2 => Z p l e _ s m args below meth c 5 G A h _ 0 0 (mdW 0 X1) 42 [(3, .int (nI i)), (1, .long T2), (0, .ref 0)] []) (fun i T2 => True) (dgS X1) n (T1) trivial (fun i T2 hi hT2 => trivial) (fun T2 hT2 eT2 => ?_) (fun i T2 hi hT2 hT2' kk => ?_)
    · refine Z_iload_n C dX3_digest_42 rfl rfl ?_
      refine Z_aload_n C dX3_digest_43 rfl rfl ?_
      refine Z_get C K3 (v := .int (X1.2.2.2 1)) 1 dX3_digest_44 rfl (by decide) g_573 rfl rfl ?_
      refine Z_icmp_ge C 87 dX3_digest_47 (by decide) (fun c2 => ?_) (fun c2 => absurd (ge_yes (show X1.2.2.2 1 = nI n from by rw [eX1]; exact ((congrFun (mi_Rk (mI M 0 0)) 1).trans hn))) c2)
      refine Z_iconst C (v := 0) dX3_digest_87 (by decide) ?_
      refine Z_istore_n C (L' := [(3, .int 0), (1, .long T2), (0, .ref 0)]) dX3_digest_88 rfl (by decide) rfl ?_
      refine Zfor (σ := Int64) (fun i T3 => Z p l e _ s m args below meth c 5 G A h _ 0 0 (mdW 0 X1) 89 [(3, .int (nI i)), (1, .long T3), (0, .ref 0)] []) (fun i T3 => True) (dgW X1) r (T2) trivial (fun i T3 hi hT3 => trivial) (fun T3 hT3 eT3 => ?_) (fun i T3 hi hT3 hT3' kk => ?_)
      · refine Z_iload_n C dX3_digest_89 rfl rfl ?_
        refine Z_aload_n C dX3_digest_90 rfl rfl ?_
        refine Z_get C K3 (v := .int (X1.2.2.2 2)) 2 dX3_digest_91 rfl (by decide) g_574 rfl rfl ?_
        refine Z_icmp_ge C 133 dX3_digest_94 (by decide) (fun c3 => ?_) (fun c3 => absurd (ge_yes (show X1.2.2.2 2 = nI r from by rw [eX1]; exact ((congrFun (mi_Rk (mI M 0 0)) 2).trans hq))) c3)
        refine Z_lload_n C dX3_digest_133 rfl rfl ?_
        exact Z_lret C hr hlk dX3_digest_134 (congrArg (fun z => some (Value.long z)) (show (mDg M) = T3 from by subst eX1 eT1 eT2 eT3; first | rw [mDg, eN, eR] | rfl)) (by rw [show (mRk (mI M 0 0)) = X1 from by subst eX1 eT1 eT2 eT3; first | rw [mDg, eN, eR] | rfl])
      · refine Z_iload_n C dX3_digest_89 rfl rfl ?_
        refine Z_aload_n C dX3_digest_90 rfl rfl ?_
        refine Z_get C K3 (v := .int (X1.2.2.2 2)) 2 dX3_digest_91 rfl (by decide) g_574 rfl rfl ?_
        refine Z_icmp_ge C 133 dX3_digest_94 (by decide) (fun c4 => absurd c4 (ge_no (show X1.2.2.2 2 = nI r from by rw [eX1]; exact ((congrFun (mi_Rk (mI M 0 0)) 2).trans hq)) (Nat.le_trans h30 (by decide)) hi)) (fun c4 => ?_)
        refine Z_iconst C (v := 0) dX3_digest_97 (by decide) ?_
        refine Z_istore C (L' := [(4, .int 0), (3, .int (nI i)), (1, .long T3), (0, .ref 0)]) dX3_digest_98 (by decide) rfl ?_
        refine Zfor (σ := Int64) (fun j T4 => Z p l e _ s m args below meth c 5 G A h _ 0 0 (mdW 0 X1) 100 [(4, .int (nI j)), (3, .int (nI i)), (1, .long T4), (0, .ref 0)] []) (fun j T4 => True) (dg2 X1 i) 3 (T3) trivial (fun j T4 hj hT4 => trivial) (fun T4 hT4 eT4 => ?_) (fun j T4 hj hT4 hT4' kk => ?_)
        · refine Z_iload C dX3_digest_100 rfl ?_
          refine Z_iconst C (v := 3) dX3_digest_102 (by decide) ?_
          refine Z_icmp_ge C 127 dX3_digest_103 (by decide) (fun c5 => ?_) (fun c5 => absurd (ge_yesL 3 rfl (show X1.2.2.2 1 = nI n from by rw [eX1]; exact ((congrFun (mi_Rk (mI M 0 0)) 1).trans hn))) c5)
          refine Z_iinc C (L' := [(3, .int (nI (i + 1))), (4, .int (nI 3)), (1, .long T4), (0, .ref 0)]) (v := nI (i + 1)) dX3_digest_127 rfl (nI_inc _) (by decide) rfl ?_
          refine Z_goto C 89 dX3_digest_130 (by decide) ?_
          rw [show (dgW X1) i T3 = T4 from by subst eX1 eT1 eT2 eT4; simp [dgW, c1, c2, c4, c5]] at kk
          exact Z_sub (by simp [bI_t, bI_f]) kk
        · refine Z_iload C dX3_digest_100 rfl ?_
          refine Z_iconst C (v := 3) dX3_digest_102 (by decide) ?_
          refine Z_icmp_ge C 127 dX3_digest_103 (by decide) (fun c6 => absurd c6 (ge_noL 3 rfl (show X1.2.2.2 1 = nI n from by rw [eX1]; exact ((congrFun (mi_Rk (mI M 0 0)) 1).trans hn)) (by decide) hj)) (fun c6 => ?_)
          refine Z_lload_n C dX3_digest_106 rfl rfl ?_
          refine Z_ldc2 C (v := 31) dX3_digest_107 g_781 ?_
          refine Z_lmul C (v := T4 * 31) dX3_digest_110 rfl ?_
          refine Z_aload_n C dX3_digest_111 rfl rfl ?_
          refine Z_iload_n C dX3_digest_112 rfl rfl ?_
          refine Z_iload C dX3_digest_113 rfl ?_
          refine Z_callV C (ws' := mdW 0 X1) (st' := [.int (X1.2.1 j i), .long (T4 * 31)]) (rest := [.long (T4 * 31)]) [0, 1, 2, 3, 4, 5, 6] (c_X3_st X1 (nI i) (nI j) rfl (by omega) rfl (by first | decide | omega)) m_X3_st K3 g_659 dX3_digest_115 rfl rfl rfl (outR _ _ _) (NW := 7) rfl rfl rfl rfl rfl ⟨Nat.le_of_ble_eq_true rfl, Nat.le_of_ble_eq_true rfl⟩ ⟨Nat.le_of_ble_eq_true rfl, Nat.le_of_ble_eq_true rfl⟩ (Nat.le_of_ble_eq_true rfl) rfl ?_
          refine Z_i2l C (v := (X1.2.1 j i).toInt64) dX3_digest_118 rfl ?_
          refine Z_ladd C (v := (T4 * 31) + ((X1.2.1 j i).toInt64)) dX3_digest_119 rfl ?_
          refine Z_lstore_n C (L' := [(1, .long ((T4 * 31) + ((X1.2.1 j i).toInt64))), (4, .int (nI j)), (3, .int (nI i)), (0, .ref 0)]) dX3_digest_120 rfl (by decide) rfl ?_
          refine Z_iinc C (L' := [(4, .int (nI (j + 1))), (1, .long ((T4 * 31) + ((X1.2.1 j i).toInt64))), (3, .int (nI i)), (0, .ref 0)]) (v := nI (j + 1)) dX3_digest_121 rfl (nI_inc _) (by decide) rfl ?_
          refine Z_goto C 100 dX3_digest_124 (by decide) ?_
          rw [show (dg2 X1 i) j T4 = (T4 * 31) + ((X1.2.1 j i).toInt64) from by subst eX1 eT1 eT2; simp [dg2, c1, c2, c4, c6]] at kk
          exact Z_sub (by simp [bI_t, bI_f]) kk
    · refine Z_iload_n C dX3_digest_42 rfl rfl ?_
      refine Z_aload_n C dX3_digest_43 rfl rfl ?_
      refine Z_get C K3 (v := .int (X1.2.2.2 1)) 1 dX3_digest_44 rfl (by decide) g_573 rfl rfl ?_
      refine Z_icmp_ge C 87 dX3_digest_47 (by decide) (fun c7 => absurd c7 (ge_no (show X1.2.2.2 1 = nI n from by rw [eX1]; exact ((congrFun (mi_Rk (mI M 0 0)) 1).trans hn)) h40 hi)) (fun c7 => ?_)
      refine Z_iconst C (v := 0) dX3_digest_50 (by decide) ?_
      refine Z_istore C (L' := [(4, .int 0), (3, .int (nI i)), (1, .long T2), (0, .ref 0)]) dX3_digest_51 (by decide) rfl ?_
      refine Zfor (σ := Int64) (fun j T5 => Z p l e _ s m args below meth c 5 G A h _ 0 0 (mdW 0 X1) 53 [(4, .int (nI j)), (3, .int (nI i)), (1, .long T5), (0, .ref 0)] []) (fun j T5 => True) (dg1 X1 i) 10 (T2) trivial (fun j T5 hj hT5 => trivial) (fun T5 hT5 eT5 => ?_) (fun j T5 hj hT5 hT5' kk => ?_)
      · refine Z_iload C dX3_digest_53 rfl ?_
        refine Z_bipush C (v := 10) dX3_digest_55 (by decide) ?_
        refine Z_icmp_ge C 81 dX3_digest_57 (by decide) (fun c8 => ?_) (fun c8 => absurd (ge_yesL 10 rfl (show X1.2.2.2 1 = nI n from by rw [eX1]; exact ((congrFun (mi_Rk (mI M 0 0)) 1).trans hn))) c8)
        refine Z_iinc C (L' := [(3, .int (nI (i + 1))), (4, .int (nI 10)), (1, .long T5), (0, .ref 0)]) (v := nI (i + 1)) dX3_digest_81 rfl (nI_inc _) (by decide) rfl ?_
        refine Z_goto C 42 dX3_digest_84 (by decide) ?_
        rw [show (dgS X1) i T2 = T5 from by subst eX1 eT1 eT5; simp [dgS, c1, c7, c8]] at kk
        exact Z_sub (by simp [bI_t, bI_f]) kk
      · refine Z_iload C dX3_digest_53 rfl ?_
        refine Z_bipush C (v := 10) dX3_digest_55 (by decide) ?_
        refine Z_icmp_ge C 81 dX3_digest_57 (by decide) (fun c9 => absurd c9 (ge_noL 10 rfl (show X1.2.2.2 1 = nI n from by rw [eX1]; exact ((congrFun (mi_Rk (mI M 0 0)) 1).trans hn)) (by decide) hj)) (fun c9 => ?_)
        refine Z_lload_n C dX3_digest_60 rfl rfl ?_
        refine Z_ldc2 C (v := 31) dX3_digest_61 g_781 ?_
        refine Z_lmul C (v := T5 * 31) dX3_digest_64 rfl ?_
        refine Z_aload_n C dX3_digest_65 rfl rfl ?_
        refine Z_iload_n C dX3_digest_66 rfl rfl ?_
        refine Z_iload C dX3_digest_67 rfl ?_
        refine Z_callV C (ws' := mdW 0 X1) (st' := [.int (mTold X1 i j), .long (T5 * 31)]) (rest := [.long (T5 * 31)]) [0, 1, 2, 3, 4, 5, 6] (c_X3_stoneTold X1 (nI i) (nI j) (show X1.2.2.2 1 = nI n from by rw [eX1]; exact ((congrFun (mi_Rk (mI M 0 0)) 1).trans hn)) h40 (show X1.2.2.2 2 = nI r from by rw [eX1]; exact ((congrFun (mi_Rk (mI M 0 0)) 2).trans hq)) h30 (show okM n X1 from by rw [eX1]; exact (ok_Rk ho)) rfl (by omega) rfl (by omega)) m_X3_stoneTold K3 g_707 dX3_digest_69 rfl rfl rfl (outR _ _ _) (NW := 7) rfl rfl rfl rfl rfl ⟨Nat.le_of_ble_eq_true rfl, Nat.le_of_ble_eq_true rfl⟩ ⟨Nat.le_of_ble_eq_true rfl, Nat.le_of_ble_eq_true rfl⟩ (Nat.le_of_ble_eq_true rfl) rfl ?_
        refine Z_i2l C (v := (mTold X1 i j).toInt64) dX3_digest_72 rfl ?_
        refine Z_ladd C (v := (T5 * 31) + ((mTold X1 i j).toInt64)) dX3_digest_73 rfl ?_
        refine Z_lstore_n C (L' := [(1, .long ((T5 * 31) + ((mTold X1 i j).toInt64))), (4, .int (nI j)), (3, .int (nI i)), (0, .ref 0)]) dX3_digest_74 rfl (by decide) rfl ?_
        refine Z_iinc C (L' := [(4, .int (nI (j + 1))), (1, .long ((T5 * 31) + ((mTold X1 i j).toInt64))), (3, .int (nI i)), (0, .ref 0)]) (v := nI (j + 1)) dX3_digest_75 rfl (nI_inc _) (by decide) rfl ?_
        refine Z_goto C 53 dX3_digest_78 (by decide) ?_
        rw [show (dg1 X1 i) j T5 = (T5 * 31) + ((mTold X1 i j).toInt64) from by subst eX1 eT1; simp [dg1, c1, c7, c9]] at kk
        exact Z_sub (by simp [bI_t, bI_f]) kk
  · refine Z_iload_n C dX3_digest_15 rfl rfl ?_
    refine Z_bipush C (v := 8) dX3_digest_16 (by decide) ?_
    refine Z_icmp_ge C 40 dX3_digest_18 (by decide) (fun c10 => absurd c10 (ge_noL 8 rfl (show X1.2.2.2 1 = nI n from by rw [eX1]; exact ((congrFun (mi_Rk (mI M 0 0)) 1).trans hn)) (by decide) hi)) (fun c10 => ?_)
    refine Z_lload_n C dX3_digest_21 rfl rfl ?_
    refine Z_ldc2 C (v := 31) dX3_digest_22 g_781 ?_
    refine Z_lmul C (v := T1 * 31) dX3_digest_25 rfl ?_
    refine Z_aload_n C dX3_digest_26 rfl rfl ?_
    refine Z_iload_n C dX3_digest_27 rfl rfl ?_
    refine Z_callV C (ws' := mdW 0 X1) (st' := [.int (mCt X1 i), .long (T1 * 31)]) (rest := [.long (T1 * 31)]) [0, 1, 2, 3, 4, 5, 6] (c_X3_counted X1 (nI i) (show X1.2.2.2 1 = nI n from by rw [eX1]; exact ((congrFun (mi_Rk (mI M 0 0)) 1).trans hn)) h40 (show X1.2.2.2 2 = nI r from by rw [eX1]; exact ((congrFun (mi_Rk (mI M 0 0)) 2).trans hq)) h30 (show okM n X1 from by rw [eX1]; exact (ok_Rk ho)) rfl (by first | decide | omega)) m_X3_counted K3 g_723 dX3_digest_28 rfl rfl rfl (outR _ _ _) (NW := 7) rfl rfl rfl rfl rfl ⟨Nat.le_of_ble_eq_true rfl, Nat.le_of_ble_eq_true rfl⟩ ⟨Nat.le_of_ble_eq_true rfl, Nat.le_of_ble_eq_true rfl⟩ (Nat.le_of_ble_eq_true rfl) rfl ?_
    refine Z_i2l C (v := (mCt X1 i).toInt64) dX3_digest_31 rfl ?_
    refine Z_ladd C (v := (T1 * 31) + ((mCt X1 i).toInt64)) dX3_digest_32 rfl ?_
    refine Z_lstore_n C (L' := [(1, .long ((T1 * 31) + ((mCt X1 i).toInt64))), (3, .int (nI i)), (0, .ref 0)]) dX3_digest_33 rfl (by decide) rfl ?_
    refine Z_iinc C (L' := [(3, .int (nI (i + 1))), (1, .long ((T1 * 31) + ((mCt X1 i).toInt64))), (0, .ref 0)]) (v := nI (i + 1)) dX3_digest_34 rfl (nI_inc _) (by decide) rfl ?_
    refine Z_goto C 15 dX3_digest_37 (by decide) ?_
    rw [show (dg0 X1) i T1 = (T1 * 31) + ((mCt X1 i).toInt64) from by subst eX1; simp [dg0, c10]] at kk
    exact Z_sub (by simp [bI_t, bI_f]) kk
