theorem m_X3_kept : mV yX3_kept cX3_kept 1 (some (.array (.array .int))) 0 := ⟨g_745, g_34, g_40, g_746, by decide +kernel⟩
set_option maxHeartbeats 4000000 in
set_option maxRecDepth 20000 in
theorem c_X3_kept (M : Md) : CTg yX3_kept cX3_kept 1 (some (.array (.array .int))) 1 4 374 [.ref 0] (mdW 0 M) 7 (.ref 7) (mdW 0 M ++ kpW 7 (kpO M)) := by
  refine CTg_of (L := [(0, .ref 0)]) (by decide) (fun _ => rfl) (fun _ => Nat.le_of_ble_eq_true rfl) ?_
  intro p l e s m args below meth c G h A C hr hlk _
  refine Z_iconst C (v := 3) dX3_kept_0 (by decide) ?_
  refine Z_newaa C (N := 3) (W9 := 7) dX3_kept_1 g_747 (by decide) (by decide) (by decide) ⟨Nat.le_of_ble_eq_true rfl, Nat.le_of_ble_eq_true rfl⟩ rfl ⟨rfl, trivial, trivial, trivial, trivial, trivial, trivial, trivial⟩ rfl rfl (fun h1 ag1 => ?_)
  refine Z_dup C dX3_kept_4 rfl ?_
  refine Z_iconst C (v := 0) dX3_kept_5 (by decide) ?_
  refine Z_aload_n C dX3_kept_6 rfl rfl ?_
  refine Z_get C K3 (v := .ref 1) 3 dX3_kept_7 rfl (by decide) g_575 rfl rfl ?_
  refine Z_clone C (q := 1) (N := 280) (W9 := 8) dX3_kept_10 g_749 g_750 g_751 g_752 g_753 rfl ⟨Nat.le_of_ble_eq_true rfl, Nat.le_of_ble_eq_true rfl⟩ ⟨Nat.le_of_ble_eq_true rfl, Nat.le_of_ble_eq_true rfl⟩ rfl ⟨rfl, trivial, trivial, trivial, trivial, trivial, trivial, (kq0 8), trivial⟩ rfl rfl (fun h2 ag2 => ?_)
  refine Z_castA C dX3_kept_13 g_747 rfl ?_
  refine Z_aast C (ws' := mdW 0 M ++ ([.inl (3, 3, .inr (.inr (.inr (.inr ((va_up (fun _ => none) 0 (some 8)))))))] ++ [.inl (0, 280, .inl ((twF M.1)))])) (f' := (va_up (fun _ => none) 0 (some 8))) dX3_kept_16 rfl rfl (vp_in_nI (n := 0) (N := 3) (by decide) (by decide)) (by rw [show (0 : Int32).toNatClampNeg = 0 from by decide]) rfl ?_
  refine Z_dup C dX3_kept_17 rfl ?_
  refine Z_iconst C (v := 1) dX3_kept_18 (by decide) ?_
  refine Z_aload_n C dX3_kept_19 rfl rfl ?_
  refine Z_get C K3 (v := .ref 2) 4 dX3_kept_20 rfl (by decide) g_576 rfl rfl ?_
  refine Z_clone C (q := 2) (N := 90) (W9 := 9) dX3_kept_23 g_749 g_750 g_751 g_752 g_753 rfl ⟨Nat.le_of_ble_eq_true rfl, Nat.le_of_ble_eq_true rfl⟩ ⟨Nat.le_of_ble_eq_true rfl, Nat.le_of_ble_eq_true rfl⟩ rfl ⟨rfl, trivial, trivial, trivial, trivial, trivial, trivial, (kqU (kq0 9) (by decide)), trivial, trivial⟩ rfl rfl (fun h3 ag3 => ?_)
  refine Z_castA C dX3_kept_26 g_747 rfl ?_
  refine Z_aast C (ws' := mdW 0 M ++ ([.inl (3, 3, .inr (.inr (.inr (.inr ((va_up (va_up (fun _ => none) 0 (some 8)) 1 (some 9)))))))] ++ ([.inl (0, 280, .inl ((twF M.1)))] ++ [.inl (0, 90, .inl ((wyF M.2.1)))]))) (f' := (va_up (va_up (fun _ => none) 0 (some 8)) 1 (some 9))) dX3_kept_29 rfl rfl (vp_in_nI (n := 1) (N := 3) (by decide) (by decide)) (by rw [show (1 : Int32).toNatClampNeg = 1 from by decide]) rfl ?_
  refine Z_dup C dX3_kept_30 rfl ?_
  refine Z_iconst C (v := 2) dX3_kept_31 (by decide) ?_
  refine Z_aload_n C dX3_kept_32 rfl rfl ?_
  refine Z_get C K3 (v := .ref 3) 5 dX3_kept_33 rfl (by decide) g_577 rfl rfl ?_
  refine Z_clone C (q := 3) (N := 1) (W9 := 10) dX3_kept_36 g_749 g_750 g_751 g_752 g_753 rfl ⟨Nat.le_of_ble_eq_true rfl, Nat.le_of_ble_eq_true rfl⟩ ⟨Nat.le_of_ble_eq_true rfl, Nat.le_of_ble_eq_true rfl⟩ rfl ⟨rfl, trivial, trivial, trivial, trivial, trivial, trivial, (kqU (kqU (kq0 10) (by decide)) (by decide)), trivial, trivial, trivial⟩ rfl rfl (fun h4 ag4 => ?_)
  refine Z_castA C dX3_kept_39 g_747 rfl ?_
  refine Z_aast C (ws' := mdW 0 M ++ ([.inl (3, 3, .inr (.inr (.inr (.inr ((va_up (va_up (va_up (fun _ => none) 0 (some 8)) 1 (some 9)) 2 (some 10)))))))] ++ ([.inl (0, 280, .inl ((twF M.1)))] ++ ([.inl (0, 90, .inl ((wyF M.2.1)))] ++ [.inl (0, 1, .inl ((M.2.2.1 0)))])))) (f' := (va_up (va_up (va_up (fun _ => none) 0 (some 8)) 1 (some 9)) 2 (some 10))) dX3_kept_42 rfl rfl (vp_in_nI (n := 2) (N := 3) (by decide) (by decide)) (by rw [show (2 : Int32).toNatClampNeg = 2 from by decide]) rfl ?_
  exact Z_aretG C hr (Or.inr ⟨_, rfl⟩) hlk dX3_kept_43 (fun i hi => ((ag4 i (by omega)).trans ((ag3 i (by omega)).trans ((ag2 i (by omega)).trans (ag1 i hi))))) rfl
set_option maxHeartbeats 4000000 in
set_option maxRecDepth 20000 in
theorem c_X3_bringBack (M : Md) (K : Kp) : CT yX3_bringBack cX3_bringBack 2 none 2 0 0 [.ref 0, .ref 7] (mdW 0 M ++ kpW 7 K) none (mdW 0 (mBk M K) ++ kpW 7 K) := by
  refine CT_of (L := [(0, .ref 0), (1, .ref 7)]) (by decide) (fun _ => rfl) (fun _ => Nat.le_of_ble_eq_true rfl) ?_
  intro p l e s m args below meth c G h A C hr hlk _
  refine Z_aload_n C dX3_bringBack_0 rfl rfl ?_
  refine Z_iconst C (v := 0) dX3_bringBack_1 (by decide) ?_
  refine Z_aald C (j := 8) dX3_bringBack_2 rfl (vp_in_nI (n := 0) (N := 3) (by decide) (by decide)) (by rw [show (0 : Int32).toNatClampNeg = 0 from by decide]; rfl) ?_
  refine Z_iconst C (v := 0) dX3_bringBack_3 (by decide) ?_
  refine Z_aload_n C dX3_bringBack_4 rfl rfl ?_
  refine Z_get C K3 (v := .ref 1) 3 dX3_bringBack_5 rfl (by decide) g_575 rfl rfl ?_
  refine Z_iconst C (v := 0) dX3_bringBack_8 (by decide) ?_
  refine Z_aload_n C dX3_bringBack_9 rfl rfl ?_
  refine Z_get C K3 (v := .ref 1) 3 dX3_bringBack_10 rfl (by decide) g_575 rfl rfl ?_
  refine Z_alen C (i := 0) (v := 280) dX3_bringBack_13 rfl rfl rfl ?_
  refine Z_copyi C (q0 := 8) (q1 := 1) (st := []) dX3_bringBack_14 g_619 g_621 g_620 g_47 rfl rfl (by decide) (by decide) (by decide) (by decide) (by decide) rfl rfl ⟨Nat.le_of_ble_eq_true rfl, Nat.le_of_ble_eq_true rfl⟩ ?_
  refine Z_fn (q := 1) (g := twF K.1) (ws' := mdW 0 ((K.1, M.2)) ++ kpW 7 K) rfl (cpA 280 280 (by decide)) rfl ?_
  refine Z_aload_n C dX3_bringBack_17 rfl rfl ?_
  refine Z_iconst C (v := 1) dX3_bringBack_18 (by decide) ?_
  refine Z_aald C (j := 9) dX3_bringBack_19 rfl (vp_in_nI (n := 1) (N := 3) (by decide) (by decide)) (by rw [show (1 : Int32).toNatClampNeg = 1 from by decide]; rfl) ?_
  refine Z_iconst C (v := 0) dX3_bringBack_20 (by decide) ?_
  refine Z_aload_n C dX3_bringBack_21 rfl rfl ?_
  refine Z_get C K3 (v := .ref 2) 4 dX3_bringBack_22 rfl (by decide) g_576 rfl rfl ?_
  refine Z_iconst C (v := 0) dX3_bringBack_25 (by decide) ?_
  refine Z_aload_n C dX3_bringBack_26 rfl rfl ?_
  refine Z_get C K3 (v := .ref 2) 4 dX3_bringBack_27 rfl (by decide) g_576 rfl rfl ?_
  refine Z_alen C (i := 0) (v := 90) dX3_bringBack_30 rfl rfl rfl ?_
  refine Z_copyi C (q0 := 9) (q1 := 2) (st := []) dX3_bringBack_31 g_619 g_621 g_620 g_47 rfl rfl (by decide) (by decide) (by decide) (by decide) (by decide) rfl rfl ⟨Nat.le_of_ble_eq_true rfl, Nat.le_of_ble_eq_true rfl⟩ ?_
  refine Z_fn (q := 2) (g := wyF K.2.1) (ws' := mdW 0 ((K.1, K.2.1, M.2.2)) ++ kpW 7 K) rfl (cpA 90 90 (by decide)) rfl ?_
  refine Z_aload_n C dX3_bringBack_34 rfl rfl ?_
  refine Z_get C K3 (v := .ref 3) 5 dX3_bringBack_35 rfl (by decide) g_577 rfl rfl ?_
  refine Z_iconst C (v := 0) dX3_bringBack_38 (by decide) ?_
  refine Z_aload_n C dX3_bringBack_39 rfl rfl ?_
  refine Z_iconst C (v := 2) dX3_bringBack_40 (by decide) ?_
  refine Z_aald C (j := 10) dX3_bringBack_41 rfl (vp_in_nI (n := 2) (N := 3) (by decide) (by decide)) (by rw [show (2 : Int32).toNatClampNeg = 2 from by decide]; rfl) ?_
  refine Z_iconst C (v := 0) dX3_bringBack_42 (by decide) ?_
  refine Z_iaN C (j := 0) (v := K.2.2 0) dX3_bringBack_43 rfl (by decide) (by decide) rfl ?_
  refine Z_isN C (j := 0) (ws' := mdW 0 (aA ((K.1, K.2.1, M.2.2)) 0 0 (K.2.2 0)) ++ kpW 7 K) dX3_bringBack_44 rfl (by decide) (by decide) rfl ?_
  exact Z_vret C hr hlk dX3_bringBack_45 rfl (by rw [show (mBk M K) = (aA ((K.1, K.2.1, M.2.2)) 0 0 (K.2.2 0)) from by rfl])
set_option maxHeartbeats 4000000 in
set_option maxRecDepth 20000 in
theorem c_X3_without (M : Md) (x : Int32) {n r : Nat} (hn : M.2.2.2 1 = nI n) (h40 : n ≤ 40) (hq : M.2.2.2 2 = nI r) (h30 : r ≤ 30) (ho : okM n M) : CT yX3_without cX3_without 5 (some .int) 6 4 374 [.ref 0, .int x] (mdW 0 M) (some (.int ((mWo M x).2))) (mdW 0 ((mWo M x).1)) := by
  refine CT_of (L := [(0, .ref 0), (1, .int x)]) (by decide) (fun _ => rfl) (fun _ => Nat.le_of_ble_eq_true rfl) ?_
  intro p l e s m args below meth c G h A C hr hlk _
  have eN : mN M = n := mN_eq hn h40; have eR : mR M = r := mR_eq hq h30
  refine Z_aload_n C dX3_without_0 rfl rfl ?_
  refine Z_iconst C (v := 0) dX3_without_1 (by decide) ?_
  refine Z_put C K3 (ws' := mdW 0 (mI M 0 0)) 0 dX3_without_2 rfl (by decide) g_572 rfl rfl rfl rfl rfl (Nat.le_of_ble_eq_true rfl) rfl ?_
  refine Z_aload_n C dX3_without_5 rfl rfl ?_
  refine Z_iload_n C dX3_without_6 rfl rfl ?_
  refine Z_callV C (ws' := mdW 0 (mI M 0 0)) (st' := [.int (bI (mHas (mI M 0 0) x))]) (rest := []) [0, 1, 2, 3, 4, 5, 6] (c_X3_isStone (mI M 0 0) x) m_X3_isStone K3 g_667 dX3_without_7 rfl rfl rfl (outR _ _ _) (NW := 7) rfl rfl rfl rfl rfl ⟨Nat.le_of_ble_eq_true rfl, Nat.le_of_ble_eq_true rfl⟩ ⟨Nat.le_of_ble_eq_true rfl, Nat.le_of_ble_eq_true rfl⟩ (Nat.le_of_ble_eq_true rfl) rfl ?_
  refine Z_if_ne C 19 dX3_without_10 (by decide) (fun c1 => ?_) (fun c1 => ?_)
  · have c1 := bI_n0.mp c1
    obtain ⟨i, hi, qi⟩ := isIn_ix hn (by omega) c1
    subst qi
    have ei : ix (nI i) = i := ix_nI (by omega)
    refine Z_aload_n C dX3_without_19 rfl rfl ?_
    refine Z_callG C (W9 := 7) (c_X3_kept (mI M 0 0)) m_X3_kept K3 g_743 dX3_without_20 rfl rfl ⟨Nat.le_of_ble_eq_true rfl, Nat.le_of_ble_eq_true rfl⟩ ⟨Nat.le_of_ble_eq_true rfl, Nat.le_of_ble_eq_true rfl⟩ (Nat.le_of_ble_eq_true rfl) rfl rfl rfl (fun h1 ag1 => ?_)
    refine Z_astore_n C (L' := [(2, .ref 7), (0, .ref 0), (1, .int (nI i))]) dX3_without_23 rfl (by decide) rfl ?_
    refine Z_aload_n C dX3_without_24 rfl rfl ?_
    refine Z_callV C (ws' := mdW 0 (mI M 0 0) ++ kpW 7 (kpO (mI M 0 0))) (st' := [.int (mHa (mI M 0 0))]) (rest := []) [0, 1, 2, 3, 4, 5, 6] (c_X3_hanging (mI M 0 0) hn h40 hq h30 ho) m_X3_hanging K3 g_675 dX3_without_25 rfl rfl rfl (outS 7 rfl (outR _ _ _)) (NW := 11) rfl rfl rfl rfl rfl ⟨Nat.le_of_ble_eq_true rfl, Nat.le_of_ble_eq_true rfl⟩ ⟨Nat.le_of_ble_eq_true rfl, Nat.le_of_ble_eq_true rfl⟩ (Nat.le_of_ble_eq_true rfl) rfl ?_
    refine Z_istore_n C (L' := [(3, .int (mHa (mI M 0 0))), (2, .ref 7), (0, .ref 0), (1, .int (nI i))]) dX3_without_28 rfl (by decide) rfl ?_
    refine Z_aload_n C dX3_without_29 rfl rfl ?_
    refine Z_iload_n C dX3_without_30 rfl rfl ?_
    refine Z_iconst C (v := 3) dX3_without_31 (by decide) ?_
    refine Z_iconst C (v := 0) dX3_without_32 (by decide) ?_
    refine Z_callV C (ws' := mdW 0 (tA (mI M 0 0) 3 i 0) ++ kpW 7 (kpO (mI M 0 0))) (st' := []) (rest := []) [0, 1, 2, 3, 4, 5, 6] (c_X3_put (mI M 0 0) (nI i) 3 0 rfl (by omega) rfl (by decide)) m_X3_put K3 g_647 dX3_without_33 rfl rfl rfl (outI 7 rfl rfl rfl (outR _ _ _)) (NW := 11) rfl rfl rfl rfl rfl ⟨Nat.le_of_ble_eq_true rfl, Nat.le_of_ble_eq_true rfl⟩ ⟨Nat.le_of_ble_eq_true rfl, Nat.le_of_ble_eq_true rfl⟩ (Nat.le_of_ble_eq_true rfl) rfl ?_
    refine Z_aload_n C dX3_without_36 rfl rfl ?_
    refine Z_iload_n C dX3_without_37 rfl rfl ?_
    refine Z_iconst C (v := 4) dX3_without_38 (by decide) ?_
    refine Z_iconst C (v := (-1)) dX3_without_39 (by decide) ?_
    refine Z_callV C (ws' := mdW 0 (tA (tA (mI M 0 0) 3 i 0) 4 i (-1)) ++ kpW 7 (kpO (mI M 0 0))) (st' := []) (rest := []) [0, 1, 2, 3, 4, 5, 6] (c_X3_put (tA (mI M 0 0) 3 i 0) (nI i) 4 (-1) rfl (by omega) rfl (by decide)) m_X3_put K3 g_647 dX3_without_40 rfl rfl rfl (outI 7 rfl rfl rfl (outR _ _ _)) (NW := 11) rfl rfl rfl rfl rfl ⟨Nat.le_of_ble_eq_true rfl, Nat.le_of_ble_eq_true rfl⟩ ⟨Nat.le_of_ble_eq_true rfl, Nat.le_of_ble_eq_true rfl⟩ (Nat.le_of_ble_eq_true rfl) rfl ?_
    refine Z_aload_n C dX3_without_43 rfl rfl ?_
    refine Z_iload_n C dX3_without_44 rfl rfl ?_
    refine Z_iconst C (v := 5) dX3_without_45 (by decide) ?_
    refine Z_iconst C (v := (-1)) dX3_without_46 (by decide) ?_
    refine Z_callV C (ws' := mdW 0 (tA (tA (tA (mI M 0 0) 3 i 0) 4 i (-1)) 5 i (-1)) ++ kpW 7 (kpO (mI M 0 0))) (st' := []) (rest := []) [0, 1, 2, 3, 4, 5, 6] (c_X3_put (tA (tA (mI M 0 0) 3 i 0) 4 i (-1)) (nI i) 5 (-1) rfl (by omega) rfl (by decide)) m_X3_put K3 g_647 dX3_without_47 rfl rfl rfl (outI 7 rfl rfl rfl (outR _ _ _)) (NW := 11) rfl rfl rfl rfl rfl ⟨Nat.le_of_ble_eq_true rfl, Nat.le_of_ble_eq_true rfl⟩ ⟨Nat.le_of_ble_eq_true rfl, Nat.le_of_ble_eq_true rfl⟩ (Nat.le_of_ble_eq_true rfl) rfl ?_
    refine Z_aload_n C dX3_without_50 rfl rfl ?_
    refine Z_callV C (ws' := mdW 0 (mDrop (tA (tA (tA (mI M 0 0) 3 i 0) 4 i (-1)) 5 i (-1))) ++ kpW 7 (kpO (mI M 0 0))) (st' := []) (rest := []) [0, 1, 2, 3, 4, 5, 6] (c_X3_drop (tA (tA (tA (mI M 0 0) 3 i 0) 4 i (-1)) 5 i (-1)) hn h40 hq h30 (ok_put (ok_put ho (fun _ => okH_m1 _)) (fun _ => okH_m1 _))) m_X3_drop K3 g_651 dX3_without_51 rfl rfl rfl (outI 7 rfl rfl rfl (outR _ _ _)) (NW := 11) rfl rfl rfl rfl rfl ⟨Nat.le_of_ble_eq_true rfl, Nat.le_of_ble_eq_true rfl⟩ ⟨Nat.le_of_ble_eq_true rfl, Nat.le_of_ble_eq_true rfl⟩ (Nat.le_of_ble_eq_true rfl) rfl ?_
    refine Z_ws (fun X1 => mdW 0 X1 ++ kpW 7 (kpO (mI M 0 0))) (mDrop (tA (tA (tA (mI M 0 0) 3 i 0) 4 i (-1)) 5 i (-1))) (fun X1 eX1 => ?_)
    refine Z_aload_n C dX3_without_54 rfl rfl ?_
    refine Z_callV C (ws' := mdW 0 (mGv X1) ++ kpW 7 (kpO (mI M 0 0))) (st' := []) (rest := []) [0, 1, 2, 3, 4, 5, 6] (c_X3_giveWay X1 (show X1.2.2.2 1 = nI n from by rw [eX1]; exact ((congrFun (mi_Drop (tA (tA (tA (mI M 0 0) 3 i 0) 4 i (-1)) 5 i (-1))) 1).trans hn)) h40 (show X1.2.2.2 2 = nI r from by rw [eX1]; exact ((congrFun (mi_Drop (tA (tA (tA (mI M 0 0) 3 i 0) 4 i (-1)) 5 i (-1))) 2).trans hq)) h30 (show okM n X1 from by rw [eX1]; exact (ok_Drop hn h40 (ok_put (ok_put ho (fun _ => okH_m1 _)) (fun _ => okH_m1 _))))) m_X3_giveWay K3 g_622 dX3_without_55 rfl rfl rfl (outI 7 rfl rfl rfl (outR _ _ _)) (NW := 11) rfl rfl rfl rfl rfl ⟨Nat.le_of_ble_eq_true rfl, Nat.le_of_ble_eq_true rfl⟩ ⟨Nat.le_of_ble_eq_true rfl, Nat.le_of_ble_eq_true rfl⟩ (Nat.le_of_ble_eq_true rfl) rfl ?_
    refine Z_ws (fun X2 => mdW 0 X2 ++ kpW 7 (kpO (mI M 0 0))) (mGv X1) (fun X2 eX2 => ?_)
    refine Z_iload_n C dX3_without_58 rfl rfl ?_
    refine Z_aload_n C dX3_without_59 rfl rfl ?_
    refine Z_callV C (ws' := mdW 0 X2 ++ kpW 7 (kpO (mI M 0 0))) (st' := [.int (mHa X2), .int (mHa (mI M 0 0))]) (rest := [.int (mHa (mI M 0 0))]) [0, 1, 2, 3, 4, 5, 6] (c_X3_hanging X2 (show X2.2.2.2 1 = nI n from by rw [eX2]; exact ((congrFun (mi_Gv X1) 1).trans (show X1.2.2.2 1 = nI n from by rw [eX1]; exact ((congrFun (mi_Drop (tA (tA (tA (mI M 0 0) 3 i 0) 4 i (-1)) 5 i (-1))) 1).trans hn)))) h40 (show X2.2.2.2 2 = nI r from by rw [eX2]; exact ((congrFun (mi_Gv X1) 2).trans (show X1.2.2.2 2 = nI r from by rw [eX1]; exact ((congrFun (mi_Drop (tA (tA (tA (mI M 0 0) 3 i 0) 4 i (-1)) 5 i (-1))) 2).trans hq)))) h30 (show okM n X2 from by rw [eX2]; exact (ok_Gv (show X1.2.2.2 1 = nI n from by rw [eX1]; exact ((congrFun (mi_Drop (tA (tA (tA (mI M 0 0) 3 i 0) 4 i (-1)) 5 i (-1))) 1).trans hn)) h40 (show okM n X1 from by rw [eX1]; exact (ok_Drop hn h40 (ok_put (ok_put ho (fun _ => okH_m1 _)) (fun _ => okH_m1 _))))))) m_X3_hanging K3 g_675 dX3_without_60 rfl rfl rfl (outS 7 rfl (outR _ _ _)) (NW := 11) rfl rfl rfl rfl rfl ⟨Nat.le_of_ble_eq_true rfl, Nat.le_of_ble_eq_true rfl⟩ ⟨Nat.le_of_ble_eq_true rfl, Nat.le_of_ble_eq_true rfl⟩ (Nat.le_of_ble_eq_true rfl) rfl ?_
    refine Z_isub C (v := (mHa (mI M 0 0)) - (mHa X2)) dX3_without_63 rfl ?_
    refine Z_istore C (L' := [(4, .int ((mHa (mI M 0 0)) - (mHa X2))), (3, .int (mHa (mI M 0 0))), (2, .ref 7), (0, .ref 0), (1, .int (nI i))]) dX3_without_64 (by decide) rfl ?_
    refine Z_aload_n C dX3_without_66 rfl rfl ?_
    refine Z_aload_n C dX3_without_67 rfl rfl ?_
    refine Z_callV C (ws' := mdW 0 (mBk X2 (kpO (mI M 0 0))) ++ kpW 7 (kpO (mI M 0 0))) (st' := []) (rest := []) [0, 1, 2, 3, 4, 5, 6, 7, 8, 9, 10] (c_X3_bringBack X2 (kpO (mI M 0 0))) m_X3_bringBack K3 g_755 dX3_without_68 rfl (subW_kp _ _) (subW_kp _ _) (outI 7 rfl rfl rfl (outR _ _ _)) (NW := 11) rfl rfl rfl rfl rfl ⟨Nat.le_of_ble_eq_true rfl, Nat.le_of_ble_eq_true rfl⟩ ⟨Nat.le_of_ble_eq_true rfl, Nat.le_of_ble_eq_true rfl⟩ (Nat.le_of_ble_eq_true rfl) rfl ?_
    refine Z_ws (fun X3 => mdW 0 X3 ++ kpW 7 (kpO (mI M 0 0))) (mBk X2 (kpO (mI M 0 0))) (fun X3 eX3 => ?_)
    refine Z_sub (L' := [(4, .int ((mHa (mI M 0 0)) - (mHa X2))), (3, .int (mHa (mI M 0 0))), (0, .ref 0), (1, .int (nI i))]) (by simp) ?_
    refine Z_cut (N := 7) rfl ag1 (eFs_md _) rfl rfl ?_
    refine Z_iload C dX3_without_71 rfl ?_
    exact Z_iret C hr hlk dX3_without_73 (congrArg (fun z => some (Value.int z)) (show ((mWo M (nI i)).2) = ((mHa (mI M 0 0)) - (mHa X2)) from by subst eX1 eX2 eX3; simp [mWo, mWoX, c1, ei, eN, eR])) (by rw [show ((mWo M (nI i)).1) = X3 from by subst eX1 eX2 eX3; simp [mWo, mWoX, c1, ei, eN, eR]])
  · have c1 := bI_0.mp c1
    refine Z_aload_n C dX3_without_13 rfl rfl ?_
    refine Z_iconst C (v := 1) dX3_without_14 (by decide) ?_
    refine Z_callV C (ws' := mdW 0 (mI (mI M 0 0) 0 1)) (st' := [.int 0]) (rest := []) [0, 1, 2, 3, 4, 5, 6] (c_X3_fail (mI M 0 0) 1) m_X3_fail K3 g_611 dX3_without_15 rfl rfl rfl (outL 7 rfl rfl rfl) (NW := 7) rfl rfl rfl rfl rfl ⟨Nat.le_of_ble_eq_true rfl, Nat.le_of_ble_eq_true rfl⟩ ⟨Nat.le_of_ble_eq_true rfl, Nat.le_of_ble_eq_true rfl⟩ (Nat.le_of_ble_eq_true rfl) rfl ?_
    exact Z_widen (Nat.le_of_ble_eq_true rfl) (Nat.le_of_ble_eq_true rfl) (Z_iret C hr hlk dX3_without_18 (congrArg (fun z => some (Value.int z)) (show ((mWo M x).2) = 0 from by simp [mWo, mWoX, c1, eN, eR])) (by rw [show ((mWo M x).1) = (mI (mI M 0 0) 0 1) from by simp [mWo, mWoX, c1, eN, eR]]))
set_option maxHeartbeats 4000000 in
set_option maxRecDepth 20000 in
theorem c_X3_lasts (M : Md) (x : Int32) {n r : Nat} (hn : M.2.2.2 1 = nI n) (h40 : n ≤ 40) (hq : M.2.2.2 2 = nI r) (h30 : r ≤ 30) (ho : okM n M) : CT yX3_lasts cX3_lasts 4 (some .int) 7 4 374 [.ref 0, .int x] (mdW 0 M) (some (.int ((mLs M x).2))) (mdW 0 ((mLs M x).1)) := by
  refine CT_of (L := [(0, .ref 0), (1, .int x)]) (by decide) (fun _ => rfl) (fun _ => Nat.le_of_ble_eq_true rfl) ?_
  intro p l e s m args below meth c G h A C hr hlk _
  have eN : mN M = n := mN_eq hn h40; have eR : mR M = r := mR_eq hq h30
  refine Z_aload_n C dX3_lasts_0 rfl rfl ?_
  refine Z_iconst C (v := 0) dX3_lasts_1 (by decide) ?_
  refine Z_put C K3 (ws' := mdW 0 (mI M 0 0)) 0 dX3_lasts_2 rfl (by decide) g_572 rfl rfl rfl rfl rfl (Nat.le_of_ble_eq_true rfl) rfl ?_
  refine Z_aload_n C dX3_lasts_5 rfl rfl ?_
  refine Z_iload_n C dX3_lasts_6 rfl rfl ?_
  refine Z_callV C (ws' := mdW 0 (mI M 0 0)) (st' := [.int (bI (mHas (mI M 0 0) x))]) (rest := []) [0, 1, 2, 3, 4, 5, 6] (c_X3_isStone (mI M 0 0) x) m_X3_isStone K3 g_667 dX3_lasts_7 rfl rfl rfl (outR _ _ _) (NW := 7) rfl rfl rfl rfl rfl ⟨Nat.le_of_ble_eq_true rfl, Nat.le_of_ble_eq_true rfl⟩ ⟨Nat.le_of_ble_eq_true rfl, Nat.le_of_ble_eq_true rfl⟩ (Nat.le_of_ble_eq_true rfl) rfl ?_
  refine Z_if_ne C 19 dX3_lasts_10 (by decide) (fun c1 => ?_) (fun c1 => ?_)
  · have c1 := bI_n0.mp c1
    obtain ⟨i, hi, qi⟩ := isIn_ix hn (by omega) c1
    subst qi
    have ei : ix (nI i) = i := ix_nI (by omega)
    refine Z_aload_n C dX3_lasts_19 rfl rfl ?_
    refine Z_callG C (W9 := 7) (c_X3_kept (mI M 0 0)) m_X3_kept K3 g_743 dX3_lasts_20 rfl rfl ⟨Nat.le_of_ble_eq_true rfl, Nat.le_of_ble_eq_true rfl⟩ ⟨Nat.le_of_ble_eq_true rfl, Nat.le_of_ble_eq_true rfl⟩ (Nat.le_of_ble_eq_true rfl) rfl rfl rfl (fun h1 ag1 => ?_)
    refine Z_astore_n C (L' := [(2, .ref 7), (0, .ref 0), (1, .int (nI i))]) dX3_lasts_23 rfl (by decide) rfl ?_
    refine Z_iconst C (v := 0) dX3_lasts_24 (by decide) ?_
    refine Z_istore_n C (L' := [(3, .int 0), (2, .ref 7), (0, .ref 0), (1, .int (nI i))]) dX3_lasts_25 rfl (by decide) rfl ?_
    refine Zind (σ := Md) (fun k U => ∀ d : Nat, d + k = 120 → U.2.2.2 1 = nI n → U.2.2.2 2 = nI r → okM n U → mLsG i k d U = mLsR M i → Z p l e _ s m args below meth c 4 G A h1 _ 4 374 (mdW 0 U ++ kpW 7 (kpO (mI M 0 0))) 26 [(3, .int (nI d)), (2, .ref 7), (0, .ref 0), (1, .int (nI i))] []) 120 (mI M 0 0) (fun U d hd hU1 hU2 hU3 hg => ?_) (fun k U ih d hd hU1 hU2 hU3 hg => ?_) 0 rfl hn hq ho rfl
    · obtain rfl : d = 120 := by omega
      refine Z_iload_n C dX3_lasts_26 rfl rfl ?_
      refine Z_bipush C (v := 120) dX3_lasts_27 (by decide) ?_
      refine Z_icmp_ge C 50 dX3_lasts_29 (by decide) (fun c2 => ?_) (fun c2 => absurd (show (120 : Int32) ≤ nI 120 from by decide) c2)
      refine Z_aload_n C dX3_lasts_50 rfl rfl ?_
      refine Z_iload_n C dX3_lasts_51 rfl rfl ?_
      refine Z_callV C (ws' := mdW 0 U ++ kpW 7 (kpO (mI M 0 0))) (st' := [.int (bI (mHg U i))]) (rest := []) [0, 1, 2, 3, 4, 5, 6] (c_X3_hangs U (nI i) rfl (by omega)) m_X3_hangs K3 g_630 dX3_lasts_52 rfl rfl rfl (outS 7 rfl (outR _ _ _)) (NW := 11) rfl rfl rfl rfl rfl ⟨Nat.le_of_ble_eq_true rfl, Nat.le_of_ble_eq_true rfl⟩ ⟨Nat.le_of_ble_eq_true rfl, Nat.le_of_ble_eq_true rfl⟩ (Nat.le_of_ble_eq_true rfl) rfl ?_
      refine Z_if_eq C 60 dX3_lasts_55 (by decide) (fun c3 => ?_) (fun c3 => ?_)
      · have c3 := bI_0.mp c3
        refine Z_aload_n C dX3_lasts_60 rfl rfl ?_
        refine Z_aload_n C dX3_lasts_61 rfl rfl ?_
        refine Z_callV C (ws' := mdW 0 (mBk U (kpO (mI M 0 0))) ++ kpW 7 (kpO (mI M 0 0))) (st' := []) (rest := []) [0, 1, 2, 3, 4, 5, 6, 7, 8, 9, 10] (c_X3_bringBack U (kpO (mI M 0 0))) m_X3_bringBack K3 g_755 dX3_lasts_62 rfl (subW_kp _ _) (subW_kp _ _) (outI 7 rfl rfl rfl (outR _ _ _)) (NW := 11) rfl rfl rfl rfl rfl ⟨Nat.le_of_ble_eq_true rfl, Nat.le_of_ble_eq_true rfl⟩ ⟨Nat.le_of_ble_eq_true rfl, Nat.le_of_ble_eq_true rfl⟩ (Nat.le_of_ble_eq_true rfl) rfl ?_
        refine Z_ws (fun X1 => mdW 0 X1 ++ kpW 7 (kpO (mI M 0 0))) (mBk U (kpO (mI M 0 0))) (fun X1 eX1 => ?_)
        refine Z_sub (L' := [(3, .int (nI 120)), (0, .ref 0), (1, .int (nI i))]) (by simp) ?_
        refine Z_cut (N := 7) rfl ag1 (eFs_md _) rfl rfl ?_
        refine Z_iload_n C dX3_lasts_65 rfl rfl ?_
        exact Z_iret C hr hlk dX3_lasts_66 (congrArg (fun z => some (Value.int z)) (show ((mLs M (nI i)).2) = (nI 120) from by subst eX1; have hR : mLsR M i = (U, 120) := (by rw [← hg, mLsG]); simp [mLs, hR, c1, ei, c2, c3])) (by rw [show ((mLs M (nI i)).1) = X1 from by subst eX1; have hR : mLsR M i = (U, 120) := (by rw [← hg, mLsG]); simp [mLs, hR, c1, ei, c2, c3]])
      · have c3 := bI_n0.mp c3
        refine Z_iconst C (v := (-1)) dX3_lasts_58 (by decide) ?_
        refine Z_istore_n C (L' := [(3, .int (-1)), (2, .ref 7), (0, .ref 0), (1, .int (nI i))]) dX3_lasts_59 rfl (by decide) rfl ?_
        refine Z_aload_n C dX3_lasts_60 rfl rfl ?_
        refine Z_aload_n C dX3_lasts_61 rfl rfl ?_
        refine Z_callV C (ws' := mdW 0 (mBk U (kpO (mI M 0 0))) ++ kpW 7 (kpO (mI M 0 0))) (st' := []) (rest := []) [0, 1, 2, 3, 4, 5, 6, 7, 8, 9, 10] (c_X3_bringBack U (kpO (mI M 0 0))) m_X3_bringBack K3 g_755 dX3_lasts_62 rfl (subW_kp _ _) (subW_kp _ _) (outI 7 rfl rfl rfl (outR _ _ _)) (NW := 11) rfl rfl rfl rfl rfl ⟨Nat.le_of_ble_eq_true rfl, Nat.le_of_ble_eq_true rfl⟩ ⟨Nat.le_of_ble_eq_true rfl, Nat.le_of_ble_eq_true rfl⟩ (Nat.le_of_ble_eq_true rfl) rfl ?_
        refine Z_ws (fun X2 => mdW 0 X2 ++ kpW 7 (kpO (mI M 0 0))) (mBk U (kpO (mI M 0 0))) (fun X2 eX2 => ?_)
        refine Z_sub (L' := [(3, .int (-1)), (0, .ref 0), (1, .int (nI i))]) (by simp) ?_
        refine Z_cut (N := 7) rfl ag1 (eFs_md _) rfl rfl ?_
        refine Z_iload_n C dX3_lasts_65 rfl rfl ?_
        exact Z_iret C hr hlk dX3_lasts_66 (congrArg (fun z => some (Value.int z)) (show ((mLs M (nI i)).2) = (-1) from by subst eX2; have hR : mLsR M i = (U, 120) := (by rw [← hg, mLsG]); simp [mLs, hR, c1, ei, c2, c3])) (by rw [show ((mLs M (nI i)).1) = X2 from by subst eX2; have hR : mLsR M i = (U, 120) := (by rw [← hg, mLsG]); simp [mLs, hR, c1, ei, c2, c3]])
    · refine Z_iload_n C dX3_lasts_26 rfl rfl ?_
      refine Z_bipush C (v := 120) dX3_lasts_27 (by decide) ?_
      refine Z_icmp_ge C 50 dX3_lasts_29 (by decide) (fun c4 => absurd c4 (show ¬ (120 : Int32) ≤ nI d from ge_no' (n := 120) (by omega) (by omega))) (fun c4 => ?_)
      refine Z_aload_n C dX3_lasts_32 rfl rfl ?_
      refine Z_iload_n C dX3_lasts_33 rfl rfl ?_
      refine Z_callV C (ws' := mdW 0 U ++ kpW 7 (kpO (mI M 0 0))) (st' := [.int (bI (mHg U i))]) (rest := []) [0, 1, 2, 3, 4, 5, 6] (c_X3_hangs U (nI i) rfl (by omega)) m_X3_hangs K3 g_630 dX3_lasts_34 rfl rfl rfl (outS 7 rfl (outR _ _ _)) (NW := 11) rfl rfl rfl rfl rfl ⟨Nat.le_of_ble_eq_true rfl, Nat.le_of_ble_eq_true rfl⟩ ⟨Nat.le_of_ble_eq_true rfl, Nat.le_of_ble_eq_true rfl⟩ (Nat.le_of_ble_eq_true rfl) rfl ?_
      refine Z_if_eq C 50 dX3_lasts_37 (by decide) (fun c5 => ?_) (fun c5 => ?_)
      · have c5 := bI_0.mp c5
        refine Z_aload_n C dX3_lasts_50 rfl rfl ?_
        refine Z_iload_n C dX3_lasts_51 rfl rfl ?_
        refine Z_callV C (ws' := mdW 0 U ++ kpW 7 (kpO (mI M 0 0))) (st' := [.int (bI (mHg U i))]) (rest := []) [0, 1, 2, 3, 4, 5, 6] (c_X3_hangs U (nI i) rfl (by omega)) m_X3_hangs K3 g_630 dX3_lasts_52 rfl rfl rfl (outS 7 rfl (outR _ _ _)) (NW := 11) rfl rfl rfl rfl rfl ⟨Nat.le_of_ble_eq_true rfl, Nat.le_of_ble_eq_true rfl⟩ ⟨Nat.le_of_ble_eq_true rfl, Nat.le_of_ble_eq_true rfl⟩ (Nat.le_of_ble_eq_true rfl) rfl ?_
        refine Z_if_eq C 60 dX3_lasts_55 (by decide) (fun c6 => ?_) (fun c6 => absurd (bI_0.mpr c5) c6)
        refine Z_aload_n C dX3_lasts_60 rfl rfl ?_
        refine Z_aload_n C dX3_lasts_61 rfl rfl ?_
        refine Z_callV C (ws' := mdW 0 (mBk U (kpO (mI M 0 0))) ++ kpW 7 (kpO (mI M 0 0))) (st' := []) (rest := []) [0, 1, 2, 3, 4, 5, 6, 7, 8, 9, 10] (c_X3_bringBack U (kpO (mI M 0 0))) m_X3_bringBack K3 g_755 dX3_lasts_62 rfl (subW_kp _ _) (subW_kp _ _) (outI 7 rfl rfl rfl (outR _ _ _)) (NW := 11) rfl rfl rfl rfl rfl ⟨Nat.le_of_ble_eq_true rfl, Nat.le_of_ble_eq_true rfl⟩ ⟨Nat.le_of_ble_eq_true rfl, Nat.le_of_ble_eq_true rfl⟩ (Nat.le_of_ble_eq_true rfl) rfl ?_
        refine Z_ws (fun X3 => mdW 0 X3 ++ kpW 7 (kpO (mI M 0 0))) (mBk U (kpO (mI M 0 0))) (fun X3 eX3 => ?_)
        refine Z_sub (L' := [(3, .int (nI d)), (0, .ref 0), (1, .int (nI i))]) (by simp) ?_
        refine Z_cut (N := 7) rfl ag1 (eFs_md _) rfl rfl ?_
        refine Z_iload_n C dX3_lasts_65 rfl rfl ?_
        exact Z_iret C hr hlk dX3_lasts_66 (congrArg (fun z => some (Value.int z)) (show ((mLs M (nI i)).2) = (nI d) from by subst eX3; have hR : mLsR M i = (U, d) := (by rw [← hg, mLsG, if_neg (by rw [c5]; decide)]); simp [mLs, hR, c1, c4, c5, c6, ei])) (by rw [show ((mLs M (nI i)).1) = X3 from by subst eX3; have hR : mLsR M i = (U, d) := (by rw [← hg, mLsG, if_neg (by rw [c5]; decide)]); simp [mLs, hR, c1, c4, c5, c6, ei]])
      · have c5 := bI_n0.mp c5
        refine Z_aload_n C dX3_lasts_40 rfl rfl ?_
        refine Z_callV C (ws' := mdW 0 (mDy U) ++ kpW 7 (kpO (mI M 0 0))) (st' := []) (rest := []) [0, 1, 2, 3, 4, 5, 6] (c_X3_dayOn U hU1 h40 hU2 h30 hU3) m_X3_dayOn K3 g_735 dX3_lasts_41 rfl rfl rfl (outI 7 rfl rfl rfl (outR _ _ _)) (NW := 11) rfl rfl rfl rfl rfl ⟨Nat.le_of_ble_eq_true rfl, Nat.le_of_ble_eq_true rfl⟩ ⟨Nat.le_of_ble_eq_true rfl, Nat.le_of_ble_eq_true rfl⟩ (Nat.le_of_ble_eq_true rfl) rfl ?_
        refine Z_ws (fun X4 => mdW 0 X4 ++ kpW 7 (kpO (mI M 0 0))) (mDy U) (fun X4 eX4 => ?_)
        refine Z_iinc C (L' := [(3, .int (nI (d + 1))), (2, .ref 7), (0, .ref 0), (1, .int (nI i))]) (v := nI (d + 1)) dX3_lasts_44 rfl (nI_inc _) (by decide) rfl ?_
        refine Z_goto C 26 dX3_lasts_47 (by decide) ?_
        exact Z_sub (by simp) (ih X4 (d + 1) (by omega) (show X4.2.2.2 1 = nI n from by rw [eX4]; exact ((congrFun (mi_Dy U) 1).trans hU1)) (show X4.2.2.2 2 = nI r from by rw [eX4]; exact ((congrFun (mi_Dy U) 2).trans hU2)) (show okM n X4 from by rw [eX4]; exact (ok_Dy hU1 h40 hU3)) (by rw [← hg, mLsG, if_pos c5, eX4]))
  · have c1 := bI_0.mp c1
    refine Z_aload_n C dX3_lasts_13 rfl rfl ?_
    refine Z_iconst C (v := 1) dX3_lasts_14 (by decide) ?_
    refine Z_callV C (ws' := mdW 0 (mI (mI M 0 0) 0 1)) (st' := [.int 0]) (rest := []) [0, 1, 2, 3, 4, 5, 6] (c_X3_fail (mI M 0 0) 1) m_X3_fail K3 g_611 dX3_lasts_15 rfl rfl rfl (outL 7 rfl rfl rfl) (NW := 7) rfl rfl rfl rfl rfl ⟨Nat.le_of_ble_eq_true rfl, Nat.le_of_ble_eq_true rfl⟩ ⟨Nat.le_of_ble_eq_true rfl, Nat.le_of_ble_eq_true rfl⟩ (Nat.le_of_ble_eq_true rfl) rfl ?_
    exact Z_widen (Nat.le_of_ble_eq_true rfl) (Nat.le_of_ble_eq_true rfl) (Z_iret C hr hlk dX3_lasts_18 (congrArg (fun z => some (Value.int z)) (show ((mLs M x).2) = 0 from by simp [mLs, c1, eN, eR])) (by rw [show ((mLs M x).1) = (mI (mI M 0 0) 0 1) from by simp [mLs, c1, eN, eR]]))
set_option maxHeartbeats 4000000 in
set_option maxRecDepth 20000 in
theorem c_X3_foresee (M : Md) (x : Int32) (y : Int32) {n r : Nat} (hn : M.2.2.2 1 = nI n) (h40 : n ≤ 40) (hq : M.2.2.2 2 = nI r) (h30 : r ≤ 30) (ho : okM n M) : CT yX3_foresee cX3_foresee 5 (some .int) 8 4 374 [.ref 0, .int x, .int y] (mdW 0 M) (some (.int ((mFo M x y).2))) (mdW 0 ((mFo M x y).1)) := by
  refine CT_of (L := [(0, .ref 0), (1, .int x), (2, .int y)]) (by decide) (fun _ => rfl) (fun _ => Nat.le_of_ble_eq_true rfl) ?_
  intro p l e s m args below meth c G h A C hr hlk _
  have eN : mN M = n := mN_eq hn h40; have eR : mR M = r := mR_eq hq h30
  refine Z_aload_n C dX3_foresee_0 rfl rfl ?_
  refine Z_iconst C (v := 0) dX3_foresee_1 (by decide) ?_
  refine Z_put C K3 (ws' := mdW 0 (mI M 0 0)) 0 dX3_foresee_2 rfl (by decide) g_572 rfl rfl rfl rfl rfl (Nat.le_of_ble_eq_true rfl) rfl ?_
  refine Z_iload_n C dX3_foresee_5 rfl rfl ?_
  refine Z_iconst C (v := 1) dX3_foresee_6 (by decide) ?_
  refine Z_bipush C (v := 120) dX3_foresee_7 (by decide) ?_
  refine Z_callS C (ws' := mdW 0 (mI M 0 0)) (st' := [.int (bI (isInB x 1 120))]) (rest := []) [] (c_X3_isIn x 1 120) m_X3_isIn g_608 dX3_foresee_9 rfl rfl rfl (outR _ _ _) (NW := 7) rfl rfl rfl rfl ⟨Nat.le_of_ble_eq_true rfl, Nat.le_of_ble_eq_true rfl⟩ ⟨Nat.le_of_ble_eq_true rfl, Nat.le_of_ble_eq_true rfl⟩ (Nat.le_of_ble_eq_true rfl) rfl ?_
  refine Z_if_ne C 21 dX3_foresee_12 (by decide) (fun c1 => ?_) (fun c1 => ?_)
  · have c1 := bI_n0.mp c1
    obtain ⟨d, hd, qd⟩ := isIn_lit1 120 rfl (by decide) c1
    subst qd
    have ed : ix (nI d) = d := ix_nI (by omega)
    refine Z_iload_n C dX3_foresee_21 rfl rfl ?_
    refine Z_iconst C (v := 0) dX3_foresee_22 (by decide) ?_
    refine Z_iconst C (v := 2) dX3_foresee_23 (by decide) ?_
    refine Z_callS C (ws' := mdW 0 (mI M 0 0)) (st' := [.int (bI (isInB y 0 2))]) (rest := []) [] (c_X3_isIn y 0 2) m_X3_isIn g_608 dX3_foresee_24 rfl rfl rfl (outR _ _ _) (NW := 7) rfl rfl rfl rfl ⟨Nat.le_of_ble_eq_true rfl, Nat.le_of_ble_eq_true rfl⟩ ⟨Nat.le_of_ble_eq_true rfl, Nat.le_of_ble_eq_true rfl⟩ (Nat.le_of_ble_eq_true rfl) rfl ?_
    refine Z_if_ne C 36 dX3_foresee_27 (by decide) (fun c2 => ?_) (fun c2 => ?_)
    · have c2 := bI_n0.mp c2
      obtain ⟨u, hu, qu⟩ := isIn_lit 2 rfl (by decide) c2
      subst qu
      have eu : ix (nI u) = u := ix_nI (by omega)
      refine Z_aload_n C dX3_foresee_36 rfl rfl ?_
      rcases (show u = 0 ∨ u = 1 ∨ u = 2 from by omega) with rfl | rfl | rfl
      · refine Z_callG C (W9 := 7) (c_X3_kept (mI M 0 0)) m_X3_kept K3 g_743 dX3_foresee_37 rfl rfl ⟨Nat.le_of_ble_eq_true rfl, Nat.le_of_ble_eq_true rfl⟩ ⟨Nat.le_of_ble_eq_true rfl, Nat.le_of_ble_eq_true rfl⟩ (Nat.le_of_ble_eq_true rfl) rfl rfl rfl (fun h1 ag1 => ?_)
        refine Z_astore_n C (L' := [(3, .ref 7), (0, .ref 0), (1, .int (nI d)), (2, .int (nI 0))]) dX3_foresee_40 rfl (by decide) rfl ?_
        refine Z_aload_n C dX3_foresee_41 rfl rfl ?_
        refine Z_iload_n C dX3_foresee_42 rfl rfl ?_
        refine Z_callV C (ws' := mdW 0 (mDys (mI M 0 0) d) ++ kpW 7 (kpO (mI M 0 0))) (st' := []) (rest := []) [0, 1, 2, 3, 4, 5, 6] (c_X3_daysOn (mI M 0 0) (nI d) hn h40 hq h30 ho rfl (by omega)) m_X3_daysOn K3 g_731 dX3_foresee_43 rfl rfl rfl (outI 7 rfl rfl rfl (outR _ _ _)) (NW := 11) rfl rfl rfl rfl rfl ⟨Nat.le_of_ble_eq_true rfl, Nat.le_of_ble_eq_true rfl⟩ ⟨Nat.le_of_ble_eq_true rfl, Nat.le_of_ble_eq_true rfl⟩ (Nat.le_of_ble_eq_true rfl) rfl ?_
        refine Z_ws (fun X1 => mdW 0 X1 ++ kpW 7 (kpO (mI M 0 0))) (mDys (mI M 0 0) d) (fun X1 eX1 => ?_)
        refine Z_aload_n C dX3_foresee_46 rfl rfl ?_
        refine Z_iload_n C dX3_foresee_47 rfl rfl ?_
        refine Z_if_ne C 55 dX3_foresee_48 (by decide) (fun c3 => absurd (by decide) c3) (fun c3 => ?_)
        refine Z_iconst C (v := 2) dX3_foresee_51 (by decide) ?_
        refine Z_goto C 65 dX3_foresee_52 (by decide) ?_
        refine Z_callV C (ws' := mdW 0 X1 ++ kpW 7 (kpO (mI M 0 0))) (st' := [.int (mCt X1 2)]) (rest := []) [0, 1, 2, 3, 4, 5, 6] (c_X3_counted X1 2 (show X1.2.2.2 1 = nI n from by rw [eX1]; exact ((congrFun (mi_Dys (mI M 0 0) d) 1).trans hn)) h40 (show X1.2.2.2 2 = nI r from by rw [eX1]; exact ((congrFun (mi_Dys (mI M 0 0) d) 2).trans hq)) h30 (show okM n X1 from by rw [eX1]; exact (ok_Dys d hn h40 ho)) rfl (by first | decide | omega)) m_X3_counted K3 g_723 dX3_foresee_65 rfl rfl rfl (outS 7 rfl (outR _ _ _)) (NW := 11) rfl rfl rfl rfl rfl ⟨Nat.le_of_ble_eq_true rfl, Nat.le_of_ble_eq_true rfl⟩ ⟨Nat.le_of_ble_eq_true rfl, Nat.le_of_ble_eq_true rfl⟩ (Nat.le_of_ble_eq_true rfl) rfl ?_
        refine Z_istore C (L' := [(4, .int (mCt X1 2)), (3, .ref 7), (0, .ref 0), (1, .int (nI d)), (2, .int (nI 0))]) dX3_foresee_68 (by decide) rfl ?_
        refine Z_aload_n C dX3_foresee_70 rfl rfl ?_
        refine Z_aload_n C dX3_foresee_71 rfl rfl ?_
        refine Z_callV C (ws' := mdW 0 (mBk X1 (kpO (mI M 0 0))) ++ kpW 7 (kpO (mI M 0 0))) (st' := []) (rest := []) [0, 1, 2, 3, 4, 5, 6, 7, 8, 9, 10] (c_X3_bringBack X1 (kpO (mI M 0 0))) m_X3_bringBack K3 g_755 dX3_foresee_72 rfl (subW_kp _ _) (subW_kp _ _) (outI 7 rfl rfl rfl (outR _ _ _)) (NW := 11) rfl rfl rfl rfl rfl ⟨Nat.le_of_ble_eq_true rfl, Nat.le_of_ble_eq_true rfl⟩ ⟨Nat.le_of_ble_eq_true rfl, Nat.le_of_ble_eq_true rfl⟩ (Nat.le_of_ble_eq_true rfl) rfl ?_
        refine Z_ws (fun X2 => mdW 0 X2 ++ kpW 7 (kpO (mI M 0 0))) (mBk X1 (kpO (mI M 0 0))) (fun X2 eX2 => ?_)
        refine Z_sub (L' := [(4, .int (mCt X1 2)), (0, .ref 0), (1, .int (nI d)), (2, .int (nI 0))]) (by simp) ?_
        refine Z_cut (N := 7) rfl ag1 (eFs_md _) rfl rfl ?_
        refine Z_iload C dX3_foresee_75 rfl ?_
        exact Z_iret C hr hlk dX3_foresee_77 (congrArg (fun z => some (Value.int z)) (show ((mFo M (nI d) (nI 0)).2) = (mCt X1 2) from by subst eX1 eX2; simp [mFo, mFoW, c1, ed, c2, eu, eN, eR, ix_9])) (by rw [show ((mFo M (nI d) (nI 0)).1) = X2 from by subst eX1 eX2; simp [mFo, mFoW, c1, ed, c2, eu, eN, eR, ix_9]])
      · refine Z_callG C (W9 := 7) (c_X3_kept (mI M 0 0)) m_X3_kept K3 g_743 dX3_foresee_37 rfl rfl ⟨Nat.le_of_ble_eq_true rfl, Nat.le_of_ble_eq_true rfl⟩ ⟨Nat.le_of_ble_eq_true rfl, Nat.le_of_ble_eq_true rfl⟩ (Nat.le_of_ble_eq_true rfl) rfl rfl rfl (fun h2 ag2 => ?_)
        refine Z_astore_n C (L' := [(3, .ref 7), (0, .ref 0), (1, .int (nI d)), (2, .int (nI 1))]) dX3_foresee_40 rfl (by decide) rfl ?_
        refine Z_aload_n C dX3_foresee_41 rfl rfl ?_
        refine Z_iload_n C dX3_foresee_42 rfl rfl ?_
        refine Z_callV C (ws' := mdW 0 (mDys (mI M 0 0) d) ++ kpW 7 (kpO (mI M 0 0))) (st' := []) (rest := []) [0, 1, 2, 3, 4, 5, 6] (c_X3_daysOn (mI M 0 0) (nI d) hn h40 hq h30 ho rfl (by omega)) m_X3_daysOn K3 g_731 dX3_foresee_43 rfl rfl rfl (outI 7 rfl rfl rfl (outR _ _ _)) (NW := 11) rfl rfl rfl rfl rfl ⟨Nat.le_of_ble_eq_true rfl, Nat.le_of_ble_eq_true rfl⟩ ⟨Nat.le_of_ble_eq_true rfl, Nat.le_of_ble_eq_true rfl⟩ (Nat.le_of_ble_eq_true rfl) rfl ?_
        refine Z_ws (fun X3 => mdW 0 X3 ++ kpW 7 (kpO (mI M 0 0))) (mDys (mI M 0 0) d) (fun X3 eX3 => ?_)
        refine Z_aload_n C dX3_foresee_46 rfl rfl ?_
        refine Z_iload_n C dX3_foresee_47 rfl rfl ?_
        refine Z_if_ne C 55 dX3_foresee_48 (by decide) (fun c4 => ?_) (fun c4 => absurd c4 (by decide))
        refine Z_iload_n C dX3_foresee_55 rfl rfl ?_
        refine Z_iconst C (v := 1) dX3_foresee_56 (by decide) ?_
        refine Z_icmp_ne C 64 dX3_foresee_57 (by decide) (fun c5 => absurd c5 (by decide)) (fun c5 => ?_)
        refine Z_iconst C (v := 4) dX3_foresee_60 (by decide) ?_
        refine Z_goto C 65 dX3_foresee_61 (by decide) ?_
        refine Z_callV C (ws' := mdW 0 X3 ++ kpW 7 (kpO (mI M 0 0))) (st' := [.int (mCt X3 4)]) (rest := []) [0, 1, 2, 3, 4, 5, 6] (c_X3_counted X3 4 (show X3.2.2.2 1 = nI n from by rw [eX3]; exact ((congrFun (mi_Dys (mI M 0 0) d) 1).trans hn)) h40 (show X3.2.2.2 2 = nI r from by rw [eX3]; exact ((congrFun (mi_Dys (mI M 0 0) d) 2).trans hq)) h30 (show okM n X3 from by rw [eX3]; exact (ok_Dys d hn h40 ho)) rfl (by first | decide | omega)) m_X3_counted K3 g_723 dX3_foresee_65 rfl rfl rfl (outS 7 rfl (outR _ _ _)) (NW := 11) rfl rfl rfl rfl rfl ⟨Nat.le_of_ble_eq_true rfl, Nat.le_of_ble_eq_true rfl⟩ ⟨Nat.le_of_ble_eq_true rfl, Nat.le_of_ble_eq_true rfl⟩ (Nat.le_of_ble_eq_true rfl) rfl ?_
        refine Z_istore C (L' := [(4, .int (mCt X3 4)), (3, .ref 7), (0, .ref 0), (1, .int (nI d)), (2, .int (nI 1))]) dX3_foresee_68 (by decide) rfl ?_
        refine Z_aload_n C dX3_foresee_70 rfl rfl ?_
        refine Z_aload_n C dX3_foresee_71 rfl rfl ?_
        refine Z_callV C (ws' := mdW 0 (mBk X3 (kpO (mI M 0 0))) ++ kpW 7 (kpO (mI M 0 0))) (st' := []) (rest := []) [0, 1, 2, 3, 4, 5, 6, 7, 8, 9, 10] (c_X3_bringBack X3 (kpO (mI M 0 0))) m_X3_bringBack K3 g_755 dX3_foresee_72 rfl (subW_kp _ _) (subW_kp _ _) (outI 7 rfl rfl rfl (outR _ _ _)) (NW := 11) rfl rfl rfl rfl rfl ⟨Nat.le_of_ble_eq_true rfl, Nat.le_of_ble_eq_true rfl⟩ ⟨Nat.le_of_ble_eq_true rfl, Nat.le_of_ble_eq_true rfl⟩ (Nat.le_of_ble_eq_true rfl) rfl ?_
        refine Z_ws (fun X4 => mdW 0 X4 ++ kpW 7 (kpO (mI M 0 0))) (mBk X3 (kpO (mI M 0 0))) (fun X4 eX4 => ?_)
        refine Z_sub (L' := [(4, .int (mCt X3 4)), (0, .ref 0), (1, .int (nI d)), (2, .int (nI 1))]) (by simp) ?_
        refine Z_cut (N := 7) rfl ag2 (eFs_md _) rfl rfl ?_
        refine Z_iload C dX3_foresee_75 rfl ?_
        exact Z_iret C hr hlk dX3_foresee_77 (congrArg (fun z => some (Value.int z)) (show ((mFo M (nI d) (nI 1)).2) = (mCt X3 4) from by subst eX3 eX4; simp [mFo, mFoW, c1, ed, c2, eu, eN, eR, ix_9])) (by rw [show ((mFo M (nI d) (nI 1)).1) = X4 from by subst eX3 eX4; simp [mFo, mFoW, c1, ed, c2, eu, eN, eR, ix_9]])
      · refine Z_callG C (W9 := 7) (c_X3_kept (mI M 0 0)) m_X3_kept K3 g_743 dX3_foresee_37 rfl rfl ⟨Nat.le_of_ble_eq_true rfl, Nat.le_of_ble_eq_true rfl⟩ ⟨Nat.le_of_ble_eq_true rfl, Nat.le_of_ble_eq_true rfl⟩ (Nat.le_of_ble_eq_true rfl) rfl rfl rfl (fun h3 ag3 => ?_)
        refine Z_astore_n C (L' := [(3, .ref 7), (0, .ref 0), (1, .int (nI d)), (2, .int (nI 2))]) dX3_foresee_40 rfl (by decide) rfl ?_
        refine Z_aload_n C dX3_foresee_41 rfl rfl ?_
        refine Z_iload_n C dX3_foresee_42 rfl rfl ?_
        refine Z_callV C (ws' := mdW 0 (mDys (mI M 0 0) d) ++ kpW 7 (kpO (mI M 0 0))) (st' := []) (rest := []) [0, 1, 2, 3, 4, 5, 6] (c_X3_daysOn (mI M 0 0) (nI d) hn h40 hq h30 ho rfl (by omega)) m_X3_daysOn K3 g_731 dX3_foresee_43 rfl rfl rfl (outI 7 rfl rfl rfl (outR _ _ _)) (NW := 11) rfl rfl rfl rfl rfl ⟨Nat.le_of_ble_eq_true rfl, Nat.le_of_ble_eq_true rfl⟩ ⟨Nat.le_of_ble_eq_true rfl, Nat.le_of_ble_eq_true rfl⟩ (Nat.le_of_ble_eq_true rfl) rfl ?_
        refine Z_ws (fun X5 => mdW 0 X5 ++ kpW 7 (kpO (mI M 0 0))) (mDys (mI M 0 0) d) (fun X5 eX5 => ?_)
        refine Z_aload_n C dX3_foresee_46 rfl rfl ?_
        refine Z_iload_n C dX3_foresee_47 rfl rfl ?_
        refine Z_if_ne C 55 dX3_foresee_48 (by decide) (fun c6 => ?_) (fun c6 => absurd c6 (by decide))
        refine Z_iload_n C dX3_foresee_55 rfl rfl ?_
        refine Z_iconst C (v := 1) dX3_foresee_56 (by decide) ?_
        refine Z_icmp_ne C 64 dX3_foresee_57 (by decide) (fun c7 => ?_) (fun c7 => absurd c7 (by decide))
        refine Z_iconst C (v := 5) dX3_foresee_64 (by decide) ?_
        refine Z_callV C (ws' := mdW 0 X5 ++ kpW 7 (kpO (mI M 0 0))) (st' := [.int (mCt X5 5)]) (rest := []) [0, 1, 2, 3, 4, 5, 6] (c_X3_counted X5 5 (show X5.2.2.2 1 = nI n from by rw [eX5]; exact ((congrFun (mi_Dys (mI M 0 0) d) 1).trans hn)) h40 (show X5.2.2.2 2 = nI r from by rw [eX5]; exact ((congrFun (mi_Dys (mI M 0 0) d) 2).trans hq)) h30 (show okM n X5 from by rw [eX5]; exact (ok_Dys d hn h40 ho)) rfl (by first | decide | omega)) m_X3_counted K3 g_723 dX3_foresee_65 rfl rfl rfl (outS 7 rfl (outR _ _ _)) (NW := 11) rfl rfl rfl rfl rfl ⟨Nat.le_of_ble_eq_true rfl, Nat.le_of_ble_eq_true rfl⟩ ⟨Nat.le_of_ble_eq_true rfl, Nat.le_of_ble_eq_true rfl⟩ (Nat.le_of_ble_eq_true rfl) rfl ?_
        refine Z_istore C (L' := [(4, .int (mCt X5 5)), (3, .ref 7), (0, .ref 0), (1, .int (nI d)), (2, .int (nI 2))]) dX3_foresee_68 (by decide) rfl ?_
        refine Z_aload_n C dX3_foresee_70 rfl rfl ?_
        refine Z_aload_n C dX3_foresee_71 rfl rfl ?_
        refine Z_callV C (ws' := mdW 0 (mBk X5 (kpO (mI M 0 0))) ++ kpW 7 (kpO (mI M 0 0))) (st' := []) (rest := []) [0, 1, 2, 3, 4, 5, 6, 7, 8, 9, 10] (c_X3_bringBack X5 (kpO (mI M 0 0))) m_X3_bringBack K3 g_755 dX3_foresee_72 rfl (subW_kp _ _) (subW_kp _ _) (outI 7 rfl rfl rfl (outR _ _ _)) (NW := 11) rfl rfl rfl rfl rfl ⟨Nat.le_of_ble_eq_true rfl, Nat.le_of_ble_eq_true rfl⟩ ⟨Nat.le_of_ble_eq_true rfl, Nat.le_of_ble_eq_true rfl⟩ (Nat.le_of_ble_eq_true rfl) rfl ?_
        refine Z_ws (fun X6 => mdW 0 X6 ++ kpW 7 (kpO (mI M 0 0))) (mBk X5 (kpO (mI M 0 0))) (fun X6 eX6 => ?_)
        refine Z_sub (L' := [(4, .int (mCt X5 5)), (0, .ref 0), (1, .int (nI d)), (2, .int (nI 2))]) (by simp) ?_
        refine Z_cut (N := 7) rfl ag3 (eFs_md _) rfl rfl ?_
        refine Z_iload C dX3_foresee_75 rfl ?_
        exact Z_iret C hr hlk dX3_foresee_77 (congrArg (fun z => some (Value.int z)) (show ((mFo M (nI d) (nI 2)).2) = (mCt X5 5) from by subst eX5 eX6; simp [mFo, mFoW, c1, ed, c2, eu, eN, eR, ix_9])) (by rw [show ((mFo M (nI d) (nI 2)).1) = X6 from by subst eX5 eX6; simp [mFo, mFoW, c1, ed, c2, eu, eN, eR, ix_9]])
    · have c2 := bI_0.mp c2
      refine Z_aload_n C dX3_foresee_30 rfl rfl ?_
      refine Z_iconst C (v := 2) dX3_foresee_31 (by decide) ?_
      refine Z_callV C (ws' := mdW 0 (mI (mI M 0 0) 0 2)) (st' := [.int 0]) (rest := []) [0, 1, 2, 3, 4, 5, 6] (c_X3_fail (mI M 0 0) 2) m_X3_fail K3 g_611 dX3_foresee_32 rfl rfl rfl (outL 7 rfl rfl rfl) (NW := 7) rfl rfl rfl rfl rfl ⟨Nat.le_of_ble_eq_true rfl, Nat.le_of_ble_eq_true rfl⟩ ⟨Nat.le_of_ble_eq_true rfl, Nat.le_of_ble_eq_true rfl⟩ (Nat.le_of_ble_eq_true rfl) rfl ?_
      exact Z_widen (Nat.le_of_ble_eq_true rfl) (Nat.le_of_ble_eq_true rfl) (Z_iret C hr hlk dX3_foresee_35 (congrArg (fun z => some (Value.int z)) (show ((mFo M (nI d) y).2) = 0 from by simp [mFo, mFoW, c1, ed, c2, eN, eR, ix_9])) (by rw [show ((mFo M (nI d) y).1) = (mI (mI M 0 0) 0 2) from by simp [mFo, mFoW, c1, ed, c2, eN, eR, ix_9]]))
  · have c1 := bI_0.mp c1
    refine Z_aload_n C dX3_foresee_15 rfl rfl ?_
    refine Z_iconst C (v := 1) dX3_foresee_16 (by decide) ?_
    refine Z_callV C (ws' := mdW 0 (mI (mI M 0 0) 0 1)) (st' := [.int 0]) (rest := []) [0, 1, 2, 3, 4, 5, 6] (c_X3_fail (mI M 0 0) 1) m_X3_fail K3 g_611 dX3_foresee_17 rfl rfl rfl (outL 7 rfl rfl rfl) (NW := 7) rfl rfl rfl rfl rfl ⟨Nat.le_of_ble_eq_true rfl, Nat.le_of_ble_eq_true rfl⟩ ⟨Nat.le_of_ble_eq_true rfl, Nat.le_of_ble_eq_true rfl⟩ (Nat.le_of_ble_eq_true rfl) rfl ?_
    exact Z_widen (Nat.le_of_ble_eq_true rfl) (Nat.le_of_ble_eq_true rfl) (Z_iret C hr hlk dX3_foresee_20 (congrArg (fun z => some (Value.int z)) (show ((mFo M x y).2) = 0 from by simp [mFo, mFoW, c1, eN, eR, ix_9])) (by rw [show ((mFo M x y).1) = (mI (mI M 0 0) 0 1) from by simp [mFo, mFoW, c1, eN, eR, ix_9]]))
set_option maxHeartbeats 4000000 in
set_option maxRecDepth 20000 in
theorem c_X3_advise (M : Md) (x : Int32) (y : Int32) {n r : Nat} (hn : M.2.2.2 1 = nI n) (h40 : n ≤ 40) (hq : M.2.2.2 2 = nI r) (h30 : r ≤ 30) (ho : okM n M) : CT yX3_advise cX3_advise 8 (some .int) 8 4 374 [.ref 0, .int x, .int y] (mdW 0 M) (some (.int ((mAd M x y).2))) (mdW 0 ((mAd M x y).1)) := by
  refine CT_of (L := [(0, .ref 0), (1, .int x), (2, .int y)]) (by decide) (fun _ => rfl) (fun _ => Nat.le_of_ble_eq_true rfl) ?_
  intro p l e s m args below meth c G h A C hr hlk _
  have eN : mN M = n := mN_eq hn h40; have eR : mR M = r := mR_eq hq h30
  refine Z_aload_n C dX3_advise_0 rfl rfl ?_
  refine Z_iconst C (v := 0) dX3_advise_1 (by decide) ?_
  refine Z_put C K3 (ws' := mdW 0 (mI M 0 0)) 0 dX3_advise_2 rfl (by decide) g_572 rfl rfl rfl rfl rfl (Nat.le_of_ble_eq_true rfl) rfl ?_
  refine Z_iload_n C dX3_advise_5 rfl rfl ?_
  refine Z_iconst C (v := 1) dX3_advise_6 (by decide) ?_
  refine Z_bipush C (v := 60) dX3_advise_7 (by decide) ?_
  refine Z_callS C (ws' := mdW 0 (mI M 0 0)) (st' := [.int (bI (isInB x 1 60))]) (rest := []) [] (c_X3_isIn x 1 60) m_X3_isIn g_608 dX3_advise_9 rfl rfl rfl (outR _ _ _) (NW := 7) rfl rfl rfl rfl ⟨Nat.le_of_ble_eq_true rfl, Nat.le_of_ble_eq_true rfl⟩ ⟨Nat.le_of_ble_eq_true rfl, Nat.le_of_ble_eq_true rfl⟩ (Nat.le_of_ble_eq_true rfl) rfl ?_
  refine Z_if_eq C 25 dX3_advise_12 (by decide) (fun c1 => ?_) (fun c1 => ?_)
  · have c1 := bI_0.mp c1
    refine Z_aload_n C dX3_advise_25 rfl rfl ?_
    refine Z_iconst C (v := 1) dX3_advise_26 (by decide) ?_
    refine Z_callV C (ws' := mdW 0 (mI (mI M 0 0) 0 1)) (st' := [.int 0]) (rest := []) [0, 1, 2, 3, 4, 5, 6] (c_X3_fail (mI M 0 0) 1) m_X3_fail K3 g_611 dX3_advise_27 rfl rfl rfl (outL 7 rfl rfl rfl) (NW := 7) rfl rfl rfl rfl rfl ⟨Nat.le_of_ble_eq_true rfl, Nat.le_of_ble_eq_true rfl⟩ ⟨Nat.le_of_ble_eq_true rfl, Nat.le_of_ble_eq_true rfl⟩ (Nat.le_of_ble_eq_true rfl) rfl ?_
    exact Z_widen (Nat.le_of_ble_eq_true rfl) (Nat.le_of_ble_eq_true rfl) (Z_iret C hr hlk dX3_advise_30 (congrArg (fun z => some (Value.int z)) (show ((mAd M x y).2) = 0 from by simp [mAd, mAdR, mAd0, c1, eN, eR])) (by rw [show ((mAd M x y).1) = (mI (mI M 0 0) 0 1) from by simp [mAd, mAdR, mAd0, c1, eN, eR]]))
  · have c1 := bI_n0.mp c1
    refine Z_iload_n C dX3_advise_15 rfl rfl ?_
    refine Z_iconst C (v := 1) dX3_advise_16 (by decide) ?_
    refine Z_bipush C (v := 60) dX3_advise_17 (by decide) ?_
    refine Z_callS C (ws' := mdW 0 (mI M 0 0)) (st' := [.int (bI (isInB y 1 60))]) (rest := []) [] (c_X3_isIn y 1 60) m_X3_isIn g_608 dX3_advise_19 rfl rfl rfl (outR _ _ _) (NW := 7) rfl rfl rfl rfl ⟨Nat.le_of_ble_eq_true rfl, Nat.le_of_ble_eq_true rfl⟩ ⟨Nat.le_of_ble_eq_true rfl, Nat.le_of_ble_eq_true rfl⟩ (Nat.le_of_ble_eq_true rfl) rfl ?_
    refine Z_if_ne C 31 dX3_advise_22 (by decide) (fun c2 => ?_) (fun c2 => ?_)
    · have c2 := bI_n0.mp c2
      obtain ⟨d, hd, qd⟩ := isIn_lit1 60 rfl (by decide) c2
      subst qd
      have ed : ix (nI d) = d := ix_nI (by omega)
      refine Z_aload_n C dX3_advise_31 rfl rfl ?_
      refine Z_callG C (W9 := 7) (c_X3_kept (mI M 0 0)) m_X3_kept K3 g_743 dX3_advise_32 rfl rfl ⟨Nat.le_of_ble_eq_true rfl, Nat.le_of_ble_eq_true rfl⟩ ⟨Nat.le_of_ble_eq_true rfl, Nat.le_of_ble_eq_true rfl⟩ (Nat.le_of_ble_eq_true rfl) rfl rfl rfl (fun h1 ag1 => ?_)
      refine Z_astore_n C (L' := [(3, .ref 7), (0, .ref 0), (1, .int x), (2, .int (nI d))]) dX3_advise_35 rfl (by decide) rfl ?_
      refine Z_aload_n C dX3_advise_36 rfl rfl ?_
      refine Z_iload_n C dX3_advise_37 rfl rfl ?_
      refine Z_callV C (ws' := mdW 0 (mDys (mI M 0 0) d) ++ kpW 7 (kpO (mI M 0 0))) (st' := []) (rest := []) [0, 1, 2, 3, 4, 5, 6] (c_X3_daysOn (mI M 0 0) (nI d) hn h40 hq h30 ho rfl (by omega)) m_X3_daysOn K3 g_731 dX3_advise_38 rfl rfl rfl (outI 7 rfl rfl rfl (outR _ _ _)) (NW := 11) rfl rfl rfl rfl rfl ⟨Nat.le_of_ble_eq_true rfl, Nat.le_of_ble_eq_true rfl⟩ ⟨Nat.le_of_ble_eq_true rfl, Nat.le_of_ble_eq_true rfl⟩ (Nat.le_of_ble_eq_true rfl) rfl ?_
      refine Z_ws (fun X1 => mdW 0 X1 ++ kpW 7 (kpO (mI M 0 0))) (mDys (mI M 0 0) d) (fun X1 eX1 => ?_)
      refine Z_iconst C (v := (-1)) dX3_advise_41 (by decide) ?_
      refine Z_istore C (L' := [(4, .int (-1)), (3, .ref 7), (0, .ref 0), (1, .int x), (2, .int (nI d))]) dX3_advise_42 (by decide) rfl ?_
      refine Z_aload_n C dX3_advise_44 rfl rfl ?_
      refine Z_callV C (ws' := mdW 0 X1 ++ kpW 7 (kpO (mI M 0 0))) (st' := [.int (mHa X1)]) (rest := []) [0, 1, 2, 3, 4, 5, 6] (c_X3_hanging X1 (show X1.2.2.2 1 = nI n from by rw [eX1]; exact ((congrFun (mi_Dys (mI M 0 0) d) 1).trans hn)) h40 (show X1.2.2.2 2 = nI r from by rw [eX1]; exact ((congrFun (mi_Dys (mI M 0 0) d) 2).trans hq)) h30 (show okM n X1 from by rw [eX1]; exact (ok_Dys d hn h40 ho))) m_X3_hanging K3 g_675 dX3_advise_45 rfl rfl rfl (outS 7 rfl (outR _ _ _)) (NW := 11) rfl rfl rfl rfl rfl ⟨Nat.le_of_ble_eq_true rfl, Nat.le_of_ble_eq_true rfl⟩ ⟨Nat.le_of_ble_eq_true rfl, Nat.le_of_ble_eq_true rfl⟩ (Nat.le_of_ble_eq_true rfl) rfl ?_
      refine Z_istore C (L' := [(5, .int (mHa X1)), (4, .int (-1)), (3, .ref 7), (0, .ref 0), (1, .int x), (2, .int (nI d))]) dX3_advise_48 (by decide) rfl ?_
      refine Z_aload_n C dX3_advise_50 rfl rfl ?_
      refine Z_aload_n C dX3_advise_51 rfl rfl ?_
      refine Z_callV C (ws' := mdW 0 (mBk X1 (kpO (mI M 0 0))) ++ kpW 7 (kpO (mI M 0 0))) (st' := []) (rest := []) [0, 1, 2, 3, 4, 5, 6, 7, 8, 9, 10] (c_X3_bringBack X1 (kpO (mI M 0 0))) m_X3_bringBack K3 g_755 dX3_advise_52 rfl (subW_kp _ _) (subW_kp _ _) (outI 7 rfl rfl rfl (outR _ _ _)) (NW := 11) rfl rfl rfl rfl rfl ⟨Nat.le_of_ble_eq_true rfl, Nat.le_of_ble_eq_true rfl⟩ ⟨Nat.le_of_ble_eq_true rfl, Nat.le_of_ble_eq_true rfl⟩ (Nat.le_of_ble_eq_true rfl) rfl ?_
      refine Z_ws (fun X2 => mdW 0 X2 ++ kpW 7 (kpO (mI M 0 0))) (mBk X1 (kpO (mI M 0 0))) (fun X2 eX2 => ?_)
      refine Z_iconst C (v := 0) dX3_advise_55 (by decide) ?_
      refine Z_istore C (L' := [(6, .int 0), (5, .int (mHa X1)), (4, .int (-1)), (3, .ref 7), (0, .ref 0), (1, .int x), (2, .int (nI d))]) dX3_advise_56 (by decide) rfl ?_
      refine Zfor (σ := Md × Int32 × Int32) (fun i T1 => Z p l e _ s m args below meth c 8 G A h1 _ 4 374 (mdW 0 (T1.1) ++ kpW 7 (kpO (mI M 0 0))) 58 [(6, .int (nI i)), (5, .int T1.2.2), (4, .int T1.2.1), (3, .ref 7), (0, .ref 0), (1, .int x), (2, .int (nI d))] []) (fun i T1 => T1.1.2.2.2 1 = nI n ∧ T1.1.2.2.2 2 = nI r ∧ okM n T1.1) (mAd1 x d (kpO (mI M 0 0))) n ((X2, -1, mHa X1)) (⟨(show X2.2.2.2 1 = nI n from by rw [eX2]; exact ((congrFun (mBk_i X1 (kpO (mI M 0 0))) 1).trans (show X1.2.2.2 1 = nI n from by rw [eX1]; exact ((congrFun (mi_Dys (mI M 0 0) d) 1).trans hn)))), (show X2.2.2.2 2 = nI r from by rw [eX2]; exact ((congrFun (mBk_i X1 (kpO (mI M 0 0))) 2).trans (show X1.2.2.2 2 = nI r from by rw [eX1]; exact ((congrFun (mi_Dys (mI M 0 0) d) 2).trans hq)))), (show okM n X2 from by rw [eX2]; exact (ok_Bk (kpO_1 (mI M 0 0)) ho))⟩) (fun i T1 hi hT1 => ⟨(congrFun (mi_Ad1 x d _ i T1) 1).trans hT1.1, (congrFun (mi_Ad1 x d _ i T1) 2).trans hT1.2.1, ok_Ad1 ho hT1.2.2⟩) (fun T1 hT1 eT1 => ?_) (fun i T1 hi hT1 hT1' kk => ?_)
      · refine Z_iload C dX3_advise_58 rfl ?_
        refine Z_aload_n C dX3_advise_60 rfl rfl ?_
        refine Z_get C K3 (v := .int ((T1.1).2.2.2 1)) 1 dX3_advise_61 rfl (by decide) g_573 rfl rfl ?_
        refine Z_icmp_ge C 146 dX3_advise_64 (by decide) (fun c3 => ?_) (fun c3 => absurd (ge_yes hT1.1) c3)
        refine Z_sub (L' := [(6, .int (nI n)), (5, .int T1.2.2), (4, .int T1.2.1), (0, .ref 0), (1, .int x), (2, .int (nI d))]) (by simp) ?_
        refine Z_cut (N := 7) rfl ag1 (eFs_md _) rfl rfl ?_
        refine Z_iload C dX3_advise_146 rfl ?_
        exact Z_iret C hr hlk dX3_advise_148 (congrArg (fun z => some (Value.int z)) (show ((mAd M x (nI d)).2) = T1.2.1 from by subst eX1 eX2 eT1; simp [mAd, mAdR, mAd0, c1, c2, ed, c3, eN, eR])) (by rw [show ((mAd M x (nI d)).1) = (T1.1) from by subst eX1 eX2 eT1; simp [mAd, mAdR, mAd0, c1, c2, ed, c3, eN, eR]])
      · refine Z_iload C dX3_advise_58 rfl ?_
        refine Z_aload_n C dX3_advise_60 rfl rfl ?_
        refine Z_get C K3 (v := .int ((T1.1).2.2.2 1)) 1 dX3_advise_61 rfl (by decide) g_573 rfl rfl ?_
        refine Z_icmp_ge C 146 dX3_advise_64 (by decide) (fun c4 => absurd c4 (ge_no hT1.1 h40 hi)) (fun c4 => ?_)
        refine Z_aload_n C dX3_advise_67 rfl rfl ?_
        refine Z_iload C dX3_advise_68 rfl ?_
        refine Z_callV C (ws' := mdW 0 (T1.1) ++ kpW 7 (kpO (mI M 0 0))) (st' := [.int (bI (mHg (T1.1) i))]) (rest := []) [0, 1, 2, 3, 4, 5, 6] (c_X3_hangs (T1.1) (nI i) rfl (by omega)) m_X3_hangs K3 g_630 dX3_advise_70 rfl rfl rfl (outS 7 rfl (outR _ _ _)) (NW := 11) rfl rfl rfl rfl rfl ⟨Nat.le_of_ble_eq_true rfl, Nat.le_of_ble_eq_true rfl⟩ ⟨Nat.le_of_ble_eq_true rfl, Nat.le_of_ble_eq_true rfl⟩ (Nat.le_of_ble_eq_true rfl) rfl ?_
        refine Z_if_ne C 79 dX3_advise_73 (by decide) (fun c5 => ?_) (fun c5 => ?_)
        · have c5 := bI_n0.mp c5
          refine Z_aload_n C dX3_advise_79 rfl rfl ?_
          refine Z_iload C dX3_advise_80 rfl ?_
          refine Z_bipush C (v := 6) dX3_advise_82 (by decide) ?_
          refine Z_bipush C (v := 60) dX3_advise_84 (by decide) ?_
          refine Z_aload_n C dX3_advise_86 rfl rfl ?_
          refine Z_iload C dX3_advise_87 rfl ?_
          refine Z_bipush C (v := 6) dX3_advise_89 (by decide) ?_
          refine Z_callV C (ws' := mdW 0 (T1.1) ++ kpW 7 (kpO (mI M 0 0))) (st' := [.int ((T1.1).1 6 i), .int 60, .int 6, .int (nI i), .ref 0]) (rest := [.int 60, .int 6, .int (nI i), .ref 0]) [0, 1, 2, 3, 4, 5, 6] (c_X3_to (T1.1) (nI i) 6 rfl (by omega) rfl (by decide)) m_X3_to K3 g_634 dX3_advise_91 rfl rfl rfl (outS 7 rfl (outR _ _ _)) (NW := 11) rfl rfl rfl rfl rfl ⟨Nat.le_of_ble_eq_true rfl, Nat.le_of_ble_eq_true rfl⟩ ⟨Nat.le_of_ble_eq_true rfl, Nat.le_of_ble_eq_true rfl⟩ (Nat.le_of_ble_eq_true rfl) rfl ?_
          refine Z_iload_n C dX3_advise_94 rfl rfl ?_
          refine Z_iadd C (v := ((T1.1).1 6 i) + x) dX3_advise_95 rfl ?_
          refine Z_mmin C (v := mn 60 (((T1.1).1 6 i) + x)) dX3_advise_96 g_771 g_560 g_46 g_561 (Nat.le_of_ble_eq_true rfl) (Nat.le_of_ble_eq_true rfl) ⟨Nat.le_of_ble_eq_true rfl, Nat.le_of_ble_eq_true rfl⟩ rfl ?_
          refine Z_callV C (ws' := mdW 0 (tA (T1.1) 6 i (mn 60 (((T1.1).1 6 i) + x))) ++ kpW 7 (kpO (mI M 0 0))) (st' := []) (rest := []) [0, 1, 2, 3, 4, 5, 6] (c_X3_put (T1.1) (nI i) 6 (mn 60 (((T1.1).1 6 i) + x)) rfl (by omega) rfl (by decide)) m_X3_put K3 g_647 dX3_advise_99 rfl rfl rfl (outI 7 rfl rfl rfl (outR _ _ _)) (NW := 11) rfl rfl rfl rfl rfl ⟨Nat.le_of_ble_eq_true rfl, Nat.le_of_ble_eq_true rfl⟩ ⟨Nat.le_of_ble_eq_true rfl, Nat.le_of_ble_eq_true rfl⟩ (Nat.le_of_ble_eq_true rfl) rfl ?_
          refine Z_aload_n C dX3_advise_102 rfl rfl ?_
          refine Z_callV C (ws' := mdW 0 (mGv (tA (T1.1) 6 i (mn 60 (((T1.1).1 6 i) + x)))) ++ kpW 7 (kpO (mI M 0 0))) (st' := []) (rest := []) [0, 1, 2, 3, 4, 5, 6] (c_X3_giveWay (tA (T1.1) 6 i (mn 60 (((T1.1).1 6 i) + x))) hT1.1 h40 hT1.2.1 h30 hT1.2.2) m_X3_giveWay K3 g_622 dX3_advise_103 rfl rfl rfl (outI 7 rfl rfl rfl (outR _ _ _)) (NW := 11) rfl rfl rfl rfl rfl ⟨Nat.le_of_ble_eq_true rfl, Nat.le_of_ble_eq_true rfl⟩ ⟨Nat.le_of_ble_eq_true rfl, Nat.le_of_ble_eq_true rfl⟩ (Nat.le_of_ble_eq_true rfl) rfl ?_
          refine Z_ws (fun X3 => mdW 0 X3 ++ kpW 7 (kpO (mI M 0 0))) (mGv (tA (T1.1) 6 i (mn 60 (((T1.1).1 6 i) + x)))) (fun X3 eX3 => ?_)
          refine Z_aload_n C dX3_advise_106 rfl rfl ?_
          refine Z_iload_n C dX3_advise_107 rfl rfl ?_
          refine Z_callV C (ws' := mdW 0 (mDys X3 d) ++ kpW 7 (kpO (mI M 0 0))) (st' := []) (rest := []) [0, 1, 2, 3, 4, 5, 6] (c_X3_daysOn X3 (nI d) (show X3.2.2.2 1 = nI n from by rw [eX3]; exact ((congrFun (mi_Gv (tA (T1.1) 6 i (mn 60 (((T1.1).1 6 i) + x)))) 1).trans hT1.1)) h40 (show X3.2.2.2 2 = nI r from by rw [eX3]; exact ((congrFun (mi_Gv (tA (T1.1) 6 i (mn 60 (((T1.1).1 6 i) + x)))) 2).trans hT1.2.1)) h30 (show okM n X3 from by rw [eX3]; exact (ok_Gv hT1.1 h40 hT1.2.2)) rfl (by omega)) m_X3_daysOn K3 g_731 dX3_advise_108 rfl rfl rfl (outI 7 rfl rfl rfl (outR _ _ _)) (NW := 11) rfl rfl rfl rfl rfl ⟨Nat.le_of_ble_eq_true rfl, Nat.le_of_ble_eq_true rfl⟩ ⟨Nat.le_of_ble_eq_true rfl, Nat.le_of_ble_eq_true rfl⟩ (Nat.le_of_ble_eq_true rfl) rfl ?_
          refine Z_ws (fun X4 => mdW 0 X4 ++ kpW 7 (kpO (mI M 0 0))) (mDys X3 d) (fun X4 eX4 => ?_)
          refine Z_aload_n C dX3_advise_111 rfl rfl ?_
          refine Z_callV C (ws' := mdW 0 X4 ++ kpW 7 (kpO (mI M 0 0))) (st' := [.int (mHa X4)]) (rest := []) [0, 1, 2, 3, 4, 5, 6] (c_X3_hanging X4 (show X4.2.2.2 1 = nI n from by rw [eX4]; exact ((congrFun (mi_Dys X3 d) 1).trans (show X3.2.2.2 1 = nI n from by rw [eX3]; exact ((congrFun (mi_Gv (tA (T1.1) 6 i (mn 60 (((T1.1).1 6 i) + x)))) 1).trans hT1.1)))) h40 (show X4.2.2.2 2 = nI r from by rw [eX4]; exact ((congrFun (mi_Dys X3 d) 2).trans (show X3.2.2.2 2 = nI r from by rw [eX3]; exact ((congrFun (mi_Gv (tA (T1.1) 6 i (mn 60 (((T1.1).1 6 i) + x)))) 2).trans hT1.2.1)))) h30 (show okM n X4 from by rw [eX4]; exact (ok_Dys d (show X3.2.2.2 1 = nI n from by rw [eX3]; exact ((congrFun (mi_Gv (tA (T1.1) 6 i (mn 60 (((T1.1).1 6 i) + x)))) 1).trans hT1.1)) h40 (show okM n X3 from by rw [eX3]; exact (ok_Gv hT1.1 h40 hT1.2.2))))) m_X3_hanging K3 g_675 dX3_advise_112 rfl rfl rfl (outS 7 rfl (outR _ _ _)) (NW := 11) rfl rfl rfl rfl rfl ⟨Nat.le_of_ble_eq_true rfl, Nat.le_of_ble_eq_true rfl⟩ ⟨Nat.le_of_ble_eq_true rfl, Nat.le_of_ble_eq_true rfl⟩ (Nat.le_of_ble_eq_true rfl) rfl ?_
          refine Z_istore C (L' := [(7, .int (mHa X4)), (6, .int (nI i)), (5, .int T1.2.2), (4, .int T1.2.1), (3, .ref 7), (0, .ref 0), (1, .int x), (2, .int (nI d))]) dX3_advise_115 (by decide) rfl ?_
          refine Z_aload_n C dX3_advise_117 rfl rfl ?_
          refine Z_aload_n C dX3_advise_118 rfl rfl ?_
          refine Z_callV C (ws' := mdW 0 (mBk X4 (kpO (mI M 0 0))) ++ kpW 7 (kpO (mI M 0 0))) (st' := []) (rest := []) [0, 1, 2, 3, 4, 5, 6, 7, 8, 9, 10] (c_X3_bringBack X4 (kpO (mI M 0 0))) m_X3_bringBack K3 g_755 dX3_advise_119 rfl (subW_kp _ _) (subW_kp _ _) (outI 7 rfl rfl rfl (outR _ _ _)) (NW := 11) rfl rfl rfl rfl rfl ⟨Nat.le_of_ble_eq_true rfl, Nat.le_of_ble_eq_true rfl⟩ ⟨Nat.le_of_ble_eq_true rfl, Nat.le_of_ble_eq_true rfl⟩ (Nat.le_of_ble_eq_true rfl) rfl ?_
          refine Z_ws (fun X5 => mdW 0 X5 ++ kpW 7 (kpO (mI M 0 0))) (mBk X4 (kpO (mI M 0 0))) (fun X5 eX5 => ?_)
          refine Z_iload C dX3_advise_122 rfl ?_
          refine Z_iload C dX3_advise_124 rfl ?_
          refine Z_icmp_gt C 132 dX3_advise_126 (by decide) (fun c6 => ?_) (fun c6 => ?_)
          · refine Z_iload C dX3_advise_132 rfl ?_
            refine Z_istore C (L' := [(4, .int (nI i)), (7, .int (mHa X4)), (6, .int (nI i)), (5, .int T1.2.2), (3, .ref 7), (0, .ref 0), (1, .int x), (2, .int (nI d))]) dX3_advise_134 (by decide) rfl ?_
            refine Z_iload C dX3_advise_136 rfl ?_
            refine Z_istore C (L' := [(5, .int (mHa X4)), (4, .int (nI i)), (7, .int (mHa X4)), (6, .int (nI i)), (3, .ref 7), (0, .ref 0), (1, .int x), (2, .int (nI d))]) dX3_advise_138 (by decide) rfl ?_
            refine Z_iinc C (L' := [(6, .int (nI (i + 1))), (5, .int (mHa X4)), (4, .int (nI i)), (7, .int (mHa X4)), (3, .ref 7), (0, .ref 0), (1, .int x), (2, .int (nI d))]) (v := nI (i + 1)) dX3_advise_140 rfl (nI_inc _) (by decide) rfl ?_
            refine Z_goto C 58 dX3_advise_143 (by decide) ?_
            rw [show (mAd1 x d (kpO (mI M 0 0))) i T1 = (X5, nI i, mHa X4) from by subst eX1 eX2 eX3 eX4 eX5; simp [mAd1, mAdX, c1, c2, ed, c4, c5, c6]] at kk
            exact Z_sub (by simp [bI_t, bI_f]) kk
          · refine Z_goto C 140 dX3_advise_129 (by decide) ?_
            refine Z_iinc C (L' := [(6, .int (nI (i + 1))), (7, .int (mHa X4)), (5, .int T1.2.2), (4, .int T1.2.1), (3, .ref 7), (0, .ref 0), (1, .int x), (2, .int (nI d))]) (v := nI (i + 1)) dX3_advise_140 rfl (nI_inc _) (by decide) rfl ?_
            refine Z_goto C 58 dX3_advise_143 (by decide) ?_
            rw [show (mAd1 x d (kpO (mI M 0 0))) i T1 = (X5, T1.2.1, T1.2.2) from by subst eX1 eX2 eX3 eX4 eX5; simp [mAd1, mAdX, c1, c2, ed, c4, c5, c6]] at kk
            exact Z_sub (by simp [bI_t, bI_f]) kk
        · have c5 := bI_0.mp c5
          refine Z_goto C 140 dX3_advise_76 (by decide) ?_
          refine Z_iinc C (L' := [(6, .int (nI (i + 1))), (5, .int T1.2.2), (4, .int T1.2.1), (3, .ref 7), (0, .ref 0), (1, .int x), (2, .int (nI d))]) (v := nI (i + 1)) dX3_advise_140 rfl (nI_inc _) (by decide) rfl ?_
          refine Z_goto C 58 dX3_advise_143 (by decide) ?_
          rw [show (mAd1 x d (kpO (mI M 0 0))) i T1 = ((T1.1), T1.2.1, T1.2.2) from by subst eX1 eX2; simp [mAd1, mAdX, c1, c2, ed, c4, c5]] at kk
          exact Z_sub (by simp [bI_t, bI_f]) kk
    · have c2 := bI_0.mp c2
      refine Z_aload_n C dX3_advise_25 rfl rfl ?_
      refine Z_iconst C (v := 1) dX3_advise_26 (by decide) ?_
      refine Z_callV C (ws' := mdW 0 (mI (mI M 0 0) 0 1)) (st' := [.int 0]) (rest := []) [0, 1, 2, 3, 4, 5, 6] (c_X3_fail (mI M 0 0) 1) m_X3_fail K3 g_611 dX3_advise_27 rfl rfl rfl (outL 7 rfl rfl rfl) (NW := 7) rfl rfl rfl rfl rfl ⟨Nat.le_of_ble_eq_true rfl, Nat.le_of_ble_eq_true rfl⟩ ⟨Nat.le_of_ble_eq_true rfl, Nat.le_of_ble_eq_true rfl⟩ (Nat.le_of_ble_eq_true rfl) rfl ?_
      exact Z_widen (Nat.le_of_ble_eq_true rfl) (Nat.le_of_ble_eq_true rfl) (Z_iret C hr hlk dX3_advise_30 (congrArg (fun z => some (Value.int z)) (show ((mAd M x y).2) = 0 from by simp [mAd, mAdR, mAd0, c1, c2, eN, eR])) (by rw [show ((mAd M x y).1) = (mI (mI M 0 0) 0 1) from by simp [mAd, mAdR, mAd0, c1, c2, eN, eR]]))
