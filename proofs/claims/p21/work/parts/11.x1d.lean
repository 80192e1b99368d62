set_option maxHeartbeats 4000000 in
set_option maxRecDepth 20000 in
theorem c_X1_giveWay (S : St) {n : Nat} (hn : S.2.2.1 0 = nI n) (h40 : n ≤ 40) : CT yX1_giveWay cX1_giveWay 3 none 2 0 0 [.ref 0] (stW 0 S) none (stW 0 (giveWay S)) := by
  refine CT_of (L := [(0, .ref 0)]) (by decide) (fun _ => rfl) (fun _ => Nat.le_of_ble_eq_true rfl) ?_
  intro p l e s m args below meth c G h A C hr hlk _
  refine Z_iconst C (v := 1) dX1_giveWay_0 (by decide) ?_
  refine Z_istore_n C (L' := [(1, .int 1), (0, .ref 0)]) dX1_giveWay_1 rfl (by decide) rfl ?_
  refine Z_iconst C (v := 0) dX1_giveWay_2 (by decide) ?_
  refine Z_istore_n C (L' := [(2, .int 0), (1, .int 1), (0, .ref 0)]) dX1_giveWay_3 rfl (by decide) rfl ?_
  refine Zind (σ := St) (fun k T => ∀ r : Nat, r + k = 1000 → T.2.2.1 0 = nI n → gw k T = giveWay S → Z p l e _ s m args below meth c 3 G A h _ 0 0 (stW 0 T) 4 [(2, .int (nI r)), (1, .int 1), (0, .ref 0)] []) 1000 S (fun T r hr1 hT hg => ?_) (fun k T ih r hr1 hT hg => ?_) 0 (Nat.zero_add _) hn (gw_def S)
  · obtain rfl : r = 1000 := by omega
    refine Z_iload_n C dX1_giveWay_4 rfl rfl ?_
    refine Z_if_eq C 53 dX1_giveWay_5 (by decide) (fun c1 => absurd c1 (show ¬ (1 : Int32) = 0 from by decide)) (fun c1 => ?_)
    refine Z_iload_n C dX1_giveWay_8 rfl rfl ?_
    refine Z_sipush C (v := 1000) dX1_giveWay_9 (by decide) ?_
    refine Z_icmp_ge C 53 dX1_giveWay_12 (by decide) (fun c2 => ?_) (fun c2 => absurd (show (1000 : Int32) ≤ nI 1000 from by decide) c2)
    exact Z_vret C hr hlk dX1_giveWay_53 rfl (by rw [show (giveWay S) = T from by exact hg.symm])
  · refine Z_iload_n C dX1_giveWay_4 rfl rfl ?_
    refine Z_if_eq C 53 dX1_giveWay_5 (by decide) (fun c3 => absurd c3 (show ¬ (1 : Int32) = 0 from by decide)) (fun c3 => ?_)
    refine Z_iload_n C dX1_giveWay_8 rfl rfl ?_
    refine Z_sipush C (v := 1000) dX1_giveWay_9 (by decide) ?_
    refine Z_icmp_ge C 53 dX1_giveWay_12 (by decide) (fun c4 => absurd c4 (show ¬ (1000 : Int32) ≤ nI r from ge_no' (n := 1000) (by omega) (by omega))) (fun c4 => ?_)
    refine Z_aload_n C dX1_giveWay_15 rfl rfl ?_
    refine Z_get C K1 (v := .int (bI T.2.2.2)) 12 dX1_giveWay_16 rfl (by decide) g_57 rfl rfl ?_
    refine Z_if_eq C 26 dX1_giveWay_19 (by decide) (fun c5 => ?_) (fun c5 => ?_)
    · have c5 := bI_0.mp c5
      refine Z_aload_n C dX1_giveWay_26 rfl rfl ?_
      refine Z_callV C (ws' := stW 0 (tearO T)) (st' := []) (rest := []) [0, 1, 2, 3, 4, 5, 6, 7, 8, 9] (c_X1_tearOverpulled T hT h40) m_X1_tearOverpulled K1 g_344 dX1_giveWay_27 rfl rfl rfl (outL 10 rfl rfl rfl) (NW := 10) rfl rfl rfl rfl rfl ⟨Nat.le_of_ble_eq_true rfl, Nat.le_of_ble_eq_true rfl⟩ ⟨Nat.le_of_ble_eq_true rfl, Nat.le_of_ble_eq_true rfl⟩ (Nat.le_of_ble_eq_true rfl) rfl ?_
      refine Z_ws (fun X1 => stW 0 X1) (tearO T) (fun X1 eX1 => ?_)
      refine Z_aload_n C dX1_giveWay_30 rfl rfl ?_
      refine Z_callV C (ws' := stW 0 (endO X1)) (st' := []) (rest := []) [0, 1, 2, 3, 4, 5, 6, 7, 8, 9] (c_X1_endOverloaded X1 (show X1.2.2.1 0 = nI _ from by rw [eX1]; exact ((hk_tearO T).trans hT)) h40) m_X1_endOverloaded K1 g_348 dX1_giveWay_31 rfl rfl rfl (outL 10 rfl rfl rfl) (NW := 10) rfl rfl rfl rfl rfl ⟨Nat.le_of_ble_eq_true rfl, Nat.le_of_ble_eq_true rfl⟩ ⟨Nat.le_of_ble_eq_true rfl, Nat.le_of_ble_eq_true rfl⟩ (Nat.le_of_ble_eq_true rfl) rfl ?_
      refine Z_ws (fun X2 => stW 0 X2) (endO X1) (fun X2 eX2 => ?_)
      refine Z_aload_n C dX1_giveWay_34 rfl rfl ?_
      refine Z_get C K1 (v := .int (bI X2.2.2.2)) 12 dX1_giveWay_35 rfl (by decide) g_57 rfl rfl ?_
      refine Z_istore_n C (L' := [(1, .int (bI X2.2.2.2)), (2, .int (nI r)), (0, .ref 0)]) dX1_giveWay_38 rfl (by decide) rfl ?_
      refine Z_iload_n C dX1_giveWay_39 rfl rfl ?_
      refine Z_if_eq C 47 dX1_giveWay_40 (by decide) (fun c6 => ?_) (fun c6 => ?_)
      · have c6 := bI_0.mp c6
        refine Z_iinc C (L' := [(2, .int (nI (r + 1))), (1, .int (bI X2.2.2.2)), (0, .ref 0)]) (v := nI (r + 1)) dX1_giveWay_47 rfl (nI_inc _) (by decide) rfl ?_
        refine Z_goto C 4 dX1_giveWay_50 (by decide) ?_
        rw [show bI X2.2.2.2 = 0 from by rw [show X2.2.2.2 = false from c6]; rfl]
        refine Z_iload_n C dX1_giveWay_4 rfl rfl ?_
        refine Z_if_eq C 53 dX1_giveWay_5 (by decide) (fun c7 => ?_) (fun c7 => absurd (show (0 : Int32) = 0 from rfl) c7)
        exact Z_vret C hr hlk dX1_giveWay_53 rfl (by rw [show (giveWay S) = X2 from by subst eX1 eX2; rw [← hg]; simp [gw, gwB, c3, c4, c5, c6, c7]])
      · have c6 := bI_n0.mp c6
        refine Z_aload_n C dX1_giveWay_43 rfl rfl ?_
        refine Z_callV C (ws' := stW 0 (dropL X2)) (st' := []) (rest := []) [0, 1, 2, 3, 4, 5, 6, 7, 8, 9] (c_X1_dropLoose X2 (show X2.2.2.1 0 = nI _ from by rw [eX2]; exact ((hk_endO X1).trans (show X1.2.2.1 0 = nI _ from by rw [eX1]; exact ((hk_tearO T).trans hT)))) h40) m_X1_dropLoose K1 g_321 dX1_giveWay_44 rfl rfl rfl (outL 10 rfl rfl rfl) (NW := 10) rfl rfl rfl rfl rfl ⟨Nat.le_of_ble_eq_true rfl, Nat.le_of_ble_eq_true rfl⟩ ⟨Nat.le_of_ble_eq_true rfl, Nat.le_of_ble_eq_true rfl⟩ (Nat.le_of_ble_eq_true rfl) rfl ?_
        refine Z_ws (fun X3 => stW 0 X3) (dropL X2) (fun X3 eX3 => ?_)
        refine Z_iinc C (L' := [(2, .int (nI (r + 1))), (1, .int (bI X2.2.2.2)), (0, .ref 0)]) (v := nI (r + 1)) dX1_giveWay_47 rfl (nI_inc _) (by decide) rfl ?_
        refine Z_goto C 4 dX1_giveWay_50 (by decide) ?_
        rw [show bI X2.2.2.2 = 1 from by rw [show X2.2.2.2 = true from c6]; rfl]
        exact Z_sub (by simp) (ih X3 (r + 1) (by omega) (show X3.2.2.1 0 = nI _ from by rw [eX3]; exact ((hk_dropL X2).trans (show X2.2.2.1 0 = nI _ from by rw [eX2]; exact ((hk_endO X1).trans (show X1.2.2.1 0 = nI _ from by rw [eX1]; exact ((hk_tearO T).trans hT)))))) (by subst eX1 eX2 eX3; rw [← hg]; simp [gw, gwB, c3, c4, c5, c6]))
    · have c5 := bI_n0.mp c5
      refine Z_aload_n C dX1_giveWay_22 rfl rfl ?_
      refine Z_callV C (ws' := stW 0 (measure T)) (st' := []) (rest := []) [0, 1, 2, 3, 4, 5, 6, 7, 8, 9] (c_X1_measure T hT h40) m_X1_measure K1 g_333 dX1_giveWay_23 rfl rfl rfl (outL 10 rfl rfl rfl) (NW := 10) rfl rfl rfl rfl rfl ⟨Nat.le_of_ble_eq_true rfl, Nat.le_of_ble_eq_true rfl⟩ ⟨Nat.le_of_ble_eq_true rfl, Nat.le_of_ble_eq_true rfl⟩ (Nat.le_of_ble_eq_true rfl) rfl ?_
      refine Z_ws (fun X4 => stW 0 X4) (measure T) (fun X4 eX4 => ?_)
      refine Z_aload_n C dX1_giveWay_26 rfl rfl ?_
      refine Z_callV C (ws' := stW 0 (tearO X4)) (st' := []) (rest := []) [0, 1, 2, 3, 4, 5, 6, 7, 8, 9] (c_X1_tearOverpulled X4 (show X4.2.2.1 0 = nI _ from by rw [eX4]; exact ((hk_measure T).trans hT)) h40) m_X1_tearOverpulled K1 g_344 dX1_giveWay_27 rfl rfl rfl (outL 10 rfl rfl rfl) (NW := 10) rfl rfl rfl rfl rfl ⟨Nat.le_of_ble_eq_true rfl, Nat.le_of_ble_eq_true rfl⟩ ⟨Nat.le_of_ble_eq_true rfl, Nat.le_of_ble_eq_true rfl⟩ (Nat.le_of_ble_eq_true rfl) rfl ?_
      refine Z_ws (fun X5 => stW 0 X5) (tearO X4) (fun X5 eX5 => ?_)
      refine Z_aload_n C dX1_giveWay_30 rfl rfl ?_
      refine Z_callV C (ws' := stW 0 (endO X5)) (st' := []) (rest := []) [0, 1, 2, 3, 4, 5, 6, 7, 8, 9] (c_X1_endOverloaded X5 (show X5.2.2.1 0 = nI _ from by rw [eX5]; exact ((hk_tearO X4).trans (show X4.2.2.1 0 = nI _ from by rw [eX4]; exact ((hk_measure T).trans hT)))) h40) m_X1_endOverloaded K1 g_348 dX1_giveWay_31 rfl rfl rfl (outL 10 rfl rfl rfl) (NW := 10) rfl rfl rfl rfl rfl ⟨Nat.le_of_ble_eq_true rfl, Nat.le_of_ble_eq_true rfl⟩ ⟨Nat.le_of_ble_eq_true rfl, Nat.le_of_ble_eq_true rfl⟩ (Nat.le_of_ble_eq_true rfl) rfl ?_
      refine Z_ws (fun X6 => stW 0 X6) (endO X5) (fun X6 eX6 => ?_)
      refine Z_aload_n C dX1_giveWay_34 rfl rfl ?_
      refine Z_get C K1 (v := .int (bI X6.2.2.2)) 12 dX1_giveWay_35 rfl (by decide) g_57 rfl rfl ?_
      refine Z_istore_n C (L' := [(1, .int (bI X6.2.2.2)), (2, .int (nI r)), (0, .ref 0)]) dX1_giveWay_38 rfl (by decide) rfl ?_
      refine Z_iload_n C dX1_giveWay_39 rfl rfl ?_
      refine Z_if_eq C 47 dX1_giveWay_40 (by decide) (fun c8 => ?_) (fun c8 => ?_)
      · have c8 := bI_0.mp c8
        refine Z_iinc C (L' := [(2, .int (nI (r + 1))), (1, .int (bI X6.2.2.2)), (0, .ref 0)]) (v := nI (r + 1)) dX1_giveWay_47 rfl (nI_inc _) (by decide) rfl ?_
        refine Z_goto C 4 dX1_giveWay_50 (by decide) ?_
        rw [show bI X6.2.2.2 = 0 from by rw [show X6.2.2.2 = false from c8]; rfl]
        refine Z_iload_n C dX1_giveWay_4 rfl rfl ?_
        refine Z_if_eq C 53 dX1_giveWay_5 (by decide) (fun c9 => ?_) (fun c9 => absurd (show (0 : Int32) = 0 from rfl) c9)
        exact Z_vret C hr hlk dX1_giveWay_53 rfl (by rw [show (giveWay S) = X6 from by subst eX4 eX5 eX6; rw [← hg]; simp [gw, gwB, c3, c4, c5, c8, c9]])
      · have c8 := bI_n0.mp c8
        refine Z_aload_n C dX1_giveWay_43 rfl rfl ?_
        refine Z_callV C (ws' := stW 0 (dropL X6)) (st' := []) (rest := []) [0, 1, 2, 3, 4, 5, 6, 7, 8, 9] (c_X1_dropLoose X6 (show X6.2.2.1 0 = nI _ from by rw [eX6]; exact ((hk_endO X5).trans (show X5.2.2.1 0 = nI _ from by rw [eX5]; exact ((hk_tearO X4).trans (show X4.2.2.1 0 = nI _ from by rw [eX4]; exact ((hk_measure T).trans hT)))))) h40) m_X1_dropLoose K1 g_321 dX1_giveWay_44 rfl rfl rfl (outL 10 rfl rfl rfl) (NW := 10) rfl rfl rfl rfl rfl ⟨Nat.le_of_ble_eq_true rfl, Nat.le_of_ble_eq_true rfl⟩ ⟨Nat.le_of_ble_eq_true rfl, Nat.le_of_ble_eq_true rfl⟩ (Nat.le_of_ble_eq_true rfl) rfl ?_
        refine Z_ws (fun X7 => stW 0 X7) (dropL X6) (fun X7 eX7 => ?_)
        refine Z_iinc C (L' := [(2, .int (nI (r + 1))), (1, .int (bI X6.2.2.2)), (0, .ref 0)]) (v := nI (r + 1)) dX1_giveWay_47 rfl (nI_inc _) (by decide) rfl ?_
        refine Z_goto C 4 dX1_giveWay_50 (by decide) ?_
        rw [show bI X6.2.2.2 = 1 from by rw [show X6.2.2.2 = true from c8]; rfl]
        exact Z_sub (by simp) (ih X7 (r + 1) (by omega) (show X7.2.2.1 0 = nI _ from by rw [eX7]; exact ((hk_dropL X6).trans (show X6.2.2.1 0 = nI _ from by rw [eX6]; exact ((hk_endO X5).trans (show X5.2.2.1 0 = nI _ from by rw [eX5]; exact ((hk_tearO X4).trans (show X4.2.2.1 0 = nI _ from by rw [eX4]; exact ((hk_measure T).trans hT)))))))) (by subst eX4 eX5 eX6 eX7; rw [← hg]; simp [gw, gwB, c3, c4, c5, c8]))
set_option maxHeartbeats 4000000 in
set_option maxRecDepth 20000 in
theorem c_X1_cutLoose (S : St) (x : Int32) {n : Nat} (hn : S.2.2.1 0 = nI n) (h40 : n ≤ 40) : CT yX1_cutLoose cX1_cutLoose 2 none 3 0 0 [.ref 0, .int x] (stW 0 S) none (stW 0 (cutL S x)) := by
  refine CT_of (L := [(0, .ref 0), (1, .int x)]) (by decide) (fun _ => rfl) (fun _ => Nat.le_of_ble_eq_true rfl) ?_
  intro p l e s m args below meth c G h A C hr hlk _
  refine Z_aload_n C dX1_cutLoose_0 rfl rfl ?_
  refine Z_iload_n C dX1_cutLoose_1 rfl rfl ?_
  refine Z_callV C (ws' := stW 0 S) (st' := [.int (bI (hasB S x))]) (rest := []) [0, 1, 2, 3, 4, 5, 6, 7, 8, 9] (c_X1_has S x) m_X1_has K1 g_208 dX1_cutLoose_2 rfl rfl rfl (outR _ _ _) (NW := 10) rfl rfl rfl rfl rfl ⟨Nat.le_of_ble_eq_true rfl, Nat.le_of_ble_eq_true rfl⟩ ⟨Nat.le_of_ble_eq_true rfl, Nat.le_of_ble_eq_true rfl⟩ (Nat.le_of_ble_eq_true rfl) rfl ?_
  refine Z_if_ne C 9 dX1_cutLoose_5 (by decide) (fun c1 => ?_) (fun c1 => ?_)
  · have c1 := bI_n0.mp c1
    obtain ⟨j, hj, rfl⟩ := has_ix hn h40 c1
    have ej : ix (nI j) = j := ix_nI (by omega)
    refine Z_aload_n C dX1_cutLoose_9 rfl rfl ?_
    refine Z_iload_n C dX1_cutLoose_10 rfl rfl ?_
    refine Z_callV C (ws' := stW 0 (endSpell S (nI j))) (st' := []) (rest := []) [0, 1, 2, 3, 4, 5, 6, 7, 8, 9] (c_X1_endSpell S (nI j) hn h40) m_X1_endSpell K1 g_317 dX1_cutLoose_11 rfl rfl rfl (outL 10 rfl rfl rfl) (NW := 10) rfl rfl rfl rfl rfl ⟨Nat.le_of_ble_eq_true rfl, Nat.le_of_ble_eq_true rfl⟩ ⟨Nat.le_of_ble_eq_true rfl, Nat.le_of_ble_eq_true rfl⟩ (Nat.le_of_ble_eq_true rfl) rfl ?_
    refine Z_ws (fun X1 => stW 0 X1) (endSpell S (nI j)) (fun X1 eX1 => ?_)
    refine Z_aload_n C dX1_cutLoose_14 rfl rfl ?_
    refine Z_get C K1 (v := .ref 5) 4 dX1_cutLoose_15 rfl (by decide) g_45 rfl rfl ?_
    refine Z_iload_n C dX1_cutLoose_18 rfl rfl ?_
    refine Z_iconst C (v := (-1)) dX1_cutLoose_19 (by decide) ?_
    refine Z_isN C (ws' := stW 0 (uA X1 4 j (-1))) dX1_cutLoose_20 rfl (by omega) (by decide) rfl ?_
    refine Z_aload_n C dX1_cutLoose_21 rfl rfl ?_
    refine Z_get C K1 (v := .ref 6) 5 dX1_cutLoose_22 rfl (by decide) g_46 rfl rfl ?_
    refine Z_iload_n C dX1_cutLoose_25 rfl rfl ?_
    refine Z_iconst C (v := (-1)) dX1_cutLoose_26 (by decide) ?_
    refine Z_isN C (ws' := stW 0 (uA (uA X1 4 j (-1)) 5 j (-1))) dX1_cutLoose_27 rfl (by omega) (by decide) rfl ?_
    refine Z_aload_n C dX1_cutLoose_28 rfl rfl ?_
    refine Z_callV C (ws' := stW 0 (dropL (uA (uA X1 4 j (-1)) 5 j (-1)))) (st' := []) (rest := []) [0, 1, 2, 3, 4, 5, 6, 7, 8, 9] (c_X1_dropLoose (uA (uA X1 4 j (-1)) 5 j (-1)) (show X1.2.2.1 0 = nI _ from by rw [eX1]; exact ((hk_endSpell S (nI j)).trans hn)) h40) m_X1_dropLoose K1 g_321 dX1_cutLoose_29 rfl rfl rfl (outL 10 rfl rfl rfl) (NW := 10) rfl rfl rfl rfl rfl ⟨Nat.le_of_ble_eq_true rfl, Nat.le_of_ble_eq_true rfl⟩ ⟨Nat.le_of_ble_eq_true rfl, Nat.le_of_ble_eq_true rfl⟩ (Nat.le_of_ble_eq_true rfl) rfl ?_
    refine Z_ws (fun X2 => stW 0 X2) (dropL (uA (uA X1 4 j (-1)) 5 j (-1))) (fun X2 eX2 => ?_)
    refine Z_aload_n C dX1_cutLoose_32 rfl rfl ?_
    refine Z_callV C (ws' := stW 0 (giveWay X2)) (st' := []) (rest := []) [0, 1, 2, 3, 4, 5, 6, 7, 8, 9] (c_X1_giveWay X2 (show X2.2.2.1 0 = nI _ from by rw [eX2]; exact ((hk_dropL (uA (uA X1 4 j (-1)) 5 j (-1))).trans (show X1.2.2.1 0 = nI _ from by rw [eX1]; exact ((hk_endSpell S (nI j)).trans hn)))) h40) m_X1_giveWay K1 g_329 dX1_cutLoose_33 rfl rfl rfl (outL 10 rfl rfl rfl) (NW := 10) rfl rfl rfl rfl rfl ⟨Nat.le_of_ble_eq_true rfl, Nat.le_of_ble_eq_true rfl⟩ ⟨Nat.le_of_ble_eq_true rfl, Nat.le_of_ble_eq_true rfl⟩ (Nat.le_of_ble_eq_true rfl) rfl ?_
    refine Z_ws (fun X3 => stW 0 X3) (giveWay X2) (fun X3 eX3 => ?_)
    exact Z_vret C hr hlk dX1_cutLoose_36 rfl (by rw [show (cutL S (nI j)) = X3 from by subst eX1 eX2 eX3; simp [cutL, c1, ej]])
  · have c1 := bI_0.mp c1
    exact Z_vret C hr hlk dX1_cutLoose_8 rfl (by rw [show (cutL S x) = S from by simp [cutL, c1]])
set_option maxHeartbeats 4000000 in
set_option maxRecDepth 20000 in
theorem c_X1_liveDay (S : St) {n : Nat} (hn : S.2.2.1 0 = nI n) (h40 : n ≤ 40) : CT yX1_liveDay cX1_liveDay 1 none 3 0 0 [.ref 0] (stW 0 S) none (stW 0 (liveDay S)) := by
  refine CT_of (L := [(0, .ref 0)]) (by decide) (fun _ => rfl) (fun _ => Nat.le_of_ble_eq_true rfl) ?_
  intro p l e s m args below meth c G h A C hr hlk _
  refine Z_aload_n C dX1_liveDay_0 rfl rfl ?_
  refine Z_callV C (ws' := stW 0 (fade S)) (st' := []) (rest := []) [0, 1, 2, 3, 4, 5, 6, 7, 8, 9] (c_X1_fade S hn h40) m_X1_fade K1 g_313 dX1_liveDay_1 rfl rfl rfl (outL 10 rfl rfl rfl) (NW := 10) rfl rfl rfl rfl rfl ⟨Nat.le_of_ble_eq_true rfl, Nat.le_of_ble_eq_true rfl⟩ ⟨Nat.le_of_ble_eq_true rfl, Nat.le_of_ble_eq_true rfl⟩ (Nat.le_of_ble_eq_true rfl) rfl ?_
  refine Z_ws (fun X1 => stW 0 X1) (fade S) (fun X1 eX1 => ?_)
  refine Z_aload_n C dX1_liveDay_4 rfl rfl ?_
  refine Z_get C K1 (v := .int (bI X1.2.2.2)) 12 dX1_liveDay_5 rfl (by decide) g_57 rfl rfl ?_
  refine Z_if_eq C 15 dX1_liveDay_8 (by decide) (fun c1 => ?_) (fun c1 => ?_)
  · have c1 := bI_0.mp c1
    refine Z_aload_n C dX1_liveDay_15 rfl rfl ?_
    refine Z_callV C (ws' := stW 0 (giveWay X1)) (st' := []) (rest := []) [0, 1, 2, 3, 4, 5, 6, 7, 8, 9] (c_X1_giveWay X1 (show X1.2.2.1 0 = nI _ from by rw [eX1]; exact ((hk_fade S).trans hn)) h40) m_X1_giveWay K1 g_329 dX1_liveDay_16 rfl rfl rfl (outL 10 rfl rfl rfl) (NW := 10) rfl rfl rfl rfl rfl ⟨Nat.le_of_ble_eq_true rfl, Nat.le_of_ble_eq_true rfl⟩ ⟨Nat.le_of_ble_eq_true rfl, Nat.le_of_ble_eq_true rfl⟩ (Nat.le_of_ble_eq_true rfl) rfl ?_
    refine Z_ws (fun X2 => stW 0 X2) (giveWay X1) (fun X2 eX2 => ?_)
    refine Z_aload_n C dX1_liveDay_19 rfl rfl ?_
    refine Z_dup C dX1_liveDay_20 rfl ?_
    refine Z_get C K1 (v := .int (X2.2.2.1 2)) 11 dX1_liveDay_21 rfl (by decide) g_55 rfl rfl ?_
    refine Z_iconst C (v := 1) dX1_liveDay_24 (by decide) ?_
    refine Z_iadd C (v := (X2.2.2.1 2) + 1) dX1_liveDay_25 rfl ?_
    refine Z_put C K1 (ws' := stW 0 (uI X2 2 ((X2.2.2.1 2) + 1))) 11 dX1_liveDay_26 rfl (by decide) g_55 rfl rfl rfl rfl rfl (Nat.le_of_ble_eq_true rfl) rfl ?_
    exact Z_vret C hr hlk dX1_liveDay_29 rfl (by rw [show (liveDay S) = (uI X2 2 ((X2.2.2.1 2) + 1)) from by subst eX1 eX2; simp [liveDay, dayD, c1]])
  · have c1 := bI_n0.mp c1
    refine Z_aload_n C dX1_liveDay_11 rfl rfl ?_
    refine Z_callV C (ws' := stW 0 (dropL X1)) (st' := []) (rest := []) [0, 1, 2, 3, 4, 5, 6, 7, 8, 9] (c_X1_dropLoose X1 (show X1.2.2.1 0 = nI _ from by rw [eX1]; exact ((hk_fade S).trans hn)) h40) m_X1_dropLoose K1 g_321 dX1_liveDay_12 rfl rfl rfl (outL 10 rfl rfl rfl) (NW := 10) rfl rfl rfl rfl rfl ⟨Nat.le_of_ble_eq_true rfl, Nat.le_of_ble_eq_true rfl⟩ ⟨Nat.le_of_ble_eq_true rfl, Nat.le_of_ble_eq_true rfl⟩ (Nat.le_of_ble_eq_true rfl) rfl ?_
    refine Z_ws (fun X3 => stW 0 X3) (dropL X1) (fun X3 eX3 => ?_)
    refine Z_aload_n C dX1_liveDay_15 rfl rfl ?_
    refine Z_callV C (ws' := stW 0 (giveWay X3)) (st' := []) (rest := []) [0, 1, 2, 3, 4, 5, 6, 7, 8, 9] (c_X1_giveWay X3 (show X3.2.2.1 0 = nI _ from by rw [eX3]; exact ((hk_dropL X1).trans (show X1.2.2.1 0 = nI _ from by rw [eX1]; exact ((hk_fade S).trans hn)))) h40) m_X1_giveWay K1 g_329 dX1_liveDay_16 rfl rfl rfl (outL 10 rfl rfl rfl) (NW := 10) rfl rfl rfl rfl rfl ⟨Nat.le_of_ble_eq_true rfl, Nat.le_of_ble_eq_true rfl⟩ ⟨Nat.le_of_ble_eq_true rfl, Nat.le_of_ble_eq_true rfl⟩ (Nat.le_of_ble_eq_true rfl) rfl ?_
    refine Z_ws (fun X4 => stW 0 X4) (giveWay X3) (fun X4 eX4 => ?_)
    refine Z_aload_n C dX1_liveDay_19 rfl rfl ?_
    refine Z_dup C dX1_liveDay_20 rfl ?_
    refine Z_get C K1 (v := .int (X4.2.2.1 2)) 11 dX1_liveDay_21 rfl (by decide) g_55 rfl rfl ?_
    refine Z_iconst C (v := 1) dX1_liveDay_24 (by decide) ?_
    refine Z_iadd C (v := (X4.2.2.1 2) + 1) dX1_liveDay_25 rfl ?_
    refine Z_put C K1 (ws' := stW 0 (uI X4 2 ((X4.2.2.1 2) + 1))) 11 dX1_liveDay_26 rfl (by decide) g_55 rfl rfl rfl rfl rfl (Nat.le_of_ble_eq_true rfl) rfl ?_
    exact Z_vret C hr hlk dX1_liveDay_29 rfl (by rw [show (liveDay S) = (uI X4 2 ((X4.2.2.1 2) + 1)) from by subst eX1 eX3 eX4; simp [liveDay, dayD, c1]])
set_option maxHeartbeats 4000000 in
set_option maxRecDepth 20000 in
theorem c_X1_liveDays (S : St) (x : Int32) {n : Nat} (hn : S.2.2.1 0 = nI n) (h40 : n ≤ 40) {d : Nat} (hx : x = nI d) (hd : d ≤ 120) : CT yX1_liveDays cX1_liveDays 3 none 4 0 0 [.ref 0, .int x] (stW 0 S) none (stW 0 (liveDays S x)) := by
  refine CT_of (L := [(0, .ref 0), (1, .int x)]) (by decide) (fun _ => rfl) (fun _ => Nat.le_of_ble_eq_true rfl) ?_
  intro p l e s m args below meth c G h A C hr hlk _
  subst hx
  refine Z_iconst C (v := 0) dX1_liveDays_0 (by decide) ?_
  refine Z_istore_n C (L' := [(2, .int 0), (0, .ref 0), (1, .int (nI d))]) dX1_liveDays_1 rfl (by decide) rfl ?_
  refine Zfor (σ := St) (fun i T1 => Z p l e _ s m args below meth c 3 G A h _ 0 0 (stW 0 T1) 2 [(2, .int (nI i)), (0, .ref 0), (1, .int (nI d))] []) (fun i T1 => T1.2.2.1 0 = nI n) (live1) d (S) hn (fun i T1 hi hT1 => (hk_liveDay _).trans hT1) (fun T1 hT1 eT1 => ?_) (fun i T1 hi hT1 hT1' kk => ?_)
  · refine Z_iload_n C dX1_liveDays_2 rfl rfl ?_
    refine Z_iload_n C dX1_liveDays_3 rfl rfl ?_
    refine Z_icmp_ge C 23 dX1_liveDays_4 (by decide) (fun c1 => ?_) (fun c1 => absurd (ge_yes2 hT1) c1)
    exact Z_vret C hr hlk dX1_liveDays_23 rfl (by rw [show (liveDays S (nI d)) = T1 from by subst eT1; simp only [liveDays, ix_nI (show d < 2 ^ 31 by omega)]])
  · refine Z_iload_n C dX1_liveDays_2 rfl rfl ?_
    refine Z_iload_n C dX1_liveDays_3 rfl rfl ?_
    refine Z_icmp_ge C 23 dX1_liveDays_4 (by decide) (fun c2 => absurd c2 (ge_no2 hT1 hd hi)) (fun c2 => ?_)
    refine Z_iload_n C dX1_liveDays_7 rfl rfl ?_
    refine Z_bipush C (v := 120) dX1_liveDays_8 (by decide) ?_
    refine Z_icmp_ge C 23 dX1_liveDays_10 (by decide) (fun c3 => absurd c3 (show ¬ (120 : Int32) ≤ nI i from ge_no' (n := 120) (by omega) (by omega))) (fun c3 => ?_)
    refine Z_aload_n C dX1_liveDays_13 rfl rfl ?_
    refine Z_callV C (ws' := stW 0 (liveDay T1)) (st' := []) (rest := []) [0, 1, 2, 3, 4, 5, 6, 7, 8, 9] (c_X1_liveDay T1 hT1 h40) m_X1_liveDay K1 g_309 dX1_liveDays_14 rfl rfl rfl (outL 10 rfl rfl rfl) (NW := 10) rfl rfl rfl rfl rfl ⟨Nat.le_of_ble_eq_true rfl, Nat.le_of_ble_eq_true rfl⟩ ⟨Nat.le_of_ble_eq_true rfl, Nat.le_of_ble_eq_true rfl⟩ (Nat.le_of_ble_eq_true rfl) rfl ?_
    refine Z_ws (fun X1 => stW 0 X1) (liveDay T1) (fun X1 eX1 => ?_)
    refine Z_iinc C (L' := [(2, .int (nI (i + 1))), (0, .ref 0), (1, .int (nI d))]) (v := nI (i + 1)) dX1_liveDays_17 rfl (nI_inc _) (by decide) rfl ?_
    refine Z_goto C 2 dX1_liveDays_20 (by decide) ?_
    rw [show live1 i T1 = X1 from by subst eX1; simp [live1, c2, c3]] at kk
    exact Z_sub (by simp [bI_t, bI_f]) kk
