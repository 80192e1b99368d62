/-! a day passes; stones and towers made; a stone added -/
theorem mDy_eq (M : Md) : mDy M = aA (mGv (mDrop (fr mdy0 (mN M) M))) 0 0 ((mGv (mDrop (fr mdy0 (mN M) M))).2.2.1 0 0 + 1) := by simp only [mDy, mDyG, dyU]
theorem i_X4_init : iS yX4_init cX4_init 1 := ⟨g_446, g_18, g_447, rfl, by decide +kernel⟩
theorem i_X3_init : iS yX3_init cX3_init 1 := ⟨g_574, g_17, g_575, rfl, by decide +kernel⟩
set_option maxHeartbeats 4000000 in
set_option maxRecDepth 20000 in
theorem c_X3_pass {V : List va_E} {n r : Nat} {M : Md} {T : WF} (h40 : n ≤ 40) (h30 : r ≤ 30) (hC : okC V) (hT : okT T) (h23 : T 423 = none) (hn : M.2.2.2 1 = nI n) (hrr : M.2.2.2 2 = nI r) (hJ : JI n M) (hB : WB n M) : CTm yX3_pass cX3_pass 5 none 4 850 19920 [.ref 100] (gW V n r M T) (fun i => (i < 200 ∨ 280 ≤ i ∨ i % 2 = 0) ∧ i ≠ 423 ∧ (i < 410 ∨ 414 < i)) (fun r' w' => r' = none ∧ w' = gW V n r (mDy M) (t5 T)) := by
  refine CTm_of (L := [(0, .ref 100)]) (by decide) (fun _ => rfl) (fun _ => Nat.le_of_ble_eq_true rfl) ?_
  intro p l e s m args below meth c G h A b N xs C S hr hlk hnm
  refine Y_aload_n C dX3_pass_0 rfl rfl ?_
  refine Y_get C K3 (v := .ref 101) 0 dX3_pass_1 gW_100 (by decide) g_577 rfl rfl ?_
  refine Y_astore_n C (L' := [(1, .ref 101), (0, .ref 100)]) dX3_pass_4 rfl (by decide) rfl ?_
  refine Y_aload_n C dX3_pass_5 rfl rfl ?_
  refine Y_alen C (i := 2) (v := nI n) dX3_pass_6 gW_101 rfl rfl ?_
  refine Y_istore_n C (L' := [(2, .int (nI n)), (1, .ref 101), (0, .ref 100)]) dX3_pass_7 rfl (by decide) rfl ?_
  refine Y_iconst C (v := nI 0) dX3_pass_8 (by decide) ?_
  refine Y_istore_n C (L' := [(3, .int (nI 0)), (2, .int (nI n)), (1, .ref 101), (0, .ref 100)]) dX3_pass_9 rfl (by decide) rfl ?_
  refine Zfor (σ := Md) (fun i1 X1 => Y p l e _ s m args below meth c 5 G A h _ 0 0 (gW V n r X1 T) 10 [(3, .int (nI i1)), (2, .int (nI n)), (1, .ref 101), (0, .ref 100)] []) (fun i1 X1 => JI n X1) mdy0 n M hJ (fun k Z hk hZ => JI_dy0 hk hZ) (fun X1 hX1 eX1 => ?_) (fun i1 X1 hi1 hX1 hX1' kk1 => ?_)
  · skip
    refine Y_iload_n C dX3_pass_10 rfl rfl ?_
    refine Y_iload_n C dX3_pass_11 rfl rfl ?_
    refine Y_icmp_ge C 51 dX3_pass_12 (by decide) (fun cc2 => ?_) (fun cc2 => absurd (Int32.le_refl _) cc2)
    refine Y_sub (L' := [(0, .ref 100)]) (by simp) ?_
    have eD : X1 = fr mdy0 (mN M) M := by rw [eX1, mN_eq hn h40]
    subst eD
    have hJ1 : JI n (fr mdy0 (mN M) M) := by rw [mN_eq hn h40]; exact JI_dys hJ n (Nat.le_refl n)
    have hB1 : WB n (fr mdy0 (mN M) M) := WB_dys hB _
    have hi1 : (fr mdy0 (mN M) M).2.2.2 = M.2.2.2 := mi_Dy0 M
    have m1 := mus_le (M := fr mdy0 (mN M) M) h40
    refine Y_aload_n C dX3_pass_51 rfl rfl ?_
    refine Y_callM C S (c_X3_drop (V := V) (T := T) h40 h30 hC hT h23 (by rw [hi1]; exact hn) (by rw [hi1]; exact hrr) hJ1) m_X3_drop K3 g_377 dX3_pass_52 gW_100 rfl rfl ⟨Nat.le_of_ble_eq_true rfl, Nat.le_of_ble_eq_true rfl⟩ ⟨by show _ ≤ 850; omega, by show _ ≤ 19920; omega⟩ (Nat.le_of_ble_eq_true rfl) ⟨(by first | trivial | (unfold vR; (try dsimp only); omega)), trivial⟩ trivial (fun h3 r3 w3 ag3 F3 => ?_)
    obtain ⟨rfl, rfl⟩ := F3
    refine Y_stk [] rfl ?_
    refine Y_widen (k' := 120) (n' := 120) (by omega) (by omega) ?_
    refine Y_aload_n C dX3_pass_55 rfl rfl ?_
    have hi2 : (mDrop (fr mdy0 (mN M) M)).2.2.2 = M.2.2.2 := (mi_Drop _).trans hi1
    refine Y_callM C S (c_X3_giveWay (V := V) (T := T) h40 h30 hC hT h23 (by rw [hi2]; exact hn) (by rw [hi2]; exact hrr) (JI_Drop h40 h30 (by rw [hi1]; exact hn) (by rw [hi1]; exact hrr) hJ1) (WB_Drop hB1)) m_X3_giveWay K3 g_389 dX3_pass_56 gW_100 rfl rfl ⟨Nat.le_of_ble_eq_true rfl, Nat.le_of_ble_eq_true rfl⟩ ⟨Nat.le_of_ble_eq_true rfl, Nat.le_of_ble_eq_true rfl⟩ (Nat.le_of_ble_eq_true rfl) ⟨(by first | trivial | (unfold vR; (try dsimp only); omega)), trivial⟩ trivial (fun h4 r4 w4 ag4 F4 => ?_)
    obtain ⟨rfl, rfl⟩ := F4
    refine Y_stk [] rfl ?_
    have eY : mDy M = aA (mGv (mDrop (fr mdy0 (mN M) M))) 0 0 ((mGv (mDrop (fr mdy0 (mN M) M))).2.2.1 0 0 + 1) := mDy_eq M
    rw [eY]
    generalize mGv (mDrop (fr mdy0 (mN M) M)) = Z9
    refine Y_aload_n C dX3_pass_59 rfl rfl ?_
    refine Y_dup C dX3_pass_60 rfl ?_
    refine Y_get C K3 (v := .int (Z9.2.2.1 0 0)) 2 dX3_pass_61 gW_100 (by decide) g_581 rfl rfl ?_
    refine Y_iconst C (v := 1) dX3_pass_64 (by decide) ?_
    refine Y_iadd C (v := Z9.2.2.1 0 0 + 1) dX3_pass_65 rfl ?_
    refine Y_put C K3 2 dX3_pass_66 gW_100 (by decide) g_581 rfl rfl (K3.2.2.1 2 (by decide)) rfl rfl (Nat.le_of_ble_eq_true rfl) (w' := gW V n r (aA Z9 0 0 (Z9.2.2.1 0 0 + 1)) (t5 T)) (gW_day rfl) ?_
    refine Y_sub (L' := []) (by simp) ?_
    exact Y_vret C hr hlk dX3_pass_69 (fun i hi => ((ag4 i (by first | trivial | exact hi | ((try (dsimp only at hi)); (try dsimp only); omega))).trans (ag3 i (by first | trivial | exact hi | ((try (dsimp only at hi)); (try dsimp only); omega))))) ⟨rfl, rfl⟩
  · skip
    have f3 := fun q => (hX1 i1 hi1).2.2.2.2.2.1 q
    refine Y_iload_n C dX3_pass_10 rfl rfl ?_
    refine Y_iload_n C dX3_pass_11 rfl rfl ?_
    refine Y_icmp_ge C 51 dX3_pass_12 (by decide) (fun cc5 => absurd cc5 (nI_ge hi1 (by omega))) (fun cc5 => ?_)
    refine Y_aload_n C dX3_pass_15 rfl rfl ?_
    refine Y_iload_n C dX3_pass_16 rfl rfl ?_
    refine Y_aaldq C (j := 200 + 2 * i1) dX3_pass_17 gW_101 (vp_in_nI hi1 (by omega)) (by rw [nI_clamp (by omega)]; exact rfS_at hi1) ?_
    refine Y_astore C (L' := [(4, .ref (200 + 2 * i1)), (3, .int (nI i1)), (2, .int (nI n)), (1, .ref 101), (0, .ref 100)]) dX3_pass_18 (by decide) rfl ?_
    refine Y_aload C dX3_pass_20 rfl ?_
    refine Y_aload C dX3_pass_22 rfl ?_
    refine Y_get C K4 (v := .int (X1.1 3 i1)) 3 dX3_pass_24 (gW_st h40 hi1) (by decide) g_454 rfl rfl ?_
    refine Y_iconst C (v := 2) dX3_pass_27 (by decide) ?_
    refine Y_icmp_le C 41 dX3_pass_28 (by decide) (fun cc6 => ?_) (fun cc6 => ?_)
    · refine Y_iconst C (v := 0) dX3_pass_41 (by decide) ?_
      refine Y_stk [.int (mx 0 (X1.1 3 i1 - 2)), .ref (200 + 2 * i1)] (by rw [mx_dy f3, if_pos cc6]) ?_
      refine Y_put C K4 3 dX3_pass_42 (gW_st h40 hi1) (by decide) g_454 rfl rfl (K4.2.2.1 3 (by decide)) rfl rfl (Nat.le_of_ble_eq_true rfl) (w' := gW V n r (mdy0 i1 X1) T) (gW_tA h40 (by decide) hi1 (stoE_3 _ _ _).symm) ?_
      refine Y_iinc C (L' := [(3, .int (nI (i1 + 1))), (4, .ref (200 + 2 * i1)), (2, .int (nI n)), (1, .ref 101), (0, .ref 100)]) (v := nI (i1 + 1)) dX3_pass_45 rfl (nI_inc _) (by decide) rfl ?_
      refine Y_goto C 10 dX3_pass_48 (by decide) ?_
      exact Y_sub (by simp [bI_t, bI_f]) (kk1)
    · refine Y_aload C dX3_pass_31 rfl ?_
      refine Y_get C K4 (v := .int (X1.1 3 i1)) 3 dX3_pass_33 (gW_st h40 hi1) (by decide) g_454 rfl rfl ?_
      refine Y_iconst C (v := 2) dX3_pass_36 (by decide) ?_
      refine Y_isub C (v := (X1.1 3 i1) - 2) dX3_pass_37 rfl ?_
      refine Y_goto C 42 dX3_pass_38 (by decide) ?_
      refine Y_stk [.int (mx 0 (X1.1 3 i1 - 2)), .ref (200 + 2 * i1)] (by rw [mx_dy f3, if_neg cc6]) ?_
      refine Y_put C K4 3 dX3_pass_42 (gW_st h40 hi1) (by decide) g_454 rfl rfl (K4.2.2.1 3 (by decide)) rfl rfl (Nat.le_of_ble_eq_true rfl) (w' := gW V n r (mdy0 i1 X1) T) (gW_tA h40 (by decide) hi1 (stoE_3 _ _ _).symm) ?_
      refine Y_iinc C (L' := [(3, .int (nI (i1 + 1))), (4, .ref (200 + 2 * i1)), (2, .int (nI n)), (1, .ref 101), (0, .ref 100)]) (v := nI (i1 + 1)) dX3_pass_45 rfl (nI_inc _) (by decide) rfl ?_
      refine Y_goto C 10 dX3_pass_48 (by decide) ?_
      exact Y_sub (by simp [bI_t, bI_f]) (kk1)
set_option maxHeartbeats 4000000 in
set_option maxRecDepth 20000 in
theorem c_X4_init {w0 : WF} {q : Nat} (he : w0 q = some (.inr (4, [.int 0, .int 0, .int 0, .int 0, .null, .int 0]))) (hR : wR (fun a => a ≠ 424) w0) (hq : q ≠ 424) (h24 : w0 424 = none) : CTm yX4_init cX4_init 1 none 1 1 0 [.ref q] (w0) (fun i => i ≠ 424) (fun r' w' => r' = none ∧ w' = wU w0 q (.inr (4, [.int 0, .int 0, .int 1, .int 0, .ref 424, .int 0]))) := by
  refine CTm_of (L := [(0, .ref q)]) (by decide) (fun _ => rfl) (fun _ => Nat.le_of_ble_eq_true rfl) ?_
  intro p l e s m args below meth c G h A b N xs C S hr hlk hnm
  refine Y_aload_n C dX4_init_0 rfl rfl ?_
  refine Y_objI C dX4_init_1 g_448 g_32 g_33 ⟨Nat.le_of_ble_eq_true rfl, Nat.le_of_ble_eq_true rfl⟩ ?_
  refine Y_aload_n C dX4_init_4 rfl rfl ?_
  refine Y_iconst C (v := 1) dX4_init_5 (by decide) ?_
  refine Y_put C K4 2 dX4_init_6 he (by decide) g_451 rfl rfl (K4.2.2.1 2 (by decide)) rfl rfl (Nat.le_of_ble_eq_true rfl) (w' := wU w0 q (.inr (4, [.int 0, .int 0, .int 1, .int 0, .null, .int 0]))) rfl ?_
  refine Y_aload_n C dX4_init_9 rfl rfl ?_
  refine Y_iconst C (v := nI 0) dX4_init_10 (by decide) ?_
  refine Y_newi C (N := 0) 424 dX4_init_11 g_85 (by decide) (by decide) (by decide) ⟨Nat.le_of_ble_eq_true rfl, Nat.le_of_ble_eq_true rfl⟩ (wR_wU hR ⟨trivial, trivial, trivial, trivial, trivial, trivial, trivial⟩) ⟨hq, trivial⟩ ⟨hq, trivial⟩ (fun h1 ag1 => ?_)
  refine Y_put C K4 4 dX4_init_13 ((wU_n _ _ hq).trans (wU_s _ _ _)) (by decide) g_456 rfl rfl (K4.2.2.1 4 (by decide)) rfl rfl (Nat.le_of_ble_eq_true rfl) (w' := wU (wU (wU w0 q (.inr (4, [.int 0, .int 0, .int 1, .int 0, .null, .int 0]))) 424 (.inl (0, 0, .inl (fun _ => 0)))) q (.inr (4, [.int 0, .int 0, .int 1, .int 0, .ref 424, .int 0]))) rfl ?_
  refine Y_less (w' := wU w0 q (.inr (4, [.int 0, .int 0, .int 1, .int 0, .ref 424, .int 0]))) (fun i e h => ?_) ?_
  · by_cases z : i = q
    · subst z; rw [wU_s] at h ⊢; exact h
    · rw [wU_n _ _ z] at h; rw [wU_n _ _ z, wU_n _ _ (fun y => by rw [y, h24] at h; cases h), wU_n _ _ z]; exact h
  exact Y_vret C hr hlk dX4_init_16 (fun i hi => ag1 i hi) ⟨rfl, rfl⟩
set_option maxHeartbeats 4000000 in
set_option maxRecDepth 20000 in
theorem c_X3_init {V : List va_E} (hV : V.length ≤ 100) (hC : okC V) : CTm yX3_init cX3_init 1 none 1 2 0 [.ref 100] (wU (fun i => V[i]?) 100 (.inr (3, [.null, .null, .int 0]))) (fun i => i ≠ 101 ∧ i ≠ 102) (fun r' w' => r' = none ∧ w' = gW V 0 0 M00 (fun _ => none)) := by
  refine CTm_of (L := [(0, .ref 100)]) (by decide) (fun _ => rfl) (fun _ => Nat.le_of_ble_eq_true rfl) ?_
  intro p l e s m args below meth c G h A b N xs C S hr hlk hnm
  refine Y_aload_n C dX3_init_0 rfl rfl ?_
  refine Y_objI C dX3_init_1 g_576 g_32 g_33 ⟨Nat.le_of_ble_eq_true rfl, Nat.le_of_ble_eq_true rfl⟩ ?_
  refine Y_aload_n C dX3_init_4 rfl rfl ?_
  refine Y_iconst C (v := nI 0) dX3_init_5 (by decide) ?_
  refine Y_newq C (N := 0) 101 dX3_init_6 g_442 (by decide) (by decide) (by decide) ⟨Nat.le_of_ble_eq_true rfl, Nat.le_of_ble_eq_true rfl⟩ (wR_wU (fun i e h => (hC i e h).imp (fun a ha => by omega)) ⟨trivial, trivial, trivial, trivial⟩) ⟨(by first | trivial | (unfold vR; (try dsimp only); omega)), trivial⟩ ⟨(by first | trivial | (unfold vR; (try dsimp only); omega)), trivial⟩ (fun h1 ag1 => ?_)
  refine Y_put C K3 0 dX3_init_9 ((wU_n _ _ (by decide)).trans (wU_s _ _ _)) (by decide) g_577 rfl rfl (K3.2.2.1 0 (by decide)) rfl rfl (Nat.le_of_ble_eq_true rfl) (w' := wU (wU (wU (fun i => V[i]?) 100 (.inr (3, [.null, .null, .int 0]))) 101 (.inl (2, 0, .inr (.inr (.inr (.inr (fun _ => none))))))) 100 (.inr (3, [.ref 101, .null, .int 0]))) rfl ?_
  refine Y_aload_n C dX3_init_12 rfl rfl ?_
  refine Y_iconst C (v := nI 0) dX3_init_13 (by decide) ?_
  refine Y_newaa C (N := 0) 102 dX3_init_14 g_397 (by decide) (by decide) (by decide) ⟨Nat.le_of_ble_eq_true rfl, Nat.le_of_ble_eq_true rfl⟩ (wR_wU (wR_wU (wR_wU (fun i e h => (hC i e h).imp (fun a ha => by omega)) ⟨trivial, trivial, trivial, trivial⟩) (fun j a z => by cases z)) ⟨(by first | trivial | (unfold vR; (try dsimp only); omega)), trivial, trivial, trivial⟩) ⟨(by first | trivial | (unfold vR; (try dsimp only); omega)), trivial⟩ ⟨(by first | trivial | (unfold vR; (try dsimp only); omega)), trivial⟩ (fun h2 ag2 => ?_)
  refine Y_put C K3 1 dX3_init_17 ((wU_n _ _ (by decide)).trans (wU_s _ _ _)) (by decide) g_579 rfl rfl (K3.2.2.1 1 (by decide)) rfl rfl (Nat.le_of_ble_eq_true rfl) (w' := wU (wU (wU (wU (wU (fun i => V[i]?) 100 (.inr (3, [.null, .null, .int 0]))) 101 (.inl (2, 0, .inr (.inr (.inr (.inr (fun _ => none))))))) 100 (.inr (3, [.ref 101, .null, .int 0]))) 102 (.inl (3, 0, .inr (.inr (.inr (.inr (fun _ => none))))))) 100 (.inr (3, [.ref 101, .ref 102, .int 0]))) rfl ?_
  refine Y_eq (gW_00 hV (fun i a b c => ?_) (wU_s _ _ _) ((wU_n _ _ (by decide)).trans ((wU_n _ _ (by decide)).trans ((wU_n _ _ (by decide)).trans (wU_s _ _ _)))) ((wU_n _ _ (by decide)).trans (wU_s _ _ _))) ?_
  · rw [wU_n _ _ a, wU_n _ _ c, wU_n _ _ a, wU_n _ _ b, wU_n _ _ a]
  exact Y_vret C hr hlk dX3_init_20 (fun i hi => (ag2 i hi.2).trans (ag1 i hi.1)) ⟨rfl, rfl⟩
set_option maxHeartbeats 4000000 in
set_option maxRecDepth 20000 in
theorem c_X3_add {V : List va_E} {n r : Nat} {M : Md} {T : WF} {x0 x1 x2 f o : Int32} (h40 : n < 40) (h30 : r ≤ 30) (hC : okC V) (hT : okT T) (h20 : T 420 = none) (h22 : T 422 = some (holE (mNew M n x0 x1 x2 f o) n)) (h23 : T 423 = none) (h24 : T 424 = none) (hrr : M.2.2.2 2 = nI r) (hJ : JI (n + 1) (mNew M n x0 x1 x2 f o)) (hB : WB (n + 1) (mNew M n x0 x1 x2 f o)) : CTm yX3_add cX3_add 7 none 4 733 19846 [.ref 100, .int x0, .int x1, .int x2, .ref 422] (gW V n r M T) (fun i => (i < 200 ∨ 280 ≤ i ∨ i % 2 = 0) ∧ i ≠ 423 ∧ (i < 410 ∨ 414 < i) ∧ i ≠ 101 ∧ i ≠ 420 ∧ i ≠ 422 ∧ i ≠ 424 ∧ i ≠ 200 + 2 * n) (fun r' w' => r' = none ∧ w' = gW V (n + 1) r (mGv (mNew M n x0 x1 x2 f o)) (t5 (tU T 422 none))) := by
  refine CTm_of (L := [(0, .ref 100), (1, .int x0), (2, .int x1), (3, .int x2), (4, .ref 422)]) (by decide) (fun _ => rfl) (fun _ => Nat.le_of_ble_eq_true rfl) ?_
  intro p l e s m args below meth c G h A b N xs C S hr hlk hnm
  have h40a : n ≤ 40 := by omega
  refine Y_aload_n C dX3_add_0 rfl rfl ?_
  refine Y_get C K3 (v := .ref 101) 0 dX3_add_1 gW_100 (by decide) g_577 rfl rfl ?_
  refine Y_alen C (i := 2) (v := nI n) dX3_add_4 gW_101 rfl rfl ?_
  refine Y_iconst C (v := 1) dX3_add_5 (by decide) ?_
  refine Y_iadd C (v := nI (n + 1)) dX3_add_6 (nI_1 n) ?_
  refine Y_newq C (N := n + 1) 420 dX3_add_7 g_442 (nI_pos (by omega)) (nI_clamp (by omega)) (by omega) ⟨Nat.le_of_ble_eq_true rfl, by show 0 + (n + 1) ≤ 19846; omega⟩ (gW_N h40a h30 hC hT (by decide)) ⟨(by first | trivial | (unfold vR; (try dsimp only); omega)), trivial, trivial, trivial, (by first | trivial | (unfold vR; (try dsimp only); omega)), trivial⟩ trivial (fun h1 ag1 => ?_)
  refine Y_eq (gW_tU (by decide)) ?_
  refine Y_widen (k' := 1) (n' := n + 1) (by omega) (by omega) ?_
  refine Y_astore C (L' := [(5, .ref 420), (0, .ref 100), (1, .int x0), (2, .int x1), (3, .int x2), (4, .ref 422)]) dX3_add_10 (by decide) rfl ?_
  refine Y_iconst C (v := nI 0) dX3_add_12 (by decide) ?_
  refine Y_istore C (L' := [(6, .int (nI 0)), (5, .ref 420), (0, .ref 100), (1, .int x0), (2, .int x1), (3, .int x2), (4, .ref 422)]) dX3_add_13 (by decide) rfl ?_
  refine Zfor (σ := Nat → Option Nat) (fun i11 X11 => Y p l e _ s m args below meth c 7 G A h1 _ 1 (n + 1) (gW V n r M (tU T 420 (some (rfE 2 (n + 1) X11)))) 15 [(6, .int (nI i11)), (5, .ref 420), (0, .ref 100), (1, .int x0), (2, .int x1), (3, .int x2), (4, .ref 422)] []) (fun i11 X11 => True) (fun i g => va_up g i (some (200 + 2 * i))) n (fun _ => none) trivial (fun _ _ _ _ => trivial) (fun X11 hX11 eX11 => ?_) (fun i11 X11 hi11 hX11 hX11' kk11 => ?_)
  · skip
    have eS : X11 = rfS n := by rw [eX11]; exact upS n
    subst eS
    refine Y_iload C dX3_add_15 rfl ?_
    refine Y_aload_n C dX3_add_17 rfl rfl ?_
    refine Y_get C K3 (v := .ref 101) 0 dX3_add_18 gW_100 (by decide) g_577 rfl rfl ?_
    refine Y_alen C (i := 2) (v := nI n) dX3_add_21 gW_101 rfl rfl ?_
    refine Y_icmp_ge C 43 dX3_add_22 (by decide) (fun cc12 => ?_) (fun cc12 => absurd (Int32.le_refl _) cc12)
    refine Y_eq (w' := addW V n r M T) rfl ?_
    refine Y_sub (L' := [(5, .ref 420), (0, .ref 100), (1, .int x0), (2, .int x1), (3, .int x2), (4, .ref 422)]) (by simp) ?_
    refine Y_new C (fs := [.int 0, .int 0, .int 0, .int 0, .null, .int 0]) (200 + 2 * n) K4 dX3_add_43 g_442 g_444 g_18 (fun j hj => by rcases (show j = 0 ∨ j = 1 ∨ j = 2 ∨ j = 3 ∨ j = 4 ∨ j = 5 from by omega) with rfl | rfl | rfl | rfl | rfl | rfl <;> rfl) rfl ⟨Nat.le_of_ble_eq_true rfl, by show n + 1 + 6 ≤ 19846; omega⟩ ⟨trivial, trivial, trivial, trivial, trivial, trivial, trivial⟩ (addW_R h40 h30 hC hT (Or.inl rfl)) ⟨(by first | trivial | (unfold vR; (try dsimp only); omega)), (by first | trivial | (unfold vR; (try dsimp only); omega)), trivial, trivial, trivial, (by first | trivial | (unfold vR; (try dsimp only); omega)), trivial⟩ trivial (fun h2 ag2 => ?_)
    refine Y_dup C dX3_add_46 rfl ?_
    refine Y_callMI C S (c_X4_init (w0 := wU (addW V n r M T) (200 + 2 * n) (.inr (4, [.int 0, .int 0, .int 0, .int 0, .null, .int 0]))) (q := 200 + 2 * n) (wU_s _ _ _) (wR_wU (addW_R h40 h30 hC hT (Or.inr rfl)) ⟨trivial, trivial, trivial, trivial, trivial, trivial, trivial⟩) (by omega) ((wU_n _ _ (by omega)).trans ((gW_hi (by decide)).trans ((tU_n _ _ (by decide)).trans h24)))) i_X4_init (host := RL) (show Cond.methodLinkNest RX3 34 yX4_init RL ∈ nW by simp [nW]) dX3_add_47 ⟨Nat.le_of_ble_eq_true rfl, Nat.le_of_ble_eq_true rfl⟩ ⟨Nat.le_of_ble_eq_true rfl, by show n + 1 + 6 + 0 ≤ 19846; omega⟩ (Nat.le_of_ble_eq_true rfl) ⟨(by first | trivial | (unfold vR; (try dsimp only); omega)), (by first | trivial | (unfold vR; (try dsimp only); omega)), trivial, trivial, trivial, (by first | trivial | (unfold vR; (try dsimp only); omega)), trivial⟩ ⟨(by first | trivial | (unfold vR; (try dsimp only); omega)), trivial⟩ (fun h3 r3 w3 ag3 F3 => ?_)
    obtain ⟨rfl, rfl⟩ := F3
    refine Y_stk [.ref (200 + 2 * n)] rfl ?_
    refine Y_eq (w' := wU (addW V n r M T) (200 + 2 * n) (.inr (4, [.int 0, .int 0, .int 1, .int 0, .ref 424, .int 0]))) (wU_wU _ _ _ _) ?_
    refine Y_astore C (L' := [(6, .ref (200 + 2 * n)), (5, .ref 420), (0, .ref 100), (1, .int x0), (2, .int x1), (3, .int x2), (4, .ref 422)]) dX3_add_50 (by decide) rfl ?_
    refine Y_aload C dX3_add_52 rfl ?_
    refine Y_iload_n C dX3_add_54 rfl rfl ?_
    refine Y_put C K4 0 dX3_add_55 (wU_s _ _ _) (by decide) g_449 rfl rfl (K4.2.2.1 0 (by decide)) rfl rfl (Nat.le_of_ble_eq_true rfl) (w' := wU (addW V n r M T) (200 + 2 * n) (.inr (4, [.int x0, .int 0, .int 1, .int 0, .ref 424, .int 0]))) (wU_wU _ _ _ _) ?_
    refine Y_aload C dX3_add_58 rfl ?_
    refine Y_iload_n C dX3_add_60 rfl rfl ?_
    refine Y_put C K4 1 dX3_add_61 (wU_s _ _ _) (by decide) g_450 rfl rfl (K4.2.2.1 1 (by decide)) rfl rfl (Nat.le_of_ble_eq_true rfl) (w' := wU (addW V n r M T) (200 + 2 * n) (.inr (4, [.int x0, .int x1, .int 1, .int 0, .ref 424, .int 0]))) (wU_wU _ _ _ _) ?_
    refine Y_aload C dX3_add_64 rfl ?_
    refine Y_iload_n C dX3_add_66 rfl rfl ?_
    refine Y_put C K4 3 dX3_add_67 (wU_s _ _ _) (by decide) g_454 rfl rfl (K4.2.2.1 3 (by decide)) rfl rfl (Nat.le_of_ble_eq_true rfl) (w' := wU (addW V n r M T) (200 + 2 * n) (.inr (4, [.int x0, .int x1, .int 1, .int x2, .ref 424, .int 0]))) (wU_wU _ _ _ _) ?_
    refine Y_aload C dX3_add_70 rfl ?_
    refine Y_aload C dX3_add_72 rfl ?_
    refine Y_put C K4 4 dX3_add_74 (wU_s _ _ _) (by decide) g_457 rfl rfl (K4.2.2.1 4 (by decide)) rfl rfl (Nat.le_of_ble_eq_true rfl) (w' := wU (addW V n r M T) (200 + 2 * n) (.inr (4, [.int x0, .int x1, .int 1, .int x2, .ref 422, .int 0]))) (wU_wU _ _ _ _) ?_
    refine Y_eq (w' := wU (addW V n r M T) (200 + 2 * n) (newE x0 x1 x2)) rfl ?_
    refine Y_aload C dX3_add_77 rfl ?_
    refine Y_aload_n C dX3_add_79 rfl rfl ?_
    refine Y_get C K3 (v := .ref 101) 0 dX3_add_80 ((wU_n _ _ (by omega)).trans gW_100) (by decide) g_577 rfl rfl ?_
    refine Y_alen C (i := 2) (v := nI n) dX3_add_83 ((wU_n _ _ (by omega)).trans gW_101) rfl rfl ?_
    refine Y_aload C dX3_add_84 rfl ?_
    refine Y_aastq C (f' := rfS (n + 1)) dX3_add_86 ((wU_n _ _ (by omega)).trans ((gW_hi (by decide)).trans (tU_s _ _ _))) (wU_s _ _ _) (vp_in_nI (n := n) (N := n + 1) (by omega) (by omega)) (by rw [nI_clamp (by omega)]; exact rfS_up n) rfl ?_
    refine Y_aload_n C dX3_add_87 rfl rfl ?_
    refine Y_aload C dX3_add_88 rfl ?_
    refine Y_put C K3 0 dX3_add_90 ((wU_n _ _ (by omega)).trans ((wU_n _ _ (by omega)).trans gW_100)) (by decide) g_577 rfl rfl (K3.2.2.1 0 (by decide)) rfl rfl (Nat.le_of_ble_eq_true rfl) (w' := addX V n r M T x0 x1 x2) rfl ?_
    refine Y_sub (L' := [(0, .ref 100)]) (by simp) ?_
    refine Y_ren (rq n) (w' := gW V (n + 1) r (mNew M n x0 x1 x2 f o) (tU T 422 none)) (L' := [(0, .ref 100)]) (st' := []) (add_ren h40 h30 hC hT h20 h22).1 (add_ren h40 h30 hC hT h20 h22).2 (by show [(0, Value.ref (rq n 100))] = _; rw [rq_o (by omega) (by omega)]) rfl ?_
    have agR : ∀ i, i ≠ 201 + 2 * n ∧ i ≠ 101 → (fun i => h3 (rq n i)) i = h3 i := fun i hi => congrArg h3 (rq_o hi.1 hi.2)
    refine Y_aload_n C dX3_add_93 rfl rfl ?_
    refine Y_callM C S (c_X3_giveWay (V := V) (T := tU T 422 none) h40 h30 hC (okT_n hT) ((tU_n _ _ (by decide)).trans h23) (by rfl) hrr hJ hB) m_X3_giveWay K3 g_389 dX3_add_94 gW_100 rfl rfl ⟨Nat.le_of_ble_eq_true rfl, Nat.le_of_ble_eq_true rfl⟩ ⟨Nat.le_of_ble_eq_true rfl, by show n + 1 + 6 + 0 + 19800 ≤ 19846; omega⟩ (Nat.le_of_ble_eq_true rfl) ⟨(by first | trivial | (unfold vR; (try dsimp only); omega)), trivial⟩ trivial (fun h13 r13 w13 ag13 F13 => ?_)
    obtain ⟨rfl, rfl⟩ := F13
    refine Y_stk [] rfl ?_
    refine Y_sub (L' := []) (by simp) ?_
    refine Y_widen (k' := 733) (n' := 19846) (by omega) (by show n + 1 + 6 + 0 + 19800 ≤ 19846; omega) ?_
    exact Y_vret C hr hlk dX3_add_97 (fun i hi => ((ag13 i (by first | trivial | exact hi | ((try (dsimp only at hi)); (try dsimp only); omega))).trans ((agR i (by first | trivial | exact hi | ((try (dsimp only at hi)); (try dsimp only); omega))).trans ((ag3 i (by first | trivial | exact hi | ((try (dsimp only at hi)); (try dsimp only); omega))).trans ((ag2 i (by first | trivial | exact hi | ((try (dsimp only at hi)); (try dsimp only); omega))).trans (ag1 i (by first | trivial | exact hi | ((try (dsimp only at hi)); (try dsimp only); omega)))))))) ⟨rfl, rfl⟩
  · skip
    refine Y_iload C dX3_add_15 rfl ?_
    refine Y_aload_n C dX3_add_17 rfl rfl ?_
    refine Y_get C K3 (v := .ref 101) 0 dX3_add_18 gW_100 (by decide) g_577 rfl rfl ?_
    refine Y_alen C (i := 2) (v := nI n) dX3_add_21 gW_101 rfl rfl ?_
    refine Y_icmp_ge C 43 dX3_add_22 (by decide) (fun cc14 => absurd cc14 (nI_ge hi11 (by omega))) (fun cc14 => ?_)
    refine Y_aload C dX3_add_25 rfl ?_
    refine Y_iload C dX3_add_27 rfl ?_
    refine Y_aload_n C dX3_add_29 rfl rfl ?_
    refine Y_get C K3 (v := .ref 101) 0 dX3_add_30 gW_100 (by decide) g_577 rfl rfl ?_
    refine Y_iload C dX3_add_33 rfl ?_
    refine Y_aaldq C (j := 200 + 2 * i11) dX3_add_35 gW_101 (vp_in_nI hi11 (by omega)) (by rw [nI_clamp (by omega)]; exact rfS_at hi11) ?_
    refine Y_aastq C (f' := va_up X11 i11 (some (200 + 2 * i11))) dX3_add_36 ((gW_hi (by decide)).trans (tU_s _ _ _)) (gW_st h40a hi11) (vp_in_nI (n := i11) (N := n + 1) (by omega) (by omega)) (by rw [nI_clamp (by omega)]) (w' := gW V n r M (tU T 420 (some (rfE 2 (n + 1) (va_up X11 i11 (some (200 + 2 * i11))))))) ((gW_tU (by decide)).trans (congrArg _ (tU_tU _ _ _ _))) ?_
    refine Y_iinc C (L' := [(6, .int (nI (i11 + 1))), (5, .ref 420), (0, .ref 100), (1, .int x0), (2, .int x1), (3, .int x2), (4, .ref 422)]) (v := nI (i11 + 1)) dX3_add_37 rfl (nI_inc _) (by decide) rfl ?_
    refine Y_goto C 15 dX3_add_40 (by decide) ?_
    exact Y_sub (by simp [bI_t, bI_f]) (kk11)
