set_option maxHeartbeats 4000000 in
set_option maxRecDepth 20000 in
theorem c_X4_isFrom {V : List va_E} {n r : Nat} {M : Md} {T : WF} {o k : Nat} (h40 : n ≤ 40) (ho : o < n) (hk : k < 2 ^ 31) (hH : M.1 4 o = -1 → M.1 5 o = -1) : CTm yX4_isFrom cX4_isFrom 6 (some .boolean) 0 0 0 [.ref (200 + 2 * o), .int (nI k)] (gW V n r M T) (fun _ => True) (fun r' w' => r' = some (.int (bI (heldB M o (nI k)))) ∧ w' = gW V n r M T) := by
  refine CTm_of (L := [(0, .ref (200 + 2 * o)), (1, .int (nI k))]) (by decide) (fun _ => rfl) (fun _ => Nat.le_of_ble_eq_true rfl) ?_
  intro p l e s m args below meth c G h A b N xs C S hr hlk hnm
  have hkm : ¬ (-1 : Int32) = nI k := m1_ne hk
  by_cases h4 : M.1 4 o = -1
  · have h5 := hH h4
    have hq : gW V n r M T (201 + 2 * o) = some (.inl (0, 0, .inl (hF M o))) := by rw [gW_ho h40 ho]; unfold holE hL; rw [if_pos h4]
    refine Y_aload_n C dX4_isFrom_0 rfl rfl ?_
    refine Y_get C K4 (v := .ref (201 + 2 * o)) 4 dX4_isFrom_1 (gW_st h40 ho) (by decide) g_456 rfl rfl ?_
    refine Y_astore_n C (L' := [(2, .ref (201 + 2 * o)), (0, .ref (200 + 2 * o)), (1, .int (nI k))]) dX4_isFrom_4 rfl (by decide) rfl ?_
    refine Y_aload_n C dX4_isFrom_5 rfl rfl ?_
    refine Y_alen C (i := 0) (v := nI 0) dX4_isFrom_6 hq rfl rfl ?_
    refine Y_istore_n C (L' := [(3, .int (nI 0)), (2, .ref (201 + 2 * o)), (0, .ref (200 + 2 * o)), (1, .int (nI k))]) dX4_isFrom_7 rfl (by decide) rfl ?_
    refine Y_iconst C (v := nI 0) dX4_isFrom_8 (by decide) ?_
    refine Y_istore C (L' := [(4, .int (nI 0)), (3, .int (nI 0)), (2, .ref (201 + 2 * o)), (0, .ref (200 + 2 * o)), (1, .int (nI k))]) dX4_isFrom_9 (by decide) rfl ?_
    refine Y_iload C dX4_isFrom_11 rfl ?_
    refine Y_iload_n C dX4_isFrom_13 rfl rfl ?_
    refine Y_icmp_ge C 37 dX4_isFrom_14 (by decide) (fun c1 => ?_) (fun c1 => absurd (by decide) c1)
    refine Y_iconst C (v := 0) dX4_isFrom_37 (by decide) ?_
    exact Y_zret C hr hlk dX4_isFrom_38 rfl (fun i _ => rfl) ⟨by simp [heldB, bI, h4, h5, hkm], rfl⟩
  · by_cases h5 : M.1 5 o = -1
    · have hq : gW V n r M T (201 + 2 * o) = some (.inl (0, 1, .inl (hF M o))) := by rw [gW_ho h40 ho]; unfold holE hL; rw [if_neg h4, if_pos h5]
      refine Y_aload_n C dX4_isFrom_0 rfl rfl ?_
      refine Y_get C K4 (v := .ref (201 + 2 * o)) 4 dX4_isFrom_1 (gW_st h40 ho) (by decide) g_456 rfl rfl ?_
      refine Y_astore_n C (L' := [(2, .ref (201 + 2 * o)), (0, .ref (200 + 2 * o)), (1, .int (nI k))]) dX4_isFrom_4 rfl (by decide) rfl ?_
      refine Y_aload_n C dX4_isFrom_5 rfl rfl ?_
      refine Y_alen C (i := 0) (v := nI 1) dX4_isFrom_6 hq rfl rfl ?_
      refine Y_istore_n C (L' := [(3, .int (nI 1)), (2, .ref (201 + 2 * o)), (0, .ref (200 + 2 * o)), (1, .int (nI k))]) dX4_isFrom_7 rfl (by decide) rfl ?_
      refine Y_iconst C (v := nI 0) dX4_isFrom_8 (by decide) ?_
      refine Y_istore C (L' := [(4, .int (nI 0)), (3, .int (nI 1)), (2, .ref (201 + 2 * o)), (0, .ref (200 + 2 * o)), (1, .int (nI k))]) dX4_isFrom_9 (by decide) rfl ?_
      refine Y_iload C dX4_isFrom_11 rfl ?_
      refine Y_iload_n C dX4_isFrom_13 rfl rfl ?_
      refine Y_icmp_ge C 37 dX4_isFrom_14 (by decide) (fun c1 => absurd c1 (by decide)) (fun c1 => ?_)
      refine Y_aload_n C dX4_isFrom_17 rfl rfl ?_
      refine Y_iload C dX4_isFrom_18 rfl ?_
      refine Y_iald C (v := M.1 4 o) dX4_isFrom_20 hq (vp_in_nI (by decide) (by omega)) (by rw [nI_clamp (by omega)] <;> rfl) ?_
      refine Y_istore C (L' := [(5, .int (M.1 4 o)), (4, .int (nI 0)), (3, .int (nI 1)), (2, .ref (201 + 2 * o)), (0, .ref (200 + 2 * o)), (1, .int (nI k))]) dX4_isFrom_21 (by decide) rfl ?_
      refine Y_iload C dX4_isFrom_23 rfl ?_
      refine Y_iload_n C dX4_isFrom_25 rfl rfl ?_
      refine Y_icmp_ne C 31 dX4_isFrom_26 (by decide) (fun c2 => ?_) (fun c2 => ?_)
      · refine Y_iinc C (L' := [(4, .int (nI 1)), (5, .int (M.1 4 o)), (3, .int (nI 1)), (2, .ref (201 + 2 * o)), (0, .ref (200 + 2 * o)), (1, .int (nI k))]) (v := nI 1) dX4_isFrom_31 rfl (by decide) (by decide) rfl ?_
        refine Y_goto C 11 dX4_isFrom_34 (by decide) ?_
        refine Y_iload C dX4_isFrom_11 rfl ?_
        refine Y_iload_n C dX4_isFrom_13 rfl rfl ?_
        refine Y_icmp_ge C 37 dX4_isFrom_14 (by decide) (fun c3 => ?_) (fun c3 => absurd (by decide) c3)
        refine Y_iconst C (v := 0) dX4_isFrom_37 (by decide) ?_
        exact Y_zret C hr hlk dX4_isFrom_38 rfl (fun i _ => rfl) ⟨by simp [heldB, bI, h4, h5, hkm, c2], rfl⟩
      · refine Y_iconst C (v := 1) dX4_isFrom_29 (by decide) ?_
        exact Y_zret C hr hlk dX4_isFrom_30 rfl (fun i _ => rfl) ⟨by simp [heldB, bI, h4, h5, hkm, c2], rfl⟩
    · have hq : gW V n r M T (201 + 2 * o) = some (.inl (0, 2, .inl (hF M o))) := by rw [gW_ho h40 ho]; unfold holE hL; rw [if_neg h4, if_neg h5]
      refine Y_aload_n C dX4_isFrom_0 rfl rfl ?_
      refine Y_get C K4 (v := .ref (201 + 2 * o)) 4 dX4_isFrom_1 (gW_st h40 ho) (by decide) g_456 rfl rfl ?_
      refine Y_astore_n C (L' := [(2, .ref (201 + 2 * o)), (0, .ref (200 + 2 * o)), (1, .int (nI k))]) dX4_isFrom_4 rfl (by decide) rfl ?_
      refine Y_aload_n C dX4_isFrom_5 rfl rfl ?_
      refine Y_alen C (i := 0) (v := nI 2) dX4_isFrom_6 hq rfl rfl ?_
      refine Y_istore_n C (L' := [(3, .int (nI 2)), (2, .ref (201 + 2 * o)), (0, .ref (200 + 2 * o)), (1, .int (nI k))]) dX4_isFrom_7 rfl (by decide) rfl ?_
      refine Y_iconst C (v := nI 0) dX4_isFrom_8 (by decide) ?_
      refine Y_istore C (L' := [(4, .int (nI 0)), (3, .int (nI 2)), (2, .ref (201 + 2 * o)), (0, .ref (200 + 2 * o)), (1, .int (nI k))]) dX4_isFrom_9 (by decide) rfl ?_
      refine Y_iload C dX4_isFrom_11 rfl ?_
      refine Y_iload_n C dX4_isFrom_13 rfl rfl ?_
      refine Y_icmp_ge C 37 dX4_isFrom_14 (by decide) (fun c1 => absurd c1 (by decide)) (fun c1 => ?_)
      refine Y_aload_n C dX4_isFrom_17 rfl rfl ?_
      refine Y_iload C dX4_isFrom_18 rfl ?_
      refine Y_iald C (v := M.1 4 o) dX4_isFrom_20 hq (vp_in_nI (by decide) (by omega)) (by rw [nI_clamp (by omega)] <;> rfl) ?_
      refine Y_istore C (L' := [(5, .int (M.1 4 o)), (4, .int (nI 0)), (3, .int (nI 2)), (2, .ref (201 + 2 * o)), (0, .ref (200 + 2 * o)), (1, .int (nI k))]) dX4_isFrom_21 (by decide) rfl ?_
      refine Y_iload C dX4_isFrom_23 rfl ?_
      refine Y_iload_n C dX4_isFrom_25 rfl rfl ?_
      refine Y_icmp_ne C 31 dX4_isFrom_26 (by decide) (fun c2 => ?_) (fun c2 => ?_)
      · refine Y_iinc C (L' := [(4, .int (nI 1)), (5, .int (M.1 4 o)), (3, .int (nI 2)), (2, .ref (201 + 2 * o)), (0, .ref (200 + 2 * o)), (1, .int (nI k))]) (v := nI 1) dX4_isFrom_31 rfl (by decide) (by decide) rfl ?_
        refine Y_goto C 11 dX4_isFrom_34 (by decide) ?_
        refine Y_iload C dX4_isFrom_11 rfl ?_
        refine Y_iload_n C dX4_isFrom_13 rfl rfl ?_
        refine Y_icmp_ge C 37 dX4_isFrom_14 (by decide) (fun c3 => absurd c3 (by decide)) (fun c3 => ?_)
        refine Y_aload_n C dX4_isFrom_17 rfl rfl ?_
        refine Y_iload C dX4_isFrom_18 rfl ?_
        refine Y_iald C (v := M.1 5 o) dX4_isFrom_20 hq (vp_in_nI (by decide) (by omega)) (by rw [nI_clamp (by omega)] <;> rfl) ?_
        refine Y_istore C (L' := [(5, .int (M.1 5 o)), (4, .int (nI 1)), (3, .int (nI 2)), (2, .ref (201 + 2 * o)), (0, .ref (200 + 2 * o)), (1, .int (nI k))]) dX4_isFrom_21 (by decide) rfl ?_
        refine Y_iload C dX4_isFrom_23 rfl ?_
        refine Y_iload_n C dX4_isFrom_25 rfl rfl ?_
        refine Y_icmp_ne C 31 dX4_isFrom_26 (by decide) (fun c4 => ?_) (fun c4 => ?_)
        · refine Y_iinc C (L' := [(4, .int (nI 2)), (5, .int (M.1 5 o)), (3, .int (nI 2)), (2, .ref (201 + 2 * o)), (0, .ref (200 + 2 * o)), (1, .int (nI k))]) (v := nI 2) dX4_isFrom_31 rfl (by decide) (by decide) rfl ?_
          refine Y_goto C 11 dX4_isFrom_34 (by decide) ?_
          refine Y_iload C dX4_isFrom_11 rfl ?_
          refine Y_iload_n C dX4_isFrom_13 rfl rfl ?_
          refine Y_icmp_ge C 37 dX4_isFrom_14 (by decide) (fun c5 => ?_) (fun c5 => absurd (by decide) c5)
          refine Y_iconst C (v := 0) dX4_isFrom_37 (by decide) ?_
          exact Y_zret C hr hlk dX4_isFrom_38 rfl (fun i _ => rfl) ⟨by simp [heldB, bI, h4, h5, hkm, c2, c4], rfl⟩
        · refine Y_iconst C (v := 1) dX4_isFrom_29 (by decide) ?_
          exact Y_zret C hr hlk dX4_isFrom_30 rfl (fun i _ => rfl) ⟨by simp [heldB, bI, h4, h5, hkm, c2, c4], rfl⟩
      · refine Y_iconst C (v := 1) dX4_isFrom_29 (by decide) ?_
        exact Y_zret C hr hlk dX4_isFrom_30 rfl (fun i _ => rfl) ⟨by simp [heldB, bI, h4, h5, hkm, c2], rfl⟩
set_option maxHeartbeats 4000000 in
set_option maxRecDepth 20000 in
theorem c_X4_lose {V : List va_E} {n r : Nat} {M : Md} {T : WF} {o k : Nat} (h40 : n ≤ 40) (ho : o < n) (hk : k < 2 ^ 31) (hH : M.1 4 o = -1 → M.1 5 o = -1) (hD : ¬ M.1 4 o = -1 → ¬ M.1 4 o = M.1 5 o) (h30 : r ≤ 30) (hC : okC V) (hT : okT T) (h23 : T 423 = none) : CTm yX4_lose cX4_lose 8 none 1 (jC k o M) (jC k o M) [.ref (200 + 2 * o), .int (nI k)] (gW V n r M T) (fun i => i ≠ 201 + 2 * o ∧ i ≠ 423) (fun r' w' => r' = none ∧ w' = gW V n r (jL k o M) T) := by
  have hkm : ¬ (-1 : Int32) = nI k := m1_ne hk
  by_cases hb : heldB M o (nI k) = true
  · rw [show jC k o M = 1 from if_pos hb]
    refine CTm_of (L := [(0, .ref (200 + 2 * o)), (1, .int (nI k))]) (by decide) (fun _ => rfl) (fun _ => Nat.le_of_ble_eq_true rfl) ?_
    intro p l e s m args below meth c G h A b N xs C S hr hlk hnm
    have hb2 := hb
    simp only [heldB, Bool.or_eq_true, decide_eq_true_eq] at hb2
    have h4 : ¬ M.1 4 o = -1 := fun z => by rw [z, hH z] at hb2; exact hb2.elim hkm hkm
    by_cases h5 : M.1 5 o = -1
    · have hw : M.1 4 o = nI k := hb2.resolve_right (fun z => hkm (by rw [← h5]; exact z))
      have hq : gW V n r M T (201 + 2 * o) = some (.inl (0, 1, .inl (hF M o))) := by rw [gW_ho h40 ho]; unfold holE hL; rw [if_neg h4, if_pos h5]
      have j4 : (jL k o M).1 4 o = M.1 5 o := by unfold jL; rw [if_pos hw]; rw [tA_nk (by decide), tA_eq]
      have j5 : (jL k o M).1 5 o = -1 := by unfold jL; rw [if_pos hw]; rw [tA_eq]
      have hh9 : holE (jL k o M) o = .inl (0, 0, .inl (hF (jL k o M) o)) := by unfold holE hL; rw [j4, if_pos h5]
      refine Y_aload_n C dX4_lose_0 rfl rfl ?_
      refine Y_iload_n C dX4_lose_1 rfl rfl ?_
      refine Y_callM C S (c_X4_isFrom (V := V) (n := n) (r := r) (M := M) (T := T) h40 ho hk hH) m_X4_isFrom K4 g_385 dX4_lose_2 (gW_st h40 ho) rfl rfl ⟨Nat.le_of_ble_eq_true rfl, Nat.le_of_ble_eq_true rfl⟩ ⟨Nat.le_of_ble_eq_true rfl, Nat.le_of_ble_eq_true rfl⟩ (Nat.le_of_ble_eq_true rfl) ⟨(by first | trivial | (unfold vR; (try dsimp only); omega)), trivial, trivial⟩ trivial (fun h1 r1 w1 ag1 F1 => ?_)
      obtain ⟨rfl, rfl⟩ := F1
      refine Y_stk [.int (bI (heldB M o (nI k)))] rfl ?_
      refine Y_if_ne C 9 dX4_lose_5 (by decide) (fun c2 => ?_) (fun c2 => absurd c2 (bI_n0.mpr hb))
      refine Y_aload_n C dX4_lose_9 rfl rfl ?_
      refine Y_get C K4 (v := .ref (201 + 2 * o)) 4 dX4_lose_10 (gW_st h40 ho) (by decide) g_456 rfl rfl ?_
      refine Y_alen C (i := 0) (v := nI 1) dX4_lose_13 hq rfl rfl ?_
      refine Y_iconst C (v := 1) dX4_lose_14 (by decide) ?_
      refine Y_isub C (v := nI 0) dX4_lose_15 (by decide) ?_
      refine Y_newi C (N := 0) 423 dX4_lose_16 g_85 (by decide) (by decide) (by decide) ⟨Nat.le_of_ble_eq_true rfl, Nat.le_of_ble_eq_true rfl⟩ (gW_N h40 h30 hC hT (by decide)) ⟨(by first | trivial | (unfold vR; (try dsimp only); omega)), trivial, trivial⟩ trivial (fun h3 ag3 => ?_)
      refine Y_eq (gW_tU (by decide)) ?_
      have hT1 := okT_U (q := 423) (i := 0) (N := 0) (f := fun _ => 0) hT
      have hq1 : gW V n r M (tU T 423 (some (.inl (0, 0, .inl (fun _ => 0))))) (201 + 2 * o) = some (.inl (0, 1, .inl (hF M o))) := by rw [gW_mid (by omega) (by omega)]; rw [gW_mid (by omega) (by omega)] at hq; exact hq
      refine Y_astore_n C (L' := [(2, .ref 423), (0, .ref (200 + 2 * o)), (1, .int (nI k))]) dX4_lose_18 rfl (by decide) rfl ?_
      refine Y_iconst C (v := nI 0) dX4_lose_19 (by decide) ?_
      refine Y_istore_n C (L' := [(3, .int (nI 0)), (2, .ref 423), (0, .ref (200 + 2 * o)), (1, .int (nI k))]) dX4_lose_20 rfl (by decide) rfl ?_
      refine Y_aload_n C dX4_lose_21 rfl rfl ?_
      refine Y_get C K4 (v := .ref (201 + 2 * o)) 4 dX4_lose_22 (gW_st h40 ho) (by decide) g_456 rfl rfl ?_
      refine Y_astore C (L' := [(4, .ref (201 + 2 * o)), (3, .int (nI 0)), (2, .ref 423), (0, .ref (200 + 2 * o)), (1, .int (nI k))]) dX4_lose_25 (by decide) rfl ?_
      refine Y_aload C dX4_lose_27 rfl ?_
      refine Y_alen C (i := 0) (v := nI 1) dX4_lose_29 hq1 rfl rfl ?_
      refine Y_istore C (L' := [(5, .int (nI 1)), (4, .ref (201 + 2 * o)), (3, .int (nI 0)), (2, .ref 423), (0, .ref (200 + 2 * o)), (1, .int (nI k))]) dX4_lose_30 (by decide) rfl ?_
      refine Y_iconst C (v := nI 0) dX4_lose_32 (by decide) ?_
      refine Y_istore C (L' := [(6, .int (nI 0)), (5, .int (nI 1)), (4, .ref (201 + 2 * o)), (3, .int (nI 0)), (2, .ref 423), (0, .ref (200 + 2 * o)), (1, .int (nI k))]) dX4_lose_33 (by decide) rfl ?_
      refine Y_iload C dX4_lose_35 rfl ?_
      refine Y_iload C dX4_lose_37 rfl ?_
      refine Y_icmp_ge C 72 dX4_lose_39 (by decide) (fun c4 => absurd c4 (by decide)) (fun c4 => ?_)
      refine Y_aload C dX4_lose_42 rfl ?_
      refine Y_iload C dX4_lose_44 rfl ?_
      refine Y_iald C (v := M.1 4 o) dX4_lose_46 hq1 (vp_in_nI (by decide) (by omega)) (by rw [nI_clamp (by omega)] <;> rfl) ?_
      refine Y_istore C (L' := [(7, .int (M.1 4 o)), (6, .int (nI 0)), (5, .int (nI 1)), (4, .ref (201 + 2 * o)), (3, .int (nI 0)), (2, .ref 423), (0, .ref (200 + 2 * o)), (1, .int (nI k))]) dX4_lose_47 (by decide) rfl ?_
      refine Y_iload C dX4_lose_49 rfl ?_
      refine Y_iload_n C dX4_lose_51 rfl rfl ?_
      refine Y_icmp_ne C 58 dX4_lose_52 (by decide) (fun c5 => absurd hw c5) (fun c5 => ?_)
      refine Y_goto C 66 dX4_lose_55 (by decide) ?_
      refine Y_iinc C (L' := [(6, .int (nI 1)), (7, .int (M.1 4 o)), (5, .int (nI 1)), (4, .ref (201 + 2 * o)), (3, .int (nI 0)), (2, .ref 423), (0, .ref (200 + 2 * o)), (1, .int (nI k))]) (v := nI 1) dX4_lose_66 rfl (by decide) (by decide) rfl ?_
      refine Y_goto C 35 dX4_lose_69 (by decide) ?_
      refine Y_iload C dX4_lose_35 rfl ?_
      refine Y_iload C dX4_lose_37 rfl ?_
      refine Y_icmp_ge C 72 dX4_lose_39 (by decide) (fun c6 => ?_) (fun c6 => absurd (by decide) c6)
      refine Y_aload_n C dX4_lose_72 rfl rfl ?_
      refine Y_aload_n C dX4_lose_73 rfl rfl ?_
      refine Y_fn (hF (jL k o M) o) ((gW_hi (by decide)).trans (tU_s _ _ _)) (fun j hj => absurd hj (Nat.not_lt_zero _)) ?_
      refine Y_eq (gW_tU (by decide)) ?_
      refine Y_eq (by rw [tU_tU]) ?_
      refine Y_put C K4 4 dX4_lose_74 (gW_st h40 ho) (by decide) g_456 rfl rfl (K4.2.2.1 4 (by decide)) rfl rfl (Nat.le_of_ble_eq_true rfl) rfl ?_
      refine Y_sub (L' := []) (by simp) ?_
      obtain ⟨e1, e2⟩ := hold_ren (M := M) (M' := jL k o M) (T := T) (o := o) (q := 423) (N := 0) (f := hF (jL k o M) o) h40 h30 hC hT (by decide) h23 ho (fun a _ => by unfold stoE; rw [jL_row (by decide), jL_row (by decide), jL_row (by decide), jL_row (by decide), jL_row (by decide)]) (fun a _ ha => by unfold holE hL hF; rw [jL_at ha, jL_at ha]) hh9 (fun a => by unfold staE; rw [jL_2]) (by rw [jL_2])
      refine Y_ren (rn o 423) (w' := gW V n r (jL k o M) T) (L' := []) (st' := []) e1 e2 rfl rfl ?_
      refine Y_widen (k' := 1) (n' := 1) (Nat.le_of_ble_eq_true rfl) (Nat.le_of_ble_eq_true rfl) ?_
      exact Y_vret C hr hlk dX4_lose_77 (fun i (hi : i ≠ 201 + 2 * o ∧ i ≠ 423) => (congrArg h3 (rn_n hi.1)).trans ((ag3 i (by first | trivial | exact hi | ((try (dsimp only at hi)); (try dsimp only); omega))).trans (ag1 i (by first | trivial | exact hi | ((try (dsimp only at hi)); (try dsimp only); omega))))) ⟨rfl, rfl⟩
    · by_cases hw : M.1 4 o = nI k
      · have hw2 : ¬ M.1 5 o = nI k := fun z => hD h4 (hw.trans z.symm)
        have hq : gW V n r M T (201 + 2 * o) = some (.inl (0, 2, .inl (hF M o))) := by rw [gW_ho h40 ho]; unfold holE hL; rw [if_neg h4, if_neg h5]
        have j4 : (jL k o M).1 4 o = M.1 5 o := by unfold jL; rw [if_pos hw]; rw [tA_nk (by decide), tA_eq]
        have j5 : (jL k o M).1 5 o = -1 := by unfold jL; rw [if_pos hw]; rw [tA_eq]
        have hh9 : holE (jL k o M) o = .inl (0, 1, .inl (hF (jL k o M) o)) := by unfold holE hL; rw [j4, if_neg h5, j5, if_pos rfl]
        have hst9 : hF (jL k o M) o 0 = M.1 5 o := j4
        refine Y_aload_n C dX4_lose_0 rfl rfl ?_
        refine Y_iload_n C dX4_lose_1 rfl rfl ?_
        refine Y_callM C S (c_X4_isFrom (V := V) (n := n) (r := r) (M := M) (T := T) h40 ho hk hH) m_X4_isFrom K4 g_385 dX4_lose_2 (gW_st h40 ho) rfl rfl ⟨Nat.le_of_ble_eq_true rfl, Nat.le_of_ble_eq_true rfl⟩ ⟨Nat.le_of_ble_eq_true rfl, Nat.le_of_ble_eq_true rfl⟩ (Nat.le_of_ble_eq_true rfl) ⟨(by first | trivial | (unfold vR; (try dsimp only); omega)), trivial, trivial⟩ trivial (fun h1 r1 w1 ag1 F1 => ?_)
        obtain ⟨rfl, rfl⟩ := F1
        refine Y_stk [.int (bI (heldB M o (nI k)))] rfl ?_
        refine Y_if_ne C 9 dX4_lose_5 (by decide) (fun c2 => ?_) (fun c2 => absurd c2 (bI_n0.mpr hb))
        refine Y_aload_n C dX4_lose_9 rfl rfl ?_
        refine Y_get C K4 (v := .ref (201 + 2 * o)) 4 dX4_lose_10 (gW_st h40 ho) (by decide) g_456 rfl rfl ?_
        refine Y_alen C (i := 0) (v := nI 2) dX4_lose_13 hq rfl rfl ?_
        refine Y_iconst C (v := 1) dX4_lose_14 (by decide) ?_
        refine Y_isub C (v := nI 1) dX4_lose_15 (by decide) ?_
        refine Y_newi C (N := 1) 423 dX4_lose_16 g_85 (by decide) (by decide) (by decide) ⟨Nat.le_of_ble_eq_true rfl, Nat.le_of_ble_eq_true rfl⟩ (gW_N h40 h30 hC hT (by decide)) ⟨(by first | trivial | (unfold vR; (try dsimp only); omega)), trivial, trivial⟩ trivial (fun h3 ag3 => ?_)
        refine Y_eq (gW_tU (by decide)) ?_
        have hT1 := okT_U (q := 423) (i := 0) (N := 1) (f := fun _ => 0) hT
        have hq1 : gW V n r M (tU T 423 (some (.inl (0, 1, .inl (fun _ => 0))))) (201 + 2 * o) = some (.inl (0, 2, .inl (hF M o))) := by rw [gW_mid (by omega) (by omega)]; rw [gW_mid (by omega) (by omega)] at hq; exact hq
        refine Y_astore_n C (L' := [(2, .ref 423), (0, .ref (200 + 2 * o)), (1, .int (nI k))]) dX4_lose_18 rfl (by decide) rfl ?_
        refine Y_iconst C (v := nI 0) dX4_lose_19 (by decide) ?_
        refine Y_istore_n C (L' := [(3, .int (nI 0)), (2, .ref 423), (0, .ref (200 + 2 * o)), (1, .int (nI k))]) dX4_lose_20 rfl (by decide) rfl ?_
        refine Y_aload_n C dX4_lose_21 rfl rfl ?_
        refine Y_get C K4 (v := .ref (201 + 2 * o)) 4 dX4_lose_22 (gW_st h40 ho) (by decide) g_456 rfl rfl ?_
        refine Y_astore C (L' := [(4, .ref (201 + 2 * o)), (3, .int (nI 0)), (2, .ref 423), (0, .ref (200 + 2 * o)), (1, .int (nI k))]) dX4_lose_25 (by decide) rfl ?_
        refine Y_aload C dX4_lose_27 rfl ?_
        refine Y_alen C (i := 0) (v := nI 2) dX4_lose_29 hq1 rfl rfl ?_
        refine Y_istore C (L' := [(5, .int (nI 2)), (4, .ref (201 + 2 * o)), (3, .int (nI 0)), (2, .ref 423), (0, .ref (200 + 2 * o)), (1, .int (nI k))]) dX4_lose_30 (by decide) rfl ?_
        refine Y_iconst C (v := nI 0) dX4_lose_32 (by decide) ?_
        refine Y_istore C (L' := [(6, .int (nI 0)), (5, .int (nI 2)), (4, .ref (201 + 2 * o)), (3, .int (nI 0)), (2, .ref 423), (0, .ref (200 + 2 * o)), (1, .int (nI k))]) dX4_lose_33 (by decide) rfl ?_
        refine Y_iload C dX4_lose_35 rfl ?_
        refine Y_iload C dX4_lose_37 rfl ?_
        refine Y_icmp_ge C 72 dX4_lose_39 (by decide) (fun c4 => absurd c4 (by decide)) (fun c4 => ?_)
        refine Y_aload C dX4_lose_42 rfl ?_
        refine Y_iload C dX4_lose_44 rfl ?_
        refine Y_iald C (v := M.1 4 o) dX4_lose_46 hq1 (vp_in_nI (by decide) (by omega)) (by rw [nI_clamp (by omega)] <;> rfl) ?_
        refine Y_istore C (L' := [(7, .int (M.1 4 o)), (6, .int (nI 0)), (5, .int (nI 2)), (4, .ref (201 + 2 * o)), (3, .int (nI 0)), (2, .ref 423), (0, .ref (200 + 2 * o)), (1, .int (nI k))]) dX4_lose_47 (by decide) rfl ?_
        refine Y_iload C dX4_lose_49 rfl ?_
        refine Y_iload_n C dX4_lose_51 rfl rfl ?_
        refine Y_icmp_ne C 58 dX4_lose_52 (by decide) (fun c5 => absurd hw c5) (fun c5 => ?_)
        refine Y_goto C 66 dX4_lose_55 (by decide) ?_
        refine Y_iinc C (L' := [(6, .int (nI 1)), (7, .int (M.1 4 o)), (5, .int (nI 2)), (4, .ref (201 + 2 * o)), (3, .int (nI 0)), (2, .ref 423), (0, .ref (200 + 2 * o)), (1, .int (nI k))]) (v := nI 1) dX4_lose_66 rfl (by decide) (by decide) rfl ?_
        refine Y_goto C 35 dX4_lose_69 (by decide) ?_
        refine Y_iload C dX4_lose_35 rfl ?_
        refine Y_iload C dX4_lose_37 rfl ?_
        refine Y_icmp_ge C 72 dX4_lose_39 (by decide) (fun c6 => absurd c6 (by decide)) (fun c6 => ?_)
        refine Y_aload C dX4_lose_42 rfl ?_
        refine Y_iload C dX4_lose_44 rfl ?_
        refine Y_iald C (v := M.1 5 o) dX4_lose_46 hq1 (vp_in_nI (by decide) (by omega)) (by rw [nI_clamp (by omega)] <;> rfl) ?_
        refine Y_istore C (L' := [(7, .int (M.1 5 o)), (6, .int (nI 1)), (5, .int (nI 2)), (4, .ref (201 + 2 * o)), (3, .int (nI 0)), (2, .ref 423), (0, .ref (200 + 2 * o)), (1, .int (nI k))]) dX4_lose_47 (by decide) rfl ?_
        refine Y_iload C dX4_lose_49 rfl ?_
        refine Y_iload_n C dX4_lose_51 rfl rfl ?_
        refine Y_icmp_ne C 58 dX4_lose_52 (by decide) (fun c7 => ?_) (fun c7 => absurd c7 hw2)
        refine Y_aload_n C dX4_lose_58 rfl rfl ?_
        refine Y_iload_n C dX4_lose_59 rfl rfl ?_
        refine Y_iload C dX4_lose_60 rfl ?_
        refine Y_iast C (f' := fun j => if j = 0 then M.1 5 o else 0) dX4_lose_62 ((gW_hi (by decide)).trans (tU_s _ _ _)) (vp_in_nI (n := 0) (N := 1) (by decide) (by decide)) (by funext j; show upd (fun _ => 0) (nI 0).toNatClampNeg _ j = _; rw [nI_clamp (by decide)]; rfl) (w' := gW V n r M (tU T 423 (some (.inl (0, 1, .inl (fun j => if j = 0 then M.1 5 o else 0)))))) (by rw [gW_tU (by decide), tU_tU]) ?_
        have hq2 : gW V n r M (tU T 423 (some (.inl (0, 1, .inl (fun j => if j = 0 then M.1 5 o else 0))))) (201 + 2 * o) = some (.inl (0, 2, .inl (hF M o))) := by rw [gW_mid (by omega) (by omega)]; rw [gW_mid (by omega) (by omega)] at hq; exact hq
        refine Y_iinc C (L' := [(3, .int (nI 1)), (7, .int (M.1 5 o)), (6, .int (nI 1)), (5, .int (nI 2)), (4, .ref (201 + 2 * o)), (2, .ref 423), (0, .ref (200 + 2 * o)), (1, .int (nI k))]) (v := nI 1) dX4_lose_63 rfl (by decide) (by decide) rfl ?_
        refine Y_iinc C (L' := [(6, .int (nI 2)), (3, .int (nI 1)), (7, .int (M.1 5 o)), (5, .int (nI 2)), (4, .ref (201 + 2 * o)), (2, .ref 423), (0, .ref (200 + 2 * o)), (1, .int (nI k))]) (v := nI 2) dX4_lose_66 rfl (by decide) (by decide) rfl ?_
        refine Y_goto C 35 dX4_lose_69 (by decide) ?_
        refine Y_iload C dX4_lose_35 rfl ?_
        refine Y_iload C dX4_lose_37 rfl ?_
        refine Y_icmp_ge C 72 dX4_lose_39 (by decide) (fun c8 => ?_) (fun c8 => absurd (by decide) c8)
        refine Y_aload_n C dX4_lose_72 rfl rfl ?_
        refine Y_aload_n C dX4_lose_73 rfl rfl ?_
        refine Y_fn (hF (jL k o M) o) ((gW_hi (by decide)).trans (tU_s _ _ _)) (fun j hj => by (obtain rfl : j = 0 := by omega); exact hst9.symm) ?_
        refine Y_eq (gW_tU (by decide)) ?_
        refine Y_eq (by rw [tU_tU]) ?_
        refine Y_put C K4 4 dX4_lose_74 (gW_st h40 ho) (by decide) g_456 rfl rfl (K4.2.2.1 4 (by decide)) rfl rfl (Nat.le_of_ble_eq_true rfl) rfl ?_
        refine Y_sub (L' := []) (by simp) ?_
        obtain ⟨e1, e2⟩ := hold_ren (M := M) (M' := jL k o M) (T := T) (o := o) (q := 423) (N := 1) (f := hF (jL k o M) o) h40 h30 hC hT (by decide) h23 ho (fun a _ => by unfold stoE; rw [jL_row (by decide), jL_row (by decide), jL_row (by decide), jL_row (by decide), jL_row (by decide)]) (fun a _ ha => by unfold holE hL hF; rw [jL_at ha, jL_at ha]) hh9 (fun a => by unfold staE; rw [jL_2]) (by rw [jL_2])
        refine Y_ren (rn o 423) (w' := gW V n r (jL k o M) T) (L' := []) (st' := []) e1 e2 rfl rfl ?_
        refine Y_widen (k' := 1) (n' := 1) (Nat.le_of_ble_eq_true rfl) (Nat.le_of_ble_eq_true rfl) ?_
        exact Y_vret C hr hlk dX4_lose_77 (fun i (hi : i ≠ 201 + 2 * o ∧ i ≠ 423) => (congrArg h3 (rn_n hi.1)).trans ((ag3 i (by first | trivial | exact hi | ((try (dsimp only at hi)); (try dsimp only); omega))).trans (ag1 i (by first | trivial | exact hi | ((try (dsimp only at hi)); (try dsimp only); omega))))) ⟨rfl, rfl⟩
      · have hw2 := hw
        clear hw
        have hw : M.1 5 o = nI k := hb2.resolve_left hw2
        have hq : gW V n r M T (201 + 2 * o) = some (.inl (0, 2, .inl (hF M o))) := by rw [gW_ho h40 ho]; unfold holE hL; rw [if_neg h4, if_neg h5]
        have j4 : (jL k o M).1 4 o = M.1 4 o := by unfold jL; rw [if_neg hw2, if_pos hw]; rw [tA_nk (by decide)]
        have j5 : (jL k o M).1 5 o = -1 := by unfold jL; rw [if_neg hw2, if_pos hw]; rw [tA_eq]
        have hh9 : holE (jL k o M) o = .inl (0, 1, .inl (hF (jL k o M) o)) := by unfold holE hL; rw [j4, if_neg h4, j5, if_pos rfl]
        have hst9 : hF (jL k o M) o 0 = M.1 4 o := j4
        refine Y_aload_n C dX4_lose_0 rfl rfl ?_
        refine Y_iload_n C dX4_lose_1 rfl rfl ?_
        refine Y_callM C S (c_X4_isFrom (V := V) (n := n) (r := r) (M := M) (T := T) h40 ho hk hH) m_X4_isFrom K4 g_385 dX4_lose_2 (gW_st h40 ho) rfl rfl ⟨Nat.le_of_ble_eq_true rfl, Nat.le_of_ble_eq_true rfl⟩ ⟨Nat.le_of_ble_eq_true rfl, Nat.le_of_ble_eq_true rfl⟩ (Nat.le_of_ble_eq_true rfl) ⟨(by first | trivial | (unfold vR; (try dsimp only); omega)), trivial, trivial⟩ trivial (fun h1 r1 w1 ag1 F1 => ?_)
        obtain ⟨rfl, rfl⟩ := F1
        refine Y_stk [.int (bI (heldB M o (nI k)))] rfl ?_
        refine Y_if_ne C 9 dX4_lose_5 (by decide) (fun c2 => ?_) (fun c2 => absurd c2 (bI_n0.mpr hb))
        refine Y_aload_n C dX4_lose_9 rfl rfl ?_
        refine Y_get C K4 (v := .ref (201 + 2 * o)) 4 dX4_lose_10 (gW_st h40 ho) (by decide) g_456 rfl rfl ?_
        refine Y_alen C (i := 0) (v := nI 2) dX4_lose_13 hq rfl rfl ?_
        refine Y_iconst C (v := 1) dX4_lose_14 (by decide) ?_
        refine Y_isub C (v := nI 1) dX4_lose_15 (by decide) ?_
        refine Y_newi C (N := 1) 423 dX4_lose_16 g_85 (by decide) (by decide) (by decide) ⟨Nat.le_of_ble_eq_true rfl, Nat.le_of_ble_eq_true rfl⟩ (gW_N h40 h30 hC hT (by decide)) ⟨(by first | trivial | (unfold vR; (try dsimp only); omega)), trivial, trivial⟩ trivial (fun h3 ag3 => ?_)
        refine Y_eq (gW_tU (by decide)) ?_
        have hT1 := okT_U (q := 423) (i := 0) (N := 1) (f := fun _ => 0) hT
        have hq1 : gW V n r M (tU T 423 (some (.inl (0, 1, .inl (fun _ => 0))))) (201 + 2 * o) = some (.inl (0, 2, .inl (hF M o))) := by rw [gW_mid (by omega) (by omega)]; rw [gW_mid (by omega) (by omega)] at hq; exact hq
        refine Y_astore_n C (L' := [(2, .ref 423), (0, .ref (200 + 2 * o)), (1, .int (nI k))]) dX4_lose_18 rfl (by decide) rfl ?_
        refine Y_iconst C (v := nI 0) dX4_lose_19 (by decide) ?_
        refine Y_istore_n C (L' := [(3, .int (nI 0)), (2, .ref 423), (0, .ref (200 + 2 * o)), (1, .int (nI k))]) dX4_lose_20 rfl (by decide) rfl ?_
        refine Y_aload_n C dX4_lose_21 rfl rfl ?_
        refine Y_get C K4 (v := .ref (201 + 2 * o)) 4 dX4_lose_22 (gW_st h40 ho) (by decide) g_456 rfl rfl ?_
        refine Y_astore C (L' := [(4, .ref (201 + 2 * o)), (3, .int (nI 0)), (2, .ref 423), (0, .ref (200 + 2 * o)), (1, .int (nI k))]) dX4_lose_25 (by decide) rfl ?_
        refine Y_aload C dX4_lose_27 rfl ?_
        refine Y_alen C (i := 0) (v := nI 2) dX4_lose_29 hq1 rfl rfl ?_
        refine Y_istore C (L' := [(5, .int (nI 2)), (4, .ref (201 + 2 * o)), (3, .int (nI 0)), (2, .ref 423), (0, .ref (200 + 2 * o)), (1, .int (nI k))]) dX4_lose_30 (by decide) rfl ?_
        refine Y_iconst C (v := nI 0) dX4_lose_32 (by decide) ?_
        refine Y_istore C (L' := [(6, .int (nI 0)), (5, .int (nI 2)), (4, .ref (201 + 2 * o)), (3, .int (nI 0)), (2, .ref 423), (0, .ref (200 + 2 * o)), (1, .int (nI k))]) dX4_lose_33 (by decide) rfl ?_
        refine Y_iload C dX4_lose_35 rfl ?_
        refine Y_iload C dX4_lose_37 rfl ?_
        refine Y_icmp_ge C 72 dX4_lose_39 (by decide) (fun c4 => absurd c4 (by decide)) (fun c4 => ?_)
        refine Y_aload C dX4_lose_42 rfl ?_
        refine Y_iload C dX4_lose_44 rfl ?_
        refine Y_iald C (v := M.1 4 o) dX4_lose_46 hq1 (vp_in_nI (by decide) (by omega)) (by rw [nI_clamp (by omega)] <;> rfl) ?_
        refine Y_istore C (L' := [(7, .int (M.1 4 o)), (6, .int (nI 0)), (5, .int (nI 2)), (4, .ref (201 + 2 * o)), (3, .int (nI 0)), (2, .ref 423), (0, .ref (200 + 2 * o)), (1, .int (nI k))]) dX4_lose_47 (by decide) rfl ?_
        refine Y_iload C dX4_lose_49 rfl ?_
        refine Y_iload_n C dX4_lose_51 rfl rfl ?_
        refine Y_icmp_ne C 58 dX4_lose_52 (by decide) (fun c5 => ?_) (fun c5 => absurd c5 hw2)
        refine Y_aload_n C dX4_lose_58 rfl rfl ?_
        refine Y_iload_n C dX4_lose_59 rfl rfl ?_
        refine Y_iload C dX4_lose_60 rfl ?_
        refine Y_iast C (f' := fun j => if j = 0 then M.1 4 o else 0) dX4_lose_62 ((gW_hi (by decide)).trans (tU_s _ _ _)) (vp_in_nI (n := 0) (N := 1) (by decide) (by decide)) (by funext j; show upd (fun _ => 0) (nI 0).toNatClampNeg _ j = _; rw [nI_clamp (by decide)]; rfl) (w' := gW V n r M (tU T 423 (some (.inl (0, 1, .inl (fun j => if j = 0 then M.1 4 o else 0)))))) (by rw [gW_tU (by decide), tU_tU]) ?_
        have hq2 : gW V n r M (tU T 423 (some (.inl (0, 1, .inl (fun j => if j = 0 then M.1 4 o else 0))))) (201 + 2 * o) = some (.inl (0, 2, .inl (hF M o))) := by rw [gW_mid (by omega) (by omega)]; rw [gW_mid (by omega) (by omega)] at hq; exact hq
        refine Y_iinc C (L' := [(3, .int (nI 1)), (7, .int (M.1 4 o)), (6, .int (nI 0)), (5, .int (nI 2)), (4, .ref (201 + 2 * o)), (2, .ref 423), (0, .ref (200 + 2 * o)), (1, .int (nI k))]) (v := nI 1) dX4_lose_63 rfl (by decide) (by decide) rfl ?_
        refine Y_iinc C (L' := [(6, .int (nI 1)), (3, .int (nI 1)), (7, .int (M.1 4 o)), (5, .int (nI 2)), (4, .ref (201 + 2 * o)), (2, .ref 423), (0, .ref (200 + 2 * o)), (1, .int (nI k))]) (v := nI 1) dX4_lose_66 rfl (by decide) (by decide) rfl ?_
        refine Y_goto C 35 dX4_lose_69 (by decide) ?_
        refine Y_iload C dX4_lose_35 rfl ?_
        refine Y_iload C dX4_lose_37 rfl ?_
        refine Y_icmp_ge C 72 dX4_lose_39 (by decide) (fun c6 => absurd c6 (by decide)) (fun c6 => ?_)
        refine Y_aload C dX4_lose_42 rfl ?_
        refine Y_iload C dX4_lose_44 rfl ?_
        refine Y_iald C (v := M.1 5 o) dX4_lose_46 hq2 (vp_in_nI (by decide) (by omega)) (by rw [nI_clamp (by omega)] <;> rfl) ?_
        refine Y_istore C (L' := [(7, .int (M.1 5 o)), (6, .int (nI 1)), (3, .int (nI 1)), (5, .int (nI 2)), (4, .ref (201 + 2 * o)), (2, .ref 423), (0, .ref (200 + 2 * o)), (1, .int (nI k))]) dX4_lose_47 (by decide) rfl ?_
        refine Y_iload C dX4_lose_49 rfl ?_
        refine Y_iload_n C dX4_lose_51 rfl rfl ?_
        refine Y_icmp_ne C 58 dX4_lose_52 (by decide) (fun c7 => absurd hw c7) (fun c7 => ?_)
        refine Y_goto C 66 dX4_lose_55 (by decide) ?_
        refine Y_iinc C (L' := [(6, .int (nI 2)), (7, .int (M.1 5 o)), (3, .int (nI 1)), (5, .int (nI 2)), (4, .ref (201 + 2 * o)), (2, .ref 423), (0, .ref (200 + 2 * o)), (1, .int (nI k))]) (v := nI 2) dX4_lose_66 rfl (by decide) (by decide) rfl ?_
        refine Y_goto C 35 dX4_lose_69 (by decide) ?_
        refine Y_iload C dX4_lose_35 rfl ?_
        refine Y_iload C dX4_lose_37 rfl ?_
        refine Y_icmp_ge C 72 dX4_lose_39 (by decide) (fun c8 => ?_) (fun c8 => absurd (by decide) c8)
        refine Y_aload_n C dX4_lose_72 rfl rfl ?_
        refine Y_aload_n C dX4_lose_73 rfl rfl ?_
        refine Y_fn (hF (jL k o M) o) ((gW_hi (by decide)).trans (tU_s _ _ _)) (fun j hj => by (obtain rfl : j = 0 := by omega); exact hst9.symm) ?_
        refine Y_eq (gW_tU (by decide)) ?_
        refine Y_eq (by rw [tU_tU]) ?_
        refine Y_put C K4 4 dX4_lose_74 (gW_st h40 ho) (by decide) g_456 rfl rfl (K4.2.2.1 4 (by decide)) rfl rfl (Nat.le_of_ble_eq_true rfl) rfl ?_
        refine Y_sub (L' := []) (by simp) ?_
        obtain ⟨e1, e2⟩ := hold_ren (M := M) (M' := jL k o M) (T := T) (o := o) (q := 423) (N := 1) (f := hF (jL k o M) o) h40 h30 hC hT (by decide) h23 ho (fun a _ => by unfold stoE; rw [jL_row (by decide), jL_row (by decide), jL_row (by decide), jL_row (by decide), jL_row (by decide)]) (fun a _ ha => by unfold holE hL hF; rw [jL_at ha, jL_at ha]) hh9 (fun a => by unfold staE; rw [jL_2]) (by rw [jL_2])
        refine Y_ren (rn o 423) (w' := gW V n r (jL k o M) T) (L' := []) (st' := []) e1 e2 rfl rfl ?_
        refine Y_widen (k' := 1) (n' := 1) (Nat.le_of_ble_eq_true rfl) (Nat.le_of_ble_eq_true rfl) ?_
        exact Y_vret C hr hlk dX4_lose_77 (fun i (hi : i ≠ 201 + 2 * o ∧ i ≠ 423) => (congrArg h3 (rn_n hi.1)).trans ((ag3 i (by first | trivial | exact hi | ((try (dsimp only at hi)); (try dsimp only); omega))).trans (ag1 i (by first | trivial | exact hi | ((try (dsimp only at hi)); (try dsimp only); omega))))) ⟨rfl, rfl⟩
  · have hb3 : heldB M o (nI k) = false := by cases z : heldB M o (nI k) with | false => rfl | true => exact absurd z hb
    rw [show jC k o M = 0 from if_neg hb, jL_no hb3]
    refine CTm_of (L := [(0, .ref (200 + 2 * o)), (1, .int (nI k))]) (by decide) (fun _ => rfl) (fun _ => Nat.le_of_ble_eq_true rfl) ?_
    intro p l e s m args below meth c G h A b N xs C S hr hlk hnm
    refine Y_aload_n C dX4_lose_0 rfl rfl ?_
    refine Y_iload_n C dX4_lose_1 rfl rfl ?_
    refine Y_callM C S (c_X4_isFrom (V := V) (n := n) (r := r) (M := M) (T := T) h40 ho hk hH) m_X4_isFrom K4 g_385 dX4_lose_2 (gW_st h40 ho) rfl rfl ⟨Nat.le_of_ble_eq_true rfl, Nat.le_of_ble_eq_true rfl⟩ ⟨Nat.le_of_ble_eq_true rfl, Nat.le_of_ble_eq_true rfl⟩ (Nat.le_of_ble_eq_true rfl) ⟨(by first | trivial | (unfold vR; (try dsimp only); omega)), trivial, trivial⟩ trivial (fun h1 r1 w1 ag1 F1 => ?_)
    obtain ⟨rfl, rfl⟩ := F1
    refine Y_stk [.int (bI (heldB M o (nI k)))] rfl ?_
    refine Y_if_ne C 9 dX4_lose_5 (by decide) (fun c2 => absurd (bI_0.mpr hb3) c2) (fun c2 => ?_)
    refine Y_sub (L' := []) (by simp) ?_
    exact Y_vret C hr hlk dX4_lose_8 (fun i hi => (ag1 i (by first | trivial | exact hi | ((try (dsimp only at hi)); (try dsimp only); omega)))) ⟨rfl, rfl⟩
