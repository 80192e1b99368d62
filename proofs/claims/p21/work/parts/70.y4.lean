/-! falling, walked -/
theorem stoE_2 (M : Md) (j : Nat) (v : Int32) : stoE (tA M 2 j v) j = .inr (4, [.int (M.1 0 j), .int (M.1 1 j), .int v, .int (M.1 3 j), .ref (201 + 2 * j), .int (M.1 6 j)]) := by
  unfold stoE
  rw [tA_eq, tA_nk (by decide), tA_nk (by decide), tA_nk (by decide), tA_nk (by decide)]
theorem stoE_3 (M : Md) (j : Nat) (v : Int32) : stoE (tA M 3 j v) j = .inr (4, [.int (M.1 0 j), .int (M.1 1 j), .int (M.1 2 j), .int v, .ref (201 + 2 * j), .int (M.1 6 j)]) := by
  unfold stoE
  rw [tA_eq, tA_nk (by decide), tA_nk (by decide), tA_nk (by decide), tA_nk (by decide)]
theorem stoE_6 (M : Md) (j : Nat) (v : Int32) : stoE (tA M 6 j v) j = .inr (4, [.int (M.1 0 j), .int (M.1 1 j), .int (M.1 2 j), .int (M.1 3 j), .ref (201 + 2 * j), .int v]) := by
  unfold stoE
  rw [tA_eq, tA_nk (by decide), tA_nk (by decide), tA_nk (by decide), tA_nk (by decide)]
theorem sta_w (M : Md) (k j : Nat) (v : Int32) : upd (fun q => M.2.1 q j) k v = fun q => (wA M k j v).2.1 q j := by
  funext q
  show (if q = k then v else M.2.1 q j) = (if q = k then upd (M.2.1 k) j v else M.2.1 q) j
  by_cases z : q = k
  · rw [if_pos z, if_pos z]
    exact pk_us.symm
  · rw [if_neg z, if_neg z]
set_option maxHeartbeats 4000000 in
set_option maxRecDepth 20000 in
theorem c_X3_drop {V : List va_E} {n r : Nat} {M : Md} {T : WF} (h40 : n ≤ 40) (h30 : r ≤ 30) (hC : okC V) (hT : okT T) (h23 : T 423 = none) (hn : M.2.2.2 1 = nI n) (hrr : M.2.2.2 2 = nI r) (hJ : JI n M) : CTm yX3_drop cX3_drop 7 none 2 (mu n M - mu n (mDrop M)) (mu n M - mu n (mDrop M)) [.ref 100] (gW V n r M T) (fun i => (i < 200 ∨ 280 ≤ i ∨ i % 2 = 0) ∧ i ≠ 423) (fun r' w' => r' = none ∧ w' = gW V n r (mDrop M) T) := by
  refine CTm_of (L := [(0, .ref 100)]) (by decide) (fun _ => rfl) (fun _ => Nat.le_of_ble_eq_true rfl) ?_
  intro p l e s m args below meth c G h A b N xs C S hr hlk hnm
  refine Y_iconst C (v := nI 0) dX3_drop_0 (by decide) ?_
  refine Y_istore_n C (L' := [(1, .int (nI 0)), (0, .ref 100)]) dX3_drop_1 rfl (by decide) rfl ?_
  refine Y_widen (k' := mu n M - mu n M) (n' := mu n M - mu n M) (Nat.zero_le _) (Nat.zero_le _) ?_
  refine Zfor (σ := Md) (fun i1 X1 => ∀ hv1 : Nat → Nat, (∀ x, (fun i => (i < 200 ∨ 280 ≤ i ∨ i % 2 = 0) ∧ i ≠ 423) x → hv1 x = h x) → Y p l e _ s m args below meth c 7 G A hv1 _ (mu n M - mu n X1) (mu n M - mu n X1) (gW V n r X1 T) 2 [(1, .int (nI i1)), (0, .ref 100)] []) (fun i1 X1 => JI n X1 ∧ X1 = fr md1 i1 M) md1 n M (⟨hJ, rfl⟩) (fun i X hi hX => ⟨JI_md1 h40 h30 hi (by rw [hX.2, (JI_mds h40 h30 hn hrr hJ i (Nat.le_of_lt hi)).2]; exact hn) (by rw [hX.2, (JI_mds h40 h30 hn hrr hJ i (Nat.le_of_lt hi)).2]; exact hrr) hX.1, by rw [hX.2]; rfl⟩) (fun X1 hX1 eX1 => ?_) (fun i1 X1 hi1 hX1 hX1' kk1 => ?_) h (fun i _ => rfl)
  · intro hv1 av1
    refine Y_iload_n C dX3_drop_2 rfl rfl ?_
    refine Y_aload_n C dX3_drop_3 rfl rfl ?_
    refine Y_get C K3 (v := .ref 101) 0 dX3_drop_4 gW_100 (by decide) g_577 rfl rfl ?_
    refine Y_alen C (i := 2) (v := nI n) dX3_drop_7 gW_101 rfl rfl ?_
    refine Y_icmp_ge C 143 dX3_drop_8 (by decide) (fun cc2 => ?_) (fun cc2 => absurd (Int32.le_refl _) cc2)
    have eD : X1 = mDrop M := by rw [eX1]; unfold mDrop; rw [mN_eq hn h40]
    subst eD
    refine Y_sub (L' := []) (by simp) ?_
    exact Y_vret C hr hlk dX3_drop_143 (fun i hi => (av1 i (by first | trivial | exact hi | ((try (dsimp only at hi)); (try dsimp only); omega)))) ⟨rfl, rfl⟩
  · intro hv1 av1
    obtain ⟨hJX, eXi⟩ := hX1
    have hiX : X1.2.2.2 = M.2.2.2 := by rw [eXi]; exact (JI_mds h40 h30 hn hrr hJ i1 (Nat.le_of_lt hi1)).2
    have hnX : X1.2.2.2 1 = nI n := by rw [hiX]; exact hn
    have hrX : X1.2.2.2 2 = nI r := by rw [hiX]; exact hrr
    have f1 : mu n X1 ≤ mu n M := by rw [eXi]; exact (mu_fin h40 hn (Nat.le_of_lt hi1)).2
    have f4 : mu n (mDrop M) ≤ mu n (md1 i1 X1) := by rw [eXi]; exact (mu_fin (i := i1 + 1) h40 hn hi1).1
    have hi31 : i1 < 2 ^ 31 := by omega
    refine Y_iload_n C dX3_drop_2 rfl rfl ?_
    refine Y_aload_n C dX3_drop_3 rfl rfl ?_
    refine Y_get C K3 (v := .ref 101) 0 dX3_drop_4 gW_100 (by decide) g_577 rfl rfl ?_
    refine Y_alen C (i := 2) (v := nI n) dX3_drop_7 gW_101 rfl rfl ?_
    refine Y_icmp_ge C 143 dX3_drop_8 (by decide) (fun cc3 => absurd cc3 (nI_ge hi1 (by omega))) (fun cc3 => ?_)
    refine Y_aload_n C dX3_drop_11 rfl rfl ?_
    refine Y_get C K3 (v := .ref 101) 0 dX3_drop_12 gW_100 (by decide) g_577 rfl rfl ?_
    refine Y_iload_n C dX3_drop_15 rfl rfl ?_
    refine Y_aaldq C (j := 200 + 2 * i1) dX3_drop_16 gW_101 (vp_in_nI hi1 (by omega)) (by rw [nI_clamp (by omega)]; exact rfS_at hi1) ?_
    refine Y_astore_n C (L' := [(2, .ref (200 + 2 * i1)), (1, .int (nI i1)), (0, .ref 100)]) dX3_drop_17 rfl (by decide) rfl ?_
    refine Y_aload_n C dX3_drop_18 rfl rfl ?_
    refine Y_get C K4 (v := .int (X1.1 2 i1)) 2 dX3_drop_19 (gW_st h40 hi1) (by decide) g_452 rfl rfl ?_
    refine Y_if_eq C 137 dX3_drop_22 (by decide) (fun cc4 => ?_) (fun cc4 => ?_)
    · refine Y_iinc C (L' := [(1, .int (nI (i1 + 1))), (2, .ref (200 + 2 * i1)), (0, .ref 100)]) (v := nI (i1 + 1)) dX3_drop_137 rfl (nI_inc _) (by decide) rfl ?_
      refine Y_goto C 2 dX3_drop_140 (by decide) ?_
      rw [show md1 i1 X1 = X1 from by unfold md1; rw [if_neg (fun z => (JI_hg hJX hi1).mp z cc4)]] at kk1
      exact Y_sub (by simp [bI_t, bI_f]) (kk1 hv1 (fun i hi => (av1 i (by first | trivial | exact hi | ((try (dsimp only at hi)); (try dsimp only); omega)))))
    · refine Y_aload_n C dX3_drop_25 rfl rfl ?_
      refine Y_get C K4 (v := .int (X1.1 3 i1)) 3 dX3_drop_26 (gW_st h40 hi1) (by decide) g_454 rfl rfl ?_
      refine Y_if_gt C 137 dX3_drop_29 (by decide) (fun cc5 => ?_) (fun cc5 => ?_)
      · refine Y_iinc C (L' := [(1, .int (nI (i1 + 1))), (2, .ref (200 + 2 * i1)), (0, .ref 100)]) (v := nI (i1 + 1)) dX3_drop_137 rfl (nI_inc _) (by decide) rfl ?_
        refine Y_goto C 2 dX3_drop_140 (by decide) ?_
        rw [show md1 i1 X1 = X1 from by unfold md1; rw [if_pos ((JI_hg hJX hi1).mpr cc4), if_neg (fun z => absurd (z ▸ cc5) (by decide))]] at kk1
        exact Y_sub (by simp [bI_t, bI_f]) (kk1 hv1 (fun i hi => (av1 i (by first | trivial | exact hi | ((try (dsimp only at hi)); (try dsimp only); omega)))))
      · have c3 : X1.1 3 i1 = 0 := (hJX i1 hi1).2.2.2.2.2.1 (Int32.not_lt.mp cc5)
        by_cases c4 : X1.1 4 i1 = -1
        · have hq := hq_0 (V := V) (r := r) (T := T) h40 hi1 c4
          refine Y_aload_n C dX3_drop_32 rfl rfl ?_
          refine Y_get C K4 (v := .ref (201 + 2 * i1)) 4 dX3_drop_33 (gW_st h40 hi1) (by decide) g_457 rfl rfl ?_
          refine Y_alen C (i := 0) (v := nI 0) dX3_drop_36 hq rfl rfl ?_
          refine Y_if_le C 43 dX3_drop_37 (by decide) (fun cc6 => ?_) (fun cc6 => absurd (by decide) cc6)
          refine Y_aload_n C dX3_drop_43 rfl rfl ?_
          refine Y_iconst C (v := 0) dX3_drop_44 (by decide) ?_
          refine Y_put C K4 2 dX3_drop_45 (gW_st h40 hi1) (by decide) g_452 rfl rfl (K4.2.2.1 2 (by decide)) rfl rfl (Nat.le_of_ble_eq_true rfl) (w' := gW V n r (tA X1 2 i1 0) T) (gW_tA h40 (by decide) hi1 (stoE_2 _ _ _).symm) ?_
          obtain ⟨Z0, eZ0⟩ : ∃ Z, Z = tA X1 2 i1 0 := ⟨_, rfl⟩
          rw [← eZ0]
          have hJ0 : JI n Z0 := by rw [eZ0]; exact JI_2 hi1 c4 c3 hJX
          have m0 : mu n Z0 ≤ mu n X1 := by rw [eZ0]; exact mu_put (muAt_3 (by simp))
          have eF : md1 i1 X1 = jF r i1 (fr (jL i1) n Z0) := by unfold md1; rw [if_pos ((JI_hg hJX hi1).mpr cc4), if_pos c3, if_pos c4, fall_eq h40 h30 hi1 hnX hrX hJX c4 c3, ← eZ0]
          have f5 : mu n (md1 i1 X1) = mu n (fr (jL i1) n Z0) := by rw [eF]; exact mu_of (jF_at r i1 _).1
          refine Y_widen (k' := mu n M - mu n Z0) (n' := mu n M - mu n Z0) (by omega) (by omega) ?_
          refine Y_aload_n C dX3_drop_48 rfl rfl ?_
          refine Y_get C K3 (v := .ref 101) 0 dX3_drop_49 gW_100 (by decide) g_577 rfl rfl ?_
          refine Y_astore_n C (L' := [(3, .ref 101), (2, .ref (200 + 2 * i1)), (1, .int (nI i1)), (0, .ref 100)]) dX3_drop_52 rfl (by decide) rfl ?_
          refine Y_aload_n C dX3_drop_53 rfl rfl ?_
          refine Y_alen C (i := 2) (v := nI n) dX3_drop_54 gW_101 rfl rfl ?_
          refine Y_istore C (L' := [(4, .int (nI n)), (3, .ref 101), (2, .ref (200 + 2 * i1)), (1, .int (nI i1)), (0, .ref 100)]) dX3_drop_55 (by decide) rfl ?_
          refine Y_iconst C (v := nI 0) dX3_drop_57 (by decide) ?_
          refine Y_istore C (L' := [(5, .int (nI 0)), (4, .int (nI n)), (3, .ref 101), (2, .ref (200 + 2 * i1)), (1, .int (nI i1)), (0, .ref 100)]) dX3_drop_58 (by decide) rfl ?_
          refine Zfor (σ := Md) (fun i7 X7 => ∀ hv7 : Nat → Nat, (∀ x, (fun i => (i < 200 ∨ 280 ≤ i ∨ i % 2 = 0) ∧ i ≠ 423) x → hv7 x = h x) → Y p l e _ s m args below meth c 7 G A hv7 _ (mu n M - mu n X7) (mu n M - mu n X7) (gW V n r X7 T) 60 [(5, .int (nI i7)), (4, .int (nI n)), (3, .ref 101), (2, .ref (200 + 2 * i1)), (1, .int (nI i1)), (0, .ref 100)] []) (fun i7 X7 => JI n X7 ∧ X7 = fr (jL i1) i7 Z0) (jL i1) n Z0 (⟨hJ0, rfl⟩) (fun o X ho hX => ⟨JI_jL ho hi31 hX.1, by rw [hX.2]; rfl⟩) (fun X7 hX7 eX7 => ?_) (fun i7 X7 hi7 hX7 hX7' kk7 => ?_) hv1 (fun i hi => (av1 i (by first | trivial | exact hi | ((try (dsimp only at hi)); (try dsimp only); omega))))
          · intro hv7 av7
            refine Y_iload C dX3_drop_60 rfl ?_
            refine Y_iload C dX3_drop_62 rfl ?_
            refine Y_icmp_ge C 85 dX3_drop_64 (by decide) (fun cc8 => ?_) (fun cc8 => absurd (Int32.le_refl _) cc8)
            refine Y_aload_n C dX3_drop_85 rfl rfl ?_
            refine Y_get C K3 (v := .ref 102) 1 dX3_drop_86 gW_100 (by decide) g_579 rfl rfl ?_
            refine Y_astore_n C (L' := [(3, .ref 102), (5, .int (nI n)), (4, .int (nI n)), (2, .ref (200 + 2 * i1)), (1, .int (nI i1)), (0, .ref 100)]) dX3_drop_89 rfl (by decide) rfl ?_
            refine Y_aload_n C dX3_drop_90 rfl rfl ?_
            refine Y_alen C (i := 3) (v := nI r) dX3_drop_91 gW_102 rfl rfl ?_
            refine Y_istore C (L' := [(4, .int (nI r)), (3, .ref 102), (5, .int (nI n)), (2, .ref (200 + 2 * i1)), (1, .int (nI i1)), (0, .ref 100)]) dX3_drop_92 (by decide) rfl ?_
            refine Y_iconst C (v := nI 0) dX3_drop_94 (by decide) ?_
            refine Y_istore C (L' := [(5, .int (nI 0)), (4, .int (nI r)), (3, .ref 102), (2, .ref (200 + 2 * i1)), (1, .int (nI i1)), (0, .ref 100)]) dX3_drop_95 (by decide) rfl ?_
            refine Zfor (σ := Md) (fun i9 X9 => Y p l e _ s m args below meth c 7 G A hv7 _ (mu n M - mu n X7) (mu n M - mu n X7) (gW V n r X9 T) 97 [(5, .int (nI i9)), (4, .int (nI r)), (3, .ref 102), (2, .ref (200 + 2 * i1)), (1, .int (nI i1)), (0, .ref 100)] []) (fun i9 X9 => True) (mfk i1) r X7 trivial (fun _ _ _ _ => trivial) (fun X9 hX9 eX9 => ?_) (fun i9 X9 hi9 hX9 hX9' kk9 => ?_)
            · skip
              refine Y_iload C dX3_drop_97 rfl ?_
              refine Y_iload C dX3_drop_99 rfl ?_
              refine Y_icmp_ge C 137 dX3_drop_101 (by decide) (fun cc10 => ?_) (fun cc10 => absurd (Int32.le_refl _) cc10)
              refine Y_iinc C (L' := [(1, .int (nI (i1 + 1))), (5, .int (nI r)), (4, .int (nI r)), (3, .ref 102), (2, .ref (200 + 2 * i1)), (0, .ref 100)]) (v := nI (i1 + 1)) dX3_drop_137 rfl (nI_inc _) (by decide) rfl ?_
              refine Y_goto C 2 dX3_drop_140 (by decide) ?_
              have eW : md1 i1 X1 = X9 := by rw [eF, eX9, eX7]; rfl
              rw [eW] at kk1 f5
              refine Y_widen (k' := mu n M - mu n X9) (n' := mu n M - mu n X9) (by rw [f5, eX7]; exact Nat.le_refl _) (by rw [f5, eX7]; exact Nat.le_refl _) ?_
              exact Y_sub (by simp [bI_t, bI_f]) (kk1 hv7 (fun i hi => (av7 i (by first | trivial | exact hi | ((try (dsimp only at hi)); (try dsimp only); omega)))))
            · skip
              refine Y_iload C dX3_drop_97 rfl ?_
              refine Y_iload C dX3_drop_99 rfl ?_
              refine Y_icmp_ge C 137 dX3_drop_101 (by decide) (fun cc11 => absurd cc11 (nI_ge hi9 (by omega))) (fun cc11 => ?_)
              refine Y_aload_n C dX3_drop_104 rfl rfl ?_
              refine Y_iload C dX3_drop_105 rfl ?_
              refine Y_aald C (j := 300 + i9) dX3_drop_107 gW_102 (vp_in_nI hi9 (by omega)) (by rw [nI_clamp (by omega)]; exact rfT_at hi9) ?_
              refine Y_astore C (L' := [(6, .ref (300 + i9)), (5, .int (nI i9)), (4, .int (nI r)), (3, .ref 102), (2, .ref (200 + 2 * i1)), (1, .int (nI i1)), (0, .ref 100)]) dX3_drop_108 (by decide) rfl ?_
              refine Y_aload C dX3_drop_110 rfl ?_
              refine Y_iconst C (v := 0) dX3_drop_112 (by decide) ?_
              refine Y_iald C (v := X9.2.1 0 i9) dX3_drop_113 (gW_sa h40 h30 hi9) (vp_in_nI (n := 0) (N := 3) (by decide) (by decide)) rfl ?_
              refine Y_iload_n C dX3_drop_114 rfl rfl ?_
              refine Y_icmp_eq C 126 dX3_drop_115 (by decide) (fun cc12 => ?_) (fun cc12 => ?_)
              · refine Y_aload C dX3_drop_126 rfl ?_
                refine Y_iconst C (v := 2) dX3_drop_128 (by decide) ?_
                refine Y_iconst C (v := 1) dX3_drop_129 (by decide) ?_
                refine Y_iast C (f' := fun q => (wA X9 2 i9 1).2.1 q i9) dX3_drop_130 (gW_sa h40 h30 hi9) (vp_in_nI (n := 2) (N := 3) (by decide) (by decide)) (sta_w _ 2 _ _) (w' := gW V n r (wA X9 2 i9 1) T) (gW_wA h40 h30 hi9 rfl) ?_
                refine Y_iinc C (L' := [(5, .int (nI (i9 + 1))), (6, .ref (300 + i9)), (4, .int (nI r)), (3, .ref 102), (2, .ref (200 + 2 * i1)), (1, .int (nI i1)), (0, .ref 100)]) (v := nI (i9 + 1)) dX3_drop_131 rfl (nI_inc _) (by decide) rfl ?_
                refine Y_goto C 97 dX3_drop_134 (by decide) ?_
                rw [show mfk i1 i9 X9 = wA X9 2 i9 1 from by unfold mfk; rw [if_pos cc12]] at kk9
                exact Y_sub (by simp [bI_t, bI_f]) (kk9)
              · refine Y_aload C dX3_drop_118 rfl ?_
                refine Y_iconst C (v := 1) dX3_drop_120 (by decide) ?_
                refine Y_iald C (v := X9.2.1 1 i9) dX3_drop_121 (gW_sa h40 h30 hi9) (vp_in_nI (n := 1) (N := 3) (by decide) (by decide)) rfl ?_
                refine Y_iload_n C dX3_drop_122 rfl rfl ?_
                refine Y_icmp_ne C 131 dX3_drop_123 (by decide) (fun cc13 => ?_) (fun cc13 => ?_)
                · refine Y_iinc C (L' := [(5, .int (nI (i9 + 1))), (6, .ref (300 + i9)), (4, .int (nI r)), (3, .ref 102), (2, .ref (200 + 2 * i1)), (1, .int (nI i1)), (0, .ref 100)]) (v := nI (i9 + 1)) dX3_drop_131 rfl (nI_inc _) (by decide) rfl ?_
                  refine Y_goto C 97 dX3_drop_134 (by decide) ?_
                  rw [show mfk i1 i9 X9 = X9 from by unfold mfk; rw [if_neg cc12, if_neg cc13]] at kk9
                  exact Y_sub (by simp [bI_t, bI_f]) (kk9)
                · refine Y_aload C dX3_drop_126 rfl ?_
                  refine Y_iconst C (v := 2) dX3_drop_128 (by decide) ?_
                  refine Y_iconst C (v := 1) dX3_drop_129 (by decide) ?_
                  refine Y_iast C (f' := fun q => (wA X9 2 i9 1).2.1 q i9) dX3_drop_130 (gW_sa h40 h30 hi9) (vp_in_nI (n := 2) (N := 3) (by decide) (by decide)) (sta_w _ 2 _ _) (w' := gW V n r (wA X9 2 i9 1) T) (gW_wA h40 h30 hi9 rfl) ?_
                  refine Y_iinc C (L' := [(5, .int (nI (i9 + 1))), (6, .ref (300 + i9)), (4, .int (nI r)), (3, .ref 102), (2, .ref (200 + 2 * i1)), (1, .int (nI i1)), (0, .ref 100)]) (v := nI (i9 + 1)) dX3_drop_131 rfl (nI_inc _) (by decide) rfl ?_
                  refine Y_goto C 97 dX3_drop_134 (by decide) ?_
                  rw [show mfk i1 i9 X9 = wA X9 2 i9 1 from by unfold mfk; rw [if_neg cc12, if_pos cc13]] at kk9
                  exact Y_sub (by simp [bI_t, bI_f]) (kk9)
          · intro hv7 av7
            obtain ⟨hJZ, eZi⟩ := hX7
            have g1 := mu_jL (M := X7) (k := i1) hi7 hi31
            have g2 : mu n (fr (jL i1) n Z0) ≤ mu n (jL i1 i7 X7) := by
              have q := mu_jLs (n := n) hi31 Z0 (n - (i7 + 1)) (i7 + 1) (by omega)
              rw [show i7 + 1 + (n - (i7 + 1)) = n by omega] at q
              rw [eZi]
              exact q
            have g3 : mu n X7 ≤ mu n Z0 := by
              have q := mu_jLs (n := n) hi31 Z0 i7 0 (by omega)
              rw [Nat.zero_add] at q
              rw [eZi]
              exact q
            refine Y_iload C dX3_drop_60 rfl ?_
            refine Y_iload C dX3_drop_62 rfl ?_
            refine Y_icmp_ge C 85 dX3_drop_64 (by decide) (fun cc14 => absurd cc14 (nI_ge hi7 (by omega))) (fun cc14 => ?_)
            refine Y_aload_n C dX3_drop_67 rfl rfl ?_
            refine Y_iload C dX3_drop_68 rfl ?_
            refine Y_aaldq C (j := 200 + 2 * i7) dX3_drop_70 gW_101 (vp_in_nI hi7 (by omega)) (by rw [nI_clamp (by omega)]; exact rfS_at hi7) ?_
            refine Y_astore C (L' := [(6, .ref (200 + 2 * i7)), (5, .int (nI i7)), (4, .int (nI n)), (3, .ref 101), (2, .ref (200 + 2 * i1)), (1, .int (nI i1)), (0, .ref 100)]) dX3_drop_71 (by decide) rfl ?_
            refine Y_aload C dX3_drop_73 rfl ?_
            refine Y_iload_n C dX3_drop_75 rfl rfl ?_
            obtain ⟨-, -, s4, s45, -⟩ := hJZ i7 hi7
            refine Y_callM C S (c_X4_lose (V := V) (r := r) (T := T) h40 hi7 hi31 s4 s45 h30 hC hT h23) m_X4_lose K4 g_381 dX3_drop_76 (gW_st h40 hi7) rfl rfl ⟨Nat.le_of_ble_eq_true rfl, Nat.le_of_ble_eq_true rfl⟩ ⟨by show mu n M - mu n X7 + jC i1 i7 X7 ≤ mu n M - mu n (mDrop M); omega, by show mu n M - mu n X7 + jC i1 i7 X7 ≤ mu n M - mu n (mDrop M); omega⟩ (Nat.le_of_ble_eq_true rfl) ⟨(by first | trivial | (unfold vR; (try dsimp only); omega)), trivial, trivial, (by first | trivial | (unfold vR; (try dsimp only); omega)), (by first | trivial | (unfold vR; (try dsimp only); omega)), trivial, (by first | trivial | (unfold vR; (try dsimp only); omega)), trivial⟩ trivial (fun h15 r15 w15 ag15 F15 => ?_)
            obtain ⟨rfl, rfl⟩ := F15
            refine Y_stk [] rfl ?_
            refine Y_widen (k' := mu n M - mu n (jL i1 i7 X7)) (n' := mu n M - mu n (jL i1 i7 X7)) (by omega) (by omega) ?_
            refine Y_iinc C (L' := [(5, .int (nI (i7 + 1))), (6, .ref (200 + 2 * i7)), (4, .int (nI n)), (3, .ref 101), (2, .ref (200 + 2 * i1)), (1, .int (nI i1)), (0, .ref 100)]) (v := nI (i7 + 1)) dX3_drop_79 rfl (nI_inc _) (by decide) rfl ?_
            refine Y_goto C 60 dX3_drop_82 (by decide) ?_
            exact Y_sub (by simp [bI_t, bI_f]) (kk7 h15 (fun i hi => ((ag15 i (by first | trivial | exact hi | ((try (dsimp only at hi)); (try dsimp only); omega))).trans (av7 i (by first | trivial | exact hi | ((try (dsimp only at hi)); (try dsimp only); omega))))))
        · by_cases c5 : X1.1 5 i1 = -1
          · have hq := hq_1 (V := V) (r := r) (T := T) h40 hi1 c4 c5
            refine Y_aload_n C dX3_drop_32 rfl rfl ?_
            refine Y_get C K4 (v := .ref (201 + 2 * i1)) 4 dX3_drop_33 (gW_st h40 hi1) (by decide) g_457 rfl rfl ?_
            refine Y_alen C (i := 0) (v := nI 1) dX3_drop_36 hq rfl rfl ?_
            refine Y_if_le C 43 dX3_drop_37 (by decide) (fun cc16 => absurd cc16 (by decide)) (fun cc16 => ?_)
            refine Y_goto C 137 dX3_drop_40 (by decide) ?_
            refine Y_iinc C (L' := [(1, .int (nI (i1 + 1))), (2, .ref (200 + 2 * i1)), (0, .ref 100)]) (v := nI (i1 + 1)) dX3_drop_137 rfl (nI_inc _) (by decide) rfl ?_
            refine Y_goto C 2 dX3_drop_140 (by decide) ?_
            rw [show md1 i1 X1 = X1 from by unfold md1; rw [if_pos ((JI_hg hJX hi1).mpr cc4), if_pos c3, if_neg c4]] at kk1
            exact Y_sub (by simp [bI_t, bI_f]) (kk1 hv1 (fun i hi => (av1 i (by first | trivial | exact hi | ((try (dsimp only at hi)); (try dsimp only); omega)))))
          · have hq := hq_2 (V := V) (r := r) (T := T) h40 hi1 c4 c5
            refine Y_aload_n C dX3_drop_32 rfl rfl ?_
            refine Y_get C K4 (v := .ref (201 + 2 * i1)) 4 dX3_drop_33 (gW_st h40 hi1) (by decide) g_457 rfl rfl ?_
            refine Y_alen C (i := 0) (v := nI 2) dX3_drop_36 hq rfl rfl ?_
            refine Y_if_le C 43 dX3_drop_37 (by decide) (fun cc17 => absurd cc17 (by decide)) (fun cc17 => ?_)
            refine Y_goto C 137 dX3_drop_40 (by decide) ?_
            refine Y_iinc C (L' := [(1, .int (nI (i1 + 1))), (2, .ref (200 + 2 * i1)), (0, .ref 100)]) (v := nI (i1 + 1)) dX3_drop_137 rfl (nI_inc _) (by decide) rfl ?_
            refine Y_goto C 2 dX3_drop_140 (by decide) ?_
            rw [show md1 i1 X1 = X1 from by unfold md1; rw [if_pos ((JI_hg hJX hi1).mpr cc4), if_pos c3, if_neg c4]] at kk1
            exact Y_sub (by simp [bI_t, bI_f]) (kk1 hv1 (fun i hi => (av1 i (by first | trivial | exact hi | ((try (dsimp only at hi)); (try dsimp only); omega)))))
