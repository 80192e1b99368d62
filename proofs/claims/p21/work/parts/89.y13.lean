/-! the law's body: an act, a day -/
theorem tN_417 {x : Option va_E} : tN (tU (fun _ => none) 417 x) = tU (fun _ => none) 417 x := by
  funext i
  by_cases z : (410 ≤ i ∧ i ≤ 414) ∨ (420 ≤ i ∧ i ≤ 424)
  · rw [tN_in z, tU_n _ _ (by omega)]
  · rw [tN_out z]
theorem go_fo0 {n r : Nat} {B : Sr} {K : St} {M : Md} (D : St) (h : LI n r B K M) : (cFo K D B (nI 1) (nI 0)).1 = none ∧ (cFo K D B (nI 1) (nI 0)).2.1 = mCt (mRk (mDy M)) 2 := by
  have g := go_fo D h (w := 0) (by decide)
  rw [show mFoW 0 = 2 from rfl] at g
  exact g
theorem go_fo1 {n r : Nat} {B : Sr} {K : St} {M : Md} (D : St) (h : LI n r B K M) : (cFo K D B (nI 1) (nI 1)).1 = none ∧ (cFo K D B (nI 1) (nI 1)).2.1 = mCt (mRk (mDy M)) 4 := by
  have g := go_fo D h (w := 1) (by decide)
  rw [show mFoW 1 = 4 from rfl] at g
  exact g
theorem go_fo2 {n r : Nat} {B : Sr} {K : St} {M : Md} (D : St) (h : LI n r B K M) : (cFo K D B (nI 1) (nI 2)).1 = none ∧ (cFo K D B (nI 1) (nI 2)).2.1 = mCt (mRk (mDy M)) 5 := by
  have g := go_fo D h (w := 2) (by decide)
  rw [show mFoW 2 = 5 from rfl] at g
  exact g
theorem kp_pass {i : Nat} (hi : kpA i) : (i < 200 ∨ 280 ≤ i ∨ i % 2 = 0) ∧ i ≠ 423 ∧ (i < 410 ∨ 414 < i) := by
  unfold kpA at hi
  omega
theorem wo_ge {wc : Nat} {v : Int32} (hc : wc < 2 ^ 31) (h01 : v = 0 ∨ v = 1) (h : ¬ v = 0 → 1 ≤ wc) : ¬ nI wc < v := by
  rcases h01 with c | c
  · rw [c]; exact nI_pos hc
  · rw [c]
    exact nI_nlt (b := 1) (h (by rw [c]; decide)) hc
set_option maxHeartbeats 600000 in
set_option maxRecDepth 20000 in
theorem law_b {p : Program} {l : Launch} {e : Env} {s : State} {m : MethodId} {args : Array Value} {below : List Frame} {meth : Method} {c : Code} {G : gG} {hv : Nat → Nat} {A : Nat → Prop} {Q : State → Prop} {b N : Nat} {xs : Nat → Int32} {i : Nat} {x : Int32} {k0 n0 n r : Nat} {M : Md} {K D : St} {B : Sr} (C : Cx p s m args c cL_law 23 RL G A) (S : Cs l s A b N xs) (I : LI n r B K M) (hi : i < 30) (hk : k0 + 780 ≤ 600104) (hn : n0 + 20200 ≤ 7301314) (kk : ∀ (h' : Nat → Nat) (n2 r2 : Nat) (B2 : Sr) (Ka D2 : St) (M2 : Md), (∀ q, kpA q → h' q = hv q) → 1 ≤ n2 → M2.2.2.1 0 0 = M.2.2.1 0 0 → (Df r M → Df r2 M2) → LI n2 r2 B2 Ka M2 → Y p l e room_1 s m args below meth c 23 G A h' Q (k0 + 780) (n0 + 20200) (gW (xW Ka D2 B2) n2 r2 M2 (fun _ => none)) 149 [(0, .ref 1000), (1, .ref 0), (2, .ref 100), (3, .int (nI i)), (4, .int x)] []) : Y p l e room_1 s m args below meth c 23 G A hv Q (k0) (n0) (gW (xW K D B) n r M (tU (fun _ => none) 417 (some (.inl (1, n, .inl (fun j => bI (decide (M.1 2 j = 1)))))))) 100 [(0, .ref 1000), (1, .ref 0), (2, .ref 100), (3, .int (nI i)), (4, .int x), (5, .int (nI n)), (6, .ref 417)] [] := by
  have h40 := I.h40
  have h30 := I.h30
  have hC := okC_x K D B
  refine Y_aload_n C dL_law_100 rfl rfl ?_
  refine Y_aload_n C dL_law_101 rfl rfl ?_
  refine Y_iload C dL_law_102 rfl ?_
  refine Y_callMS C S (c_L_act (x := x) (T := tU (fun _ => none) 417 (some (.inl (1, n, .inl (fun j => bI (decide (M.1 2 j = 1))))))) I (okT_U (fun i e h => by cases h))) m_L_act g_435 dL_law_104 rfl rfl ⟨Nat.le_of_ble_eq_true rfl, Nat.le_of_ble_eq_true rfl⟩ ⟨by show k0 + 740 ≤ 600104; omega, by show n0 + 19900 ≤ 7301314; omega⟩ (Nat.le_of_ble_eq_true rfl) ⟨(by first | trivial | (unfold vR kpA; (try dsimp only); omega)), (by first | trivial | (unfold vR kpA; (try dsimp only); omega)), (by first | trivial | (unfold vR kpA; (try dsimp only); omega)), trivial, trivial, trivial, (by first | trivial | (unfold vR kpA; (try dsimp only); omega)), trivial⟩ trivial (fun h1 r1 w1 ag1 F1 => ?_)
  obtain ⟨rfl, n2, r2, B2, Ka, D2, M2, a1, a2, a3, a4, a5, I2, rfl⟩ := F1
  refine Y_stk [.int 1] rfl ?_
  refine Y_eq (w' := gW (xW Ka D2 B2) n2 r2 M2 (tU (fun _ => none) 417 (some (.inl (1, n, .inl (fun j => bI (decide (M.1 2 j = 1)))))))) (congrArg _ tN_417) ?_
  have h40 := I2.h40
  have h30 := I2.h30
  refine Y_if_ne C 112 dL_law_107 (by decide) (fun cc2 => ?_) (fun cc2 => absurd cc2 (by decide))
  refine Y_iconst C (v := nI 0) dL_law_112 (by decide) ?_
  refine Y_istore C (L' := [(7, .int (nI 0)), (0, .ref 1000), (1, .ref 0), (2, .ref 100), (3, .int (nI i)), (4, .int x), (5, .int (nI n)), (6, .ref 417)]) dL_law_113 (by decide) rfl ?_
  refine Y_widen (k' := k0 + 740 + 0) (n' := n0 + 19900 + 6 * 0) (by omega) (by omega) ?_
  refine Zfor (σ := Unit) (fun i3 X3 => Y p l e _ s m args below meth c 23 G A h1 _ (k0 + 740 + i3) (n0 + 19900 + 6 * i3) (gW (xW Ka D2 B2) n2 r2 M2 (tU (fun _ => none) 417 (some (.inl (1, n, .inl (fun j => bI (decide (M.1 2 j = 1)))))))) 115 [(7, .int (nI i3)), (0, .ref 1000), (1, .ref 0), (2, .ref 100), (3, .int (nI i)), (4, .int x), (5, .int (nI n)), (6, .ref 417)] []) (fun i3 X3 => True) (fun _ u => u) n () trivial (fun _ _ _ _ => trivial) (fun X3 hX3 eX3 => ?_) (fun i3 X3 hi3 hX3 hX3' kk3 => ?_)
  · skip
    refine Y_iload C dL_law_115 rfl ?_
    refine Y_iload C dL_law_117 rfl ?_
    refine Y_icmp_ge C 149 dL_law_119 (by decide) (fun cc4 => ?_) (fun cc4 => absurd (Int32.le_refl _) cc4)
    refine Y_sub (L' := [(0, .ref 1000), (1, .ref 0), (2, .ref 100), (3, .int (nI i)), (4, .int x)]) (by simp) ?_
    refine Y_sub (L' := [(0, .ref 1000), (1, .ref 0), (2, .ref 100), (3, .int (nI i)), (4, .int x)]) (by simp) ?_
    refine Y_widen (k' := k0 + 780) (n' := n0 + 20200) (by omega) (by omega) ?_
    refine Y_less (w' := gW (xW Ka D2 B2) n2 r2 M2 (fun _ => none)) (gW_less (fun i e h => by cases h)) ?_
    exact kk _ n2 r2 B2 Ka D2 M2 (fun i hi => (ag1 i (by first | trivial | exact hi | ((try unfold kpA at hi); (try unfold kpA); (try dsimp only at hi); (try dsimp only); omega)))) a2 a4 a5 I2
  · skip
    refine Y_iload C dL_law_115 rfl ?_
    refine Y_iload C dL_law_117 rfl ?_
    refine Y_icmp_ge C 149 dL_law_119 (by decide) (fun cc5 => absurd cc5 (nI_ge hi3 (by omega))) (fun cc5 => ?_)
    refine Y_aload C dL_law_122 rfl ?_
    refine Y_iload C dL_law_124 rfl ?_
    refine Y_zald C (v := bI (decide (M.1 2 i3 = 1))) dL_law_126 ((gW_hi (by decide)).trans (tU_s _ _ _)) (vp_in_nI hi3 (by omega)) (by rw [nI_clamp (by omega)] <;> rfl) ?_
    refine Y_if_ne C 143 dL_law_127 (by decide) (fun cc6 => ?_) (fun cc6 => ?_)
    · refine Y_iinc C (L' := [(7, .int (nI (i3 + 1))), (0, .ref 1000), (1, .ref 0), (2, .ref 100), (3, .int (nI i)), (4, .int x), (5, .int (nI n)), (6, .ref 417)]) (v := nI (i3 + 1)) dL_law_143 rfl (nI_inc _) (by decide) rfl ?_
      refine Y_goto C 115 dL_law_146 (by decide) ?_
      refine Y_widen (k' := k0 + 740 + (i3 + 1)) (n' := n0 + 19900 + 6 * (i3 + 1)) (by omega) (by omega) ?_
      exact Y_sub (by simp [bI_t, bI_f]) (kk3)
    · refine Y_aload_n C dL_law_130 rfl rfl ?_
      refine Y_iload C dL_law_131 rfl ?_
      refine Y_iconst C (v := 2) dL_law_133 (by decide) ?_
      have d0 : M.1 2 i3 = 0 := (LI_h01 I i3 hi3).resolve_right (of_decide_eq_false (bI_0.mp cc6))
      have hi2 : i3 < n2 := by omega
      obtain ⟨sa7, sb7⟩ := go_stone I2 (w := 2) hi2 (by decide)
      refine Y_stk [.int (nI 2), .int (nI i3), .ref 0] rfl ?_
      refine Y_callG (K' := Ka) (D' := D2) (B' := B2) C S (c_X2_stone Ka D2 B2 (nI i3) (nI 2) I2.kn h40 I2.br h30) sa7 m_X2_stone K2 g_235 dL_law_134 rfl rfl ⟨Nat.le_of_ble_eq_true rfl, Nat.le_of_ble_eq_true rfl⟩ ⟨by show k0 + 740 + i3 + 1 ≤ 600104; omega, by show n0 + 19900 + 6 * i3 + 6 ≤ 7301314; omega⟩ (Nat.le_of_ble_eq_true rfl) ?_
      refine Y_stk [.int ((cStone Ka (nI i3) (nI 2)).2)] rfl ?_
      refine Y_stk [.int (M2.1 2 i3)] (by rw [sb7, tl_row (by decide)]) ?_
      refine Y_stk [.int 0] (by rw [a3 i3 hi3 d0]) ?_
      refine Y_iconst C (v := 1) dL_law_137 (by decide) ?_
      refine Y_icmp_ne C 143 dL_law_138 (by decide) (fun cc8 => ?_) (fun cc8 => absurd cc8 (by decide))
      refine Y_iinc C (L' := [(7, .int (nI (i3 + 1))), (0, .ref 1000), (1, .ref 0), (2, .ref 100), (3, .int (nI i)), (4, .int x), (5, .int (nI n)), (6, .ref 417)]) (v := nI (i3 + 1)) dL_law_143 rfl (nI_inc _) (by decide) rfl ?_
      refine Y_goto C 115 dL_law_146 (by decide) ?_
      refine Y_widen (k' := k0 + 740 + (i3 + 1)) (n' := n0 + 19900 + 6 * (i3 + 1)) (by omega) (by omega) ?_
      exact Y_sub (by simp [bI_t, bI_f]) (kk3)
set_option maxHeartbeats 600000 in
set_option maxRecDepth 20000 in
theorem law_c {p : Program} {l : Launch} {e : Env} {s : State} {m : MethodId} {args : Array Value} {below : List Frame} {meth : Method} {c : Code} {G : gG} {hv : Nat → Nat} {A : Nat → Prop} {Q : State → Prop} {b N : Nat} {xs : Nat → Int32} {i : Nat} {x : Int32} {k0 n0 n r : Nat} {M : Md} {K D : St} {B : Sr} (C : Cx p s m args c cL_law 23 RL G A) (S : Cs l s A b N xs) (I : LI n r B K M) (hi : i < 30) (hk : k0 + 900 ≤ 600104) (hn : n0 + 20100 ≤ 7301314) (hn1 : 1 ≤ n) (hday : M.2.2.1 0 0 = nI i) (kk : ∀ (h' : Nat → Nat) (wh : Nat) (K2 D2 : St), (∀ q, kpA q → h' q = hv q) → wh < n → LI n r B K2 (mDy M) → Y p l e room_1 s m args below meth c 23 G A h' Q (k0 + 900) (n0 + 20100) (gW (xW K2 D2 B) n r (mDy M) (fun _ => none)) 330 [(0, .ref 1000), (1, .ref 0), (2, .ref 100), (3, .int (nI i)), (4, .int x), (5, .int (nI n)), (7, .int (nI wh)), (10, .int (mCt (mRk (mDy M)) 2))] []) : Y p l e room_1 s m args below meth c 23 G A hv Q (k0) (n0) (gW (xW K D B) n r M (fun _ => none)) 149 [(0, .ref 1000), (1, .ref 0), (2, .ref 100), (3, .int (nI i)), (4, .int x)] [] := by
  have h40 := I.h40
  have h30 := I.h30
  have hC := okC_x K D B
  have eC : mCt (mRk M) 2 = nI (cH M n) := (ct_2 I).trans (cH_eq n (LI_h01 I))
  obtain ⟨p0, p1, I2⟩ := go_pass I
  have eC2 : mCt (mRk (mDy M)) 2 = nI (cH (mDy M) n) := (ct_2 I2).trans (cH_eq n (LI_h01 I2))
  have eH2 := LI_mHa I2
  have hls := fun wh => ls_day (i := wh) (M := M)
  have hd9 : (mDy M).2.2.1 0 0 = nI (i + 1) := by rw [(LI_dy I).2.2.2.2, hday, nI_1]
  have fo0 := fun D => go_fo0 D I
  have fo1 := fun D => go_fo1 D I
  have fo2 := fun D => go_fo2 D I
  have cP := fun (K9 D5 : St) => c_X3_pass (V := xW K9 D5 B) (T := fun _ => none) h40 h30 (okC_x K9 D5 B) (fun i e h => by cases h) rfl I.mn I.mr I.2.2.1 I.2.1
  generalize mDy M = Y at kk p1 I2 eC2 eH2 hls hd9 fo0 fo1 fo2 cP
  have hf9 : ∀ wh, wh < n → mHg Y wh = false → Y.1 2 wh = 0 := fun wh hwh q => Decidable.not_not.mp fun y => by rw [(JI_hg I2.2.2.1 hwh).mpr y] at q; cases q
  refine Y_aload_n C dL_law_149 rfl rfl ?_
  refine Y_iconst C (v := 1) dL_law_150 (by decide) ?_
  obtain ⟨y0, y1⟩ := go_count I (w := 1) (by decide)
  refine Y_stk [.int (nI 1), .ref 0] rfl ?_
  refine Y_callG (K' := K) (D' := D) (B' := B) C S (c_X2_count K D B (nI 1) I.kn h40 I.br h30) y0 m_X2_count K2 g_256 dL_law_151 rfl rfl ⟨Nat.le_of_ble_eq_true rfl, Nat.le_of_ble_eq_true rfl⟩ ⟨by show k0 + 1 ≤ 600104; omega, by show n0 + 6 ≤ 7301314; omega⟩ (Nat.le_of_ble_eq_true rfl) ?_
  refine Y_stk [.int ((cCount K B (nI 1)).2)] rfl ?_
  refine Y_stk [.int (nI n)] (by rw [y1, ct_1 I]) ?_
  refine Y_istore C (L' := [(5, .int (nI n)), (0, .ref 1000), (1, .ref 0), (2, .ref 100), (3, .int (nI i)), (4, .int x)]) dL_law_154 (by decide) rfl ?_
  refine Y_iload C dL_law_156 rfl ?_
  refine Y_iconst C (v := 2) dL_law_158 (by decide) ?_
  refine Y_ishr C (v := x >>> (2 &&& 31)) dL_law_159 rfl ?_
  refine Y_iload C dL_law_160 rfl ?_
  obtain ⟨wh, hwh, ewh⟩ := bl_nI (x >>> (2 &&& 31)) (n := n) (by omega) (by omega)
  refine Y_callMS C S (c_L_below (w := gW (xW K D B) n r M (fun _ => none)) (x := x >>> (2 &&& 31)) (y := nI n) (fun z => absurd ((nI_eq (b := 0) (by omega) (by omega)).mp z) (by omega))) m_L_below g_427 dL_law_162 rfl rfl ⟨Nat.le_of_ble_eq_true rfl, Nat.le_of_ble_eq_true rfl⟩ ⟨by show k0 + 1 + 0 ≤ 600104; omega, by show n0 + 6 + 0 ≤ 7301314; omega⟩ (Nat.le_of_ble_eq_true rfl) ⟨trivial, (by first | trivial | (unfold vR; (try dsimp only); omega)), (by first | trivial | (unfold vR; (try dsimp only); omega)), (by first | trivial | (unfold vR; (try dsimp only); omega)), trivial, trivial, trivial⟩ trivial (fun h1 r1 w1 ag1 F1 => ?_)
  obtain ⟨rfl, rfl⟩ := F1
  refine Y_stk [.int (bl (x >>> (2 &&& 31)) (nI n))] rfl ?_
  refine Y_stk [.int (nI wh)] (by rw [ewh]) ?_
  refine Y_istore C (L' := [(7, .int (nI wh)), (5, .int (nI n)), (0, .ref 1000), (1, .ref 0), (2, .ref 100), (3, .int (nI i)), (4, .int x)]) dL_law_165 (by decide) rfl ?_
  refine Y_aload_n C dL_law_167 rfl rfl ?_
  refine Y_iload C dL_law_168 rfl ?_
  obtain ⟨l0, l1⟩ := go_ls D I hwh
  obtain ⟨D1, hD1⟩ : ∃ Z, Z = (cLs K D (nI wh)).2.2 := ⟨_, rfl⟩
  refine Y_stk [.int (nI wh), .ref 0] rfl ?_
  refine Y_callG (K' := K) (D' := (cLs K D (nI wh)).2.2) (B' := B) C S (c_X2_lasts K D B (nI wh) I.kn h40 I.br h30) l0 m_X2_lasts K2 g_364 dL_law_170 rfl rfl ⟨Nat.le_of_ble_eq_true rfl, Nat.le_of_ble_eq_true rfl⟩ ⟨by show k0 + 1 + 0 + 1 ≤ 600104; omega, by show n0 + 6 + 0 + 6 ≤ 7301314; omega⟩ (Nat.le_of_ble_eq_true rfl) ?_
  refine Y_stk [.int ((cLs K D (nI wh)).2.1)] rfl ?_
  refine Y_stk [.int (lsV wh M)] (by rw [l1]) ?_
  rw [← hD1]
  refine Y_istore C (L' := [(8, .int (lsV wh M)), (7, .int (nI wh)), (5, .int (nI n)), (0, .ref 1000), (1, .ref 0), (2, .ref 100), (3, .int (nI i)), (4, .int x)]) dL_law_173 (by decide) rfl ?_
  refine Y_aload_n C dL_law_175 rfl rfl ?_
  refine Y_iload C dL_law_176 rfl ?_
  obtain ⟨w0, w1, wc, w2, w3, w4⟩ := go_wo D1 I hwh
  obtain ⟨D2, hD2⟩ : ∃ Z, Z = (cWo K D1 (nI wh)).2.2 := ⟨_, rfl⟩
  refine Y_stk [.int (nI wh), .ref 0] rfl ?_
  refine Y_callG (K' := K) (D' := (cWo K D1 (nI wh)).2.2) (B' := B) C S (c_X2_without K D1 B (nI wh) I.kn h40 I.br h30) w0 m_X2_without K2 g_352 dL_law_178 rfl rfl ⟨Nat.le_of_ble_eq_true rfl, Nat.le_of_ble_eq_true rfl⟩ ⟨by show k0 + 1 + 0 + 1 + 1 ≤ 600104; omega, by show n0 + 6 + 0 + 6 + 6 ≤ 7301314; omega⟩ (Nat.le_of_ble_eq_true rfl) ?_
  refine Y_stk [.int ((cWo K D1 (nI wh)).2.1)] rfl ?_
  refine Y_stk [.int (nI wc)] (by rw [w2]) ?_
  rw [← hD2]
  refine Y_istore C (L' := [(9, .int (nI wc)), (8, .int (lsV wh M)), (7, .int (nI wh)), (5, .int (nI n)), (0, .ref 1000), (1, .ref 0), (2, .ref 100), (3, .int (nI i)), (4, .int x)]) dL_law_181 (by decide) rfl ?_
  refine Y_aload_n C dL_law_183 rfl rfl ?_
  refine Y_iconst C (v := 1) dL_law_184 (by decide) ?_
  refine Y_iconst C (v := 0) dL_law_185 (by decide) ?_
  obtain ⟨f00, f10⟩ := fo0 D2
  obtain ⟨D3, hD3⟩ : ∃ Z, Z = (cFo K D2 B (nI 1) (nI 0)).2.2 := ⟨_, rfl⟩
  refine Y_stk [.int (nI 0), .int (nI 1), .ref 0] rfl ?_
  refine Y_callG (K' := K) (D' := (cFo K D2 B (nI 1) (nI 0)).2.2) (B' := B) C S (c_X2_foresee K D2 B (nI 1) (nI 0) I.kn h40 I.br h30) f00 m_X2_foresee K2 g_369 dL_law_186 rfl rfl ⟨Nat.le_of_ble_eq_true rfl, Nat.le_of_ble_eq_true rfl⟩ ⟨by show k0 + 1 + 0 + 1 + 1 + 1 ≤ 600104; omega, by show n0 + 6 + 0 + 6 + 6 + 6 ≤ 7301314; omega⟩ (Nat.le_of_ble_eq_true rfl) ?_
  refine Y_stk [.int ((cFo K D2 B (nI 1) (nI 0)).2.1)] rfl ?_
  refine Y_stk [.int (mCt (mRk (Y)) 2)] (by rw [f10]) ?_
  rw [← hD3]
  refine Y_istore C (L' := [(10, .int (mCt (mRk (Y)) 2)), (9, .int (nI wc)), (8, .int (lsV wh M)), (7, .int (nI wh)), (5, .int (nI n)), (0, .ref 1000), (1, .ref 0), (2, .ref 100), (3, .int (nI i)), (4, .int x)]) dL_law_189 (by decide) rfl ?_
  refine Y_aload_n C dL_law_191 rfl rfl ?_
  refine Y_iconst C (v := 1) dL_law_192 (by decide) ?_
  refine Y_iconst C (v := 1) dL_law_193 (by decide) ?_
  obtain ⟨f01, f11⟩ := fo1 D3
  obtain ⟨D4, hD4⟩ : ∃ Z, Z = (cFo K D3 B (nI 1) (nI 1)).2.2 := ⟨_, rfl⟩
  refine Y_stk [.int (nI 1), .int (nI 1), .ref 0] rfl ?_
  refine Y_callG (K' := K) (D' := (cFo K D3 B (nI 1) (nI 1)).2.2) (B' := B) C S (c_X2_foresee K D3 B (nI 1) (nI 1) I.kn h40 I.br h30) f01 m_X2_foresee K2 g_369 dL_law_194 rfl rfl ⟨Nat.le_of_ble_eq_true rfl, Nat.le_of_ble_eq_true rfl⟩ ⟨by show k0 + 1 + 0 + 1 + 1 + 1 + 1 ≤ 600104; omega, by show n0 + 6 + 0 + 6 + 6 + 6 + 6 ≤ 7301314; omega⟩ (Nat.le_of_ble_eq_true rfl) ?_
  refine Y_stk [.int ((cFo K D3 B (nI 1) (nI 1)).2.1)] rfl ?_
  refine Y_stk [.int (mCt (mRk (Y)) 4)] (by rw [f11]) ?_
  rw [← hD4]
  refine Y_istore C (L' := [(11, .int (mCt (mRk (Y)) 4)), (10, .int (mCt (mRk (Y)) 2)), (9, .int (nI wc)), (8, .int (lsV wh M)), (7, .int (nI wh)), (5, .int (nI n)), (0, .ref 1000), (1, .ref 0), (2, .ref 100), (3, .int (nI i)), (4, .int x)]) dL_law_197 (by decide) rfl ?_
  refine Y_aload_n C dL_law_199 rfl rfl ?_
  refine Y_iconst C (v := 1) dL_law_200 (by decide) ?_
  refine Y_iconst C (v := 2) dL_law_201 (by decide) ?_
  obtain ⟨f02, f12⟩ := fo2 D4
  obtain ⟨D5, hD5⟩ : ∃ Z, Z = (cFo K D4 B (nI 1) (nI 2)).2.2 := ⟨_, rfl⟩
  refine Y_stk [.int (nI 2), .int (nI 1), .ref 0] rfl ?_
  refine Y_callG (K' := K) (D' := (cFo K D4 B (nI 1) (nI 2)).2.2) (B' := B) C S (c_X2_foresee K D4 B (nI 1) (nI 2) I.kn h40 I.br h30) f02 m_X2_foresee K2 g_369 dL_law_202 rfl rfl ⟨Nat.le_of_ble_eq_true rfl, Nat.le_of_ble_eq_true rfl⟩ ⟨by show k0 + 1 + 0 + 1 + 1 + 1 + 1 + 1 ≤ 600104; omega, by show n0 + 6 + 0 + 6 + 6 + 6 + 6 + 6 ≤ 7301314; omega⟩ (Nat.le_of_ble_eq_true rfl) ?_
  refine Y_stk [.int ((cFo K D4 B (nI 1) (nI 2)).2.1)] rfl ?_
  refine Y_stk [.int (mCt (mRk (Y)) 5)] (by rw [f12]) ?_
  rw [← hD5]
  have hcl := cH_le M n
  refine Y_istore C (L' := [(12, .int (mCt (mRk (Y)) 5)), (11, .int (mCt (mRk (Y)) 4)), (10, .int (mCt (mRk (Y)) 2)), (9, .int (nI wc)), (8, .int (lsV wh M)), (7, .int (nI wh)), (5, .int (nI n)), (0, .ref 1000), (1, .ref 0), (2, .ref 100), (3, .int (nI i)), (4, .int x)]) dL_law_205 (by decide) rfl ?_
  refine Y_aload_n C dL_law_207 rfl rfl ?_
  refine Y_iconst C (v := 2) dL_law_208 (by decide) ?_
  obtain ⟨y2, y3⟩ := go_count I (w := 2) (by decide)
  refine Y_stk [.int (nI 2), .ref 0] rfl ?_
  refine Y_callG (K' := K) (D' := D5) (B' := B) C S (c_X2_count K D5 B (nI 2) I.kn h40 I.br h30) y2 m_X2_count K2 g_256 dL_law_209 rfl rfl ⟨Nat.le_of_ble_eq_true rfl, Nat.le_of_ble_eq_true rfl⟩ ⟨by show k0 + 1 + 0 + 1 + 1 + 1 + 1 + 1 + 1 ≤ 600104; omega, by show n0 + 6 + 0 + 6 + 6 + 6 + 6 + 6 + 6 ≤ 7301314; omega⟩ (Nat.le_of_ble_eq_true rfl) ?_
  refine Y_stk [.int ((cCount K B (nI 2)).2)] rfl ?_
  refine Y_stk [.int (nI (cH M n))] (by rw [y3, eC]) ?_
  refine Y_istore C (L' := [(13, .int (nI (cH M n))), (12, .int (mCt (mRk (Y)) 5)), (11, .int (mCt (mRk (Y)) 4)), (10, .int (mCt (mRk (Y)) 2)), (9, .int (nI wc)), (8, .int (lsV wh M)), (7, .int (nI wh)), (5, .int (nI n)), (0, .ref 1000), (1, .ref 0), (2, .ref 100), (3, .int (nI i)), (4, .int x)]) dL_law_212 (by decide) rfl ?_
  refine Y_iload C dL_law_214 rfl ?_
  refine Y_aload_n C dL_law_216 rfl rfl ?_
  refine Y_iload C dL_law_217 rfl ?_
  refine Y_iconst C (v := 2) dL_law_219 (by decide) ?_
  obtain ⟨sa2, sb2⟩ := go_stone I (w := 2) hwh (by decide)
  refine Y_stk [.int (nI 2), .int (nI wh), .ref 0, .int (nI wc)] rfl ?_
  refine Y_callG (K' := K) (D' := D5) (B' := B) C S (c_X2_stone K D5 B (nI wh) (nI 2) I.kn h40 I.br h30) sa2 m_X2_stone K2 g_235 dL_law_220 rfl rfl ⟨Nat.le_of_ble_eq_true rfl, Nat.le_of_ble_eq_true rfl⟩ ⟨by show k0 + 1 + 0 + 1 + 1 + 1 + 1 + 1 + 1 + 1 ≤ 600104; omega, by show n0 + 6 + 0 + 6 + 6 + 6 + 6 + 6 + 6 + 6 ≤ 7301314; omega⟩ (Nat.le_of_ble_eq_true rfl) ?_
  refine Y_stk [.int ((cStone K (nI wh) (nI 2)).2), .int (nI wc)] rfl ?_
  refine Y_stk [.int (M.1 2 wh), .int (nI wc)] (by rw [sb2, tl_row (by decide)]) ?_
  refine Y_icmp_lt C 246 dL_law_223 (by decide) (fun cc3 => absurd cc3 (wo_ge (by omega) (LI_h01 I wh hwh) w4)) (fun cc3 => ?_)
  refine Y_iload C dL_law_226 rfl ?_
  refine Y_iload C dL_law_228 rfl ?_
  refine Y_icmp_gt C 246 dL_law_230 (by decide) (fun cc4 => absurd cc4 (nI_nlt w3 (by omega))) (fun cc4 => ?_)
  refine Y_aload_n C dL_law_233 rfl rfl ?_
  refine Y_iconst C (v := 1) dL_law_234 (by decide) ?_
  refine Y_stk [.int (nI 1), .ref 0] rfl ?_
  refine Y_callG (K' := (cPass K (nI 1)).2.2) (D' := D5) (B' := B) C S (c_X2_pass K D5 B (nI 1) I.kn h40 I.br h30) p0 m_X2_pass K2 g_285 dL_law_235 rfl rfl ⟨Nat.le_of_ble_eq_true rfl, Nat.le_of_ble_eq_true rfl⟩ ⟨by show k0 + 1 + 0 + 1 + 1 + 1 + 1 + 1 + 1 + 1 + 1 ≤ 600104; omega, by show n0 + 6 + 0 + 6 + 6 + 6 + 6 + 6 + 6 + 6 + 6 ≤ 7301314; omega⟩ (Nat.le_of_ble_eq_true rfl) ?_
  refine Y_stk [.int ((cPass K (nI 1)).2.1)] rfl ?_
  refine Y_stk [.int (mHa M - mHa (Y))] (by rw [p1]) ?_
  generalize (cPass K (nI 1)).2.2 = K9 at I2 ⊢
  refine Y_iload C dL_law_238 rfl ?_
  refine Y_iload C dL_law_240 rfl ?_
  refine Y_isub C (v := (nI (cH M n)) - (mCt (mRk (Y)) 2)) dL_law_242 rfl ?_
  refine Y_icmp_eq C 248 dL_law_243 (by decide) (fun cc5 => ?_) (fun cc5 => absurd (by rw [eC2, LI_mHa I, eH2]) cc5)
  refine Y_aload_n C dL_law_248 rfl rfl ?_
  refine Y_callM C S (cP K9 D5) m_X3_pass K3 g_373 dL_law_249 gW_100 rfl rfl ⟨Nat.le_of_ble_eq_true rfl, Nat.le_of_ble_eq_true rfl⟩ ⟨by show k0 + 1 + 0 + 1 + 1 + 1 + 1 + 1 + 1 + 1 + 1 + 850 ≤ 600104; omega, by show n0 + 6 + 0 + 6 + 6 + 6 + 6 + 6 + 6 + 6 + 6 + 19920 ≤ 7301314; omega⟩ (Nat.le_of_ble_eq_true rfl) ⟨trivial, trivial, trivial, trivial, trivial, trivial, trivial, trivial, (by first | trivial | (unfold vR; (try dsimp only); omega)), (by first | trivial | (unfold vR; (try dsimp only); omega)), (by first | trivial | (unfold vR; (try dsimp only); omega)), trivial, trivial, trivial⟩ trivial (fun h6 r6 w6 ag6 F6 => ?_)
  obtain ⟨rfl, rfl⟩ := F6
  refine Y_stk [] rfl ?_
  refine Y_less (w' := gW (xW K9 D5 B) n r (Y) (fun _ => none)) (gW_less (fun i e h => by cases h)) ?_
  refine Y_widen (k' := k0 + 880) (n' := n0 + 20000) (by omega) (by omega) ?_
  refine Y_aload_n C dL_law_252 rfl rfl ?_
  refine Y_iconst C (v := 2) dL_law_253 (by decide) ?_
  obtain ⟨u02, u12⟩ := go_count I2 (w := 2) (by decide)
  refine Y_stk [.int (nI 2), .ref 0] rfl ?_
  refine Y_callG (K' := K9) (D' := D5) (B' := B) C S (c_X2_count K9 D5 B (nI 2) I2.kn h40 I2.br h30) u02 m_X2_count K2 g_256 dL_law_254 rfl rfl ⟨Nat.le_of_ble_eq_true rfl, Nat.le_of_ble_eq_true rfl⟩ ⟨by show k0 + 880 + 1 ≤ 600104; omega, by show n0 + 20000 + 6 ≤ 7301314; omega⟩ (Nat.le_of_ble_eq_true rfl) ?_
  refine Y_stk [.int ((cCount K9 B (nI 2)).2)] rfl ?_
  refine Y_stk [.int (mCt (mRk (Y)) 2)] (by rw [u12]) ?_
  refine Y_iload C dL_law_257 rfl ?_
  refine Y_icmp_ne C 328 dL_law_259 (by decide) (fun cc7 => absurd rfl cc7) (fun cc7 => ?_)
  refine Y_aload_n C dL_law_262 rfl rfl ?_
  refine Y_iconst C (v := 4) dL_law_263 (by decide) ?_
  obtain ⟨u04, u14⟩ := go_count I2 (w := 4) (by decide)
  refine Y_stk [.int (nI 4), .ref 0] rfl ?_
  refine Y_callG (K' := K9) (D' := D5) (B' := B) C S (c_X2_count K9 D5 B (nI 4) I2.kn h40 I2.br h30) u04 m_X2_count K2 g_256 dL_law_264 rfl rfl ⟨Nat.le_of_ble_eq_true rfl, Nat.le_of_ble_eq_true rfl⟩ ⟨by show k0 + 880 + 1 + 1 ≤ 600104; omega, by show n0 + 20000 + 6 + 6 ≤ 7301314; omega⟩ (Nat.le_of_ble_eq_true rfl) ?_
  refine Y_stk [.int ((cCount K9 B (nI 4)).2)] rfl ?_
  refine Y_stk [.int (mCt (mRk (Y)) 4)] (by rw [u14]) ?_
  refine Y_iload C dL_law_267 rfl ?_
  refine Y_icmp_ne C 328 dL_law_269 (by decide) (fun cc8 => absurd rfl cc8) (fun cc8 => ?_)
  refine Y_aload_n C dL_law_272 rfl rfl ?_
  refine Y_iconst C (v := 5) dL_law_273 (by decide) ?_
  obtain ⟨u05, u15⟩ := go_count I2 (w := 5) (by decide)
  refine Y_stk [.int (nI 5), .ref 0] rfl ?_
  refine Y_callG (K' := K9) (D' := D5) (B' := B) C S (c_X2_count K9 D5 B (nI 5) I2.kn h40 I2.br h30) u05 m_X2_count K2 g_256 dL_law_274 rfl rfl ⟨Nat.le_of_ble_eq_true rfl, Nat.le_of_ble_eq_true rfl⟩ ⟨by show k0 + 880 + 1 + 1 + 1 ≤ 600104; omega, by show n0 + 20000 + 6 + 6 + 6 ≤ 7301314; omega⟩ (Nat.le_of_ble_eq_true rfl) ?_
  refine Y_stk [.int ((cCount K9 B (nI 5)).2)] rfl ?_
  refine Y_stk [.int (mCt (mRk (Y)) 5)] (by rw [u15]) ?_
  refine Y_iload C dL_law_277 rfl ?_
  refine Y_icmp_ne C 328 dL_law_279 (by decide) (fun cc9 => absurd rfl cc9) (fun cc9 => ?_)
  refine Y_iload C dL_law_282 rfl ?_
  refine Y_iconst C (v := 1) dL_law_284 (by decide) ?_
  refine Y_icmp_le C 301 dL_law_285 (by decide) (fun cc10 => ?_) (fun cc10 => ?_)
  · refine Y_iload C dL_law_301 rfl ?_
    refine Y_iconst C (v := 1) dL_law_303 (by decide) ?_
    refine Y_icmp_ne C 317 dL_law_304 (by decide) (fun cc11 => ?_) (fun cc11 => ?_)
    · refine Y_aload_n C dL_law_317 rfl rfl ?_
      refine Y_iconst C (v := 0) dL_law_318 (by decide) ?_
      obtain ⟨z0, z1⟩ := go_count I2 (w := 0) (by decide)
      refine Y_stk [.int (nI 0), .ref 0] rfl ?_
      refine Y_callG (K' := K9) (D' := D5) (B' := B) C S (c_X2_count K9 D5 B (nI 0) I2.kn h40 I2.br h30) z0 m_X2_count K2 g_256 dL_law_319 rfl rfl ⟨Nat.le_of_ble_eq_true rfl, Nat.le_of_ble_eq_true rfl⟩ ⟨by show k0 + 880 + 1 + 1 + 1 + 1 ≤ 600104; omega, by show n0 + 20000 + 6 + 6 + 6 + 6 ≤ 7301314; omega⟩ (Nat.le_of_ble_eq_true rfl) ?_
      refine Y_stk [.int ((cCount K9 B (nI 0)).2)] rfl ?_
      refine Y_stk [.int (nI (i + 1))] (by rw [z1, ct_0 I2, hd9]) ?_
      refine Y_iload_n C dL_law_322 rfl rfl ?_
      refine Y_iconst C (v := 1) dL_law_323 (by decide) ?_
      refine Y_iadd C (v := nI (i + 1)) dL_law_324 (nI_1 i) ?_
      refine Y_icmp_eq C 330 dL_law_325 (by decide) (fun cc12 => ?_) (fun cc12 => absurd rfl cc12)
      refine Y_sub (L' := [(10, .int (mCt (mRk (Y)) 2)), (7, .int (nI wh)), (5, .int (nI n)), (0, .ref 1000), (1, .ref 0), (2, .ref 100), (3, .int (nI i)), (4, .int x)]) (by simp) ?_
      refine Y_sub (L' := [(0, .ref 1000), (1, .ref 0), (2, .ref 100), (3, .int (nI i)), (4, .int x), (5, .int (nI n)), (7, .int (nI wh)), (10, .int (mCt (mRk (Y)) 2))]) (by simp) ?_
      refine Y_widen (k' := k0 + 900) (n' := n0 + 20100) (by omega) (by omega) ?_
      exact kk _ wh K9 D5 (fun i hi => (ag6 i (kp_pass hi)).trans (ag1 i True.intro)) hwh I2
    · refine Y_aload_n C dL_law_307 rfl rfl ?_
      refine Y_iload C dL_law_308 rfl ?_
      refine Y_iconst C (v := 2) dL_law_310 (by decide) ?_
      obtain ⟨sa13, sb13⟩ := go_stone I2 (w := 2) hwh (by decide)
      refine Y_stk [.int (nI 2), .int (nI wh), .ref 0] rfl ?_
      refine Y_callG (K' := K9) (D' := D5) (B' := B) C S (c_X2_stone K9 D5 B (nI wh) (nI 2) I2.kn h40 I2.br h30) sa13 m_X2_stone K2 g_235 dL_law_311 rfl rfl ⟨Nat.le_of_ble_eq_true rfl, Nat.le_of_ble_eq_true rfl⟩ ⟨by show k0 + 880 + 1 + 1 + 1 + 1 ≤ 600104; omega, by show n0 + 20000 + 6 + 6 + 6 + 6 ≤ 7301314; omega⟩ (Nat.le_of_ble_eq_true rfl) ?_
      refine Y_stk [.int ((cStone K9 (nI wh) (nI 2)).2)] rfl ?_
      refine Y_stk [.int ((Y).1 2 wh)] (by rw [sb13, tl_row (by decide)]) ?_
      refine Y_stk [.int 0] (by rw [hf9 wh hwh ((hls wh).2 cc11)]) ?_
      refine Y_if_ne C 328 dL_law_314 (by decide) (fun cc14 => absurd rfl cc14) (fun cc14 => ?_)
      refine Y_aload_n C dL_law_317 rfl rfl ?_
      refine Y_iconst C (v := 0) dL_law_318 (by decide) ?_
      obtain ⟨z0, z1⟩ := go_count I2 (w := 0) (by decide)
      refine Y_stk [.int (nI 0), .ref 0] rfl ?_
      refine Y_callG (K' := K9) (D' := D5) (B' := B) C S (c_X2_count K9 D5 B (nI 0) I2.kn h40 I2.br h30) z0 m_X2_count K2 g_256 dL_law_319 rfl rfl ⟨Nat.le_of_ble_eq_true rfl, Nat.le_of_ble_eq_true rfl⟩ ⟨by show k0 + 880 + 1 + 1 + 1 + 1 + 1 ≤ 600104; omega, by show n0 + 20000 + 6 + 6 + 6 + 6 + 6 ≤ 7301314; omega⟩ (Nat.le_of_ble_eq_true rfl) ?_
      refine Y_stk [.int ((cCount K9 B (nI 0)).2)] rfl ?_
      refine Y_stk [.int (nI (i + 1))] (by rw [z1, ct_0 I2, hd9]) ?_
      refine Y_iload_n C dL_law_322 rfl rfl ?_
      refine Y_iconst C (v := 1) dL_law_323 (by decide) ?_
      refine Y_iadd C (v := nI (i + 1)) dL_law_324 (nI_1 i) ?_
      refine Y_icmp_eq C 330 dL_law_325 (by decide) (fun cc15 => ?_) (fun cc15 => absurd rfl cc15)
      refine Y_sub (L' := [(10, .int (mCt (mRk (Y)) 2)), (7, .int (nI wh)), (5, .int (nI n)), (0, .ref 1000), (1, .ref 0), (2, .ref 100), (3, .int (nI i)), (4, .int x)]) (by simp) ?_
      refine Y_sub (L' := [(0, .ref 1000), (1, .ref 0), (2, .ref 100), (3, .int (nI i)), (4, .int x), (5, .int (nI n)), (7, .int (nI wh)), (10, .int (mCt (mRk (Y)) 2))]) (by simp) ?_
      refine Y_widen (k' := k0 + 900) (n' := n0 + 20100) (by omega) (by omega) ?_
      exact kk _ wh K9 D5 (fun i hi => (ag6 i (kp_pass hi)).trans (ag1 i True.intro)) hwh I2
  · refine Y_aload_n C dL_law_288 rfl rfl ?_
    refine Y_iload C dL_law_289 rfl ?_
    obtain ⟨m0, m1⟩ := go_ls D5 I2 hwh
    obtain ⟨D6, hD6⟩ : ∃ Z, Z = (cLs K9 D5 (nI wh)).2.2 := ⟨_, rfl⟩
    refine Y_stk [.int (nI wh), .ref 0] rfl ?_
    refine Y_callG (K' := K9) (D' := (cLs K9 D5 (nI wh)).2.2) (B' := B) C S (c_X2_lasts K9 D5 B (nI wh) I2.kn h40 I2.br h30) m0 m_X2_lasts K2 g_364 dL_law_291 rfl rfl ⟨Nat.le_of_ble_eq_true rfl, Nat.le_of_ble_eq_true rfl⟩ ⟨by show k0 + 880 + 1 + 1 + 1 + 1 ≤ 600104; omega, by show n0 + 20000 + 6 + 6 + 6 + 6 ≤ 7301314; omega⟩ (Nat.le_of_ble_eq_true rfl) ?_
    refine Y_stk [.int ((cLs K9 D5 (nI wh)).2.1)] rfl ?_
    refine Y_stk [.int (lsV wh (Y))] (by rw [m1]) ?_
    rw [← hD6]
    refine Y_iload C dL_law_294 rfl ?_
    refine Y_iconst C (v := 1) dL_law_296 (by decide) ?_
    refine Y_isub C (v := (lsV wh M) - 1) dL_law_297 rfl ?_
    refine Y_icmp_ne C 328 dL_law_298 (by decide) (fun cc16 => absurd ((hls wh).1 (Int32.not_le.mp cc10)) cc16) (fun cc16 => ?_)
    refine Y_iload C dL_law_301 rfl ?_
    refine Y_iconst C (v := 1) dL_law_303 (by decide) ?_
    refine Y_icmp_ne C 317 dL_law_304 (by decide) (fun cc17 => ?_) (fun cc17 => ?_)
    · refine Y_aload_n C dL_law_317 rfl rfl ?_
      refine Y_iconst C (v := 0) dL_law_318 (by decide) ?_
      obtain ⟨z0, z1⟩ := go_count I2 (w := 0) (by decide)
      refine Y_stk [.int (nI 0), .ref 0] rfl ?_
      refine Y_callG (K' := K9) (D' := D6) (B' := B) C S (c_X2_count K9 D6 B (nI 0) I2.kn h40 I2.br h30) z0 m_X2_count K2 g_256 dL_law_319 rfl rfl ⟨Nat.le_of_ble_eq_true rfl, Nat.le_of_ble_eq_true rfl⟩ ⟨by show k0 + 880 + 1 + 1 + 1 + 1 + 1 ≤ 600104; omega, by show n0 + 20000 + 6 + 6 + 6 + 6 + 6 ≤ 7301314; omega⟩ (Nat.le_of_ble_eq_true rfl) ?_
      refine Y_stk [.int ((cCount K9 B (nI 0)).2)] rfl ?_
      refine Y_stk [.int (nI (i + 1))] (by rw [z1, ct_0 I2, hd9]) ?_
      refine Y_iload_n C dL_law_322 rfl rfl ?_
      refine Y_iconst C (v := 1) dL_law_323 (by decide) ?_
      refine Y_iadd C (v := nI (i + 1)) dL_law_324 (nI_1 i) ?_
      refine Y_icmp_eq C 330 dL_law_325 (by decide) (fun cc18 => ?_) (fun cc18 => absurd rfl cc18)
      refine Y_sub (L' := [(10, .int (mCt (mRk (Y)) 2)), (7, .int (nI wh)), (5, .int (nI n)), (0, .ref 1000), (1, .ref 0), (2, .ref 100), (3, .int (nI i)), (4, .int x)]) (by simp) ?_
      refine Y_sub (L' := [(0, .ref 1000), (1, .ref 0), (2, .ref 100), (3, .int (nI i)), (4, .int x), (5, .int (nI n)), (7, .int (nI wh)), (10, .int (mCt (mRk (Y)) 2))]) (by simp) ?_
      refine Y_widen (k' := k0 + 900) (n' := n0 + 20100) (by omega) (by omega) ?_
      exact kk _ wh K9 D6 (fun i hi => (ag6 i (kp_pass hi)).trans (ag1 i True.intro)) hwh I2
    · refine Y_aload_n C dL_law_307 rfl rfl ?_
      refine Y_iload C dL_law_308 rfl ?_
      refine Y_iconst C (v := 2) dL_law_310 (by decide) ?_
      obtain ⟨sa19, sb19⟩ := go_stone I2 (w := 2) hwh (by decide)
      refine Y_stk [.int (nI 2), .int (nI wh), .ref 0] rfl ?_
      refine Y_callG (K' := K9) (D' := D6) (B' := B) C S (c_X2_stone K9 D6 B (nI wh) (nI 2) I2.kn h40 I2.br h30) sa19 m_X2_stone K2 g_235 dL_law_311 rfl rfl ⟨Nat.le_of_ble_eq_true rfl, Nat.le_of_ble_eq_true rfl⟩ ⟨by show k0 + 880 + 1 + 1 + 1 + 1 + 1 ≤ 600104; omega, by show n0 + 20000 + 6 + 6 + 6 + 6 + 6 ≤ 7301314; omega⟩ (Nat.le_of_ble_eq_true rfl) ?_
      refine Y_stk [.int ((cStone K9 (nI wh) (nI 2)).2)] rfl ?_
      refine Y_stk [.int ((Y).1 2 wh)] (by rw [sb19, tl_row (by decide)]) ?_
      refine Y_stk [.int 0] (by rw [hf9 wh hwh ((hls wh).2 cc17)]) ?_
      refine Y_if_ne C 328 dL_law_314 (by decide) (fun cc20 => absurd rfl cc20) (fun cc20 => ?_)
      refine Y_aload_n C dL_law_317 rfl rfl ?_
      refine Y_iconst C (v := 0) dL_law_318 (by decide) ?_
      obtain ⟨z0, z1⟩ := go_count I2 (w := 0) (by decide)
      refine Y_stk [.int (nI 0), .ref 0] rfl ?_
      refine Y_callG (K' := K9) (D' := D6) (B' := B) C S (c_X2_count K9 D6 B (nI 0) I2.kn h40 I2.br h30) z0 m_X2_count K2 g_256 dL_law_319 rfl rfl ⟨Nat.le_of_ble_eq_true rfl, Nat.le_of_ble_eq_true rfl⟩ ⟨by show k0 + 880 + 1 + 1 + 1 + 1 + 1 + 1 ≤ 600104; omega, by show n0 + 20000 + 6 + 6 + 6 + 6 + 6 + 6 ≤ 7301314; omega⟩ (Nat.le_of_ble_eq_true rfl) ?_
      refine Y_stk [.int ((cCount K9 B (nI 0)).2)] rfl ?_
      refine Y_stk [.int (nI (i + 1))] (by rw [z1, ct_0 I2, hd9]) ?_
      refine Y_iload_n C dL_law_322 rfl rfl ?_
      refine Y_iconst C (v := 1) dL_law_323 (by decide) ?_
      refine Y_iadd C (v := nI (i + 1)) dL_law_324 (nI_1 i) ?_
      refine Y_icmp_eq C 330 dL_law_325 (by decide) (fun cc21 => ?_) (fun cc21 => absurd rfl cc21)
      refine Y_sub (L' := [(10, .int (mCt (mRk (Y)) 2)), (7, .int (nI wh)), (5, .int (nI n)), (0, .ref 1000), (1, .ref 0), (2, .ref 100), (3, .int (nI i)), (4, .int x)]) (by simp) ?_
      refine Y_sub (L' := [(0, .ref 1000), (1, .ref 0), (2, .ref 100), (3, .int (nI i)), (4, .int x), (5, .int (nI n)), (7, .int (nI wh)), (10, .int (mCt (mRk (Y)) 2))]) (by simp) ?_
      refine Y_widen (k' := k0 + 900) (n' := n0 + 20100) (by omega) (by omega) ?_
      exact kk _ wh K9 D6 (fun i hi => (ag6 i (kp_pass hi)).trans (ag1 i True.intro)) hwh I2
