/-! the law's body: who hung -/
def was1 (M : Md) (k : Nat) (f : Nat → Bool) : Nat → Bool := fun j => if j = k then decide (M.1 2 k = 1) else f j
theorem wasF {M : Md} {n j : Nat} (hj : j < n) : fr (was1 M) n (fun _ => false) j = decide (M.1 2 j = 1) := by
  have key : ∀ m : Nat, j < m → fr (was1 M) m (fun _ => false) j = decide (M.1 2 j = 1) := fun m => by
    induction m with
    | zero => exact fun h => absurd h (Nat.not_lt_zero _)
    | succ m ih =>
      intro h
      show (if j = m then decide (M.1 2 m = 1) else fr (was1 M) m (fun _ => false) j) = _
      by_cases z : j = m
      · rw [if_pos z, z]
      · rw [if_neg z]; exact ih (by omega)
  exact key n hj
set_option maxHeartbeats 600000 in
set_option maxRecDepth 20000 in
theorem law_a {p : Program} {l : Launch} {e : Env} {s : State} {m : MethodId} {args : Array Value} {below : List Frame} {meth : Method} {c : Code} {G : gG} {hv : Nat → Nat} {A : Nat → Prop} {Q : State → Prop} {b N : Nat} {xs : Nat → Int32} {i : Nat} {k0 n0 n r : Nat} {M : Md} {K D : St} {B : Sr} (C : Cx p s m args c cL_law 23 RL G A) (S : Cs l s A b N xs) (I : LI n r B K M) (hh : hv 1000 = b) (hN : N < 2 ^ 31) (hi : i < 30) (hk : k0 + 42 ≤ 600104) (hn : n0 + 300 ≤ 7301314) (kk : ∀ (h' : Nat → Nat) (x : Int32), (∀ q, q < 415 ∨ 419 < q → h' q = hv q) → Y p l e room_1 s m args below meth c 23 G A h' Q (k0 + 42) (n0 + 300) (gW (xW K D B) n r M (tU (fun _ => none) 417 (some (.inl (1, n, .inl (fun j => bI (decide (M.1 2 j = 1)))))))) 100 [(0, .ref 1000), (1, .ref 0), (2, .ref 100), (3, .int (nI i)), (4, .int x), (5, .int (nI n)), (6, .ref 417)] []) : Y p l e room_1 s m args below meth c 23 G A hv Q (k0) (n0) (gW (xW K D B) n r M (fun _ => none)) 28 [(0, .ref 1000), (1, .ref 0), (2, .ref 100), (3, .int (nI i))] [] := by
  have h40 := I.h40
  have h30 := I.h30
  have hC := okC_x K D B
  refine Y_aload_n C dL_law_28 rfl rfl ?_
  refine Y_iload_n C dL_law_29 rfl rfl ?_
  refine Y_bipush C (v := 16) dL_law_30 (by decide) ?_
  refine Y_irem C (v := nI (i % 16)) dL_law_32 (by decide) (rem_nI (n := 16) (by omega) (by omega)) ?_
  refine Y_callSs C S hh (c_L_cell (j := i % 16) (by omega) hN) m_L_cell g_431 dL_law_33 rfl rfl ⟨Nat.le_of_ble_eq_true rfl, Nat.le_of_ble_eq_true rfl⟩ ⟨by show k0 + 0 ≤ 600104; omega, by show n0 + 0 ≤ 7301314; omega⟩ (Nat.le_of_ble_eq_true rfl) ⟨(by first | trivial | (unfold vR; (try dsimp only); omega)), (by first | trivial | (unfold vR; (try dsimp only); omega)), (by first | trivial | (unfold vR; (try dsimp only); omega)), trivial, trivial⟩ trivial (fun h1 r1 w1 ag1 F1 => ?_)
  obtain ⟨rfl, rfl⟩ := F1
  refine Y_stk [.int (cel N xs (i % 16))] rfl ?_
  refine Y_iload_n C dL_law_36 rfl rfl ?_
  refine Y_bipush C (v := 16) dL_law_37 (by decide) ?_
  refine Y_idiv C (v := (nI i) / 16) dL_law_39 (by decide) rfl ?_
  refine Y_iconst C (v := 3) dL_law_40 (by decide) ?_
  refine Y_imul C (v := ((nI i) / 16) * 3) dL_law_41 rfl ?_
  refine Y_ishr C (v := (cel N xs (i % 16)) >>> ((((nI i) / 16) * 3) &&& 31)) dL_law_42 rfl ?_
  refine Y_bipush C (v := 113) dL_law_43 (by decide) ?_
  refine Y_iload_n C dL_law_45 rfl rfl ?_
  refine Y_imul C (v := 113 * (nI i)) dL_law_46 rfl ?_
  refine Y_iadd C (v := ((cel N xs (i % 16)) >>> ((((nI i) / 16) * 3) &&& 31)) + (113 * (nI i))) dL_law_47 rfl ?_
  generalize ((cel N xs (i % 16)) >>> ((((nI i) / 16) * 3) &&& 31)) + (113 * (nI i)) = x
  refine Y_istore C (L' := [(4, .int x), (0, .ref 1000), (1, .ref 0), (2, .ref 100), (3, .int (nI i))]) dL_law_48 (by decide) rfl ?_
  refine Y_aload_n C dL_law_50 rfl rfl ?_
  refine Y_iconst C (v := 1) dL_law_51 (by decide) ?_
  obtain ⟨y0, y1⟩ := go_count I (w := 1) (by decide)
  refine Y_stk [.int (nI 1), .ref 0] rfl ?_
  refine Y_callG (K' := K) (D' := D) (B' := B) C S (c_X2_count K D B (nI 1) I.kn h40 I.br h30) y0 m_X2_count K2 g_256 dL_law_52 rfl rfl ⟨Nat.le_of_ble_eq_true rfl, Nat.le_of_ble_eq_true rfl⟩ ⟨by show k0 + 0 + 1 ≤ 600104; omega, by show n0 + 0 + 6 ≤ 7301314; omega⟩ (Nat.le_of_ble_eq_true rfl) ?_
  refine Y_stk [.int ((cCount K B (nI 1)).2)] rfl ?_
  refine Y_stk [.int (nI n)] (by rw [y1, ct_1 I]) ?_
  refine Y_istore C (L' := [(5, .int (nI n)), (4, .int x), (0, .ref 1000), (1, .ref 0), (2, .ref 100), (3, .int (nI i))]) dL_law_55 (by decide) rfl ?_
  refine Y_iload C dL_law_57 rfl ?_
  refine Y_newz C (N := n) 417 dL_law_59 g_86 (nI_pos (by omega)) (nI_clamp (by omega)) (by show n * 1 ≤ _; omega) ⟨by show k0 + 0 + 1 + 1 ≤ 600104; omega, by show n0 + 0 + 6 + n ≤ 7301314; omega⟩ (gW_N h40 h30 hC (fun i e h => by cases h) (by decide)) ⟨trivial, trivial, (by first | trivial | (unfold vR; (try dsimp only); omega)), (by first | trivial | (unfold vR; (try dsimp only); omega)), (by first | trivial | (unfold vR; (try dsimp only); omega)), trivial, trivial⟩ trivial (fun h2 ag2 => ?_)
  refine Y_eq (gW_tU (by decide)) ?_
  refine Y_eq (w' := gW (xW K D B) n r M (tU (fun _ => none) 417 (some (.inl (1, n, .inl (fun j => bI ((fun _ => false) j))))))) rfl ?_
  refine Y_astore C (L' := [(6, .ref 417), (5, .int (nI n)), (4, .int x), (0, .ref 1000), (1, .ref 0), (2, .ref 100), (3, .int (nI i))]) dL_law_61 (by decide) rfl ?_
  refine Y_iconst C (v := nI 0) dL_law_63 (by decide) ?_
  refine Y_istore C (L' := [(7, .int (nI 0)), (6, .ref 417), (5, .int (nI n)), (4, .int x), (0, .ref 1000), (1, .ref 0), (2, .ref 100), (3, .int (nI i))]) dL_law_64 (by decide) rfl ?_
  refine Y_widen (k' := k0 + 2 + 0) (n' := n0 + 60 + 6 * 0) (by omega) (by omega) ?_
  refine Zfor (σ := Nat → Bool) (fun i3 X3 => Y p l e _ s m args below meth c 23 G A h2 _ (k0 + 2 + i3) (n0 + 60 + 6 * i3) (gW (xW K D B) n r M (tU (fun _ => none) 417 (some (.inl (1, n, .inl (fun j => bI (X3 j))))))) 66 [(7, .int (nI i3)), (6, .ref 417), (5, .int (nI n)), (4, .int x), (0, .ref 1000), (1, .ref 0), (2, .ref 100), (3, .int (nI i))] []) (fun i3 X3 => True) (was1 M) n (fun _ => false) trivial (fun _ _ _ _ => trivial) (fun X3 hX3 eX3 => ?_) (fun i3 X3 hi3 hX3 hX3' kk3 => ?_)
  · skip
    refine Y_iload C dL_law_66 rfl ?_
    refine Y_iload C dL_law_68 rfl ?_
    refine Y_icmp_ge C 100 dL_law_70 (by decide) (fun cc4 => ?_) (fun cc4 => absurd (Int32.le_refl _) cc4)
    refine Y_sub (L' := [(6, .ref 417), (5, .int (nI n)), (4, .int x), (0, .ref 1000), (1, .ref 0), (2, .ref 100), (3, .int (nI i))]) (by simp) ?_
    refine Y_sub (L' := [(0, .ref 1000), (1, .ref 0), (2, .ref 100), (3, .int (nI i)), (4, .int x), (5, .int (nI n)), (6, .ref 417)]) (by simp) ?_
    refine Y_widen (k' := k0 + 42) (n' := n0 + 300) (by omega) (by omega) ?_
    refine Y_fn (fun j => bI (decide (M.1 2 j = 1))) ((gW_hi (by decide)).trans (tU_s _ _ _)) (fun j hj => by rw [eX3, wasF hj]) ?_
    refine Y_eq (w' := gW (xW K D B) n r M (tU (fun _ => none) 417 (some (.inl (1, n, .inl (fun j => bI (decide (M.1 2 j = 1)))))))) ((gW_tU (by decide)).trans (congrArg _ (tU_tU _ _ _ _))) ?_
    exact kk _ x (fun i hi => ((ag2 i (by first | trivial | exact hi | ((try unfold kpA at hi); (try unfold kpA); (try dsimp only at hi); (try dsimp only); omega))).trans (ag1 i (by first | trivial | exact hi | ((try unfold kpA at hi); (try unfold kpA); (try dsimp only at hi); (try dsimp only); omega)))))
  · skip
    refine Y_iload C dL_law_66 rfl ?_
    refine Y_iload C dL_law_68 rfl ?_
    refine Y_icmp_ge C 100 dL_law_70 (by decide) (fun cc5 => absurd cc5 (nI_ge hi3 (by omega))) (fun cc5 => ?_)
    refine Y_aload C dL_law_73 rfl ?_
    refine Y_iload C dL_law_75 rfl ?_
    refine Y_aload_n C dL_law_77 rfl rfl ?_
    refine Y_iload C dL_law_78 rfl ?_
    refine Y_iconst C (v := 2) dL_law_80 (by decide) ?_
    obtain ⟨sa6, sb6⟩ := go_stone I (w := 2) hi3 (by decide)
    refine Y_stk [.int (nI 2), .int (nI i3), .ref 0, .int (nI i3), .ref 417] rfl ?_
    refine Y_callG (K' := K) (D' := D) (B' := B) C S (c_X2_stone K D B (nI i3) (nI 2) I.kn h40 I.br h30) sa6 m_X2_stone K2 g_235 dL_law_81 rfl rfl ⟨Nat.le_of_ble_eq_true rfl, Nat.le_of_ble_eq_true rfl⟩ ⟨by show k0 + 2 + i3 + 1 ≤ 600104; omega, by show n0 + 60 + 6 * i3 + 6 ≤ 7301314; omega⟩ (Nat.le_of_ble_eq_true rfl) ?_
    refine Y_stk [.int ((cStone K (nI i3) (nI 2)).2), .int (nI i3), .ref 417] rfl ?_
    refine Y_stk [.int (M.1 2 i3), .int (nI i3), .ref 417] (by rw [sb6, tl_row (by decide)]) ?_
    refine Y_iconst C (v := 1) dL_law_84 (by decide) ?_
    refine Y_icmp_ne C 92 dL_law_85 (by decide) (fun cc7 => ?_) (fun cc7 => ?_)
    · refine Y_iconst C (v := 0) dL_law_92 (by decide) ?_
      refine Y_zsN C (b := false) dL_law_93 ((gW_hi (by decide)).trans (tU_s _ _ _)) rfl hi3 (by omega) (w' := gW (xW K D B) n r M (tU (fun _ => none) 417 (some (.inl (1, n, .inl (fun j => bI ((if j = i3 then false else X3 j)))))))) ((gW_tU (by decide)).trans (congrArg _ (tU_tU _ _ _ _))) ?_
      refine Y_iinc C (L' := [(7, .int (nI (i3 + 1))), (6, .ref 417), (5, .int (nI n)), (4, .int x), (0, .ref 1000), (1, .ref 0), (2, .ref 100), (3, .int (nI i))]) (v := nI (i3 + 1)) dL_law_94 rfl (nI_inc _) (by decide) rfl ?_
      refine Y_goto C 66 dL_law_97 (by decide) ?_
      refine Y_widen (k' := k0 + 2 + (i3 + 1)) (n' := n0 + 60 + 6 * (i3 + 1)) (by omega) (by omega) ?_
      rw [show was1 M i3 X3 = fun j => if j = i3 then false else X3 j from by unfold was1; rw [decide_eq_false cc7]] at kk3
      exact Y_sub (by simp [bI_t, bI_f]) (kk3)
    · refine Y_iconst C (v := 1) dL_law_88 (by decide) ?_
      refine Y_goto C 93 dL_law_89 (by decide) ?_
      refine Y_zsN C (b := true) dL_law_93 ((gW_hi (by decide)).trans (tU_s _ _ _)) rfl hi3 (by omega) (w' := gW (xW K D B) n r M (tU (fun _ => none) 417 (some (.inl (1, n, .inl (fun j => bI ((if j = i3 then true else X3 j)))))))) ((gW_tU (by decide)).trans (congrArg _ (tU_tU _ _ _ _))) ?_
      refine Y_iinc C (L' := [(7, .int (nI (i3 + 1))), (6, .ref 417), (5, .int (nI n)), (4, .int x), (0, .ref 1000), (1, .ref 0), (2, .ref 100), (3, .int (nI i))]) (v := nI (i3 + 1)) dL_law_94 rfl (nI_inc _) (by decide) rfl ?_
      refine Y_goto C 66 dL_law_97 (by decide) ?_
      refine Y_widen (k' := k0 + 2 + (i3 + 1)) (n' := n0 + 60 + 6 * (i3 + 1)) (by omega) (by omega) ?_
      rw [show was1 M i3 X3 = fun j => if j = i3 then true else X3 j from by unfold was1; rw [decide_eq_true cc7]] at kk3
      exact Y_sub (by simp [bI_t, bI_f]) (kk3)
