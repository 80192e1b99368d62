/-! the law's body: every stone -/
def gth (M : Md) (i : Nat) (a : Int32) : Int32 := a + (if M.1 2 i = 0 then 0 else 1)
def gsp (M : Md) (i : Nat) (a : Int32) : Int32 := a + (if M.1 2 i = 0 then 0 else if M.1 3 i ≤ 0 then 0 else 1)
theorem gth_t (M : Md) : ∀ i a, gth M i a = a + (fun i => if M.1 2 i = 0 then 0 else 1) i := fun _ _ => rfl
theorem gsp_t (M : Md) : ∀ i a, gsp M i a = a + (fun i => if M.1 2 i = 0 then 0 else if M.1 3 i ≤ 0 then 0 else 1) i := fun _ _ => rfl
theorem jp1_t (M : Md) : ∀ i a, jp1 M i a = a + (fun i => if M.1 2 i = 0 then 0 else M.1 3 i) i := fun _ _ => rfl
theorem ct2_g {n r : Nat} {B : Sr} {K : St} {M : Md} (h : LI n r B K M) : mCt (mRk M) 2 = fr (gth M) n 0 := by
  rw [ct_2 h]
  refine fr_eq n 0 fun i s hi => ?_
  unfold mHa1 gth
  rcases LI_h01 h i hi with c | c
  · rw [if_pos c, c]
  · rw [if_neg (by rw [c]; decide), c]
theorem ct3_g {n r : Nat} {B : Sr} {K : St} {M : Md} (h : LI n r B K M) : mCt (mRk M) 3 = fr (gsp M) n 0 := by
  rw [ct_fr h (Or.inl rfl)]
  refine fr_eq n 0 fun i s hi => ?_
  unfold gsp
  have e : mc1 (mRk M) 3 i s = if mHg (mRk M) i then s + (if (mRk M).1 3 i ≤ 0 then 0 else 1) else s := by simp [mc1]
  rw [e, hg_if h hi, mt_Rk]
  by_cases c : M.1 2 i = 0
  · rw [if_pos c, if_pos c, Int32.add_zero]
  · rw [if_neg c, if_neg c]
set_option maxHeartbeats 1000000 in
set_option maxRecDepth 20000 in
theorem law_d {p : Program} {l : Launch} {e : Env} {s : State} {m : MethodId} {args : Array Value} {below : List Frame} {meth : Method} {c : Code} {G : gG} {hv : Nat → Nat} {A : Nat → Prop} {Q : State → Prop} {b N : Nat} {xs : Nat → Int32} {i wh : Nat} {x : Int32} {k0 n0 n r : Nat} {M : Md} {K D : St} {B : Sr} (C : Cx p s m args c cL_law 23 RL G A) (S : Cs l s A b N xs) (I : LI n r B K M) (hi : i < 30) (hwh : wh < n) (hk : k0 + 1400 ≤ 600104) (hn : n0 + 9800 ≤ 7301314) (kk : ∀ (h' : Nat → Nat) (D2 : St), (∀ q, kpA q ∧ q ≠ 418 → h' q = hv q) → Y p l e room_1 s m args below meth c 23 G A h' Q (k0 + 1400) (n0 + 9800) (gW (xW K D2 B) n r M (fun _ => none)) 817 [(0, .ref 1000), (1, .ref 0), (2, .ref 100), (3, .int (nI i)), (7, .int (nI wh))] []) : Y p l e room_1 s m args below meth c 23 G A hv Q (k0) (n0) (gW (xW K D B) n r M (fun _ => none)) 330 [(0, .ref 1000), (1, .ref 0), (2, .ref 100), (3, .int (nI i)), (4, .int x), (5, .int (nI n)), (7, .int (nI wh)), (10, .int (mCt (mRk M) 2))] [] := by
  have h40 := I.h40
  have h30 := I.h30
  have hC := okC_x K D B
  refine Y_iconst C (v := 0) dL_law_330 (by decide) ?_
  refine Y_istore C (L' := [(14, .int 0), (0, .ref 1000), (1, .ref 0), (2, .ref 100), (3, .int (nI i)), (4, .int x), (5, .int (nI n)), (7, .int (nI wh)), (10, .int (mCt (mRk M) 2))]) dL_law_331 (by decide) rfl ?_
  refine Y_iconst C (v := 0) dL_law_333 (by decide) ?_
  refine Y_istore C (L' := [(15, .int 0), (14, .int 0), (0, .ref 1000), (1, .ref 0), (2, .ref 100), (3, .int (nI i)), (4, .int x), (5, .int (nI n)), (7, .int (nI wh)), (10, .int (mCt (mRk M) 2))]) dL_law_334 (by decide) rfl ?_
  refine Y_iconst C (v := 0) dL_law_336 (by decide) ?_
  refine Y_istore C (L' := [(16, .int 0), (15, .int 0), (14, .int 0), (0, .ref 1000), (1, .ref 0), (2, .ref 100), (3, .int (nI i)), (4, .int x), (5, .int (nI n)), (7, .int (nI wh)), (10, .int (mCt (mRk M) 2))]) dL_law_337 (by decide) rfl ?_
  refine Y_iload C dL_law_339 rfl ?_
  refine Y_newi C (N := n) 418 dL_law_341 g_85 (nI_pos (by omega)) (nI_clamp (by omega)) (by show n * 4 ≤ _; omega) ⟨by show k0 + 1 ≤ 600104; omega, by show n0 + n ≤ 7301314; omega⟩ (gW_N h40 h30 hC (fun i e h => by cases h) (by decide)) ⟨trivial, trivial, trivial, (by first | trivial | (unfold vR; (try dsimp only); omega)), (by first | trivial | (unfold vR; (try dsimp only); omega)), (by first | trivial | (unfold vR; (try dsimp only); omega)), trivial, trivial, trivial, trivial, trivial, trivial⟩ trivial (fun h1 ag1 => ?_)
  refine Y_eq (gW_tU (by decide)) ?_
  refine Y_astore C (L' := [(17, .ref 418), (16, .int 0), (15, .int 0), (14, .int 0), (0, .ref 1000), (1, .ref 0), (2, .ref 100), (3, .int (nI i)), (4, .int x), (5, .int (nI n)), (7, .int (nI wh)), (10, .int (mCt (mRk M) 2))]) dL_law_343 (by decide) rfl ?_
  refine Y_iload C dL_law_345 rfl ?_
  refine Y_iconst C (v := 1) dL_law_347 (by decide) ?_
  refine Y_isub C (v := dn n) dL_law_348 (dn_sub n) ?_
  refine Y_istore C (L' := [(18, .int (dn n)), (17, .ref 418), (16, .int 0), (15, .int 0), (14, .int 0), (0, .ref 1000), (1, .ref 0), (2, .ref 100), (3, .int (nI i)), (4, .int x), (5, .int (nI n)), (7, .int (nI wh)), (10, .int (mCt (mRk M) 2))]) dL_law_349 (by decide) rfl ?_
  refine Y_sub (L' := [(18, .int (dn n)), (17, .ref 418), (16, .int 0), (15, .int 0), (14, .int 0), (0, .ref 1000), (1, .ref 0), (2, .ref 100), (3, .int (nI i)), (5, .int (nI n)), (7, .int (nI wh)), (10, .int (mCt (mRk M) 2))]) (by simp) ?_
  refine Y_sub (L' := [(0, .ref 1000), (1, .ref 0), (2, .ref 100), (3, .int (nI i)), (5, .int (nI n)), (7, .int (nI wh)), (10, .int (mCt (mRk M) 2)), (14, .int 0), (15, .int 0), (16, .int 0), (17, .ref 418), (18, .int (dn n))]) (by simp) ?_
  have key : ∀ (m1 : Nat), m1 ≤ n → ∀ (hx : Nat → Nat) (D : St) (P : Nat → Int32) (th sp al : Int32), (∀ q, kpA q ∧ q ≠ 418 → hx q = hv q) → PK n M m1 P → fr (gth M) m1 th = fr (gth M) n 0 → fr (gsp M) m1 sp = fr (gsp M) n 0 → fr (jp1 M) m1 al = fr (jp1 M) n 0 → Y p l e room_1 s m args below meth c 23 G A hx Q (k0 + 1 + 34 * (n - m1)) (n0 + 40 + 240 * (n - m1)) (gW (xW K D B) n r M (tU (fun _ => none) 418 (some (.inl (0, n, .inl (P)))))) 351 [(0, .ref 1000), (1, .ref 0), (2, .ref 100), (3, .int (nI i)), (5, .int (nI n)), (7, .int (nI wh)), (10, .int (mCt (mRk M) 2)), (14, .int th), (15, .int sp), (16, .int al), (17, .ref 418), (18, .int (dn m1))] [] := by
    intro m1
    induction m1 with
    | zero =>
      intro hm hx D P th sp al av hP h1 h2 h3
      refine Y_iload C dL_law_351 rfl ?_
      refine Y_if_lt C 788 dL_law_353 (by decide) (fun cc2 => ?_) (fun cc2 => absurd (by decide) cc2)
      have e1 : th = mCt (mRk M) 2 := h1.trans (ct2_g I).symm
      have e2 : mCt (mRk M) 3 = sp := (ct3_g I).trans h2.symm
      have e3 : mCt (mRk M) 5 = al := (ct_5 I).trans h3.symm
      refine Y_iload C dL_law_788 rfl ?_
      refine Y_iload C dL_law_790 rfl ?_
      refine Y_icmp_ne C 815 dL_law_792 (by decide) (fun cc3 => absurd e1 cc3) (fun cc3 => ?_)
      refine Y_aload_n C dL_law_795 rfl rfl ?_
      refine Y_iconst C (v := 3) dL_law_796 (by decide) ?_
      obtain ⟨u03, u13⟩ := go_count I (w := 3) (by decide)
      refine Y_stk [.int (nI 3), .ref 0] rfl ?_
      refine Y_callG (K' := K) (D' := D) (B' := B) C S (c_X2_count K D B (nI 3) I.kn h40 I.br h30) u03 m_X2_count K2 g_256 dL_law_797 rfl rfl ⟨Nat.le_of_ble_eq_true rfl, Nat.le_of_ble_eq_true rfl⟩ ⟨by show k0 + 1 + 34 * (n - 0) + 1 ≤ 600104; omega, by show n0 + 40 + 240 * (n - 0) + 6 ≤ 7301314; omega⟩ (Nat.le_of_ble_eq_true rfl) ?_
      refine Y_stk [.int ((cCount K B (nI 3)).2)] rfl ?_
      refine Y_stk [.int (mCt (mRk M) 3)] (by rw [u13]) ?_
      refine Y_iload C dL_law_800 rfl ?_
      refine Y_icmp_ne C 815 dL_law_802 (by decide) (fun cc4 => absurd e2 cc4) (fun cc4 => ?_)
      refine Y_aload_n C dL_law_805 rfl rfl ?_
      refine Y_iconst C (v := 5) dL_law_806 (by decide) ?_
      obtain ⟨u05, u15⟩ := go_count I (w := 5) (by decide)
      refine Y_stk [.int (nI 5), .ref 0] rfl ?_
      refine Y_callG (K' := K) (D' := D) (B' := B) C S (c_X2_count K D B (nI 5) I.kn h40 I.br h30) u05 m_X2_count K2 g_256 dL_law_807 rfl rfl ⟨Nat.le_of_ble_eq_true rfl, Nat.le_of_ble_eq_true rfl⟩ ⟨by show k0 + 1 + 34 * (n - 0) + 1 + 1 ≤ 600104; omega, by show n0 + 40 + 240 * (n - 0) + 6 + 6 ≤ 7301314; omega⟩ (Nat.le_of_ble_eq_true rfl) ?_
      refine Y_stk [.int ((cCount K B (nI 5)).2)] rfl ?_
      refine Y_stk [.int (mCt (mRk M) 5)] (by rw [u15]) ?_
      refine Y_iload C dL_law_810 rfl ?_
      refine Y_icmp_eq C 817 dL_law_812 (by decide) (fun cc5 => ?_) (fun cc5 => absurd e3 cc5)
      refine Y_sub (L' := [(0, .ref 1000), (1, .ref 0), (2, .ref 100), (3, .int (nI i)), (7, .int (nI wh))]) (by simp) ?_
      refine Y_widen (k' := k0 + 1400) (n' := n0 + 9800) (by omega) (by omega) ?_
      refine Y_less (w' := gW (xW K D B) n r M (fun _ => none)) (gW_less (fun i e h => by cases h)) ?_
      exact kk _ D (fun i hi => av i hi)
    | succ m ih =>
      intro hm hx D P th sp al av hP h1 h2 h3
      have hm1 : m < n := by omega
      refine Y_pc (L := [(0, .ref 1000), (1, .ref 0), (2, .ref 100), (3, .int (nI i)), (5, .int (nI n)), (7, .int (nI wh)), (10, .int (mCt (mRk M) 2)), (14, .int th), (15, .int sp), (16, .int al), (17, .ref 418), (18, .int (nI m))]) rfl ?_
      obtain ⟨o4, o5, f4, d45, f2, f3, b2, -⟩ := I.2.2.1 m hm1
      have hPs := PK_step I hm1 hP
      have hPm := PK_at I hm1 hP
      have hld := ld_eq I hm1
      refine Y_iload C dL_law_351 rfl ?_
      refine Y_if_lt C 788 dL_law_353 (by decide) (fun cc6 => absurd cc6 (nI_pos (by omega))) (fun cc6 => ?_)
      refine Y_aload_n C dL_law_356 rfl rfl ?_
      refine Y_iload C dL_law_357 rfl ?_
      refine Y_iconst C (v := 4) dL_law_359 (by decide) ?_
      obtain ⟨sa7, sb7⟩ := go_stone I (w := 4) hm1 (by decide)
      refine Y_stk [.int (nI 4), .int (nI m), .ref 0] rfl ?_
      refine Y_callG (K' := K) (D' := D) (B' := B) C S (c_X2_stone K D B (nI m) (nI 4) I.kn h40 I.br h30) sa7 m_X2_stone K2 g_235 dL_law_360 rfl rfl ⟨Nat.le_of_ble_eq_true rfl, Nat.le_of_ble_eq_true rfl⟩ ⟨by show k0 + 1 + 34 * (n - (m + 1)) + 1 ≤ 600104; omega, by show n0 + 40 + 240 * (n - (m + 1)) + 6 ≤ 7301314; omega⟩ (Nat.le_of_ble_eq_true rfl) ?_
      refine Y_stk [.int ((cStone K (nI m) (nI 4)).2)] rfl ?_
      refine Y_stk [.int (M.1 4 m)] (by rw [sb7, tl_row (by decide)]) ?_
      refine Y_istore C (L' := [(19, .int (M.1 4 m)), (0, .ref 1000), (1, .ref 0), (2, .ref 100), (3, .int (nI i)), (5, .int (nI n)), (7, .int (nI wh)), (10, .int (mCt (mRk M) 2)), (14, .int th), (15, .int sp), (16, .int al), (17, .ref 418), (18, .int (nI m))]) dL_law_363 (by decide) rfl ?_
      refine Y_aload_n C dL_law_365 rfl rfl ?_
      refine Y_iload C dL_law_366 rfl ?_
      refine Y_iconst C (v := 5) dL_law_368 (by decide) ?_
      obtain ⟨sa8, sb8⟩ := go_stone I (w := 5) hm1 (by decide)
      refine Y_stk [.int (nI 5), .int (nI m), .ref 0] rfl ?_
      refine Y_callG (K' := K) (D' := D) (B' := B) C S (c_X2_stone K D B (nI m) (nI 5) I.kn h40 I.br h30) sa8 m_X2_stone K2 g_235 dL_law_369 rfl rfl ⟨Nat.le_of_ble_eq_true rfl, Nat.le_of_ble_eq_true rfl⟩ ⟨by show k0 + 1 + 34 * (n - (m + 1)) + 1 + 1 ≤ 600104; omega, by show n0 + 40 + 240 * (n - (m + 1)) + 6 + 6 ≤ 7301314; omega⟩ (Nat.le_of_ble_eq_true rfl) ?_
      refine Y_stk [.int ((cStone K (nI m) (nI 5)).2)] rfl ?_
      refine Y_stk [.int (M.1 5 m)] (by rw [sb8, tl_row (by decide)]) ?_
      refine Y_istore C (L' := [(20, .int (M.1 5 m)), (19, .int (M.1 4 m)), (0, .ref 1000), (1, .ref 0), (2, .ref 100), (3, .int (nI i)), (5, .int (nI n)), (7, .int (nI wh)), (10, .int (mCt (mRk M) 2)), (14, .int th), (15, .int sp), (16, .int al), (17, .ref 418), (18, .int (nI m))]) dL_law_372 (by decide) rfl ?_
      refine Y_aload_n C dL_law_374 rfl rfl ?_
      refine Y_iload C dL_law_375 rfl ?_
      refine Y_bipush C (v := 7) dL_law_377 (by decide) ?_
      obtain ⟨sa9, sb9⟩ := go_stone I (w := 7) hm1 (by decide)
      refine Y_stk [.int (nI 7), .int (nI m), .ref 0] rfl ?_
      refine Y_callG (K' := K) (D' := D) (B' := B) C S (c_X2_stone K D B (nI m) (nI 7) I.kn h40 I.br h30) sa9 m_X2_stone K2 g_235 dL_law_379 rfl rfl ⟨Nat.le_of_ble_eq_true rfl, Nat.le_of_ble_eq_true rfl⟩ ⟨by show k0 + 1 + 34 * (n - (m + 1)) + 1 + 1 + 1 ≤ 600104; omega, by show n0 + 40 + 240 * (n - (m + 1)) + 6 + 6 + 6 ≤ 7301314; omega⟩ (Nat.le_of_ble_eq_true rfl) ?_
      refine Y_stk [.int ((cStone K (nI m) (nI 7)).2)] rfl ?_
      refine Y_stk [.int (tl M m 7)] (by rw [sb9]) ?_
      refine Y_istore C (L' := [(21, .int (tl M m 7)), (20, .int (M.1 5 m)), (19, .int (M.1 4 m)), (0, .ref 1000), (1, .ref 0), (2, .ref 100), (3, .int (nI i)), (5, .int (nI n)), (7, .int (nI wh)), (10, .int (mCt (mRk M) 2)), (14, .int th), (15, .int sp), (16, .int al), (17, .ref 418), (18, .int (nI m))]) dL_law_382 (by decide) rfl ?_
      refine Y_aload_n C dL_law_384 rfl rfl ?_
      refine Y_iload C dL_law_385 rfl ?_
      refine Y_iconst C (v := 2) dL_law_387 (by decide) ?_
      obtain ⟨sa10, sb10⟩ := go_stone I (w := 2) hm1 (by decide)
      refine Y_stk [.int (nI 2), .int (nI m), .ref 0] rfl ?_
      refine Y_callG (K' := K) (D' := D) (B' := B) C S (c_X2_stone K D B (nI m) (nI 2) I.kn h40 I.br h30) sa10 m_X2_stone K2 g_235 dL_law_388 rfl rfl ⟨Nat.le_of_ble_eq_true rfl, Nat.le_of_ble_eq_true rfl⟩ ⟨by show k0 + 1 + 34 * (n - (m + 1)) + 1 + 1 + 1 + 1 ≤ 600104; omega, by show n0 + 40 + 240 * (n - (m + 1)) + 6 + 6 + 6 + 6 ≤ 7301314; omega⟩ (Nat.le_of_ble_eq_true rfl) ?_
      refine Y_stk [.int ((cStone K (nI m) (nI 2)).2)] rfl ?_
      refine Y_stk [.int (M.1 2 m)] (by rw [sb10, tl_row (by decide)]) ?_
      refine Y_if_ne C 473 dL_law_391 (by decide) (fun cc11 => ?_) (fun cc11 => ?_)
      · have sX := LI_sp I hm1
        have hone : M.1 2 m = 1 := b2.resolve_left cc11
        have s1 := dn_step (gth_t M) h1
        have s2 := dn_step (gsp_t M) h2
        have s3 := dn_step (jp1_t M) h3
        rw [if_neg cc11] at s1 s2 s3
        have hup := up_ok I 40 m (by omega) hm1 hone
        have ld9 : tl M m 7 = mx 0 (M.1 0 m + P m - M.1 6 m) := by rw [hPm, tl_7, hld]; exact if_neg cc11
        by_cases hp : M.1 3 m ≤ 0
        · have hpw : ¬ M.1 3 (mUp 40 M m) = 0 := fun z => by
            rcases (LI_sp I hup.1).2.1 (by rw [hup.2.1]; decide) with q | q
            · rw [z] at q; exact absurd q (by decide)
            · exact q hup.2.2
          have c49 := (sX.2.1 cc11).resolve_left (Int32.not_lt.mpr hp)
          obtain ⟨ff, hff, c4, hf1⟩ := (LI_ho I hm1 (Or.inl rfl)).resolve_left c49
          have hfn : ff < n := by omega
          rcases LI_ho I hm1 (Or.inr rfl) with c5 | ⟨gg, hgg9, c5, hg1⟩
          · refine Y_iinc C (L' := [(14, .int (th + 1)), (21, .int (tl M m 7)), (20, .int (M.1 5 m)), (19, .int (M.1 4 m)), (0, .ref 1000), (1, .ref 0), (2, .ref 100), (3, .int (nI i)), (5, .int (nI n)), (7, .int (nI wh)), (10, .int (mCt (mRk M) 2)), (15, .int sp), (16, .int al), (17, .ref 418), (18, .int (nI m))]) (v := th + 1) dL_law_473 rfl rfl (by decide) rfl ?_
            refine Y_iload C dL_law_476 rfl ?_
            refine Y_aload_n C dL_law_478 rfl rfl ?_
            refine Y_iload C dL_law_479 rfl ?_
            refine Y_iconst C (v := 3) dL_law_481 (by decide) ?_
            obtain ⟨sa12, sb12⟩ := go_stone I (w := 3) hm1 (by decide)
            refine Y_stk [.int (nI 3), .int (nI m), .ref 0, .int sp] rfl ?_
            refine Y_callG (K' := K) (D' := D) (B' := B) C S (c_X2_stone K D B (nI m) (nI 3) I.kn h40 I.br h30) sa12 m_X2_stone K2 g_235 dL_law_482 rfl rfl ⟨Nat.le_of_ble_eq_true rfl, Nat.le_of_ble_eq_true rfl⟩ ⟨by show k0 + 1 + 34 * (n - (m + 1)) + 1 + 1 + 1 + 1 + 1 ≤ 600104; omega, by show n0 + 40 + 240 * (n - (m + 1)) + 6 + 6 + 6 + 6 + 6 ≤ 7301314; omega⟩ (Nat.le_of_ble_eq_true rfl) ?_
            refine Y_stk [.int ((cStone K (nI m) (nI 3)).2), .int sp] rfl ?_
            refine Y_stk [.int (M.1 3 m), .int sp] (by rw [sb12, tl_row (by decide)]) ?_
            refine Y_if_le C 492 dL_law_485 (by decide) (fun cc13 => ?_) (fun cc13 => absurd hp cc13)
            refine Y_iconst C (v := 0) dL_law_492 (by decide) ?_
            refine Y_iadd C (v := sp + 0) dL_law_493 rfl ?_
            refine Y_istore C (L' := [(15, .int (sp + 0)), (14, .int (th + 1)), (21, .int (tl M m 7)), (20, .int (M.1 5 m)), (19, .int (M.1 4 m)), (0, .ref 1000), (1, .ref 0), (2, .ref 100), (3, .int (nI i)), (5, .int (nI n)), (7, .int (nI wh)), (10, .int (mCt (mRk M) 2)), (16, .int al), (17, .ref 418), (18, .int (nI m))]) dL_law_494 (by decide) rfl ?_
            refine Y_iload C dL_law_496 rfl ?_
            refine Y_aload_n C dL_law_498 rfl rfl ?_
            refine Y_iload C dL_law_499 rfl ?_
            refine Y_iconst C (v := 3) dL_law_501 (by decide) ?_
            obtain ⟨sa14, sb14⟩ := go_stone I (w := 3) hm1 (by decide)
            refine Y_stk [.int (nI 3), .int (nI m), .ref 0, .int al] rfl ?_
            refine Y_callG (K' := K) (D' := D) (B' := B) C S (c_X2_stone K D B (nI m) (nI 3) I.kn h40 I.br h30) sa14 m_X2_stone K2 g_235 dL_law_502 rfl rfl ⟨Nat.le_of_ble_eq_true rfl, Nat.le_of_ble_eq_true rfl⟩ ⟨by show k0 + 1 + 34 * (n - (m + 1)) + 1 + 1 + 1 + 1 + 1 + 1 ≤ 600104; omega, by show n0 + 40 + 240 * (n - (m + 1)) + 6 + 6 + 6 + 6 + 6 + 6 ≤ 7301314; omega⟩ (Nat.le_of_ble_eq_true rfl) ?_
            refine Y_stk [.int ((cStone K (nI m) (nI 3)).2), .int al] rfl ?_
            refine Y_stk [.int (M.1 3 m), .int al] (by rw [sb14, tl_row (by decide)]) ?_
            refine Y_iadd C (v := al + (M.1 3 m)) dL_law_505 rfl ?_
            refine Y_istore C (L' := [(16, .int (al + (M.1 3 m))), (15, .int (sp + 0)), (14, .int (th + 1)), (21, .int (tl M m 7)), (20, .int (M.1 5 m)), (19, .int (M.1 4 m)), (0, .ref 1000), (1, .ref 0), (2, .ref 100), (3, .int (nI i)), (5, .int (nI n)), (7, .int (nI wh)), (10, .int (mCt (mRk M) 2)), (17, .ref 418), (18, .int (nI m))]) dL_law_506 (by decide) rfl ?_
            refine Y_aload_n C dL_law_508 rfl rfl ?_
            refine Y_iload C dL_law_509 rfl ?_
            refine Y_iconst C (v := 3) dL_law_511 (by decide) ?_
            obtain ⟨sa15, sb15⟩ := go_stone I (w := 3) hm1 (by decide)
            refine Y_stk [.int (nI 3), .int (nI m), .ref 0] rfl ?_
            refine Y_callG (K' := K) (D' := D) (B' := B) C S (c_X2_stone K D B (nI m) (nI 3) I.kn h40 I.br h30) sa15 m_X2_stone K2 g_235 dL_law_512 rfl rfl ⟨Nat.le_of_ble_eq_true rfl, Nat.le_of_ble_eq_true rfl⟩ ⟨by show k0 + 1 + 34 * (n - (m + 1)) + 1 + 1 + 1 + 1 + 1 + 1 + 1 ≤ 600104; omega, by show n0 + 40 + 240 * (n - (m + 1)) + 6 + 6 + 6 + 6 + 6 + 6 + 6 ≤ 7301314; omega⟩ (Nat.le_of_ble_eq_true rfl) ?_
            refine Y_stk [.int ((cStone K (nI m) (nI 3)).2)] rfl ?_
            refine Y_stk [.int (M.1 3 m)] (by rw [sb15, tl_row (by decide)]) ?_
            refine Y_if_le C 522 dL_law_515 (by decide) (fun cc16 => ?_) (fun cc16 => absurd hp cc16)
            refine Y_iconst C (v := 0) dL_law_522 (by decide) ?_
            refine Y_iload C dL_law_523 rfl ?_
            refine Y_if_lt C 532 dL_law_525 (by decide) (fun cc17 => absurd cc17 (by rw [c4]; exact nI_pos (by omega))) (fun cc17 => ?_)
            refine Y_iconst C (v := 1) dL_law_528 (by decide) ?_
            refine Y_goto C 533 dL_law_529 (by decide) ?_
            refine Y_icmp_eq C 575 dL_law_533 (by decide) (fun cc18 => absurd cc18 (by decide)) (fun cc18 => ?_)
            refine Y_aload_n C dL_law_536 rfl rfl ?_
            refine Y_iload C dL_law_537 rfl ?_
            refine Y_iconst C (v := 3) dL_law_539 (by decide) ?_
            obtain ⟨sa19, sb19⟩ := go_stone I (w := 3) hm1 (by decide)
            refine Y_stk [.int (nI 3), .int (nI m), .ref 0] rfl ?_
            refine Y_callG (K' := K) (D' := D) (B' := B) C S (c_X2_stone K D B (nI m) (nI 3) I.kn h40 I.br h30) sa19 m_X2_stone K2 g_235 dL_law_540 rfl rfl ⟨Nat.le_of_ble_eq_true rfl, Nat.le_of_ble_eq_true rfl⟩ ⟨by show k0 + 1 + 34 * (n - (m + 1)) + 1 + 1 + 1 + 1 + 1 + 1 + 1 + 1 ≤ 600104; omega, by show n0 + 40 + 240 * (n - (m + 1)) + 6 + 6 + 6 + 6 + 6 + 6 + 6 + 6 ≤ 7301314; omega⟩ (Nat.le_of_ble_eq_true rfl) ?_
            refine Y_stk [.int ((cStone K (nI m) (nI 3)).2)] rfl ?_
            refine Y_stk [.int (M.1 3 m)] (by rw [sb19, tl_row (by decide)]) ?_
            refine Y_if_le C 558 dL_law_543 (by decide) (fun cc20 => ?_) (fun cc20 => absurd hp cc20)
            refine Y_iload C dL_law_558 rfl ?_
            refine Y_if_lt C 577 dL_law_560 (by decide) (fun cc21 => ?_) (fun cc21 => absurd (by rw [c5]; decide) cc21)
            refine Y_aload_n C dL_law_577 rfl rfl ?_
            refine Y_iload C dL_law_578 rfl ?_
            refine Y_bipush C (v := 8) dL_law_580 (by decide) ?_
            obtain ⟨sa22, sb22⟩ := go_stone I (w := 8) hm1 (by decide)
            refine Y_stk [.int (nI 8), .int (nI m), .ref 0] rfl ?_
            refine Y_callG (K' := K) (D' := D) (B' := B) C S (c_X2_stone K D B (nI m) (nI 8) I.kn h40 I.br h30) sa22 m_X2_stone K2 g_235 dL_law_582 rfl rfl ⟨Nat.le_of_ble_eq_true rfl, Nat.le_of_ble_eq_true rfl⟩ ⟨by show k0 + 1 + 34 * (n - (m + 1)) + 1 + 1 + 1 + 1 + 1 + 1 + 1 + 1 + 1 ≤ 600104; omega, by show n0 + 40 + 240 * (n - (m + 1)) + 6 + 6 + 6 + 6 + 6 + 6 + 6 + 6 + 6 ≤ 7301314; omega⟩ (Nat.le_of_ble_eq_true rfl) ?_
            refine Y_stk [.int ((cStone K (nI m) (nI 8)).2)] rfl ?_
            refine Y_stk [.int (tl M m 8)] (by rw [sb22]) ?_
            refine Y_aload C dL_law_585 rfl ?_
            refine Y_iload C dL_law_587 rfl ?_
            refine Y_iald C (v := P m) dL_law_589 ((gW_hi (by decide)).trans (tU_s _ _ _)) (vp_in_nI hm1 (by omega)) (by rw [nI_clamp (by omega)] <;> rfl) ?_
            refine Y_icmp_ne C 639 dL_law_590 (by decide) (fun cc23 => absurd (hPm.trans rfl).symm cc23) (fun cc23 => ?_)
            refine Y_aload C dL_law_593 rfl ?_
            refine Y_iload C dL_law_595 rfl ?_
            refine Y_iald C (v := P m) dL_law_597 ((gW_hi (by decide)).trans (tU_s _ _ _)) (vp_in_nI hm1 (by omega)) (by rw [nI_clamp (by omega)] <;> rfl) ?_
            refine Y_aload_n C dL_law_598 rfl rfl ?_
            refine Y_iload C dL_law_599 rfl ?_
            refine Y_iconst C (v := 1) dL_law_601 (by decide) ?_
            obtain ⟨sa24, sb24⟩ := go_stone I (w := 1) hm1 (by decide)
            refine Y_stk [.int (nI 1), .int (nI m), .ref 0, .int (P m)] rfl ?_
            refine Y_callG (K' := K) (D' := D) (B' := B) C S (c_X2_stone K D B (nI m) (nI 1) I.kn h40 I.br h30) sa24 m_X2_stone K2 g_235 dL_law_602 rfl rfl ⟨Nat.le_of_ble_eq_true rfl, Nat.le_of_ble_eq_true rfl⟩ ⟨by show k0 + 1 + 34 * (n - (m + 1)) + 1 + 1 + 1 + 1 + 1 + 1 + 1 + 1 + 1 + 1 ≤ 600104; omega, by show n0 + 40 + 240 * (n - (m + 1)) + 6 + 6 + 6 + 6 + 6 + 6 + 6 + 6 + 6 + 6 ≤ 7301314; omega⟩ (Nat.le_of_ble_eq_true rfl) ?_
            refine Y_stk [.int ((cStone K (nI m) (nI 1)).2), .int (P m)] rfl ?_
            refine Y_stk [.int (M.1 1 m), .int (P m)] (by rw [sb24, tl_row (by decide)]) ?_
            refine Y_icmp_gt C 639 dL_law_605 (by decide) (fun cc25 => absurd cc25 (Int32.not_lt.mpr (by rw [hPm]; exact pull_le I hm1))) (fun cc25 => ?_)
            refine Y_iload C dL_law_608 rfl ?_
            refine Y_iconst C (v := 0) dL_law_610 (by decide) ?_
            refine Y_aload_n C dL_law_611 rfl rfl ?_
            refine Y_iload C dL_law_612 rfl ?_
            refine Y_iconst C (v := 0) dL_law_614 (by decide) ?_
            obtain ⟨sa26, sb26⟩ := go_stone I (w := 0) hm1 (by decide)
            refine Y_stk [.int (nI 0), .int (nI m), .ref 0, .int 0, .int (tl M m 7)] rfl ?_
            refine Y_callG (K' := K) (D' := D) (B' := B) C S (c_X2_stone K D B (nI m) (nI 0) I.kn h40 I.br h30) sa26 m_X2_stone K2 g_235 dL_law_615 rfl rfl ⟨Nat.le_of_ble_eq_true rfl, Nat.le_of_ble_eq_true rfl⟩ ⟨by show k0 + 1 + 34 * (n - (m + 1)) + 1 + 1 + 1 + 1 + 1 + 1 + 1 + 1 + 1 + 1 + 1 ≤ 600104; omega, by show n0 + 40 + 240 * (n - (m + 1)) + 6 + 6 + 6 + 6 + 6 + 6 + 6 + 6 + 6 + 6 + 6 ≤ 7301314; omega⟩ (Nat.le_of_ble_eq_true rfl) ?_
            refine Y_stk [.int ((cStone K (nI m) (nI 0)).2), .int 0, .int (tl M m 7)] rfl ?_
            refine Y_stk [.int (M.1 0 m), .int 0, .int (tl M m 7)] (by rw [sb26, tl_row (by decide)]) ?_
            refine Y_aload C dL_law_618 rfl ?_
            refine Y_iload C dL_law_620 rfl ?_
            refine Y_iald C (v := P m) dL_law_622 ((gW_hi (by decide)).trans (tU_s _ _ _)) (vp_in_nI hm1 (by omega)) (by rw [nI_clamp (by omega)] <;> rfl) ?_
            refine Y_iadd C (v := (M.1 0 m) + (P m)) dL_law_623 rfl ?_
            refine Y_aload_n C dL_law_624 rfl rfl ?_
            refine Y_iload C dL_law_625 rfl ?_
            refine Y_bipush C (v := 6) dL_law_627 (by decide) ?_
            obtain ⟨sa27, sb27⟩ := go_stone I (w := 6) hm1 (by decide)
            refine Y_stk [.int (nI 6), .int (nI m), .ref 0, .int ((M.1 0 m) + (P m)), .int 0, .int (tl M m 7)] rfl ?_
            refine Y_callG (K' := K) (D' := D) (B' := B) C S (c_X2_stone K D B (nI m) (nI 6) I.kn h40 I.br h30) sa27 m_X2_stone K2 g_235 dL_law_629 rfl rfl ⟨Nat.le_of_ble_eq_true rfl, Nat.le_of_ble_eq_true rfl⟩ ⟨by show k0 + 1 + 34 * (n - (m + 1)) + 1 + 1 + 1 + 1 + 1 + 1 + 1 + 1 + 1 + 1 + 1 + 1 ≤ 600104; omega, by show n0 + 40 + 240 * (n - (m + 1)) + 6 + 6 + 6 + 6 + 6 + 6 + 6 + 6 + 6 + 6 + 6 + 6 ≤ 7301314; omega⟩ (Nat.le_of_ble_eq_true rfl) ?_
            refine Y_stk [.int ((cStone K (nI m) (nI 6)).2), .int ((M.1 0 m) + (P m)), .int 0, .int (tl M m 7)] rfl ?_
            refine Y_stk [.int (M.1 6 m), .int ((M.1 0 m) + (P m)), .int 0, .int (tl M m 7)] (by rw [sb27, tl_row (by decide)]) ?_
            refine Y_isub C (v := ((M.1 0 m) + (P m)) - (M.1 6 m)) dL_law_632 rfl ?_
            skip
            refine Y_mmax C (v := mx 0 (((M.1 0 m) + (P m)) - (M.1 6 m))) dL_law_633 g_592 g_338 g_24 g_339 (Nat.le_of_ble_eq_true rfl) (Nat.le_of_ble_eq_true rfl) ⟨by show k0 + 1 + 34 * (n - (m + 1)) + 1 + 1 + 1 + 1 + 1 + 1 + 1 + 1 + 1 + 1 + 1 + 1 ≤ 600104; omega, by show n0 + 40 + 240 * (n - (m + 1)) + 6 + 6 + 6 + 6 + 6 + 6 + 6 + 6 + 6 + 6 + 6 + 6 ≤ 7301314; omega⟩ rfl ?_
            refine Y_icmp_eq C 641 dL_law_636 (by decide) (fun cc28 => ?_) (fun cc28 => absurd ld9 cc28)
            refine Y_iload C dL_law_641 rfl ?_
            refine Y_if_lt C 731 dL_law_643 (by decide) (fun cc29 => absurd cc29 (by rw [c4]; exact nI_pos (by omega))) (fun cc29 => ?_)
            refine Y_iload C dL_law_646 rfl ?_
            refine Y_iload C dL_law_648 rfl ?_
            refine Y_icmp_ge C 687 dL_law_650 (by decide) (fun cc30 => absurd cc30 (by rw [c4]; exact nI_ge hff (by omega))) (fun cc30 => ?_)
            refine Y_aload_n C dL_law_653 rfl rfl ?_
            refine Y_stk [.ref 0] rfl ?_
            refine Y_iload C dL_law_654 rfl ?_
            refine Y_iconst C (v := 2) dL_law_656 (by decide) ?_
            refine Y_stk [.int 2, .int (nI ff), .ref 0] (by rw [c4]) ?_
            obtain ⟨sa31, sb31⟩ := go_stone I (w := 2) hfn (by decide)
            refine Y_stk [.int (nI 2), .int (nI ff), .ref 0] rfl ?_
            refine Y_callG (K' := K) (D' := D) (B' := B) C S (c_X2_stone K D B (nI ff) (nI 2) I.kn h40 I.br h30) sa31 m_X2_stone K2 g_235 dL_law_657 rfl rfl ⟨Nat.le_of_ble_eq_true rfl, Nat.le_of_ble_eq_true rfl⟩ ⟨by show k0 + 1 + 34 * (n - (m + 1)) + 1 + 1 + 1 + 1 + 1 + 1 + 1 + 1 + 1 + 1 + 1 + 1 + 1 ≤ 600104; omega, by show n0 + 40 + 240 * (n - (m + 1)) + 6 + 6 + 6 + 6 + 6 + 6 + 6 + 6 + 6 + 6 + 6 + 6 + 6 ≤ 7301314; omega⟩ (Nat.le_of_ble_eq_true rfl) ?_
            refine Y_stk [.int ((cStone K (nI ff) (nI 2)).2)] rfl ?_
            refine Y_stk [.int (M.1 2 ff)] (by rw [sb31, tl_row (by decide)]) ?_
            refine Y_iconst C (v := 1) dL_law_660 (by decide) ?_
            refine Y_icmp_ne C 687 dL_law_661 (by decide) (fun cc32 => absurd hf1 cc32) (fun cc32 => ?_)
            refine Y_iload C dL_law_664 rfl ?_
            refine Y_iload C dL_law_666 rfl ?_
            refine Y_icmp_ge C 687 dL_law_668 (by decide) (fun cc33 => absurd cc33 (by rw [c5]; exact fun z => absurd z (by first | decide | exact Int32.not_le.mpr (Int32.lt_of_lt_of_le (by decide) (nI_pos' (by omega)))))) (fun cc33 => ?_)
            refine Y_iload C dL_law_671 rfl ?_
            refine Y_if_lt C 689 dL_law_673 (by decide) (fun cc34 => ?_) (fun cc34 => absurd (by rw [c5]; decide) cc34)
            refine Y_aload C dL_law_689 rfl ?_
            refine Y_iload C dL_law_691 rfl ?_
            refine Y_stk [.int (nI ff), .ref 418] (by rw [c4]) ?_
            refine Y_dup2_11 C dL_law_693 rfl rfl ?_
            refine Y_iald C (v := P ff) dL_law_694 ((gW_hi (by decide)).trans (tU_s _ _ _)) (vp_in_nI hfn (by omega)) (by rw [nI_clamp (by omega)] <;> rfl) ?_
            refine Y_iload C dL_law_695 rfl ?_
            refine Y_if_ge C 705 dL_law_697 (by decide) (fun cc35 => absurd cc35 (by rw [c5]; decide)) (fun cc35 => ?_)
            refine Y_iload C dL_law_700 rfl ?_
            refine Y_goto C 712 dL_law_702 (by decide) ?_
            refine Y_iadd C (v := (P ff) + (tl M m 7)) dL_law_712 rfl ?_
            refine Y_iast C (f' := upd P ff ((P ff) + (tl M m 7))) dL_law_713 ((gW_hi (by decide)).trans (tU_s _ _ _)) (vp_in_nI hfn (by omega)) (by rw [nI_clamp (by omega)]) (w' := gW (xW K D B) n r M (tU (fun _ => none) 418 (some (.inl (0, n, .inl (upd P ff ((P ff) + (tl M m 7)))))))) ((gW_tU (by decide)).trans (congrArg _ (tU_tU _ _ _ _))) ?_
            refine Y_iload C dL_law_714 rfl ?_
            refine Y_if_lt C 731 dL_law_716 (by decide) (fun cc36 => ?_) (fun cc36 => absurd (by rw [c5]; decide) cc36)
            refine Y_aload_n C dL_law_731 rfl rfl ?_
            refine Y_iload C dL_law_732 rfl ?_
            obtain ⟨r0, r1⟩ := go_first I hm1
            refine Y_stk [.int (nI m), .ref 0] rfl ?_
            refine Y_callG (K' := K) (D' := D) (B' := B) C S (c_X2_first K D B (nI m) I.kn h40 I.br h30) r0 m_X2_first K2 g_248 dL_law_734 rfl rfl ⟨Nat.le_of_ble_eq_true rfl, Nat.le_of_ble_eq_true rfl⟩ ⟨by show k0 + 1 + 34 * (n - (m + 1)) + 1 + 1 + 1 + 1 + 1 + 1 + 1 + 1 + 1 + 1 + 1 + 1 + 1 + 1 ≤ 600104; omega, by show n0 + 40 + 240 * (n - (m + 1)) + 6 + 6 + 6 + 6 + 6 + 6 + 6 + 6 + 6 + 6 + 6 + 6 + 6 + 6 ≤ 7301314; omega⟩ (Nat.le_of_ble_eq_true rfl) ?_
            refine Y_stk [.int ((cFirst K (nI m)).2)] rfl ?_
            refine Y_stk [.int (nI (mUp 40 M m))] (by rw [r1, if_neg cc11]) ?_
            refine Y_istore C (L' := [(22, .int (nI (mUp 40 M m))), (16, .int (al + (M.1 3 m))), (15, .int (sp + 0)), (14, .int (th + 1)), (21, .int (tl M m 7)), (20, .int (M.1 5 m)), (19, .int (M.1 4 m)), (0, .ref 1000), (1, .ref 0), (2, .ref 100), (3, .int (nI i)), (5, .int (nI n)), (7, .int (nI wh)), (10, .int (mCt (mRk M) 2)), (17, .ref 418), (18, .int (nI m))]) dL_law_737 (by decide) rfl ?_
            refine Y_iload C dL_law_739 rfl ?_
            refine Y_if_lt C 780 dL_law_741 (by decide) (fun cc37 => absurd cc37 (nI_pos (by omega))) (fun cc37 => ?_)
            refine Y_aload_n C dL_law_744 rfl rfl ?_
            refine Y_iload C dL_law_745 rfl ?_
            refine Y_iconst C (v := 3) dL_law_747 (by decide) ?_
            obtain ⟨sa38, sb38⟩ := go_stone I (w := 3) hup.1 (by decide)
            refine Y_stk [.int (nI 3), .int (nI (mUp 40 M m)), .ref 0] rfl ?_
            refine Y_callG (K' := K) (D' := D) (B' := B) C S (c_X2_stone K D B (nI (mUp 40 M m)) (nI 3) I.kn h40 I.br h30) sa38 m_X2_stone K2 g_235 dL_law_748 rfl rfl ⟨Nat.le_of_ble_eq_true rfl, Nat.le_of_ble_eq_true rfl⟩ ⟨by show k0 + 1 + 34 * (n - (m + 1)) + 1 + 1 + 1 + 1 + 1 + 1 + 1 + 1 + 1 + 1 + 1 + 1 + 1 + 1 + 1 ≤ 600104; omega, by show n0 + 40 + 240 * (n - (m + 1)) + 6 + 6 + 6 + 6 + 6 + 6 + 6 + 6 + 6 + 6 + 6 + 6 + 6 + 6 + 6 ≤ 7301314; omega⟩ (Nat.le_of_ble_eq_true rfl) ?_
            refine Y_stk [.int ((cStone K (nI (mUp 40 M m)) (nI 3)).2)] rfl ?_
            refine Y_stk [.int (M.1 3 (mUp 40 M m))] (by rw [sb38, tl_row (by decide)]) ?_
            refine Y_if_eq C 780 dL_law_751 (by decide) (fun cc39 => absurd cc39 hpw) (fun cc39 => ?_)
            refine Y_iload C dL_law_754 rfl ?_
            refine Y_if_ge C 769 dL_law_756 (by decide) (fun cc40 => ?_) (fun cc40 => absurd (by rw [c4]; exact nI_pos' (by omega)) cc40)
            refine Y_iload C dL_law_769 rfl ?_
            refine Y_aload_n C dL_law_771 rfl rfl ?_
            refine Y_iload C dL_law_772 rfl ?_
            refine Y_stk [.int (nI ff), .ref 0, .int (nI (mUp 40 M m))] (by rw [c4]) ?_
            obtain ⟨q0, q1⟩ := go_first I hfn
            refine Y_stk [.int (nI ff), .ref 0, .int (nI (mUp 40 M m))] rfl ?_
            refine Y_callG (K' := K) (D' := D) (B' := B) C S (c_X2_first K D B (nI ff) I.kn h40 I.br h30) q0 m_X2_first K2 g_248 dL_law_774 rfl rfl ⟨Nat.le_of_ble_eq_true rfl, Nat.le_of_ble_eq_true rfl⟩ ⟨by show k0 + 1 + 34 * (n - (m + 1)) + 1 + 1 + 1 + 1 + 1 + 1 + 1 + 1 + 1 + 1 + 1 + 1 + 1 + 1 + 1 + 1 ≤ 600104; omega, by show n0 + 40 + 240 * (n - (m + 1)) + 6 + 6 + 6 + 6 + 6 + 6 + 6 + 6 + 6 + 6 + 6 + 6 + 6 + 6 + 6 + 6 ≤ 7301314; omega⟩ (Nat.le_of_ble_eq_true rfl) ?_
            refine Y_stk [.int ((cFirst K (nI ff)).2), .int (nI (mUp 40 M m))] rfl ?_
            refine Y_stk [.int (nI (mUp 40 M ff)), .int (nI (mUp 40 M m))] (by rw [q1, if_neg (by rw [hf1]; decide)]) ?_
            refine Y_icmp_eq C 782 dL_law_777 (by decide) (fun cc41 => ?_) (fun cc41 => absurd (by rw [up_one I hm1 hff c4]) cc41)
            have eP : jq1 M (Ld9 M) m P = upd P ff ((P ff) + (tl M m 7)) := by unfold jq1; rw [if_neg cc11, if_neg (by rw [c4]; exact nI_m1 (by omega)), if_pos c5, c4, ix_nI (by omega), Int32.sub_zero]; rfl
            rw [eP] at hPs
            rw [if_pos hp] at s2
            refine Y_iinc C (L' := [(18, .int (dn m)), (22, .int (nI (mUp 40 M m))), (16, .int (al + (M.1 3 m))), (15, .int (sp + 0)), (14, .int (th + 1)), (21, .int (tl M m 7)), (20, .int (M.1 5 m)), (19, .int (M.1 4 m)), (0, .ref 1000), (1, .ref 0), (2, .ref 100), (3, .int (nI i)), (5, .int (nI n)), (7, .int (nI wh)), (10, .int (mCt (mRk M) 2)), (17, .ref 418)]) (v := dn m) dL_law_782 rfl (dn_dec m) (by decide) rfl ?_
            refine Y_goto C 351 dL_law_785 (by decide) ?_
            refine Y_sub (L' := [(18, .int (dn m)), (16, .int (al + (M.1 3 m))), (15, .int (sp + 0)), (14, .int (th + 1)), (0, .ref 1000), (1, .ref 0), (2, .ref 100), (3, .int (nI i)), (5, .int (nI n)), (7, .int (nI wh)), (10, .int (mCt (mRk M) 2)), (17, .ref 418)]) (by simp) ?_
            refine Y_sub (L' := [(0, .ref 1000), (1, .ref 0), (2, .ref 100), (3, .int (nI i)), (5, .int (nI n)), (7, .int (nI wh)), (10, .int (mCt (mRk M) 2)), (14, .int (th + 1)), (15, .int (sp + 0)), (16, .int (al + (M.1 3 m))), (17, .ref 418), (18, .int (dn m))]) (by simp) ?_
            refine Y_widen (k' := k0 + 1 + 34 * (n - m)) (n' := n0 + 40 + 240 * (n - m)) (by omega) (by omega) ?_
            exact ih (by omega) _ D (upd P ff ((P ff) + (tl M m 7))) (th + 1) (sp + 0) (al + (M.1 3 m)) (fun i hi => av i hi) hPs s1 s2 s3
          · have hgn : gg < n := by omega
            refine Y_iinc C (L' := [(14, .int (th + 1)), (21, .int (tl M m 7)), (20, .int (M.1 5 m)), (19, .int (M.1 4 m)), (0, .ref 1000), (1, .ref 0), (2, .ref 100), (3, .int (nI i)), (5, .int (nI n)), (7, .int (nI wh)), (10, .int (mCt (mRk M) 2)), (15, .int sp), (16, .int al), (17, .ref 418), (18, .int (nI m))]) (v := th + 1) dL_law_473 rfl rfl (by decide) rfl ?_
            refine Y_iload C dL_law_476 rfl ?_
            refine Y_aload_n C dL_law_478 rfl rfl ?_
            refine Y_iload C dL_law_479 rfl ?_
            refine Y_iconst C (v := 3) dL_law_481 (by decide) ?_
            obtain ⟨sa42, sb42⟩ := go_stone I (w := 3) hm1 (by decide)
            refine Y_stk [.int (nI 3), .int (nI m), .ref 0, .int sp] rfl ?_
            refine Y_callG (K' := K) (D' := D) (B' := B) C S (c_X2_stone K D B (nI m) (nI 3) I.kn h40 I.br h30) sa42 m_X2_stone K2 g_235 dL_law_482 rfl rfl ⟨Nat.le_of_ble_eq_true rfl, Nat.le_of_ble_eq_true rfl⟩ ⟨by show k0 + 1 + 34 * (n - (m + 1)) + 1 + 1 + 1 + 1 + 1 ≤ 600104; omega, by show n0 + 40 + 240 * (n - (m + 1)) + 6 + 6 + 6 + 6 + 6 ≤ 7301314; omega⟩ (Nat.le_of_ble_eq_true rfl) ?_
            refine Y_stk [.int ((cStone K (nI m) (nI 3)).2), .int sp] rfl ?_
            refine Y_stk [.int (M.1 3 m), .int sp] (by rw [sb42, tl_row (by decide)]) ?_
            refine Y_if_le C 492 dL_law_485 (by decide) (fun cc43 => ?_) (fun cc43 => absurd hp cc43)
            refine Y_iconst C (v := 0) dL_law_492 (by decide) ?_
            refine Y_iadd C (v := sp + 0) dL_law_493 rfl ?_
            refine Y_istore C (L' := [(15, .int (sp + 0)), (14, .int (th + 1)), (21, .int (tl M m 7)), (20, .int (M.1 5 m)), (19, .int (M.1 4 m)), (0, .ref 1000), (1, .ref 0), (2, .ref 100), (3, .int (nI i)), (5, .int (nI n)), (7, .int (nI wh)), (10, .int (mCt (mRk M) 2)), (16, .int al), (17, .ref 418), (18, .int (nI m))]) dL_law_494 (by decide) rfl ?_
            refine Y_iload C dL_law_496 rfl ?_
            refine Y_aload_n C dL_law_498 rfl rfl ?_
            refine Y_iload C dL_law_499 rfl ?_
            refine Y_iconst C (v := 3) dL_law_501 (by decide) ?_
            obtain ⟨sa44, sb44⟩ := go_stone I (w := 3) hm1 (by decide)
            refine Y_stk [.int (nI 3), .int (nI m), .ref 0, .int al] rfl ?_
            refine Y_callG (K' := K) (D' := D) (B' := B) C S (c_X2_stone K D B (nI m) (nI 3) I.kn h40 I.br h30) sa44 m_X2_stone K2 g_235 dL_law_502 rfl rfl ⟨Nat.le_of_ble_eq_true rfl, Nat.le_of_ble_eq_true rfl⟩ ⟨by show k0 + 1 + 34 * (n - (m + 1)) + 1 + 1 + 1 + 1 + 1 + 1 ≤ 600104; omega, by show n0 + 40 + 240 * (n - (m + 1)) + 6 + 6 + 6 + 6 + 6 + 6 ≤ 7301314; omega⟩ (Nat.le_of_ble_eq_true rfl) ?_
            refine Y_stk [.int ((cStone K (nI m) (nI 3)).2), .int al] rfl ?_
            refine Y_stk [.int (M.1 3 m), .int al] (by rw [sb44, tl_row (by decide)]) ?_
            refine Y_iadd C (v := al + (M.1 3 m)) dL_law_505 rfl ?_
            refine Y_istore C (L' := [(16, .int (al + (M.1 3 m))), (15, .int (sp + 0)), (14, .int (th + 1)), (21, .int (tl M m 7)), (20, .int (M.1 5 m)), (19, .int (M.1 4 m)), (0, .ref 1000), (1, .ref 0), (2, .ref 100), (3, .int (nI i)), (5, .int (nI n)), (7, .int (nI wh)), (10, .int (mCt (mRk M) 2)), (17, .ref 418), (18, .int (nI m))]) dL_law_506 (by decide) rfl ?_
            refine Y_aload_n C dL_law_508 rfl rfl ?_
            refine Y_iload C dL_law_509 rfl ?_
            refine Y_iconst C (v := 3) dL_law_511 (by decide) ?_
            obtain ⟨sa45, sb45⟩ := go_stone I (w := 3) hm1 (by decide)
            refine Y_stk [.int (nI 3), .int (nI m), .ref 0] rfl ?_
            refine Y_callG (K' := K) (D' := D) (B' := B) C S (c_X2_stone K D B (nI m) (nI 3) I.kn h40 I.br h30) sa45 m_X2_stone K2 g_235 dL_law_512 rfl rfl ⟨Nat.le_of_ble_eq_true rfl, Nat.le_of_ble_eq_true rfl⟩ ⟨by show k0 + 1 + 34 * (n - (m + 1)) + 1 + 1 + 1 + 1 + 1 + 1 + 1 ≤ 600104; omega, by show n0 + 40 + 240 * (n - (m + 1)) + 6 + 6 + 6 + 6 + 6 + 6 + 6 ≤ 7301314; omega⟩ (Nat.le_of_ble_eq_true rfl) ?_
            refine Y_stk [.int ((cStone K (nI m) (nI 3)).2)] rfl ?_
            refine Y_stk [.int (M.1 3 m)] (by rw [sb45, tl_row (by decide)]) ?_
            refine Y_if_le C 522 dL_law_515 (by decide) (fun cc46 => ?_) (fun cc46 => absurd hp cc46)
            refine Y_iconst C (v := 0) dL_law_522 (by decide) ?_
            refine Y_iload C dL_law_523 rfl ?_
            refine Y_if_lt C 532 dL_law_525 (by decide) (fun cc47 => absurd cc47 (by rw [c4]; exact nI_pos (by omega))) (fun cc47 => ?_)
            refine Y_iconst C (v := 1) dL_law_528 (by decide) ?_
            refine Y_goto C 533 dL_law_529 (by decide) ?_
            refine Y_icmp_eq C 575 dL_law_533 (by decide) (fun cc48 => absurd cc48 (by decide)) (fun cc48 => ?_)
            refine Y_aload_n C dL_law_536 rfl rfl ?_
            refine Y_iload C dL_law_537 rfl ?_
            refine Y_iconst C (v := 3) dL_law_539 (by decide) ?_
            obtain ⟨sa49, sb49⟩ := go_stone I (w := 3) hm1 (by decide)
            refine Y_stk [.int (nI 3), .int (nI m), .ref 0] rfl ?_
            refine Y_callG (K' := K) (D' := D) (B' := B) C S (c_X2_stone K D B (nI m) (nI 3) I.kn h40 I.br h30) sa49 m_X2_stone K2 g_235 dL_law_540 rfl rfl ⟨Nat.le_of_ble_eq_true rfl, Nat.le_of_ble_eq_true rfl⟩ ⟨by show k0 + 1 + 34 * (n - (m + 1)) + 1 + 1 + 1 + 1 + 1 + 1 + 1 + 1 ≤ 600104; omega, by show n0 + 40 + 240 * (n - (m + 1)) + 6 + 6 + 6 + 6 + 6 + 6 + 6 + 6 ≤ 7301314; omega⟩ (Nat.le_of_ble_eq_true rfl) ?_
            refine Y_stk [.int ((cStone K (nI m) (nI 3)).2)] rfl ?_
            refine Y_stk [.int (M.1 3 m)] (by rw [sb49, tl_row (by decide)]) ?_
            refine Y_if_le C 558 dL_law_543 (by decide) (fun cc50 => ?_) (fun cc50 => absurd hp cc50)
            refine Y_iload C dL_law_558 rfl ?_
            refine Y_if_lt C 577 dL_law_560 (by decide) (fun cc51 => absurd cc51 (by rw [c5]; exact nI_pos (by omega))) (fun cc51 => ?_)
            refine Y_iload C dL_law_563 rfl ?_
            refine Y_if_lt C 575 dL_law_565 (by decide) (fun cc52 => absurd cc52 (by rw [c4]; exact nI_pos (by omega))) (fun cc52 => ?_)
            refine Y_iload C dL_law_568 rfl ?_
            refine Y_iload C dL_law_570 rfl ?_
            refine Y_icmp_ne C 577 dL_law_572 (by decide) (fun cc53 => ?_) (fun cc53 => absurd cc53 (d45 (by rw [c4]; exact nI_m1 (by omega))))
            refine Y_aload_n C dL_law_577 rfl rfl ?_
            refine Y_iload C dL_law_578 rfl ?_
            refine Y_bipush C (v := 8) dL_law_580 (by decide) ?_
            obtain ⟨sa54, sb54⟩ := go_stone I (w := 8) hm1 (by decide)
            refine Y_stk [.int (nI 8), .int (nI m), .ref 0] rfl ?_
            refine Y_callG (K' := K) (D' := D) (B' := B) C S (c_X2_stone K D B (nI m) (nI 8) I.kn h40 I.br h30) sa54 m_X2_stone K2 g_235 dL_law_582 rfl rfl ⟨Nat.le_of_ble_eq_true rfl, Nat.le_of_ble_eq_true rfl⟩ ⟨by show k0 + 1 + 34 * (n - (m + 1)) + 1 + 1 + 1 + 1 + 1 + 1 + 1 + 1 + 1 ≤ 600104; omega, by show n0 + 40 + 240 * (n - (m + 1)) + 6 + 6 + 6 + 6 + 6 + 6 + 6 + 6 + 6 ≤ 7301314; omega⟩ (Nat.le_of_ble_eq_true rfl) ?_
            refine Y_stk [.int ((cStone K (nI m) (nI 8)).2)] rfl ?_
            refine Y_stk [.int (tl M m 8)] (by rw [sb54]) ?_
            refine Y_aload C dL_law_585 rfl ?_
            refine Y_iload C dL_law_587 rfl ?_
            refine Y_iald C (v := P m) dL_law_589 ((gW_hi (by decide)).trans (tU_s _ _ _)) (vp_in_nI hm1 (by omega)) (by rw [nI_clamp (by omega)] <;> rfl) ?_
            refine Y_icmp_ne C 639 dL_law_590 (by decide) (fun cc55 => absurd (hPm.trans rfl).symm cc55) (fun cc55 => ?_)
            refine Y_aload C dL_law_593 rfl ?_
            refine Y_iload C dL_law_595 rfl ?_
            refine Y_iald C (v := P m) dL_law_597 ((gW_hi (by decide)).trans (tU_s _ _ _)) (vp_in_nI hm1 (by omega)) (by rw [nI_clamp (by omega)] <;> rfl) ?_
            refine Y_aload_n C dL_law_598 rfl rfl ?_
            refine Y_iload C dL_law_599 rfl ?_
            refine Y_iconst C (v := 1) dL_law_601 (by decide) ?_
            obtain ⟨sa56, sb56⟩ := go_stone I (w := 1) hm1 (by decide)
            refine Y_stk [.int (nI 1), .int (nI m), .ref 0, .int (P m)] rfl ?_
            refine Y_callG (K' := K) (D' := D) (B' := B) C S (c_X2_stone K D B (nI m) (nI 1) I.kn h40 I.br h30) sa56 m_X2_stone K2 g_235 dL_law_602 rfl rfl ⟨Nat.le_of_ble_eq_true rfl, Nat.le_of_ble_eq_true rfl⟩ ⟨by show k0 + 1 + 34 * (n - (m + 1)) + 1 + 1 + 1 + 1 + 1 + 1 + 1 + 1 + 1 + 1 ≤ 600104; omega, by show n0 + 40 + 240 * (n - (m + 1)) + 6 + 6 + 6 + 6 + 6 + 6 + 6 + 6 + 6 + 6 ≤ 7301314; omega⟩ (Nat.le_of_ble_eq_true rfl) ?_
            refine Y_stk [.int ((cStone K (nI m) (nI 1)).2), .int (P m)] rfl ?_
            refine Y_stk [.int (M.1 1 m), .int (P m)] (by rw [sb56, tl_row (by decide)]) ?_
            refine Y_icmp_gt C 639 dL_law_605 (by decide) (fun cc57 => absurd cc57 (Int32.not_lt.mpr (by rw [hPm]; exact pull_le I hm1))) (fun cc57 => ?_)
            refine Y_iload C dL_law_608 rfl ?_
            refine Y_iconst C (v := 0) dL_law_610 (by decide) ?_
            refine Y_aload_n C dL_law_611 rfl rfl ?_
            refine Y_iload C dL_law_612 rfl ?_
            refine Y_iconst C (v := 0) dL_law_614 (by decide) ?_
            obtain ⟨sa58, sb58⟩ := go_stone I (w := 0) hm1 (by decide)
            refine Y_stk [.int (nI 0), .int (nI m), .ref 0, .int 0, .int (tl M m 7)] rfl ?_
            refine Y_callG (K' := K) (D' := D) (B' := B) C S (c_X2_stone K D B (nI m) (nI 0) I.kn h40 I.br h30) sa58 m_X2_stone K2 g_235 dL_law_615 rfl rfl ⟨Nat.le_of_ble_eq_true rfl, Nat.le_of_ble_eq_true rfl⟩ ⟨by show k0 + 1 + 34 * (n - (m + 1)) + 1 + 1 + 1 + 1 + 1 + 1 + 1 + 1 + 1 + 1 + 1 ≤ 600104; omega, by show n0 + 40 + 240 * (n - (m + 1)) + 6 + 6 + 6 + 6 + 6 + 6 + 6 + 6 + 6 + 6 + 6 ≤ 7301314; omega⟩ (Nat.le_of_ble_eq_true rfl) ?_
            refine Y_stk [.int ((cStone K (nI m) (nI 0)).2), .int 0, .int (tl M m 7)] rfl ?_
            refine Y_stk [.int (M.1 0 m), .int 0, .int (tl M m 7)] (by rw [sb58, tl_row (by decide)]) ?_
            refine Y_aload C dL_law_618 rfl ?_
            refine Y_iload C dL_law_620 rfl ?_
            refine Y_iald C (v := P m) dL_law_622 ((gW_hi (by decide)).trans (tU_s _ _ _)) (vp_in_nI hm1 (by omega)) (by rw [nI_clamp (by omega)] <;> rfl) ?_
            refine Y_iadd C (v := (M.1 0 m) + (P m)) dL_law_623 rfl ?_
            refine Y_aload_n C dL_law_624 rfl rfl ?_
            refine Y_iload C dL_law_625 rfl ?_
            refine Y_bipush C (v := 6) dL_law_627 (by decide) ?_
            obtain ⟨sa59, sb59⟩ := go_stone I (w := 6) hm1 (by decide)
            refine Y_stk [.int (nI 6), .int (nI m), .ref 0, .int ((M.1 0 m) + (P m)), .int 0, .int (tl M m 7)] rfl ?_
            refine Y_callG (K' := K) (D' := D) (B' := B) C S (c_X2_stone K D B (nI m) (nI 6) I.kn h40 I.br h30) sa59 m_X2_stone K2 g_235 dL_law_629 rfl rfl ⟨Nat.le_of_ble_eq_true rfl, Nat.le_of_ble_eq_true rfl⟩ ⟨by show k0 + 1 + 34 * (n - (m + 1)) + 1 + 1 + 1 + 1 + 1 + 1 + 1 + 1 + 1 + 1 + 1 + 1 ≤ 600104; omega, by show n0 + 40 + 240 * (n - (m + 1)) + 6 + 6 + 6 + 6 + 6 + 6 + 6 + 6 + 6 + 6 + 6 + 6 ≤ 7301314; omega⟩ (Nat.le_of_ble_eq_true rfl) ?_
            refine Y_stk [.int ((cStone K (nI m) (nI 6)).2), .int ((M.1 0 m) + (P m)), .int 0, .int (tl M m 7)] rfl ?_
            refine Y_stk [.int (M.1 6 m), .int ((M.1 0 m) + (P m)), .int 0, .int (tl M m 7)] (by rw [sb59, tl_row (by decide)]) ?_
            refine Y_isub C (v := ((M.1 0 m) + (P m)) - (M.1 6 m)) dL_law_632 rfl ?_
            skip
            refine Y_mmax C (v := mx 0 (((M.1 0 m) + (P m)) - (M.1 6 m))) dL_law_633 g_592 g_338 g_24 g_339 (Nat.le_of_ble_eq_true rfl) (Nat.le_of_ble_eq_true rfl) ⟨by show k0 + 1 + 34 * (n - (m + 1)) + 1 + 1 + 1 + 1 + 1 + 1 + 1 + 1 + 1 + 1 + 1 + 1 ≤ 600104; omega, by show n0 + 40 + 240 * (n - (m + 1)) + 6 + 6 + 6 + 6 + 6 + 6 + 6 + 6 + 6 + 6 + 6 + 6 ≤ 7301314; omega⟩ rfl ?_
            refine Y_icmp_eq C 641 dL_law_636 (by decide) (fun cc60 => ?_) (fun cc60 => absurd ld9 cc60)
            refine Y_iload C dL_law_641 rfl ?_
            refine Y_if_lt C 731 dL_law_643 (by decide) (fun cc61 => absurd cc61 (by rw [c4]; exact nI_pos (by omega))) (fun cc61 => ?_)
            refine Y_iload C dL_law_646 rfl ?_
            refine Y_iload C dL_law_648 rfl ?_
            refine Y_icmp_ge C 687 dL_law_650 (by decide) (fun cc62 => absurd cc62 (by rw [c4]; exact nI_ge hff (by omega))) (fun cc62 => ?_)
            refine Y_aload_n C dL_law_653 rfl rfl ?_
            refine Y_stk [.ref 0] rfl ?_
            refine Y_iload C dL_law_654 rfl ?_
            refine Y_iconst C (v := 2) dL_law_656 (by decide) ?_
            refine Y_stk [.int 2, .int (nI ff), .ref 0] (by rw [c4]) ?_
            obtain ⟨sa63, sb63⟩ := go_stone I (w := 2) hfn (by decide)
            refine Y_stk [.int (nI 2), .int (nI ff), .ref 0] rfl ?_
            refine Y_callG (K' := K) (D' := D) (B' := B) C S (c_X2_stone K D B (nI ff) (nI 2) I.kn h40 I.br h30) sa63 m_X2_stone K2 g_235 dL_law_657 rfl rfl ⟨Nat.le_of_ble_eq_true rfl, Nat.le_of_ble_eq_true rfl⟩ ⟨by show k0 + 1 + 34 * (n - (m + 1)) + 1 + 1 + 1 + 1 + 1 + 1 + 1 + 1 + 1 + 1 + 1 + 1 + 1 ≤ 600104; omega, by show n0 + 40 + 240 * (n - (m + 1)) + 6 + 6 + 6 + 6 + 6 + 6 + 6 + 6 + 6 + 6 + 6 + 6 + 6 ≤ 7301314; omega⟩ (Nat.le_of_ble_eq_true rfl) ?_
            refine Y_stk [.int ((cStone K (nI ff) (nI 2)).2)] rfl ?_
            refine Y_stk [.int (M.1 2 ff)] (by rw [sb63, tl_row (by decide)]) ?_
            refine Y_iconst C (v := 1) dL_law_660 (by decide) ?_
            refine Y_icmp_ne C 687 dL_law_661 (by decide) (fun cc64 => absurd hf1 cc64) (fun cc64 => ?_)
            refine Y_iload C dL_law_664 rfl ?_
            refine Y_iload C dL_law_666 rfl ?_
            refine Y_icmp_ge C 687 dL_law_668 (by decide) (fun cc65 => absurd cc65 (by rw [c5]; exact nI_ge hgg9 (by omega))) (fun cc65 => ?_)
            refine Y_iload C dL_law_671 rfl ?_
            refine Y_if_lt C 689 dL_law_673 (by decide) (fun cc66 => absurd cc66 (by rw [c5]; exact nI_pos (by omega))) (fun cc66 => ?_)
            refine Y_aload_n C dL_law_676 rfl rfl ?_
            refine Y_iload C dL_law_677 rfl ?_
            refine Y_iconst C (v := 2) dL_law_679 (by decide) ?_
            refine Y_stk [.int 2, .int (nI gg), .ref 0] (by rw [c5]) ?_
            obtain ⟨sa67, sb67⟩ := go_stone I (w := 2) hgn (by decide)
            refine Y_stk [.int (nI 2), .int (nI gg), .ref 0] rfl ?_
            refine Y_callG (K' := K) (D' := D) (B' := B) C S (c_X2_stone K D B (nI gg) (nI 2) I.kn h40 I.br h30) sa67 m_X2_stone K2 g_235 dL_law_680 rfl rfl ⟨Nat.le_of_ble_eq_true rfl, Nat.le_of_ble_eq_true rfl⟩ ⟨by show k0 + 1 + 34 * (n - (m + 1)) + 1 + 1 + 1 + 1 + 1 + 1 + 1 + 1 + 1 + 1 + 1 + 1 + 1 + 1 ≤ 600104; omega, by show n0 + 40 + 240 * (n - (m + 1)) + 6 + 6 + 6 + 6 + 6 + 6 + 6 + 6 + 6 + 6 + 6 + 6 + 6 + 6 ≤ 7301314; omega⟩ (Nat.le_of_ble_eq_true rfl) ?_
            refine Y_stk [.int ((cStone K (nI gg) (nI 2)).2)] rfl ?_
            refine Y_stk [.int (M.1 2 gg)] (by rw [sb67, tl_row (by decide)]) ?_
            refine Y_iconst C (v := 1) dL_law_683 (by decide) ?_
            refine Y_icmp_eq C 689 dL_law_684 (by decide) (fun cc68 => ?_) (fun cc68 => absurd hg1 cc68)
            refine Y_aload C dL_law_689 rfl ?_
            refine Y_iload C dL_law_691 rfl ?_
            refine Y_stk [.int (nI ff), .ref 418] (by rw [c4]) ?_
            refine Y_dup2_11 C dL_law_693 rfl rfl ?_
            refine Y_iald C (v := P ff) dL_law_694 ((gW_hi (by decide)).trans (tU_s _ _ _)) (vp_in_nI hfn (by omega)) (by rw [nI_clamp (by omega)] <;> rfl) ?_
            refine Y_iload C dL_law_695 rfl ?_
            refine Y_if_ge C 705 dL_law_697 (by decide) (fun cc69 => ?_) (fun cc69 => absurd (by rw [c5]; exact nI_pos' (by omega)) cc69)
            refine Y_iload C dL_law_705 rfl ?_
            refine Y_iload C dL_law_707 rfl ?_
            refine Y_iconst C (v := 2) dL_law_709 (by decide) ?_
            refine Y_idiv C (v := (tl M m 7) / 2) dL_law_710 (by decide) rfl ?_
            refine Y_isub C (v := (tl M m 7) - ((tl M m 7) / 2)) dL_law_711 rfl ?_
            refine Y_iadd C (v := (P ff) + ((tl M m 7) - ((tl M m 7) / 2))) dL_law_712 rfl ?_
            refine Y_iast C (f' := upd P ff ((P ff) + ((tl M m 7) - ((tl M m 7) / 2)))) dL_law_713 ((gW_hi (by decide)).trans (tU_s _ _ _)) (vp_in_nI hfn (by omega)) (by rw [nI_clamp (by omega)]) (w' := gW (xW K D B) n r M (tU (fun _ => none) 418 (some (.inl (0, n, .inl (upd P ff ((P ff) + ((tl M m 7) - ((tl M m 7) / 2))))))))) ((gW_tU (by decide)).trans (congrArg _ (tU_tU _ _ _ _))) ?_
            refine Y_iload C dL_law_714 rfl ?_
            refine Y_if_lt C 731 dL_law_716 (by decide) (fun cc70 => absurd cc70 (by rw [c5]; exact nI_pos (by omega))) (fun cc70 => ?_)
            refine Y_aload C dL_law_719 rfl ?_
            refine Y_iload C dL_law_721 rfl ?_
            refine Y_stk [.int (nI gg), .ref 418] (by rw [c5]) ?_
            refine Y_dup2_11 C dL_law_723 rfl rfl ?_
            refine Y_iald C (v := (upd P ff ((P ff) + ((tl M m 7) - ((tl M m 7) / 2)))) gg) dL_law_724 ((gW_hi (by decide)).trans (tU_s _ _ _)) (vp_in_nI hgn (by omega)) (by rw [nI_clamp (by omega)] <;> rfl) ?_
            refine Y_iload C dL_law_725 rfl ?_
            refine Y_iconst C (v := 2) dL_law_727 (by decide) ?_
            refine Y_idiv C (v := (tl M m 7) / 2) dL_law_728 (by decide) rfl ?_
            refine Y_iadd C (v := ((upd P ff ((P ff) + ((tl M m 7) - ((tl M m 7) / 2)))) gg) + ((tl M m 7) / 2)) dL_law_729 rfl ?_
            refine Y_iast C (f' := upd (upd P ff ((P ff) + ((tl M m 7) - ((tl M m 7) / 2)))) gg (((upd P ff ((P ff) + ((tl M m 7) - ((tl M m 7) / 2)))) gg) + ((tl M m 7) / 2))) dL_law_730 ((gW_hi (by decide)).trans (tU_s _ _ _)) (vp_in_nI hgn (by omega)) (by rw [nI_clamp (by omega)]) (w' := gW (xW K D B) n r M (tU (fun _ => none) 418 (some (.inl (0, n, .inl (upd (upd P ff ((P ff) + ((tl M m 7) - ((tl M m 7) / 2)))) gg (((upd P ff ((P ff) + ((tl M m 7) - ((tl M m 7) / 2)))) gg) + ((tl M m 7) / 2)))))))) ((gW_tU (by decide)).trans (congrArg _ (tU_tU _ _ _ _))) ?_
            refine Y_aload_n C dL_law_731 rfl rfl ?_
            refine Y_iload C dL_law_732 rfl ?_
            obtain ⟨r0, r1⟩ := go_first I hm1
            refine Y_stk [.int (nI m), .ref 0] rfl ?_
            refine Y_callG (K' := K) (D' := D) (B' := B) C S (c_X2_first K D B (nI m) I.kn h40 I.br h30) r0 m_X2_first K2 g_248 dL_law_734 rfl rfl ⟨Nat.le_of_ble_eq_true rfl, Nat.le_of_ble_eq_true rfl⟩ ⟨by show k0 + 1 + 34 * (n - (m + 1)) + 1 + 1 + 1 + 1 + 1 + 1 + 1 + 1 + 1 + 1 + 1 + 1 + 1 + 1 + 1 ≤ 600104; omega, by show n0 + 40 + 240 * (n - (m + 1)) + 6 + 6 + 6 + 6 + 6 + 6 + 6 + 6 + 6 + 6 + 6 + 6 + 6 + 6 + 6 ≤ 7301314; omega⟩ (Nat.le_of_ble_eq_true rfl) ?_
            refine Y_stk [.int ((cFirst K (nI m)).2)] rfl ?_
            refine Y_stk [.int (nI (mUp 40 M m))] (by rw [r1, if_neg cc11]) ?_
            refine Y_istore C (L' := [(22, .int (nI (mUp 40 M m))), (16, .int (al + (M.1 3 m))), (15, .int (sp + 0)), (14, .int (th + 1)), (21, .int (tl M m 7)), (20, .int (M.1 5 m)), (19, .int (M.1 4 m)), (0, .ref 1000), (1, .ref 0), (2, .ref 100), (3, .int (nI i)), (5, .int (nI n)), (7, .int (nI wh)), (10, .int (mCt (mRk M) 2)), (17, .ref 418), (18, .int (nI m))]) dL_law_737 (by decide) rfl ?_
            refine Y_iload C dL_law_739 rfl ?_
            refine Y_if_lt C 780 dL_law_741 (by decide) (fun cc71 => absurd cc71 (nI_pos (by omega))) (fun cc71 => ?_)
            refine Y_aload_n C dL_law_744 rfl rfl ?_
            refine Y_iload C dL_law_745 rfl ?_
            refine Y_iconst C (v := 3) dL_law_747 (by decide) ?_
            obtain ⟨sa72, sb72⟩ := go_stone I (w := 3) hup.1 (by decide)
            refine Y_stk [.int (nI 3), .int (nI (mUp 40 M m)), .ref 0] rfl ?_
            refine Y_callG (K' := K) (D' := D) (B' := B) C S (c_X2_stone K D B (nI (mUp 40 M m)) (nI 3) I.kn h40 I.br h30) sa72 m_X2_stone K2 g_235 dL_law_748 rfl rfl ⟨Nat.le_of_ble_eq_true rfl, Nat.le_of_ble_eq_true rfl⟩ ⟨by show k0 + 1 + 34 * (n - (m + 1)) + 1 + 1 + 1 + 1 + 1 + 1 + 1 + 1 + 1 + 1 + 1 + 1 + 1 + 1 + 1 + 1 ≤ 600104; omega, by show n0 + 40 + 240 * (n - (m + 1)) + 6 + 6 + 6 + 6 + 6 + 6 + 6 + 6 + 6 + 6 + 6 + 6 + 6 + 6 + 6 + 6 ≤ 7301314; omega⟩ (Nat.le_of_ble_eq_true rfl) ?_
            refine Y_stk [.int ((cStone K (nI (mUp 40 M m)) (nI 3)).2)] rfl ?_
            refine Y_stk [.int (M.1 3 (mUp 40 M m))] (by rw [sb72, tl_row (by decide)]) ?_
            refine Y_if_eq C 780 dL_law_751 (by decide) (fun cc73 => absurd cc73 hpw) (fun cc73 => ?_)
            refine Y_iload C dL_law_754 rfl ?_
            refine Y_if_ge C 769 dL_law_756 (by decide) (fun cc74 => ?_) (fun cc74 => absurd (by rw [c4]; exact nI_pos' (by omega)) cc74)
            refine Y_iload C dL_law_769 rfl ?_
            refine Y_aload_n C dL_law_771 rfl rfl ?_
            refine Y_iload C dL_law_772 rfl ?_
            refine Y_stk [.int (nI ff), .ref 0, .int (nI (mUp 40 M m))] (by rw [c4]) ?_
            obtain ⟨q0, q1⟩ := go_first I hfn
            refine Y_stk [.int (nI ff), .ref 0, .int (nI (mUp 40 M m))] rfl ?_
            refine Y_callG (K' := K) (D' := D) (B' := B) C S (c_X2_first K D B (nI ff) I.kn h40 I.br h30) q0 m_X2_first K2 g_248 dL_law_774 rfl rfl ⟨Nat.le_of_ble_eq_true rfl, Nat.le_of_ble_eq_true rfl⟩ ⟨by show k0 + 1 + 34 * (n - (m + 1)) + 1 + 1 + 1 + 1 + 1 + 1 + 1 + 1 + 1 + 1 + 1 + 1 + 1 + 1 + 1 + 1 + 1 ≤ 600104; omega, by show n0 + 40 + 240 * (n - (m + 1)) + 6 + 6 + 6 + 6 + 6 + 6 + 6 + 6 + 6 + 6 + 6 + 6 + 6 + 6 + 6 + 6 + 6 ≤ 7301314; omega⟩ (Nat.le_of_ble_eq_true rfl) ?_
            refine Y_stk [.int ((cFirst K (nI ff)).2), .int (nI (mUp 40 M m))] rfl ?_
            refine Y_stk [.int (nI (mUp 40 M ff)), .int (nI (mUp 40 M m))] (by rw [q1, if_neg (by rw [hf1]; decide)]) ?_
            refine Y_icmp_eq C 782 dL_law_777 (by decide) (fun cc75 => ?_) (fun cc75 => absurd (by rw [up_one I hm1 hff c4]) cc75)
            have eP : jq1 M (Ld9 M) m P = upd (upd P ff ((P ff) + ((tl M m 7) - ((tl M m 7) / 2)))) gg (((upd P ff ((P ff) + ((tl M m 7) - ((tl M m 7) / 2)))) gg) + ((tl M m 7) / 2)) := by unfold jq1; rw [if_neg cc11, if_neg (by rw [c4]; exact nI_m1 (by omega)), if_neg (by rw [c5]; exact nI_m1 (by omega)), c4, c5, ix_nI (by omega), ix_nI (by omega)]; rfl
            rw [eP] at hPs
            rw [if_pos hp] at s2
            refine Y_iinc C (L' := [(18, .int (dn m)), (22, .int (nI (mUp 40 M m))), (16, .int (al + (M.1 3 m))), (15, .int (sp + 0)), (14, .int (th + 1)), (21, .int (tl M m 7)), (20, .int (M.1 5 m)), (19, .int (M.1 4 m)), (0, .ref 1000), (1, .ref 0), (2, .ref 100), (3, .int (nI i)), (5, .int (nI n)), (7, .int (nI wh)), (10, .int (mCt (mRk M) 2)), (17, .ref 418)]) (v := dn m) dL_law_782 rfl (dn_dec m) (by decide) rfl ?_
            refine Y_goto C 351 dL_law_785 (by decide) ?_
            refine Y_sub (L' := [(18, .int (dn m)), (16, .int (al + (M.1 3 m))), (15, .int (sp + 0)), (14, .int (th + 1)), (0, .ref 1000), (1, .ref 0), (2, .ref 100), (3, .int (nI i)), (5, .int (nI n)), (7, .int (nI wh)), (10, .int (mCt (mRk M) 2)), (17, .ref 418)]) (by simp) ?_
            refine Y_sub (L' := [(0, .ref 1000), (1, .ref 0), (2, .ref 100), (3, .int (nI i)), (5, .int (nI n)), (7, .int (nI wh)), (10, .int (mCt (mRk M) 2)), (14, .int (th + 1)), (15, .int (sp + 0)), (16, .int (al + (M.1 3 m))), (17, .ref 418), (18, .int (dn m))]) (by simp) ?_
            refine Y_widen (k' := k0 + 1 + 34 * (n - m)) (n' := n0 + 40 + 240 * (n - m)) (by omega) (by omega) ?_
            exact ih (by omega) _ D (upd (upd P ff ((P ff) + ((tl M m 7) - ((tl M m 7) / 2)))) gg (((upd P ff ((P ff) + ((tl M m 7) - ((tl M m 7) / 2)))) gg) + ((tl M m 7) / 2))) (th + 1) (sp + 0) (al + (M.1 3 m)) (fun i hi => av i hi) hPs s1 s2 s3
        · have hpw : ¬ M.1 3 (mUp 40 M m) = 0 := fun z => by
            rcases (LI_sp I hup.1).2.1 (by rw [hup.2.1]; decide) with q | q
            · rw [z] at q; exact absurd q (by decide)
            · exact q hup.2.2
          have c4 := sX.1 (Int32.not_le.mp hp)
          have c5 := f4 c4
          refine Y_iinc C (L' := [(14, .int (th + 1)), (21, .int (tl M m 7)), (20, .int (M.1 5 m)), (19, .int (M.1 4 m)), (0, .ref 1000), (1, .ref 0), (2, .ref 100), (3, .int (nI i)), (5, .int (nI n)), (7, .int (nI wh)), (10, .int (mCt (mRk M) 2)), (15, .int sp), (16, .int al), (17, .ref 418), (18, .int (nI m))]) (v := th + 1) dL_law_473 rfl rfl (by decide) rfl ?_
          refine Y_iload C dL_law_476 rfl ?_
          refine Y_aload_n C dL_law_478 rfl rfl ?_
          refine Y_iload C dL_law_479 rfl ?_
          refine Y_iconst C (v := 3) dL_law_481 (by decide) ?_
          obtain ⟨sa76, sb76⟩ := go_stone I (w := 3) hm1 (by decide)
          refine Y_stk [.int (nI 3), .int (nI m), .ref 0, .int sp] rfl ?_
          refine Y_callG (K' := K) (D' := D) (B' := B) C S (c_X2_stone K D B (nI m) (nI 3) I.kn h40 I.br h30) sa76 m_X2_stone K2 g_235 dL_law_482 rfl rfl ⟨Nat.le_of_ble_eq_true rfl, Nat.le_of_ble_eq_true rfl⟩ ⟨by show k0 + 1 + 34 * (n - (m + 1)) + 1 + 1 + 1 + 1 + 1 ≤ 600104; omega, by show n0 + 40 + 240 * (n - (m + 1)) + 6 + 6 + 6 + 6 + 6 ≤ 7301314; omega⟩ (Nat.le_of_ble_eq_true rfl) ?_
          refine Y_stk [.int ((cStone K (nI m) (nI 3)).2), .int sp] rfl ?_
          refine Y_stk [.int (M.1 3 m), .int sp] (by rw [sb76, tl_row (by decide)]) ?_
          refine Y_if_le C 492 dL_law_485 (by decide) (fun cc77 => absurd cc77 hp) (fun cc77 => ?_)
          refine Y_iconst C (v := 1) dL_law_488 (by decide) ?_
          refine Y_goto C 493 dL_law_489 (by decide) ?_
          refine Y_iadd C (v := sp + 1) dL_law_493 rfl ?_
          refine Y_istore C (L' := [(15, .int (sp + 1)), (14, .int (th + 1)), (21, .int (tl M m 7)), (20, .int (M.1 5 m)), (19, .int (M.1 4 m)), (0, .ref 1000), (1, .ref 0), (2, .ref 100), (3, .int (nI i)), (5, .int (nI n)), (7, .int (nI wh)), (10, .int (mCt (mRk M) 2)), (16, .int al), (17, .ref 418), (18, .int (nI m))]) dL_law_494 (by decide) rfl ?_
          refine Y_iload C dL_law_496 rfl ?_
          refine Y_aload_n C dL_law_498 rfl rfl ?_
          refine Y_iload C dL_law_499 rfl ?_
          refine Y_iconst C (v := 3) dL_law_501 (by decide) ?_
          obtain ⟨sa78, sb78⟩ := go_stone I (w := 3) hm1 (by decide)
          refine Y_stk [.int (nI 3), .int (nI m), .ref 0, .int al] rfl ?_
          refine Y_callG (K' := K) (D' := D) (B' := B) C S (c_X2_stone K D B (nI m) (nI 3) I.kn h40 I.br h30) sa78 m_X2_stone K2 g_235 dL_law_502 rfl rfl ⟨Nat.le_of_ble_eq_true rfl, Nat.le_of_ble_eq_true rfl⟩ ⟨by show k0 + 1 + 34 * (n - (m + 1)) + 1 + 1 + 1 + 1 + 1 + 1 ≤ 600104; omega, by show n0 + 40 + 240 * (n - (m + 1)) + 6 + 6 + 6 + 6 + 6 + 6 ≤ 7301314; omega⟩ (Nat.le_of_ble_eq_true rfl) ?_
          refine Y_stk [.int ((cStone K (nI m) (nI 3)).2), .int al] rfl ?_
          refine Y_stk [.int (M.1 3 m), .int al] (by rw [sb78, tl_row (by decide)]) ?_
          refine Y_iadd C (v := al + (M.1 3 m)) dL_law_505 rfl ?_
          refine Y_istore C (L' := [(16, .int (al + (M.1 3 m))), (15, .int (sp + 1)), (14, .int (th + 1)), (21, .int (tl M m 7)), (20, .int (M.1 5 m)), (19, .int (M.1 4 m)), (0, .ref 1000), (1, .ref 0), (2, .ref 100), (3, .int (nI i)), (5, .int (nI n)), (7, .int (nI wh)), (10, .int (mCt (mRk M) 2)), (17, .ref 418), (18, .int (nI m))]) dL_law_506 (by decide) rfl ?_
          refine Y_aload_n C dL_law_508 rfl rfl ?_
          refine Y_iload C dL_law_509 rfl ?_
          refine Y_iconst C (v := 3) dL_law_511 (by decide) ?_
          obtain ⟨sa79, sb79⟩ := go_stone I (w := 3) hm1 (by decide)
          refine Y_stk [.int (nI 3), .int (nI m), .ref 0] rfl ?_
          refine Y_callG (K' := K) (D' := D) (B' := B) C S (c_X2_stone K D B (nI m) (nI 3) I.kn h40 I.br h30) sa79 m_X2_stone K2 g_235 dL_law_512 rfl rfl ⟨Nat.le_of_ble_eq_true rfl, Nat.le_of_ble_eq_true rfl⟩ ⟨by show k0 + 1 + 34 * (n - (m + 1)) + 1 + 1 + 1 + 1 + 1 + 1 + 1 ≤ 600104; omega, by show n0 + 40 + 240 * (n - (m + 1)) + 6 + 6 + 6 + 6 + 6 + 6 + 6 ≤ 7301314; omega⟩ (Nat.le_of_ble_eq_true rfl) ?_
          refine Y_stk [.int ((cStone K (nI m) (nI 3)).2)] rfl ?_
          refine Y_stk [.int (M.1 3 m)] (by rw [sb79, tl_row (by decide)]) ?_
          refine Y_if_le C 522 dL_law_515 (by decide) (fun cc80 => absurd cc80 hp) (fun cc80 => ?_)
          refine Y_iconst C (v := 1) dL_law_518 (by decide) ?_
          refine Y_goto C 523 dL_law_519 (by decide) ?_
          refine Y_iload C dL_law_523 rfl ?_
          refine Y_if_lt C 532 dL_law_525 (by decide) (fun cc81 => ?_) (fun cc81 => absurd (by rw [c4]; decide) cc81)
          refine Y_iconst C (v := 0) dL_law_532 (by decide) ?_
          refine Y_icmp_eq C 575 dL_law_533 (by decide) (fun cc82 => absurd cc82 (by decide)) (fun cc82 => ?_)
          refine Y_aload_n C dL_law_536 rfl rfl ?_
          refine Y_iload C dL_law_537 rfl ?_
          refine Y_iconst C (v := 3) dL_law_539 (by decide) ?_
          obtain ⟨sa83, sb83⟩ := go_stone I (w := 3) hm1 (by decide)
          refine Y_stk [.int (nI 3), .int (nI m), .ref 0] rfl ?_
          refine Y_callG (K' := K) (D' := D) (B' := B) C S (c_X2_stone K D B (nI m) (nI 3) I.kn h40 I.br h30) sa83 m_X2_stone K2 g_235 dL_law_540 rfl rfl ⟨Nat.le_of_ble_eq_true rfl, Nat.le_of_ble_eq_true rfl⟩ ⟨by show k0 + 1 + 34 * (n - (m + 1)) + 1 + 1 + 1 + 1 + 1 + 1 + 1 + 1 ≤ 600104; omega, by show n0 + 40 + 240 * (n - (m + 1)) + 6 + 6 + 6 + 6 + 6 + 6 + 6 + 6 ≤ 7301314; omega⟩ (Nat.le_of_ble_eq_true rfl) ?_
          refine Y_stk [.int ((cStone K (nI m) (nI 3)).2)] rfl ?_
          refine Y_stk [.int (M.1 3 m)] (by rw [sb83, tl_row (by decide)]) ?_
          refine Y_if_le C 558 dL_law_543 (by decide) (fun cc84 => absurd cc84 hp) (fun cc84 => ?_)
          refine Y_aload_n C dL_law_546 rfl rfl ?_
          refine Y_iload C dL_law_547 rfl ?_
          refine Y_iconst C (v := 3) dL_law_549 (by decide) ?_
          obtain ⟨sa85, sb85⟩ := go_stone I (w := 3) hm1 (by decide)
          refine Y_stk [.int (nI 3), .int (nI m), .ref 0] rfl ?_
          refine Y_callG (K' := K) (D' := D) (B' := B) C S (c_X2_stone K D B (nI m) (nI 3) I.kn h40 I.br h30) sa85 m_X2_stone K2 g_235 dL_law_550 rfl rfl ⟨Nat.le_of_ble_eq_true rfl, Nat.le_of_ble_eq_true rfl⟩ ⟨by show k0 + 1 + 34 * (n - (m + 1)) + 1 + 1 + 1 + 1 + 1 + 1 + 1 + 1 + 1 ≤ 600104; omega, by show n0 + 40 + 240 * (n - (m + 1)) + 6 + 6 + 6 + 6 + 6 + 6 + 6 + 6 + 6 ≤ 7301314; omega⟩ (Nat.le_of_ble_eq_true rfl) ?_
          refine Y_stk [.int ((cStone K (nI m) (nI 3)).2)] rfl ?_
          refine Y_stk [.int (M.1 3 m)] (by rw [sb85, tl_row (by decide)]) ?_
          refine Y_iload C dL_law_553 rfl ?_
          refine Y_icmp_lt C 575 dL_law_555 (by decide) (fun cc86 => absurd cc86 (Int32.not_lt.mpr (sX.2.2.resolve_left hp))) (fun cc86 => ?_)
          refine Y_iload C dL_law_558 rfl ?_
          refine Y_if_lt C 577 dL_law_560 (by decide) (fun cc87 => ?_) (fun cc87 => absurd (by rw [c5]; decide) cc87)
          refine Y_aload_n C dL_law_577 rfl rfl ?_
          refine Y_iload C dL_law_578 rfl ?_
          refine Y_bipush C (v := 8) dL_law_580 (by decide) ?_
          obtain ⟨sa88, sb88⟩ := go_stone I (w := 8) hm1 (by decide)
          refine Y_stk [.int (nI 8), .int (nI m), .ref 0] rfl ?_
          refine Y_callG (K' := K) (D' := D) (B' := B) C S (c_X2_stone K D B (nI m) (nI 8) I.kn h40 I.br h30) sa88 m_X2_stone K2 g_235 dL_law_582 rfl rfl ⟨Nat.le_of_ble_eq_true rfl, Nat.le_of_ble_eq_true rfl⟩ ⟨by show k0 + 1 + 34 * (n - (m + 1)) + 1 + 1 + 1 + 1 + 1 + 1 + 1 + 1 + 1 + 1 ≤ 600104; omega, by show n0 + 40 + 240 * (n - (m + 1)) + 6 + 6 + 6 + 6 + 6 + 6 + 6 + 6 + 6 + 6 ≤ 7301314; omega⟩ (Nat.le_of_ble_eq_true rfl) ?_
          refine Y_stk [.int ((cStone K (nI m) (nI 8)).2)] rfl ?_
          refine Y_stk [.int (tl M m 8)] (by rw [sb88]) ?_
          refine Y_aload C dL_law_585 rfl ?_
          refine Y_iload C dL_law_587 rfl ?_
          refine Y_iald C (v := P m) dL_law_589 ((gW_hi (by decide)).trans (tU_s _ _ _)) (vp_in_nI hm1 (by omega)) (by rw [nI_clamp (by omega)] <;> rfl) ?_
          refine Y_icmp_ne C 639 dL_law_590 (by decide) (fun cc89 => absurd (hPm.trans rfl).symm cc89) (fun cc89 => ?_)
          refine Y_aload C dL_law_593 rfl ?_
          refine Y_iload C dL_law_595 rfl ?_
          refine Y_iald C (v := P m) dL_law_597 ((gW_hi (by decide)).trans (tU_s _ _ _)) (vp_in_nI hm1 (by omega)) (by rw [nI_clamp (by omega)] <;> rfl) ?_
          refine Y_aload_n C dL_law_598 rfl rfl ?_
          refine Y_iload C dL_law_599 rfl ?_
          refine Y_iconst C (v := 1) dL_law_601 (by decide) ?_
          obtain ⟨sa90, sb90⟩ := go_stone I (w := 1) hm1 (by decide)
          refine Y_stk [.int (nI 1), .int (nI m), .ref 0, .int (P m)] rfl ?_
          refine Y_callG (K' := K) (D' := D) (B' := B) C S (c_X2_stone K D B (nI m) (nI 1) I.kn h40 I.br h30) sa90 m_X2_stone K2 g_235 dL_law_602 rfl rfl ⟨Nat.le_of_ble_eq_true rfl, Nat.le_of_ble_eq_true rfl⟩ ⟨by show k0 + 1 + 34 * (n - (m + 1)) + 1 + 1 + 1 + 1 + 1 + 1 + 1 + 1 + 1 + 1 + 1 ≤ 600104; omega, by show n0 + 40 + 240 * (n - (m + 1)) + 6 + 6 + 6 + 6 + 6 + 6 + 6 + 6 + 6 + 6 + 6 ≤ 7301314; omega⟩ (Nat.le_of_ble_eq_true rfl) ?_
          refine Y_stk [.int ((cStone K (nI m) (nI 1)).2), .int (P m)] rfl ?_
          refine Y_stk [.int (M.1 1 m), .int (P m)] (by rw [sb90, tl_row (by decide)]) ?_
          refine Y_icmp_gt C 639 dL_law_605 (by decide) (fun cc91 => absurd cc91 (Int32.not_lt.mpr (by rw [hPm]; exact pull_le I hm1))) (fun cc91 => ?_)
          refine Y_iload C dL_law_608 rfl ?_
          refine Y_iconst C (v := 0) dL_law_610 (by decide) ?_
          refine Y_aload_n C dL_law_611 rfl rfl ?_
          refine Y_iload C dL_law_612 rfl ?_
          refine Y_iconst C (v := 0) dL_law_614 (by decide) ?_
          obtain ⟨sa92, sb92⟩ := go_stone I (w := 0) hm1 (by decide)
          refine Y_stk [.int (nI 0), .int (nI m), .ref 0, .int 0, .int (tl M m 7)] rfl ?_
          refine Y_callG (K' := K) (D' := D) (B' := B) C S (c_X2_stone K D B (nI m) (nI 0) I.kn h40 I.br h30) sa92 m_X2_stone K2 g_235 dL_law_615 rfl rfl ⟨Nat.le_of_ble_eq_true rfl, Nat.le_of_ble_eq_true rfl⟩ ⟨by show k0 + 1 + 34 * (n - (m + 1)) + 1 + 1 + 1 + 1 + 1 + 1 + 1 + 1 + 1 + 1 + 1 + 1 ≤ 600104; omega, by show n0 + 40 + 240 * (n - (m + 1)) + 6 + 6 + 6 + 6 + 6 + 6 + 6 + 6 + 6 + 6 + 6 + 6 ≤ 7301314; omega⟩ (Nat.le_of_ble_eq_true rfl) ?_
          refine Y_stk [.int ((cStone K (nI m) (nI 0)).2), .int 0, .int (tl M m 7)] rfl ?_
          refine Y_stk [.int (M.1 0 m), .int 0, .int (tl M m 7)] (by rw [sb92, tl_row (by decide)]) ?_
          refine Y_aload C dL_law_618 rfl ?_
          refine Y_iload C dL_law_620 rfl ?_
          refine Y_iald C (v := P m) dL_law_622 ((gW_hi (by decide)).trans (tU_s _ _ _)) (vp_in_nI hm1 (by omega)) (by rw [nI_clamp (by omega)] <;> rfl) ?_
          refine Y_iadd C (v := (M.1 0 m) + (P m)) dL_law_623 rfl ?_
          refine Y_aload_n C dL_law_624 rfl rfl ?_
          refine Y_iload C dL_law_625 rfl ?_
          refine Y_bipush C (v := 6) dL_law_627 (by decide) ?_
          obtain ⟨sa93, sb93⟩ := go_stone I (w := 6) hm1 (by decide)
          refine Y_stk [.int (nI 6), .int (nI m), .ref 0, .int ((M.1 0 m) + (P m)), .int 0, .int (tl M m 7)] rfl ?_
          refine Y_callG (K' := K) (D' := D) (B' := B) C S (c_X2_stone K D B (nI m) (nI 6) I.kn h40 I.br h30) sa93 m_X2_stone K2 g_235 dL_law_629 rfl rfl ⟨Nat.le_of_ble_eq_true rfl, Nat.le_of_ble_eq_true rfl⟩ ⟨by show k0 + 1 + 34 * (n - (m + 1)) + 1 + 1 + 1 + 1 + 1 + 1 + 1 + 1 + 1 + 1 + 1 + 1 + 1 ≤ 600104; omega, by show n0 + 40 + 240 * (n - (m + 1)) + 6 + 6 + 6 + 6 + 6 + 6 + 6 + 6 + 6 + 6 + 6 + 6 + 6 ≤ 7301314; omega⟩ (Nat.le_of_ble_eq_true rfl) ?_
          refine Y_stk [.int ((cStone K (nI m) (nI 6)).2), .int ((M.1 0 m) + (P m)), .int 0, .int (tl M m 7)] rfl ?_
          refine Y_stk [.int (M.1 6 m), .int ((M.1 0 m) + (P m)), .int 0, .int (tl M m 7)] (by rw [sb93, tl_row (by decide)]) ?_
          refine Y_isub C (v := ((M.1 0 m) + (P m)) - (M.1 6 m)) dL_law_632 rfl ?_
          skip
          refine Y_mmax C (v := mx 0 (((M.1 0 m) + (P m)) - (M.1 6 m))) dL_law_633 g_592 g_338 g_24 g_339 (Nat.le_of_ble_eq_true rfl) (Nat.le_of_ble_eq_true rfl) ⟨by show k0 + 1 + 34 * (n - (m + 1)) + 1 + 1 + 1 + 1 + 1 + 1 + 1 + 1 + 1 + 1 + 1 + 1 + 1 ≤ 600104; omega, by show n0 + 40 + 240 * (n - (m + 1)) + 6 + 6 + 6 + 6 + 6 + 6 + 6 + 6 + 6 + 6 + 6 + 6 + 6 ≤ 7301314; omega⟩ rfl ?_
          refine Y_icmp_eq C 641 dL_law_636 (by decide) (fun cc94 => ?_) (fun cc94 => absurd ld9 cc94)
          refine Y_iload C dL_law_641 rfl ?_
          refine Y_if_lt C 731 dL_law_643 (by decide) (fun cc95 => ?_) (fun cc95 => absurd (by rw [c4]; decide) cc95)
          refine Y_aload_n C dL_law_731 rfl rfl ?_
          refine Y_iload C dL_law_732 rfl ?_
          obtain ⟨r0, r1⟩ := go_first I hm1
          refine Y_stk [.int (nI m), .ref 0] rfl ?_
          refine Y_callG (K' := K) (D' := D) (B' := B) C S (c_X2_first K D B (nI m) I.kn h40 I.br h30) r0 m_X2_first K2 g_248 dL_law_734 rfl rfl ⟨Nat.le_of_ble_eq_true rfl, Nat.le_of_ble_eq_true rfl⟩ ⟨by show k0 + 1 + 34 * (n - (m + 1)) + 1 + 1 + 1 + 1 + 1 + 1 + 1 + 1 + 1 + 1 + 1 + 1 + 1 + 1 ≤ 600104; omega, by show n0 + 40 + 240 * (n - (m + 1)) + 6 + 6 + 6 + 6 + 6 + 6 + 6 + 6 + 6 + 6 + 6 + 6 + 6 + 6 ≤ 7301314; omega⟩ (Nat.le_of_ble_eq_true rfl) ?_
          refine Y_stk [.int ((cFirst K (nI m)).2)] rfl ?_
          refine Y_stk [.int (nI (mUp 40 M m))] (by rw [r1, if_neg cc11]) ?_
          refine Y_istore C (L' := [(22, .int (nI (mUp 40 M m))), (16, .int (al + (M.1 3 m))), (15, .int (sp + 1)), (14, .int (th + 1)), (21, .int (tl M m 7)), (20, .int (M.1 5 m)), (19, .int (M.1 4 m)), (0, .ref 1000), (1, .ref 0), (2, .ref 100), (3, .int (nI i)), (5, .int (nI n)), (7, .int (nI wh)), (10, .int (mCt (mRk M) 2)), (17, .ref 418), (18, .int (nI m))]) dL_law_737 (by decide) rfl ?_
          refine Y_iload C dL_law_739 rfl ?_
          refine Y_if_lt C 780 dL_law_741 (by decide) (fun cc96 => absurd cc96 (nI_pos (by omega))) (fun cc96 => ?_)
          refine Y_aload_n C dL_law_744 rfl rfl ?_
          refine Y_iload C dL_law_745 rfl ?_
          refine Y_iconst C (v := 3) dL_law_747 (by decide) ?_
          obtain ⟨sa97, sb97⟩ := go_stone I (w := 3) hup.1 (by decide)
          refine Y_stk [.int (nI 3), .int (nI (mUp 40 M m)), .ref 0] rfl ?_
          refine Y_callG (K' := K) (D' := D) (B' := B) C S (c_X2_stone K D B (nI (mUp 40 M m)) (nI 3) I.kn h40 I.br h30) sa97 m_X2_stone K2 g_235 dL_law_748 rfl rfl ⟨Nat.le_of_ble_eq_true rfl, Nat.le_of_ble_eq_true rfl⟩ ⟨by show k0 + 1 + 34 * (n - (m + 1)) + 1 + 1 + 1 + 1 + 1 + 1 + 1 + 1 + 1 + 1 + 1 + 1 + 1 + 1 + 1 ≤ 600104; omega, by show n0 + 40 + 240 * (n - (m + 1)) + 6 + 6 + 6 + 6 + 6 + 6 + 6 + 6 + 6 + 6 + 6 + 6 + 6 + 6 + 6 ≤ 7301314; omega⟩ (Nat.le_of_ble_eq_true rfl) ?_
          refine Y_stk [.int ((cStone K (nI (mUp 40 M m)) (nI 3)).2)] rfl ?_
          refine Y_stk [.int (M.1 3 (mUp 40 M m))] (by rw [sb97, tl_row (by decide)]) ?_
          refine Y_if_eq C 780 dL_law_751 (by decide) (fun cc98 => absurd cc98 hpw) (fun cc98 => ?_)
          refine Y_iload C dL_law_754 rfl ?_
          refine Y_if_ge C 769 dL_law_756 (by decide) (fun cc99 => absurd cc99 (by rw [c4]; decide)) (fun cc99 => ?_)
          refine Y_iload C dL_law_759 rfl ?_
          refine Y_iload C dL_law_761 rfl ?_
          refine Y_icmp_eq C 782 dL_law_763 (by decide) (fun cc100 => ?_) (fun cc100 => absurd (by rw [up_self c4]) cc100)
          have eP : jq1 M (Ld9 M) m P = P := by unfold jq1; rw [if_neg cc11, if_pos c4]
          rw [eP] at hPs
          rw [if_neg hp] at s2
          refine Y_iinc C (L' := [(18, .int (dn m)), (22, .int (nI (mUp 40 M m))), (16, .int (al + (M.1 3 m))), (15, .int (sp + 1)), (14, .int (th + 1)), (21, .int (tl M m 7)), (20, .int (M.1 5 m)), (19, .int (M.1 4 m)), (0, .ref 1000), (1, .ref 0), (2, .ref 100), (3, .int (nI i)), (5, .int (nI n)), (7, .int (nI wh)), (10, .int (mCt (mRk M) 2)), (17, .ref 418)]) (v := dn m) dL_law_782 rfl (dn_dec m) (by decide) rfl ?_
          refine Y_goto C 351 dL_law_785 (by decide) ?_
          refine Y_sub (L' := [(18, .int (dn m)), (16, .int (al + (M.1 3 m))), (15, .int (sp + 1)), (14, .int (th + 1)), (0, .ref 1000), (1, .ref 0), (2, .ref 100), (3, .int (nI i)), (5, .int (nI n)), (7, .int (nI wh)), (10, .int (mCt (mRk M) 2)), (17, .ref 418)]) (by simp) ?_
          refine Y_sub (L' := [(0, .ref 1000), (1, .ref 0), (2, .ref 100), (3, .int (nI i)), (5, .int (nI n)), (7, .int (nI wh)), (10, .int (mCt (mRk M) 2)), (14, .int (th + 1)), (15, .int (sp + 1)), (16, .int (al + (M.1 3 m))), (17, .ref 418), (18, .int (dn m))]) (by simp) ?_
          refine Y_widen (k' := k0 + 1 + 34 * (n - m)) (n' := n0 + 40 + 240 * (n - m)) (by omega) (by omega) ?_
          exact ih (by omega) _ D P (th + 1) (sp + 1) (al + (M.1 3 m)) (fun i hi => av i hi) hPs s1 s2 s3
      · have e7 : tl M m 7 = 0 := by rw [tl_7, hld]; exact if_pos cc11
        have e8 : tl M m 8 = 0 := by rw [tl_8]; exact LI_p0 I hm1 cc11
        have e9 : tl M m 9 = 0 := by rw [tl_9]; exact if_neg (fun z => (JI_hg I.2.2.1 hm1).mp z cc11)
        refine Y_iload C dL_law_394 rfl ?_
        refine Y_iconst C (v := (-1)) dL_law_396 (by decide) ?_
        refine Y_icmp_ne C 471 dL_law_397 (by decide) (fun cc101 => absurd (f2 cc11).1 cc101) (fun cc101 => ?_)
        refine Y_iload C dL_law_400 rfl ?_
        refine Y_iconst C (v := (-1)) dL_law_402 (by decide) ?_
        refine Y_icmp_ne C 471 dL_law_403 (by decide) (fun cc102 => absurd (f4 (f2 cc11).1) cc102) (fun cc102 => ?_)
        refine Y_iload C dL_law_406 rfl ?_
        refine Y_if_ne C 471 dL_law_408 (by decide) (fun cc103 => absurd e7 cc103) (fun cc103 => ?_)
        refine Y_aload_n C dL_law_411 rfl rfl ?_
        refine Y_iload C dL_law_412 rfl ?_
        refine Y_iconst C (v := 3) dL_law_414 (by decide) ?_
        obtain ⟨sa104, sb104⟩ := go_stone I (w := 3) hm1 (by decide)
        refine Y_stk [.int (nI 3), .int (nI m), .ref 0] rfl ?_
        refine Y_callG (K' := K) (D' := D) (B' := B) C S (c_X2_stone K D B (nI m) (nI 3) I.kn h40 I.br h30) sa104 m_X2_stone K2 g_235 dL_law_415 rfl rfl ⟨Nat.le_of_ble_eq_true rfl, Nat.le_of_ble_eq_true rfl⟩ ⟨by show k0 + 1 + 34 * (n - (m + 1)) + 1 + 1 + 1 + 1 + 1 ≤ 600104; omega, by show n0 + 40 + 240 * (n - (m + 1)) + 6 + 6 + 6 + 6 + 6 ≤ 7301314; omega⟩ (Nat.le_of_ble_eq_true rfl) ?_
        refine Y_stk [.int ((cStone K (nI m) (nI 3)).2)] rfl ?_
        refine Y_stk [.int (M.1 3 m)] (by rw [sb104, tl_row (by decide)]) ?_
        refine Y_if_ne C 471 dL_law_418 (by decide) (fun cc105 => absurd (f2 cc11).2 cc105) (fun cc105 => ?_)
        refine Y_aload_n C dL_law_421 rfl rfl ?_
        refine Y_iload C dL_law_422 rfl ?_
        refine Y_bipush C (v := 8) dL_law_424 (by decide) ?_
        obtain ⟨sa106, sb106⟩ := go_stone I (w := 8) hm1 (by decide)
        refine Y_stk [.int (nI 8), .int (nI m), .ref 0] rfl ?_
        refine Y_callG (K' := K) (D' := D) (B' := B) C S (c_X2_stone K D B (nI m) (nI 8) I.kn h40 I.br h30) sa106 m_X2_stone K2 g_235 dL_law_426 rfl rfl ⟨Nat.le_of_ble_eq_true rfl, Nat.le_of_ble_eq_true rfl⟩ ⟨by show k0 + 1 + 34 * (n - (m + 1)) + 1 + 1 + 1 + 1 + 1 + 1 ≤ 600104; omega, by show n0 + 40 + 240 * (n - (m + 1)) + 6 + 6 + 6 + 6 + 6 + 6 ≤ 7301314; omega⟩ (Nat.le_of_ble_eq_true rfl) ?_
        refine Y_stk [.int ((cStone K (nI m) (nI 8)).2)] rfl ?_
        refine Y_stk [.int (tl M m 8)] (by rw [sb106]) ?_
        refine Y_if_ne C 471 dL_law_429 (by decide) (fun cc107 => absurd e8 cc107) (fun cc107 => ?_)
        refine Y_aload_n C dL_law_432 rfl rfl ?_
        refine Y_iload C dL_law_433 rfl ?_
        refine Y_bipush C (v := 9) dL_law_435 (by decide) ?_
        obtain ⟨sa108, sb108⟩ := go_stone I (w := 9) hm1 (by decide)
        refine Y_stk [.int (nI 9), .int (nI m), .ref 0] rfl ?_
        refine Y_callG (K' := K) (D' := D) (B' := B) C S (c_X2_stone K D B (nI m) (nI 9) I.kn h40 I.br h30) sa108 m_X2_stone K2 g_235 dL_law_437 rfl rfl ⟨Nat.le_of_ble_eq_true rfl, Nat.le_of_ble_eq_true rfl⟩ ⟨by show k0 + 1 + 34 * (n - (m + 1)) + 1 + 1 + 1 + 1 + 1 + 1 + 1 ≤ 600104; omega, by show n0 + 40 + 240 * (n - (m + 1)) + 6 + 6 + 6 + 6 + 6 + 6 + 6 ≤ 7301314; omega⟩ (Nat.le_of_ble_eq_true rfl) ?_
        refine Y_stk [.int ((cStone K (nI m) (nI 9)).2)] rfl ?_
        refine Y_stk [.int (tl M m 9)] (by rw [sb108]) ?_
        refine Y_if_ne C 471 dL_law_440 (by decide) (fun cc109 => absurd e9 cc109) (fun cc109 => ?_)
        refine Y_aload_n C dL_law_443 rfl rfl ?_
        refine Y_iload C dL_law_444 rfl ?_
        obtain ⟨r0, r1⟩ := go_first I hm1
        refine Y_stk [.int (nI m), .ref 0] rfl ?_
        refine Y_callG (K' := K) (D' := D) (B' := B) C S (c_X2_first K D B (nI m) I.kn h40 I.br h30) r0 m_X2_first K2 g_248 dL_law_446 rfl rfl ⟨Nat.le_of_ble_eq_true rfl, Nat.le_of_ble_eq_true rfl⟩ ⟨by show k0 + 1 + 34 * (n - (m + 1)) + 1 + 1 + 1 + 1 + 1 + 1 + 1 + 1 ≤ 600104; omega, by show n0 + 40 + 240 * (n - (m + 1)) + 6 + 6 + 6 + 6 + 6 + 6 + 6 + 6 ≤ 7301314; omega⟩ (Nat.le_of_ble_eq_true rfl) ?_
        refine Y_stk [.int ((cFirst K (nI m)).2)] rfl ?_
        refine Y_stk [.int (-1)] (by rw [r1, if_pos cc11]) ?_
        refine Y_iconst C (v := (-1)) dL_law_449 (by decide) ?_
        refine Y_icmp_ne C 471 dL_law_450 (by decide) (fun cc110 => absurd rfl cc110) (fun cc110 => ?_)
        refine Y_aload_n C dL_law_453 rfl rfl ?_
        refine Y_iload C dL_law_454 rfl ?_
        obtain ⟨w0, w1, -⟩ := go_wo D I hm1
        obtain ⟨D1, hD1⟩ : ∃ Z, Z = (cWo K D (nI m)).2.2 := ⟨_, rfl⟩
        refine Y_stk [.int (nI m), .ref 0] rfl ?_
        refine Y_callG (K' := K) (D' := (cWo K D (nI m)).2.2) (B' := B) C S (c_X2_without K D B (nI m) I.kn h40 I.br h30) w0 m_X2_without K2 g_352 dL_law_456 rfl rfl ⟨Nat.le_of_ble_eq_true rfl, Nat.le_of_ble_eq_true rfl⟩ ⟨by show k0 + 1 + 34 * (n - (m + 1)) + 1 + 1 + 1 + 1 + 1 + 1 + 1 + 1 + 1 ≤ 600104; omega, by show n0 + 40 + 240 * (n - (m + 1)) + 6 + 6 + 6 + 6 + 6 + 6 + 6 + 6 + 6 ≤ 7301314; omega⟩ (Nat.le_of_ble_eq_true rfl) ?_
        refine Y_stk [.int ((cWo K D (nI m)).2.1)] rfl ?_
        refine Y_stk [.int 0] (by rw [w1 cc11]) ?_
        rw [← hD1]
        refine Y_if_ne C 471 dL_law_459 (by decide) (fun cc111 => absurd (by decide) cc111) (fun cc111 => ?_)
        refine Y_aload_n C dL_law_462 rfl rfl ?_
        refine Y_iload C dL_law_463 rfl ?_
        obtain ⟨l0, l1⟩ := go_ls D1 I hm1
        obtain ⟨D2, hD2⟩ : ∃ Z, Z = (cLs K D1 (nI m)).2.2 := ⟨_, rfl⟩
        refine Y_stk [.int (nI m), .ref 0] rfl ?_
        refine Y_callG (K' := K) (D' := (cLs K D1 (nI m)).2.2) (B' := B) C S (c_X2_lasts K D1 B (nI m) I.kn h40 I.br h30) l0 m_X2_lasts K2 g_364 dL_law_465 rfl rfl ⟨Nat.le_of_ble_eq_true rfl, Nat.le_of_ble_eq_true rfl⟩ ⟨by show k0 + 1 + 34 * (n - (m + 1)) + 1 + 1 + 1 + 1 + 1 + 1 + 1 + 1 + 1 + 1 ≤ 600104; omega, by show n0 + 40 + 240 * (n - (m + 1)) + 6 + 6 + 6 + 6 + 6 + 6 + 6 + 6 + 6 + 6 ≤ 7301314; omega⟩ (Nat.le_of_ble_eq_true rfl) ?_
        refine Y_stk [.int ((cLs K D1 (nI m)).2.1)] rfl ?_
        refine Y_stk [.int 0] (by rw [l1, ls_fall (hg_n I hm1 cc11)]) ?_
        rw [← hD2]
        have eP : jq1 M (Ld9 M) m P = P := by unfold jq1; exact if_pos cc11
        rw [eP] at hPs
        refine Y_if_eq C 782 dL_law_468 (by decide) (fun cc112 => ?_) (fun cc112 => absurd (by decide) cc112)
        have s1 := dn_step (gth_t M) h1
        have s2 := dn_step (gsp_t M) h2
        have s3 := dn_step (jp1_t M) h3
        rw [if_pos cc11, Int32.add_zero] at s1 s2 s3
        refine Y_iinc C (L' := [(18, .int (dn m)), (21, .int (tl M m 7)), (20, .int (M.1 5 m)), (19, .int (M.1 4 m)), (0, .ref 1000), (1, .ref 0), (2, .ref 100), (3, .int (nI i)), (5, .int (nI n)), (7, .int (nI wh)), (10, .int (mCt (mRk M) 2)), (14, .int th), (15, .int sp), (16, .int al), (17, .ref 418)]) (v := dn m) dL_law_782 rfl (dn_dec m) (by decide) rfl ?_
        refine Y_goto C 351 dL_law_785 (by decide) ?_
        refine Y_sub (L' := [(18, .int (dn m)), (0, .ref 1000), (1, .ref 0), (2, .ref 100), (3, .int (nI i)), (5, .int (nI n)), (7, .int (nI wh)), (10, .int (mCt (mRk M) 2)), (14, .int th), (15, .int sp), (16, .int al), (17, .ref 418)]) (by simp) ?_
        refine Y_sub (L' := [(0, .ref 1000), (1, .ref 0), (2, .ref 100), (3, .int (nI i)), (5, .int (nI n)), (7, .int (nI wh)), (10, .int (mCt (mRk M) 2)), (14, .int th), (15, .int sp), (16, .int al), (17, .ref 418), (18, .int (dn m))]) (by simp) ?_
        refine Y_widen (k' := k0 + 1 + 34 * (n - m)) (n' := n0 + 40 + 240 * (n - m)) (by omega) (by omega) ?_
        exact ih (by omega) _ D2 P th sp al (fun i hi => av i hi) hPs s1 s2 s3
  refine Y_widen (k' := k0 + 1 + 34 * (n - n)) (n' := n0 + 40 + 240 * (n - n)) (by omega) (by omega) ?_
  exact key n (Nat.le_refl n) _ D _ 0 0 0 (fun q hq => ag1 q hq.2) (PK_n n M) rfl rfl rfl
