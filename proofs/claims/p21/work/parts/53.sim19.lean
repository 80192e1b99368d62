/-! the methods' answers: stair, swap, joins, stone, first, count, pass -/
theorem Sm_m {n r : Nat} {B : Sr} {K : St} {M M' : Md} (hR : Rw n K M') (hm : Hm M M') (h : Sm n r B K M) : Sm n r B K M' := by
  obtain ⟨⟨⟨h1, h2, h3, h4, h5, h6, h7, h40, h30, hx, hb⟩, hnl, hl⟩, hs, ht⟩ := h
  have h6' : M'.2.2.2 1 = nI n := by rw [hm.2.1]; exact h6
  exact ⟨⟨⟨hR, h2, h3, h4, h5, h6', WH_keep (Hs.rf K) hm h7, h40, h30, hx, hb⟩, hnl, fun q => ⟨PL_new h40 (hl q).1 hR h6 h6', (hl q).2⟩⟩, hs, ht⟩
theorem Sm_w {n r r' : Nat} {B B' : Sr} {K : St} {M M' : Md} (h : Sm n r B K M) (hw : WH n r' B' K M') (h1 : M'.1 = M.1) (h2 : M'.2.2.2 1 = M.2.2.2 1) (h3 : r' ≤ 30) (h4 : B'.2 0 = nI r') : Sm n r' B' K M' := by
  obtain ⟨⟨⟨g1, g2, g3, g4, g5, g6, g7, h40, h30, hx, hb⟩, hnl, hl⟩, hs, ht⟩ := h
  have hR : Rw n K M' := fun i hi => by rw [h1]; exact g1 i hi
  exact ⟨⟨⟨hR, g2, g3, g4, g5, h2.trans g6, hw, h40, h3, hx, h4⟩, hnl, fun q => ⟨PL_new h40 (hl q).1 hR g6 (h2.trans g6), (hl q).2⟩⟩, hs, ht⟩
theorem fullR_q {r : Nat} {B : Sr} {M : Md} (h30 : r ≤ 30) (hk : B.2 0 = nI r) (hm : M.2.2.2 2 = nI r) : fullR B = decide (M.2.2.2 2 = 30) := by
  unfold fullR
  rw [hk, hm]
  by_cases z : r = 30
  · rw [z]; decide
  · have h1 : nI r < 30 := nI_lt (a := r) (b := 30) (by omega) (by omega)
    have h2 : ¬ nI r = 30 := fun q => z ((nI_eq (a := r) (b := 30) (by omega) (by omega)).mp q)
    simp [h1, h2]
theorem bT {b : Bool} (h : ¬ b = false) : b = true := by
  cases b with
  | true => rfl
  | false => exact absurd rfl h
theorem isInB_nI {x hi : Int32} {N : Nat} (hM : hi.toInt = N) (h : isInB x 0 hi = true) : ∃ j : Nat, j ≤ N ∧ x = nI j := by
  obtain ⟨a, b⟩ := isInB_ge h
  exact nI_of2 hM (Int32.not_lt.mpr a) b
theorem stair_q {n r : Nat} {B : Sr} {K : St} {M : Md} (h : Si n r B K M) (a d : Int32) : (mStair M a d).1.2.2.2 0 = kc eI eA (cStair K B a d).1 ∧ ((cStair K B a d).1 = none → (mStair M a d).2 = (cStair K B a d).2.1) ∧ ∃ r', Si n r' (cStair K B a d).2.2 K (mStair M a d).1 := by
  obtain ⟨hS, hK⟩ := h
  have hS0 : Sm n r B K (mI M 0 0) := Sm_q (Mq_mI M 0) hS
  have hp := hS0.1.1
  have h40 := hp.h40
  have h30 := hp.h30
  have hf : fullR B = decide (M.2.2.2 2 = 30) := fullR_q h30 hp.br hS.1.1.mr
  unfold mStair cStair
  rw [has_q h40 hp.kn hp.mn, has_q h40 hp.kn hp.mn]
  by_cases c1 : hasB K a = false ∨ hasB K d = false
  · rw [if_pos c1, if_pos c1]
    exact ⟨kc_IA1.symm, fun q => (by cases q), r, Sm_q (Mq_mI _ 1) hS0, hK⟩
  · rw [if_neg c1, if_neg c1]
    have ha : hasB K a = true := bT (fun z => c1 (Or.inl z))
    have hd : hasB K d = true := bT (fun z => c1 (Or.inr z))
    by_cases c2 : a = d
    · rw [if_pos c2, if_pos c2]
      exact ⟨kc_IA2.symm, fun q => (by cases q), r, Sm_q (Mq_mI _ 2) hS0, hK⟩
    · rw [if_neg c2, if_neg c2, hangs_q hS0 ha, hangs_q hS0 hd, hf]
      simp only [decide_eq_true_eq]
      by_cases c3 : M.2.2.2 2 = 30 ∨ hangsB K a = false ∨ hangsB K d = false
      · rw [if_pos c3, if_pos c3]
        exact ⟨kc_IA3.symm, fun q => (by cases q), r, Sm_q (Mq_mI _ 3) hS0, hK⟩
      · rw [if_neg c3, if_neg c3]
        have hl : r < 30 := by
          rcases Nat.lt_or_ge r 30 with y | y
          · exact y
          · exact absurd (Or.inl (by rw [hS.1.1.mr, show r = 30 by omega]; rfl)) c3
        have ga : hangsB K a = true := bT (fun z => c3 (Or.inr (Or.inl z)))
        have gd : hangsB K d = true := bT (fun z => c3 (Or.inr (Or.inr z)))
        obtain ⟨ja, hja, rfl⟩ := has_ix hp.kn h40 ha
        obtain ⟨jd, hjd, rfl⟩ := has_ix hp.kn h40 hd
        rw [r_eq hp.br h30, mR_eq hS.1.1.mr h30]
        have ka : K.2.1 ja = true := by
          unfold hangsB at ga
          rw [ha, ix_nI (by omega)] at ga
          exact ga
        have kd : K.2.1 jd = true := by
          unfold hangsB at gd
          rw [hd, ix_nI (by omega)] at gd
          exact gd
        refine ⟨rfl, fun _ => rfl, r + 1, Sm_w hS0 ⟨rfl, fun k hk => ?_, hS0.1.1.WH.2.2.1, hS0.1.1.WH.2.2.2⟩ rfl rfl hl (nI_1 r), hK⟩
        have e0 : (addR B r (nI ja) (nI jd)).1 0 k = if k = r then nI ja else B.1 0 k := rfl
        have e1 : (addR B r (nI ja) (nI jd)).1 1 k = if k = r then nI jd else B.1 1 k := rfl
        have m0 : ∀ w, (mI (rW (mI M 0 0) r (s3 (nI ja) (nI jd))) 2 (nI (r + 1))).2.1 w k = if k = r then s3 (nI ja) (nI jd) w else M.2.1 w k := fun _ => rfl
        rw [e0, e1, m0, m0, m0]
        by_cases z : k = r
        · simp only [if_pos z]
          refine ⟨rfl, rfl, ⟨ja, hja, rfl⟩, ⟨jd, hjd, rfl⟩, ?_⟩
          show (0 : Int32) = bI (goneK K (nI ja) (nI jd))
          unfold goneK
          rw [ix_nI (by omega), ix_nI (by omega), ka, kd]
          rfl
        · simp only [if_neg z]
          exact hS.1.1.WH.2.1 k (by omega)
theorem swap_q {n r : Nat} {B : Sr} {K : St} {M : Md} (h : Si n r B K M) (a d : Int32) : (mSwap M a d).1.2.2.2 0 = kc eI eA (cSwap K B a d).1 ∧ ((cSwap K B a d).1 = none → (mSwap M a d).2 = (cSwap K B a d).2.1) ∧ Si n r (cSwap K B a d).2.2 K (mSwap M a d).1 := by
  obtain ⟨hS, hK⟩ := h
  have hS0 : Sm n r B K (mI M 0 0) := Sm_q (Mq_mI M 0) hS
  have hp := hS.1.1
  have h40 := hp.h40
  have h30 := hp.h30
  unfold mSwap mSwapT cSwap
  rw [hasR_q h30 hp.br hp.mr, hasR_q h30 hp.br hp.mr]
  by_cases c1 : hasR B a = false ∨ hasR B d = false
  · rw [if_pos c1, if_pos c1, if_neg (by decide)]
    exact ⟨kc_IA1.symm, fun q => (by cases q), Sm_q (Mq_mI _ 1) hS, hK⟩
  · rw [if_neg c1, if_neg c1]
    have ha : hasR B a = true := bT (fun z => c1 (Or.inl z))
    have hd : hasR B d = true := bT (fun z => c1 (Or.inr z))
    by_cases c2 : a = d
    · rw [if_pos c2, if_pos c2, if_neg (by decide)]
      exact ⟨kc_IA2.symm, fun q => (by cases q), Sm_q (Mq_mI _ 2) hS, hK⟩
    · rw [if_neg c2, if_neg c2]
      obtain ⟨ja, hja, rfl⟩ := has_ixR hp.br h30 ha
      obtain ⟨jd, hjd, rfl⟩ := has_ixR hp.br h30 hd
      have hne : ¬ ja = jd := fun z => c2 (by rw [z])
      obtain ⟨p0, p1, ⟨u0, hu0, eu0⟩, ⟨u1, hu1, eu1⟩, p4⟩ := hp.WH.2.1 ja hja
      obtain ⟨q0, q1, ⟨v0, hv0, ev0⟩, ⟨v1, hv1, ev1⟩, q4⟩ := hp.WH.2.1 jd hjd
      have ea := gone_q hp hja
      have ed := gone_q hp hjd
      rw [ix_nI (by omega), ix_nI (by omega), ← ea, ← ed]
      by_cases c3 : goneR B K (nI ja) = true ∨ goneR B K (nI jd) = true
      · have g : ¬ bI (goneR B K (nI ja)) + bI (goneR B K (nI jd)) ≤ 0 := by
          rcases c3 with z | z
          · rw [z]; cases goneR B K (nI jd) <;> decide
          · rw [z]; cases goneR B K (nI ja) <;> decide
        rw [if_pos c3, if_neg g, if_neg (by decide)]
        exact ⟨kc_IA3.symm, fun q => (by cases q), Sm_q (Mq_mI _ 3) hS, hK⟩
      · have za : goneR B K (nI ja) = false := by
          cases z : goneR B K (nI ja) with
          | false => rfl
          | true => exact absurd (Or.inl z) c3
        have zd : goneR B K (nI jd) = false := by
          cases z : goneR B K (nI jd) with
          | false => rfl
          | true => exact absurd (Or.inr z) c3
        have g : bI (goneR B K (nI ja)) + bI (goneR B K (nI jd)) ≤ 0 := by rw [za, zd]; decide
        rw [if_neg c3, if_pos g, if_pos rfl]
        have sb : swapB B (nI ja) (nI jd) = (!decide (M.2.1 0 ja = M.2.1 1 jd) && !decide (M.2.1 0 jd = M.2.1 1 ja)) := by
          unfold swapB
          rw [ha, hd, ix_nI (by omega), ix_nI (by omega), p0, p1, q0, q1]
          rfl
        unfold swapP
        rw [sb, ix_nI (by omega), ix_nI (by omega)]
        by_cases c4 : M.2.1 0 ja = M.2.1 1 jd ∨ M.2.1 0 jd = M.2.1 1 ja
        · have s0 : (!decide (M.2.1 0 ja = M.2.1 1 jd) && !decide (M.2.1 0 jd = M.2.1 1 ja)) = false := by
            rcases c4 with z | z <;> simp [z]
          rw [if_pos c4, s0, if_neg (by decide)]
          exact ⟨rfl, fun _ => rfl, hS0, hK⟩
        · have s0 : (!decide (M.2.1 0 ja = M.2.1 1 jd) && !decide (M.2.1 0 jd = M.2.1 1 ja)) = true := by
            have z1 : ¬ M.2.1 0 ja = M.2.1 1 jd := fun z => c4 (Or.inl z)
            have z2 : ¬ M.2.1 0 jd = M.2.1 1 ja := fun z => c4 (Or.inr z)
            simp [z1, z2]
          rw [if_neg c4, s0, if_pos rfl]
          rw [← ea, za, eu0, eu1] at p4
          rw [← ed, zd, ev0, ev1] at q4
          unfold goneK at p4 q4
          rw [ix_nI (by omega), ix_nI (by omega)] at p4 q4
          have hb : ∀ b1 b2 : Bool, bI false = bI (!b1 || !b2) → b1 = true ∧ b2 = true := by decide
          obtain ⟨k1, k2⟩ := hb _ _ p4
          obtain ⟨k3, k4⟩ := hb _ _ q4
          refine ⟨rfl, fun _ => rfl, Sm_w hS0 ⟨hp.mr, fun k hk => ?_, hS0.1.1.WH.2.2.1, hS0.1.1.WH.2.2.2⟩ rfl rfl h30 hp.br, hK⟩
          have e0 : ∀ x y : Int32, (vA (vA B 1 ja x) 1 jd y).1 0 k = B.1 0 k := fun _ _ => rfl
          have e1 : ∀ x y : Int32, (vA (vA B 1 ja x) 1 jd y).1 1 k = if k = jd then y else if k = ja then x else B.1 1 k := fun _ _ => rfl
          have f0 : ∀ x y : Int32, (wA (wA (mI M 0 0) 1 ja x) 1 jd y).2.1 0 k = M.2.1 0 k := fun _ _ => rfl
          have f2 : ∀ x y : Int32, (wA (wA (mI M 0 0) 1 ja x) 1 jd y).2.1 2 k = M.2.1 2 k := fun _ _ => rfl
          have f1 : ∀ x y : Int32, (wA (wA (mI M 0 0) 1 ja x) 1 jd y).2.1 1 k = if k = jd then y else if k = ja then x else M.2.1 1 k := fun _ _ => rfl
          rw [e0, e1, f0, f1, f2, p1, q1]
          obtain ⟨b0, b1, b2, b3, b4⟩ := hp.WH.2.1 k hk
          by_cases z1 : k = jd
          · rw [if_pos z1, if_pos z1]
            refine ⟨b0, rfl, b2, ⟨u1, hu1, eu1⟩, ?_⟩
            rw [z1, ← ed, zd, eu1, ev0]
            unfold goneK
            rw [ix_nI (by omega), ix_nI (by omega), k2, k3]
            rfl
          · rw [if_neg z1, if_neg z1]
            by_cases z2 : k = ja
            · rw [if_pos z2, if_pos z2]
              refine ⟨b0, rfl, b2, ⟨v1, hv1, ev1⟩, ?_⟩
              rw [z2, ← ea, za, eu0, ev1]
              unfold goneK
              rw [ix_nI (by omega), ix_nI (by omega), k1, k4]
              rfl
            · rw [if_neg z2, if_neg z2]
              exact ⟨b0, b1, b2, b3, b4⟩
theorem way_q {n r : Nat} {B : Sr} {K : St} {M : Md} (h : Sm n r B K M) {k w : Nat} (hk : k < r) (hw : w < 3) : M.2.1 w k = tellR B K (nI k) (nI w) := by
  have hp := h.1.1
  have h30 := hp.h30
  obtain ⟨b0, b1, b2, b3, b4⟩ := hp.WH.2.1 k hk
  unfold tellR
  rw [if_pos (has_nIR hp.br h30 hk), show ix (nI w) = w from ix_nI (by omega)]
  rcases (show w = 0 ∨ w = 1 ∨ w = 2 by omega) with rfl | rfl | rfl
  · show M.2.1 0 k = B.1 0 (ix (nI k)); rw [ix_nI (by omega), b0]
  · show M.2.1 1 k = B.1 1 (ix (nI k)); rw [ix_nI (by omega), b1]
  · show M.2.1 2 k = bI (goneR B K (nI k)); rw [gone_q hp hk]
theorem joins_q {n r : Nat} {B : Sr} {K : St} {M : Md} (h : Si n r B K M) (k w : Int32) : (mJoins M k w).1.2.2.2 0 = kc eI eA (cJoins K B k w).1 ∧ ((cJoins K B k w).1 = none → (mJoins M k w).2 = (cJoins K B k w).2) ∧ Si n r B K (mJoins M k w).1 := by
  obtain ⟨hS, hK⟩ := h
  have hS0 : Sm n r B K (mI M 0 0) := Sm_q (Mq_mI M 0) hS
  have hp := hS0.1.1
  have h30 := hp.h30
  unfold mJoins cJoins
  rw [hasR_q h30 hp.br hp.mr]
  by_cases c1 : (hasR B k && isInB w 0 2) = true
  · rw [if_pos c1, if_pos c1]
    simp only [Bool.and_eq_true] at c1
    obtain ⟨j, hj, rfl⟩ := has_ixR hp.br h30 c1.1
    obtain ⟨u, hu, rfl⟩ := isInB_nI (N := 2) (by decide) c1.2
    refine ⟨rfl, fun _ => ?_, hS0, hK⟩
    show M.2.1 (ix (nI u)) (ix (nI j)) = tellR B K (nI j) (nI u)
    rw [ix_nI (by omega), ix_nI (by omega)]
    exact way_q hS hj (by omega)
  · rw [if_neg c1, if_neg c1]
    exact ⟨kc_IA1.symm, fun q => (by cases q), Sm_q (Mq_mI _ 1) hS0, hK⟩
theorem stone_q {n r : Nat} {B : Sr} {K : St} {M : Md} (h : Si n r B K M) (x w : Int32) : (mStn M x w).1.2.2.2 0 = kc eI eA (cStone K x w).1 ∧ ((cStone K x w).1 = none → (mStn M x w).2 = (cStone K x w).2) ∧ Si n r B K (mStn M x w).1 := by
  obtain ⟨hS, hK⟩ := h
  have hS0 : Sm n r B K (mI M 0 0) := Sm_q (Mq_mI M 0) hS
  have hp := hS0.1.1
  have h40 := hp.h40
  unfold mStn cStone
  rw [has_q h40 hp.kn hp.mn]
  by_cases c1 : (hasB K x && isInB w 0 9) = true
  · rw [if_pos c1, if_pos c1]
    simp only [Bool.and_eq_true] at c1
    obtain ⟨j, hj, rfl⟩ := has_ix hp.kn h40 c1.1
    obtain ⟨u, hu, rfl⟩ := isInB_nI (N := 9) (by decide) c1.2
    rw [ix_nI (by omega), ix_nI (by omega)]
    have hT := told_q hS0 hj (show u < 10 by omega)
    have t0 : (mRk (mI M 0 0)).2.2.2 0 = 0 := congrFun (mi_Rk (mI M 0 0)) 0
    have hq := Sm_q (Mq_Rk _) hS0
    generalize mRk (mI M 0 0) = X at hT t0 hq ⊢
    exact ⟨t0, fun _ => hT, hq, hK⟩
  · rw [if_neg c1, if_neg c1]
    exact ⟨kc_IA1.symm, fun q => (by cases q), Sm_q (Mq_mI _ 1) hS0, hK⟩
theorem topN_def2 (S : St) (x : Int32) : topOf S x = topN 40 S x := by unfold topOf; rfl
theorem first_q {n r : Nat} {B : Sr} {K : St} {M : Md} (h : Si n r B K M) (x : Int32) : (mFirst M x).1.2.2.2 0 = kc eI eA (cFirst K x).1 ∧ ((cFirst K x).1 = none → (mFirst M x).2 = (cFirst K x).2) ∧ Si n r B K (mFirst M x).1 := by
  obtain ⟨hS, hK⟩ := h
  have hS0 : Sm n r B K (mI M 0 0) := Sm_q (Mq_mI M 0) hS
  have hp := hS0.1.1
  have h40 := hp.h40
  unfold mFirst cFirst
  rw [has_q h40 hp.kn hp.mn]
  by_cases c1 : hasB K x = false
  · rw [if_pos c1, if_neg (by rw [c1]; decide)]
    exact ⟨kc_IA1.symm, fun q => (by cases q), Sm_q (Mq_mI _ 1) hS0, hK⟩
  · have d1 := bT c1
    rw [if_neg c1, if_pos d1]
    obtain ⟨j, hj, rfl⟩ := has_ix hp.kn h40 d1
    rw [ix_nI (by omega), mHg_b hp.1 hj, topN_def2]
    cases z : K.2.1 j with
    | false =>
      rw [if_pos rfl]
      have e := top_fallen hS hj z 38
      generalize topN 40 K (nI j) = T at e ⊢
      exact ⟨rfl, fun _ => e.symm, hS0, hK⟩
    | true =>
      rw [if_neg (by decide)]
      have e := topN_q hS 40 j (by omega) hj z
      generalize topN 40 K (nI j) = T at e ⊢
      generalize mUp 40 M j = U at e ⊢
      exact ⟨rfl, fun _ => e.symm, hS0, hK⟩
theorem count_q {n r : Nat} {B : Sr} {K : St} {M : Md} (h : Si n r B K M) (x : Int32) : (mCount M x).1.2.2.2 0 = kc eI eA (cCount K B x).1 ∧ ((cCount K B x).1 = none → (mCount M x).2 = (cCount K B x).2) ∧ Si n r B K (mCount M x).1 := by
  obtain ⟨hS, hK⟩ := h
  have hS0 : Sm n r B K (mI M 0 0) := Sm_q (Mq_mI M 0) hS
  unfold mCount cCount
  by_cases c1 : isInB x 0 7 = true
  · rw [if_pos c1, if_pos c1]
    obtain ⟨u, hu, rfl⟩ := isInB_nI (N := 7) (by decide) c1
    rw [ix_nI (by omega)]
    have t0 : (mRk (mI M 0 0)).2.2.2 0 = 0 := congrFun (mi_Rk (mI M 0 0)) 0
    have hq := Sm_q (Mq_Rk _) hS0
    have hl : ∀ i, i < n → K.1 6 i = (mRk (mI M 0 0)).2.2.1 1 i := fun i hi => (load_q hS0 hi).1.symm
    generalize mRk (mI M 0 0) = X at t0 hq hl ⊢
    have hT := sky_q hq u (by omega) (fun _ => hl)
    exact ⟨t0, fun _ => hT, hq, hK⟩
  · rw [if_neg c1, if_neg c1]
    exact ⟨kc_IA1.symm, fun q => (by cases q), Sm_q (Mq_mI _ 1) hS0, hK⟩
theorem Sd_day (S : St) : (∀ j, (liveDay S).1 2 j = S.1 2 j) ∧ ∀ j, S.1 3 j = 0 → (liveDay S).1 3 j = 0 := by
  have hf : (∀ j, (fade S).1 2 j = S.1 2 j) ∧ ∀ j, S.1 3 j = 0 → (fade S).1 3 j = 0 := by
    unfold fade
    refine fr_I (fun X => (∀ j, X.1 2 j = S.1 2 j) ∧ ∀ j, S.1 3 j = 0 → X.1 3 j = 0) (fun i X h => ?_) _ S ⟨fun _ => rfl, fun _ q => q⟩
    unfold fade1
    split
    · split
      · exact h
      · unfold endSpell
        split
        · refine ⟨h.1, fun j q => ?_⟩
          show (if j = ix (nI i) then (0 : Int32) else X.1 3 j) = 0
          split
          · rfl
          · exact h.2 j q
        · exact h
    · rename_i hx
      refine ⟨h.1, fun j q => ?_⟩
      show (if j = i then X.1 3 i - 2 else X.1 3 j) = 0
      by_cases z : j = i
      · exact absurd (by rw [← z, h.2 j q]; decide) hx
      · rw [if_neg z]; exact h.2 j q
  have h2 : (∀ j, (dayD S).1 2 j = S.1 2 j) ∧ ∀ j, S.1 3 j = 0 → (dayD S).1 3 j = 0 := by
    unfold dayD
    generalize fade S = X at hf ⊢
    have hd : Sd X (giveWay (if X.2.2.2 = true then dropL X else X)) := by
      refine Sd.tr ?_ (Sd_giveWay _)
      split
      · exact Sd_drop X
      · exact Sd.rf X
    generalize giveWay (if X.2.2.2 = true then dropL X else X) = Y at hd ⊢
    refine ⟨fun j => by rw [hd.2.2.1]; exact hf.1 j, fun j q => ?_⟩
    rcases (hd.2.2.2.2.2 j).1 with z | z
    · rw [z]; exact hf.2 j q
    · exact z
  unfold liveDay
  generalize dayD S = X at h2 ⊢
  exact h2
theorem SK_day {n : Nat} {K : St} (h : SK n K) : SK n (liveDay K) := fun j => by
  obtain ⟨a, b⟩ := Sd_day K
  rw [a]
  exact ⟨(h j).1, fun q => ⟨((h j).2 q).1, b j ((h j).2 q).2⟩⟩
theorem SK_days {n : Nat} : ∀ (d : Nat) (K : St), SK n K → SK n (fr live1 d K)
  | 0, _, h => h
  | d + 1, K, h => by
    show SK n (live1 d (fr live1 d K))
    unfold live1
    exact SK_day (SK_days d K h)
theorem pass_q {n r : Nat} {B : Sr} {K : St} {M : Md} (h : Si n r B K M) (x : Int32) : (mPass M x).1.2.2.2 0 = kc eA eI (cPass K x).1 ∧ ((cPass K x).1 = none → (mPass M x).2 = (cPass K x).2.1) ∧ Si n r B (cPass K x).2.2 (mPass M x).1 := by
  obtain ⟨hS, hK⟩ := h
  have hS0 : Sm n r B K (mI M 0 0) := Sm_q (Mq_mI M 0) hS
  unfold mPass cPass
  by_cases c1 : isInB x 1 120 = true
  · rw [if_pos c1, if_pos c1]
    have hD := days_sim (ix x) _ _ hS0
    have hSK := SK_days (ix x) K hK
    have t0 : (mDys (mI M 0 0) (ix x)).2.2.2 0 = 0 := congrFun (mi_Dys (mI M 0 0) (ix x)) 0
    unfold mDys at t0 ⊢
    unfold liveDays
    generalize fr live1 (ix x) K = K' at hD hSK ⊢
    generalize fr mDys1 (ix x) (mI M 0 0) = M' at hD t0 ⊢
    refine ⟨t0, fun _ => ?_, hD, hSK⟩
    show mHa (mI M 0 0) - mHa M' = K.2.2.1 1 - K'.2.2.1 1
    rw [hS0.hd, hD.hd]
  · rw [if_neg c1, if_neg c1]
    exact ⟨kc_AI1.symm, fun q => (by cases q), Sm_q (Mq_mI _ 1) hS0, hK⟩
