/-! the methods' answers: without, lasts, foresee, advise, digest -/
theorem Mq_Bk {X M : Md} (h : X.2.2.2 = M.2.2.2) : Mq M (mBk X (kpO M)) := ⟨rfl, rfl, by show X.2.2.2 1 = _; rw [h], by show X.2.2.2 2 = _; rw [h], rfl⟩
theorem Bk_0 {X M : Md} (K : Kp) (h : X.2.2.2 = M.2.2.2) : (mBk X K).2.2.2 0 = M.2.2.2 0 := by
  show X.2.2.2 0 = _
  rw [h]
theorem mi_WoX (M : Md) (i : Nat) : (mWoX M i).2.2.2 = (mI M 0 0).2.2.2 := by
  unfold mWoX
  rw [mi_Gv, mi_Drop]
theorem Sm_drop {n r : Nat} {B : Sr} {K : St} {M : Md} (h : Sm n r B K M) : Sm n r B K (mDrop M) := by
  obtain ⟨x1, x2⟩ := Pr_drop0 h.1.1
  have ed : dropL K = K := drop_id h.1.1.h40 h.1.1.kn h.1.2.1
  rw [ed] at x1 x2
  exact ⟨⟨x1, x2, fun q => ⟨PL_new h.1.1.h40 (h.1.2.2 q).1 x1.1 h.1.1.mn x1.mn, (h.1.2.2 q).2⟩⟩, h.2⟩
theorem wo_q {n r : Nat} {B : Sr} {K : St} {M : Md} (D : St) (h : Si n r B K M) (x : Int32) : (mWo M x).1.2.2.2 0 = kc eI eA (cWo K D x).1 ∧ ((cWo K D x).1 = none → (mWo M x).2 = (cWo K D x).2.1) ∧ Si n r B K (mWo M x).1 := by
  obtain ⟨hS, hK⟩ := h
  have hS0 : Sm n r B K (mI M 0 0) := Sm_q (Mq_mI M 0) hS
  have hp := hS0.1.1
  have h40 := hp.h40
  unfold mWo cWo
  rw [has_q h40 hp.kn hp.mn]
  by_cases c1 : hasB K x = false
  · rw [if_pos c1, if_pos c1]
    exact ⟨kc_IA1.symm, fun q => (by cases q), Sm_q (Mq_mI _ 1) hS0, hK⟩
  · have d1 := bT c1
    rw [if_neg c1, if_neg c1]
    obtain ⟨j, hj, rfl⟩ := has_ix hp.kn h40 d1
    have hi := mi_WoX M j
    have hg : hangsB K (nI j) = K.2.1 j := by
      unfold hangsB
      rw [d1, ix_nI (by omega)]
      rfl
    rw [ix_nI (by omega), hg]
    cases z : K.2.1 j with
    | true =>
      rw [if_neg (by decide)]
      have hC := cut_sim hj (copy_sim D hS0)
      have hx : Sm n r B (cutL (copyF D K) (nI j)) (mWoX M j) := by unfold mWoX; exact hC
      clear hC
      generalize cutL (copyF D K) (nI j) = K' at hx ⊢
      generalize mWoX M j = X at hx hi ⊢
      refine ⟨Bk_0 _ hi, fun _ => ?_, Sm_q (Mq_Bk hi) hS0, hK⟩
      show mHa (mI M 0 0) - mHa X = K.2.2.1 1 - K'.2.2.1 1
      rw [hS0.hd, hx.hd]
    | false =>
      rw [if_pos rfl]
      have k3 := (hp.2.2.2.1 j hj).1 z
      have k4 := (hp.2.1 j hj).2.2.1 z
      have k5 := (hp.2.1 j hj).2.2.2 k4
      have hR : Rw n K (tA (tA (tA (mI M 0 0) 3 j 0) 4 j (-1)) 5 j (-1)) := fun a ha => by
        obtain ⟨r0, r1, r2, r3, r4, r5, r6⟩ := hp.1 a ha
        have g3 : (tA (tA (tA (mI M 0 0) 3 j 0) 4 j (-1)) 5 j (-1)).1 3 a = if a = j then 0 else M.1 3 a := rfl
        have g4 : (tA (tA (tA (mI M 0 0) 3 j 0) 4 j (-1)) 5 j (-1)).1 4 a = if a = j then -1 else M.1 4 a := rfl
        have g5 : (tA (tA (tA (mI M 0 0) 3 j 0) 4 j (-1)) 5 j (-1)).1 5 a = if a = j then -1 else M.1 5 a := rfl
        refine ⟨r0, r1, r2, ?_, ?_, ?_, r6⟩
        · rw [g3]
          by_cases y : a = j
          · rw [if_pos y, y]; exact k3
          · rw [if_neg y]; exact r3
        · rw [g4]
          by_cases y : a = j
          · rw [if_pos y, y]; exact k4
          · rw [if_neg y]; exact r4
        · rw [g5]
          by_cases y : a = j
          · rw [if_pos y, y]; exact k5
          · rw [if_neg y]; exact r5
      have hx : Sm n r B K (mWoX M j) := by
        unfold mWoX
        exact Sm_same (Sm_drop (Sm_m (M := mI M 0 0) hR ⟨rfl, rfl, rfl, rfl⟩ hS0))
      generalize mWoX M j = X at hx hi ⊢
      refine ⟨Bk_0 _ hi, fun _ => ?_, Sm_q (Mq_Bk hi) hS0, hK⟩
      show mHa (mI M 0 0) - mHa X = 0
      rw [hS0.hd, hx.hd, Int32.sub_self]
theorem ls_q {n r i : Nat} {B : Sr} (hi : i < n) : ∀ (k d : Nat) (T : St) (M : Md), Sm n r B T M → (mLsG i k d M).1.2.2.2 = M.2.2.2 ∧ (if mHg (mLsG i k d M).1 i then -1 else nI (mLsG i k d M).2) = (cLsG (nI i) (k + 1) d T).1
  | 0, d, T, M, h => by
    have hp := h.1.1
    have h40 := hp.h40
    have hg : hangsB T (nI i) = mHg M i := by
      unfold hangsB
      rw [has_nI hp.kn h40 hi, ix_nI (by omega), mHg_b hp.1 hi]
      rfl
    refine ⟨rfl, ?_⟩
    show (if mHg M i then -1 else nI d) = (if hangsB T (nI i) = false then (nI d, T) else cLsG (nI i) 0 (d + 1) (liveDay T)).1
    rw [hg]
    cases mHg M i with
    | true => rw [if_pos rfl, if_neg (by decide)]; rfl
    | false => rw [if_neg (by decide), if_pos rfl]
  | k + 1, d, T, M, h => by
    have hp := h.1.1
    have h40 := hp.h40
    have hg : hangsB T (nI i) = mHg M i := by
      unfold hangsB
      rw [has_nI hp.kn h40 hi, ix_nI (by omega), mHg_b hp.1 hi]
      rfl
    unfold mLsG cLsG
    rw [hg]
    cases z : mHg M i with
    | true =>
      rw [if_pos (show true = true from rfl), if_neg (show ¬ (true = false) by decide)]
      have h2 := day_sim h
      have hm := mi_Dy M
      generalize liveDay T = T' at h2 ⊢
      generalize mDy M = M' at h2 hm ⊢
      obtain ⟨a, b⟩ := ls_q (B := B) hi k (d + 1) T' M' h2
      exact ⟨a.trans hm, b⟩
    | false =>
      rw [if_neg (by decide), if_pos rfl, if_neg (by rw [z]; decide)]
      exact ⟨rfl, rfl⟩
theorem lasts_q {n r : Nat} {B : Sr} {K : St} {M : Md} (D : St) (h : Si n r B K M) (x : Int32) : (mLs M x).1.2.2.2 0 = kc eI eA (cLs K D x).1 ∧ ((cLs K D x).1 = none → (mLs M x).2 = (cLs K D x).2.1) ∧ Si n r B K (mLs M x).1 := by
  obtain ⟨hS, hK⟩ := h
  have hS0 : Sm n r B K (mI M 0 0) := Sm_q (Mq_mI M 0) hS
  have hp := hS0.1.1
  have h40 := hp.h40
  unfold mLs cLs mLsR cLsR
  rw [has_q h40 hp.kn hp.mn]
  by_cases c1 : hasB K x = false
  · rw [if_pos c1, if_pos c1]
    exact ⟨kc_IA1.symm, fun q => (by cases q), Sm_q (Mq_mI _ 1) hS0, hK⟩
  · have d1 := bT c1
    rw [if_neg c1, if_neg c1]
    obtain ⟨j, hj, rfl⟩ := has_ix hp.kn h40 d1
    rw [ix_nI (by omega)]
    obtain ⟨a, b⟩ := ls_q hj 120 0 _ _ (copy_sim D hS0)
    generalize cLsG (nI j) (120 + 1) 0 (copyF D K) = X at b ⊢
    generalize mLsG j 120 0 (mI M 0 0) = Y at a b ⊢
    exact ⟨Bk_0 _ a, fun _ => b, Sm_q (Mq_Bk a) hS0, hK⟩
theorem foresee_q {n r : Nat} {B : Sr} {K : St} {M : Md} (D : St) (h : Si n r B K M) (x w : Int32) : (mFo M x w).1.2.2.2 0 = kc eA eI (cFo K D B x w).1 ∧ ((cFo K D B x w).1 = none → (mFo M x w).2 = (cFo K D B x w).2.1) ∧ Si n r B K (mFo M x w).1 := by
  obtain ⟨hS, hK⟩ := h
  have hS0 : Sm n r B K (mI M 0 0) := Sm_q (Mq_mI M 0) hS
  unfold mFo cFo
  by_cases c1 : isInB x 1 120 = false
  · rw [if_pos c1, if_pos c1]
    exact ⟨kc_AI1.symm, fun q => (by cases q), Sm_q (Mq_mI _ 1) hS0, hK⟩
  · rw [if_neg c1, if_neg c1]
    by_cases c2 : isInB w 0 2 = false
    · rw [if_pos c2, if_pos c2]
      exact ⟨kc_AI2.symm, fun q => (by cases q), Sm_q (Mq_mI _ 2) hS0, hK⟩
    · rw [if_neg c2, if_neg c2]
      obtain ⟨u, hu, rfl⟩ := isInB_nI (N := 2) (by decide) (bT c2)
      rw [ix_nI (by omega)]
      have hD := days_sim (ix x) _ _ (copy_sim D hS0)
      have hm : (mDys (mI M 0 0) (ix x)).2.2.2 = (mI M 0 0).2.2.2 := mi_Dys _ _
      unfold mDys at hm ⊢
      unfold liveDays
      generalize fr live1 (ix x) (copyF D K) = K' at hD ⊢
      generalize fr mDys1 (ix x) (mI M 0 0) = X at hD hm ⊢
      refine ⟨Bk_0 _ hm, fun _ => ?_, Sm_q (Mq_Bk hm) hS0, hK⟩
      show mCt X (mFoW u) = (if u = 0 then K'.2.2.1 1 else if u = 1 then leftR B K' else sPw K')
      rcases (show u = 0 ∨ u = 1 ∨ u = 2 by omega) with rfl | rfl | rfl
      · exact sky_q hD 2 (by decide) (fun q => absurd q (by decide))
      · exact sky_q hD 4 (by decide) (fun q => absurd q (by decide))
      · exact sky_q hD 5 (by decide) (fun q => absurd q (by decide))
theorem mn60 {p v : Int32} (h : p = 60) (hv : isInB v 1 60 = true) : mn 60 (p + v) = 60 := by
  obtain ⟨a, b⟩ := isInB_ge hv
  obtain ⟨j, hj, rfl⟩ := nI_of2 (n := 60) (by decide) (Int32.not_lt.mpr (Int32.le_trans (by decide) a)) b
  rw [h]
  unfold mn
  rw [if_neg]
  rw [show (60 : Int32) + nI j = nI (60 + j) from nI_add 60 j]
  exact Int32.not_lt.mpr (nI_le (a := 60) (b := 60 + j) (by omega) (by omega))
theorem advise_q {n r : Nat} {B : Sr} {K : St} {M : Md} (D : St) (h : Si n r B K M) (x y : Int32) : (mAd M x y).1.2.2.2 0 = kc eA eI (cAd K D x y).1 ∧ ((cAd K D x y).1 = none → (mAd M x y).2 = (cAd K D x y).2.1) ∧ Si n r B K (mAd M x y).1 := by
  obtain ⟨hS, hK⟩ := h
  have hS0 : Sm n r B K (mI M 0 0) := Sm_q (Mq_mI M 0) hS
  have hp := hS0.1.1
  have h40 := hp.h40
  unfold mAd cAd
  by_cases c1 : (isInB x 1 60 && isInB y 1 60) = true
  · rw [if_pos c1, if_pos c1]
    simp only [Bool.and_eq_true] at c1
    obtain ⟨d, hd, rfl⟩ : ∃ d : Nat, d ≤ 60 ∧ y = nI d := nI_of2 (n := 60) (by decide) (Int32.not_lt.mpr (Int32.le_trans (by decide) (isInB_ge c1.2).1)) (isInB_ge c1.2).2
    rw [ix_nI (by omega)]
    have hx := c1.1
    -- what would be without any
    have hb0 : (fr live1 d K).2.2.1 1 = mHa (mAd0 M d) := by
      have := (days_sim d _ _ hS0).hd
      unfold mAd0 mDys
      exact this.symm
    have hb1 : (liveDays (copyF D K) (nI d)).2.2.1 1 = mHa (mAd0 M d) := by
      have := (days_sim d _ _ (copy_sim D hS0)).hd
      unfold mAd0 mDys liveDays
      rw [ix_nI (by omega)]
      exact this.symm
    have hm0 : (mAd0 M d).2.2.2 = (mI M 0 0).2.2.2 := by unfold mAd0; exact mi_Dys _ _
    have key : ∀ m, m ≤ n → (fr (mAd1 x d (kpO (mI M 0 0))) m (mBk (mAd0 M d) (kpO (mI M 0 0)), -1, mHa (mAd0 M d))).2.2 = (fr (cAd1 K x d) m (liveDays (copyF D K) (nI d), (liveDays (copyF D K) (nI d)).2.2.1 1, -1)).2.1 ∧ (fr (mAd1 x d (kpO (mI M 0 0))) m (mBk (mAd0 M d) (kpO (mI M 0 0)), -1, mHa (mAd0 M d))).2.1 = (fr (cAd1 K x d) m (liveDays (copyF D K) (nI d), (liveDays (copyF D K) (nI d)).2.2.1 1, -1)).2.2 ∧ mHa (mAd0 M d) ≤ (fr (cAd1 K x d) m (liveDays (copyF D K) (nI d), (liveDays (copyF D K) (nI d)).2.2.1 1, -1)).2.1 ∧ Mq (mI M 0 0) (fr (mAd1 x d (kpO (mI M 0 0))) m (mBk (mAd0 M d) (kpO (mI M 0 0)), -1, mHa (mAd0 M d))).1 ∧ (fr (mAd1 x d (kpO (mI M 0 0))) m (mBk (mAd0 M d) (kpO (mI M 0 0)), -1, mHa (mAd0 M d))).1.2.2.2 = (mI M 0 0).2.2.2 := by
      rw [hb1]
      generalize liveDays (copyF D K) (nI d) = D0
      generalize mAd0 M d = M0 at hb0 hm0 ⊢
      intro m
      induction m with
      | zero => exact fun _ => ⟨rfl, rfl, Int32.le_refl _, Mq_Bk hm0, hm0⟩
      | succ m ih =>
        intro hm
        obtain ⟨i1, i2, i3, i4, i5⟩ := ih (by omega)
        show (mAd1 x d (kpO (mI M 0 0)) m (fr (mAd1 x d (kpO (mI M 0 0))) m (mBk M0 (kpO (mI M 0 0)), -1, mHa M0))).2.2 = (cAd1 K x d m (fr (cAd1 K x d) m (D0, mHa M0, -1))).2.1 ∧ (mAd1 x d (kpO (mI M 0 0)) m (fr (mAd1 x d (kpO (mI M 0 0))) m (mBk M0 (kpO (mI M 0 0)), -1, mHa M0))).2.1 = (cAd1 K x d m (fr (cAd1 K x d) m (D0, mHa M0, -1))).2.2 ∧ mHa M0 ≤ (cAd1 K x d m (fr (cAd1 K x d) m (D0, mHa M0, -1))).2.1 ∧ Mq (mI M 0 0) (mAd1 x d (kpO (mI M 0 0)) m (fr (mAd1 x d (kpO (mI M 0 0))) m (mBk M0 (kpO (mI M 0 0)), -1, mHa M0))).1 ∧ (mAd1 x d (kpO (mI M 0 0)) m (fr (mAd1 x d (kpO (mI M 0 0))) m (mBk M0 (kpO (mI M 0 0)), -1, mHa M0))).1.2.2.2 = (mI M 0 0).2.2.2
        generalize fr (mAd1 x d (kpO (mI M 0 0))) m (mBk M0 (kpO (mI M 0 0)), -1, mHa M0) = T' at i1 i2 i4 i5 ⊢
        generalize fr (cAd1 K x d) m (D0, mHa M0, -1) = T at i1 i2 i3 ⊢
        obtain ⟨Td, Tm, Tb⟩ := T
        obtain ⟨X, Xb, Xm⟩ := T'
        have hSX : Sm n r B K X := Sm_q i4 hS0
        have i1' : Xm = Tm := i1
        have i2' : Xb = Tb := i2
        have i5' : X.2.2.2 = (mI M 0 0).2.2.2 := i5
        have hg : hangsB K (nI m) = K.2.1 m := by
          unfold hangsB
          rw [has_nI hp.kn h40 (by omega), ix_nI (by omega)]
          rfl
        have hA : (mAdX X x d m).2.2.2 = (mI M 0 0).2.2.2 := (mi_AdX X x d m).trans i5'
        have k6 : X.1 6 m = K.1 2 m := ((hSX.1.1.1 m (by omega)).2.2.2.2.2.2).symm
        unfold mAd1 cAd1
        rw [hg, show mHg (X, Xb, Xm).1 m = K.2.1 m from mHg_b hSX.1.1.1 (by omega)]
        cases z : K.2.1 m with
        | false =>
          rw [if_neg (by decide), if_neg (by decide)]
          exact ⟨i1, i2, i3, i4, i5⟩
        | true =>
          rw [if_pos rfl, if_pos rfl]
          by_cases c6 : 60 ≤ K.1 2 m
          · rw [if_pos c6]
            have e6 : K.1 2 m = 60 := Int32.le_antisymm (hK m).1 c6
            have hR : Rw n K (tA X 6 m (mn 60 (X.1 6 m + x))) := fun a ha => by
              obtain ⟨r0, r1, r2, r3, r4, r5, r6⟩ := hSX.1.1.1 a ha
              refine ⟨r0, r1, r2, r3, r4, r5, ?_⟩
              have g6 : (tA X 6 m (mn 60 (X.1 6 m + x))).1 6 a = if a = m then mn 60 (X.1 6 m + x) else X.1 6 a := rfl
              rw [g6]
              by_cases q : a = m
              · rw [if_pos q, mn60 (k6.trans e6) hx, q]; exact e6
              · rw [if_neg q]; exact r6
            have hE : mHa (mAdX X x d m) = mHa M0 := by
              have h1 := (days_sim d _ _ (Sm_same (Sm_m (M := X) hR ⟨rfl, rfl, rfl, rfl⟩ hSX))).hd
              unfold mAdX mDys
              exact h1.trans hb0
            generalize mAdX X x d m = Z at hA hE ⊢
            have hlt : ¬ Xm < mHa Z := by rw [i1', hE]; exact Int32.not_lt.mpr i3
            show (if Xm < mHa Z then (mBk Z (kpO (mI M 0 0)), nI m, mHa Z) else (mBk Z (kpO (mI M 0 0)), Xb, Xm)).2.2 = Tm ∧ (if Xm < mHa Z then (mBk Z (kpO (mI M 0 0)), nI m, mHa Z) else (mBk Z (kpO (mI M 0 0)), Xb, Xm)).2.1 = Tb ∧ mHa M0 ≤ Tm ∧ Mq (mI M 0 0) (if Xm < mHa Z then (mBk Z (kpO (mI M 0 0)), nI m, mHa Z) else (mBk Z (kpO (mI M 0 0)), Xb, Xm)).1 ∧ (if Xm < mHa Z then (mBk Z (kpO (mI M 0 0)), nI m, mHa Z) else (mBk Z (kpO (mI M 0 0)), Xb, Xm)).1.2.2.2 = (mI M 0 0).2.2.2
            rw [if_neg hlt]
            exact ⟨i1', i2', i3, Mq_Bk hA, hA⟩
          · rw [if_neg c6]
            have hLw : Sm n r B (cLw K Td m x d) (mAdX X x d m) := by
              have hC := copy_sim Td hSX
              have hC2 := gv_sim (Cr_prop (i := m) (mn 60 (X.1 6 m + x)) hC)
              have hC3 := days_sim d _ _ hC2
              unfold cLw setProp mAdX mDys liveDays
              rw [if_pos (has_nI hC.1.1.kn h40 (by omega)), ix_nI (by omega), ix_nI (by omega), ← k6]
              exact hC3
            have hE := hLw.hd
            show (if Xm < mHa (mAdX X x d m) then (mBk (mAdX X x d m) (kpO (mI M 0 0)), nI m, mHa (mAdX X x d m)) else (mBk (mAdX X x d m) (kpO (mI M 0 0)), Xb, Xm)).2.2 = (if (cLw K Td m x d).2.2.1 1 ≤ Tm then (cLw K Td m x d, Tm, Tb) else (cLw K Td m x d, (cLw K Td m x d).2.2.1 1, nI m)).2.1 ∧ (if Xm < mHa (mAdX X x d m) then (mBk (mAdX X x d m) (kpO (mI M 0 0)), nI m, mHa (mAdX X x d m)) else (mBk (mAdX X x d m) (kpO (mI M 0 0)), Xb, Xm)).2.1 = (if (cLw K Td m x d).2.2.1 1 ≤ Tm then (cLw K Td m x d, Tm, Tb) else (cLw K Td m x d, (cLw K Td m x d).2.2.1 1, nI m)).2.2 ∧ mHa M0 ≤ (if (cLw K Td m x d).2.2.1 1 ≤ Tm then (cLw K Td m x d, Tm, Tb) else (cLw K Td m x d, (cLw K Td m x d).2.2.1 1, nI m)).2.1 ∧ Mq (mI M 0 0) (if Xm < mHa (mAdX X x d m) then (mBk (mAdX X x d m) (kpO (mI M 0 0)), nI m, mHa (mAdX X x d m)) else (mBk (mAdX X x d m) (kpO (mI M 0 0)), Xb, Xm)).1 ∧ (if Xm < mHa (mAdX X x d m) then (mBk (mAdX X x d m) (kpO (mI M 0 0)), nI m, mHa (mAdX X x d m)) else (mBk (mAdX X x d m) (kpO (mI M 0 0)), Xb, Xm)).1.2.2.2 = (mI M 0 0).2.2.2
            clear hLw
            generalize mAdX X x d m = Z at hA hE ⊢
            generalize cLw K Td m x d = W at hE ⊢
            rw [hE, i1']
            by_cases c7 : W.2.2.1 1 ≤ Tm
            · rw [if_pos c7, if_neg (Int32.not_lt.mpr c7)]
              exact ⟨rfl, i2', i3, Mq_Bk hA, hA⟩
            · rw [if_neg c7, if_pos (Int32.not_le.mp c7)]
              exact ⟨rfl, rfl, Int32.le_trans i3 (Int32.le_of_lt (Int32.not_le.mp c7)), Mq_Bk hA, hA⟩
    have kn := key n (Nat.le_refl n)
    unfold mAdR cAdR
    rw [nn_eq hp.kn h40, mN_eq hS.1.1.mn h40]
    generalize fr (mAd1 x d (kpO (mI M 0 0))) n (mBk (mAd0 M d) (kpO (mI M 0 0)), -1, mHa (mAd0 M d)) = T' at kn ⊢
    generalize fr (cAd1 K x d) n (liveDays (copyF D K) (nI d), (liveDays (copyF D K) (nI d)).2.2.1 1, -1) = T at kn ⊢
    obtain ⟨i1, i2, i3, i4, i5⟩ := kn
    exact ⟨congrFun i5 0, fun _ => i2, Sm_q i4 hS0, hK⟩
  · rw [if_neg c1, if_neg c1]
    exact ⟨kc_AI1.symm, fun q => (by cases q), Sm_q (Mq_mI _ 1) hS0, hK⟩
