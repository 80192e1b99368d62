/-! a day, on both sides -/
def fdV (p : Int32) : Int32 := if p ≤ 2 then (if p ≤ 0 then p else 0) else p - 2
theorem fade_st {n : Nat} {K : St} (h40 : n ≤ 40) (hn : K.2.2.1 0 = nI n) : ∀ m : Nat, m ≤ n → (∀ k, k ≠ 3 → (fr fade1 m K).1 k = K.1 k) ∧ (fr fade1 m K).2.1 = K.2.1 ∧ (fr fade1 m K).2.2.1 = K.2.2.1 ∧ (∀ i, (fr fade1 m K).1 3 i = if i < m then fdV (K.1 3 i) else K.1 3 i) ∧ ((fr fade1 m K).2.2.2 = true ∨ ((fr fade1 m K).2.2.2 = K.2.2.2 ∧ ∀ i, i < m → ¬ K.1 3 i ≤ 2 ∨ K.1 3 i ≤ 0))
  | 0, _ => ⟨fun _ _ => rfl, rfl, rfl, fun i => by rw [if_neg (Nat.not_lt_zero _)]; rfl, Or.inr ⟨rfl, fun i hi => absurd hi (Nat.not_lt_zero _)⟩⟩
  | m + 1, hm => by
    obtain ⟨a, b, c, d, e⟩ := fade_st h40 hn m (by omega)
    show (∀ k, k ≠ 3 → (fade1 m (fr fade1 m K)).1 k = K.1 k) ∧ (fade1 m (fr fade1 m K)).2.1 = K.2.1 ∧ (fade1 m (fr fade1 m K)).2.2.1 = K.2.2.1 ∧ (∀ i, (fade1 m (fr fade1 m K)).1 3 i = if i < m + 1 then fdV (K.1 3 i) else K.1 3 i) ∧ ((fade1 m (fr fade1 m K)).2.2.2 = true ∨ ((fade1 m (fr fade1 m K)).2.2.2 = K.2.2.2 ∧ ∀ i, i < m + 1 → ¬ K.1 3 i ≤ 2 ∨ K.1 3 i ≤ 0))
    generalize fr fade1 m K = X at a b c d e ⊢
    have dm : X.1 3 m = K.1 3 m := by rw [d, if_neg (Nat.lt_irrefl _)]
    have hlast : ∀ i v, v = fdV (K.1 3 m) → (if i = m then v else X.1 3 i) = if i < m + 1 then fdV (K.1 3 i) else K.1 3 i := fun i v hv => by
      by_cases z : i = m
      · rw [if_pos z, if_pos (by omega), z]; exact hv
      · rw [if_neg z, d]
        by_cases y : i < m
        · rw [if_pos y, if_pos (by omega)]
        · rw [if_neg y, if_neg (by omega)]
    unfold fade1
    rw [dm]
    by_cases h2 : K.1 3 m ≤ 2
    · rw [if_pos h2]
      by_cases h0 : K.1 3 m ≤ 0
      · rw [if_pos h0]
        refine ⟨a, b, c, fun i => ?_, ?_⟩
        · rw [← hlast i (K.1 3 m) (by unfold fdV; rw [if_pos h2, if_pos h0])]
          by_cases z : i = m
          · rw [if_pos z, z]; exact dm
          · rw [if_neg z]
        · rcases e with e | ⟨e1, e2⟩
          · exact Or.inl e
          · refine Or.inr ⟨e1, fun i hi => ?_⟩
            by_cases z : i = m
            · rw [z]; exact Or.inr h0
            · exact e2 i (by omega)
      · rw [if_neg h0]
        unfold endSpell
        rw [if_pos (has_nI (by rw [c]; exact hn) h40 (by omega)), ix_nI (by omega)]
        refine ⟨fun k hk => ?_, b, c, fun i => ?_, Or.inl rfl⟩
        · show (if k = 3 then upd (X.1 3) m 0 else X.1 k) = K.1 k
          rw [if_neg hk]; exact a k hk
        · show (if i = m then (0 : Int32) else X.1 3 i) = _
          exact hlast i 0 (by unfold fdV; rw [if_pos h2, if_neg h0])
    · rw [if_neg h2]
      refine ⟨fun k hk => ?_, b, c, fun i => ?_, ?_⟩
      · show (if k = 3 then upd (X.1 3) m (K.1 3 m - 2) else X.1 k) = K.1 k
        rw [if_neg hk]; exact a k hk
      · show (if i = m then (K.1 3 m - 2) else X.1 3 i) = _
        exact hlast i _ (by unfold fdV; rw [if_neg h2])
      · rcases e with e | ⟨e1, e2⟩
        · exact Or.inl e
        · refine Or.inr ⟨e1, fun i hi => ?_⟩
          by_cases z : i = m
          · rw [z]; exact Or.inl h2
          · exact e2 i (by omega)
theorem mfade_st (M : Md) : ∀ m : Nat, (∀ k, k ≠ 3 → (fr mdy0 m M).1 k = M.1 k) ∧ (fr mdy0 m M).2 = M.2 ∧ ∀ i, (fr mdy0 m M).1 3 i = if i < m then mx 0 (M.1 3 i - 2) else M.1 3 i
  | 0 => ⟨fun _ _ => rfl, rfl, fun i => by rw [if_neg (Nat.not_lt_zero _)]; rfl⟩
  | m + 1 => by
    obtain ⟨a, b, d⟩ := mfade_st M m
    show (∀ k, k ≠ 3 → (mdy0 m (fr mdy0 m M)).1 k = M.1 k) ∧ (mdy0 m (fr mdy0 m M)).2 = M.2 ∧ ∀ i, (mdy0 m (fr mdy0 m M)).1 3 i = if i < m + 1 then mx 0 (M.1 3 i - 2) else M.1 3 i
    generalize fr mdy0 m M = X at a b d ⊢
    have dm : X.1 3 m = M.1 3 m := by rw [d, if_neg (Nat.lt_irrefl _)]
    refine ⟨fun k hk => ?_, b, fun i => ?_⟩
    · show (if k = 3 then upd (X.1 3) m (mx 0 (X.1 3 m - 2)) else X.1 k) = M.1 k
      rw [if_neg hk]; exact a k hk
    · show (if i = m then mx 0 (X.1 3 m - 2) else X.1 3 i) = _
      by_cases z : i = m
      · rw [if_pos z, if_pos (by omega), dm, z]
      · rw [if_neg z, d]
        by_cases y : i < m
        · rw [if_pos y, if_pos (by omega)]
        · rw [if_neg y, if_neg (by omega)]
theorem fdV_eq {p : Int32} (h : p ≤ 0 → p = 0) : fdV p = mx 0 (p - 2) := by
  unfold fdV
  have h0 : ¬ p < 0 := fun q => by
    have := h (Int32.le_of_lt q)
    rw [this] at q; exact absurd q (by decide)
  by_cases h2 : p ≤ 2
  · rw [if_pos h2, i2_le h0 h2]
    by_cases z : p ≤ 0
    · rw [if_pos z]; exact h z
    · rw [if_neg z]
  · rw [if_neg h2, i2_mx h0 h2]
theorem fdV_z {p : Int32} (h : p ≤ 0 → p = 0) : (fdV p ≤ 0 → fdV p = 0) ∧ (0 < fdV p → 0 < p) ∧ (p = 0 → fdV p = 0) ∧ (¬ p ≤ 2 → 0 < fdV p) := by
  have h0 : ¬ p < 0 := fun q => by
    have := h (Int32.le_of_lt q)
    rw [this] at q; exact absurd q (by decide)
  unfold fdV
  by_cases h2 : p ≤ 2
  · rw [if_pos h2]
    by_cases z : p ≤ 0
    · rw [if_pos z, h z]
      exact ⟨fun _ => rfl, fun q => absurd q (by decide), fun _ => rfl, fun q => absurd (by decide) q⟩
    · rw [if_neg z]
      exact ⟨fun _ => rfl, fun q => absurd q (by decide), fun _ => rfl, fun q => absurd h2 q⟩
  · rw [if_neg h2]
    have hp := i2_lt h0 h2
    refine ⟨fun q => absurd hp (Int32.not_lt.mpr q), fun _ => ?_, fun q => ?_, fun _ => hp⟩
    · exact Int32.not_le.mp (fun q => h2 (by rw [h q]; decide))
    · rw [q] at h2; exact absurd (by decide) h2
/-- the loads don't see who has which power -/
def RkQ (M M' : Md) : Prop := M'.2.2 = M.2.2 ∧ ∀ k, k ≠ 3 → M'.1 k = M.1 k
theorem RkQ.put {M M' : Md} (h : RkQ M M') (k j : Nat) {v v' : Int32} (hv : v' = v) : RkQ (aA M k j v) (aA M' k j v') := by
  refine ⟨?_, h.2⟩
  show ((fun k' => if k' = k then upd (M'.2.2.1 k) j v' else M'.2.2.1 k'), M'.2.2.2) = ((fun k' => if k' = k then upd (M.2.2.1 k) j v else M.2.2.1 k'), M.2.2.2)
  rw [h.1, hv]
theorem RkQ_1 (i : Nat) {M M' : Md} (h : RkQ M M') : RkQ (mrk1 i M) (mrk1 i M') := by
  have hL : mLd i M' = mLd i M := by
    unfold mLd mHg
    rw [h.1, h.2 2 (by decide), h.2 0 (by decide), h.2 6 (by decide)]
  unfold mrk1
  have h1 := h.put 1 i hL
  generalize aA M 1 i (mLd i M) = X at h1 ⊢
  generalize aA M' 1 i (mLd i M') = X' at h1 ⊢
  have hS : mSh i X' = mSh i X := by
    unfold mSh
    rw [h1.1, h1.2 5 (by decide)]
  have hP : RkQ (mP1 i X) (mP1 i X') := by
    unfold mP1
    rw [h1.2 4 (by decide)]
    exact h1.put 2 _ (by rw [h1.1, hS])
  unfold mrkB mHg
  rw [h1.2 2 (by decide), h1.2 4 (by decide)]
  split
  · split
    · exact h1
    · unfold mP2
      generalize mP1 i X = Y at hP ⊢
      generalize mP1 i X' = Y' at hP ⊢
      rw [hP.2 5 (by decide)]
      split
      · exact hP
      · exact hP.put 2 _ (by rw [hP.1])
  · exact h1
theorem RkQ_frD : ∀ (n : Nat) (M M' : Md), RkQ M M' → RkQ (frD mrk1 n M) (frD mrk1 n M')
  | 0, _, _, h => h
  | n + 1, M, M', h => RkQ_frD n _ _ (RkQ_1 n h)
theorem RkQ_Rk {M M' : Md} (h : RkQ M M') : (mRk M').2.2 = (mRk M).2.2 := by
  have hn : mN M' = mN M := by unfold mN; rw [h.1]
  unfold mRk
  rw [hn]
  have h0 : RkQ (fr mrk0 (mN M) M) (fr mrk0 (mN M) M') := fr_rel (f := mrk0) (g := mrk0) RkQ _ _ _ (fun i s t _ q => q.put 2 i rfl) h
  exact (RkQ_frD _ _ _ h0).1
theorem PL_3 {n : Nat} {K K' : St} {M M' : Md} (h : PL n 0 K (mRk M)) (hk : ∀ k, k ≠ 3 → K'.1 k = K.1 k) (hh : K'.2.1 = K.2.1) (hn : K'.2.2.1 = K.2.2.1) (hr : Rw n K' M') (hq : RkQ M M') : PL n 0 K' (mRk M') := by
  obtain ⟨a, b, c, d, e⟩ := h
  refine ⟨fun i hi => by rw [mt_Rk]; exact hr i hi, fun i hi => ?_, by rw [hn]; exact c, fun j hj => ?_, fun j hj q => ?_⟩
  · rw [hk 4 (by decide), hk 5 (by decide), hh]; exact b i hi
  · rw [hk 7 (by decide), RkQ_Rk hq]; exact d j hj
  · rw [hk 6 (by decide), RkQ_Rk hq]; exact e j hj q
theorem Pr_fade {n r : Nat} {B : Sr} {K : St} {M : Md} (h : Pr n r B K M) : Pr n r B (fade K) (fr mdy0 (mN M) M) := by
  obtain ⟨h1, h2, h3, h4, h5, h6, h7, h40, h30, hx, hb⟩ := h
  obtain ⟨a, b, c, d, -⟩ := fade_st h40 h3.2.2 n (Nat.le_refl n)
  obtain ⟨a', b', d'⟩ := mfade_st M n
  unfold fade
  rw [nn_eq h3.2.2 h40, mN_eq h6 h40]
  generalize fr fade1 n K = K' at a b c d ⊢
  generalize fr mdy0 n M = M' at a' b' d' ⊢
  have dd : ∀ i, i < n → K'.1 3 i = fdV (K.1 3 i) := fun i hi => by rw [d, if_pos hi]
  refine ⟨fun i hi => ?_, fun i hi => ?_, ⟨fun i hi j hj => ?_, fun i hi => ?_, by rw [c]; exact h3.2.2⟩, fun i hi => ?_, fun i hi => ?_, by rw [b']; exact h6, ?_, h40, h30, fun i hi => ?_, hb⟩
  · obtain ⟨r0, r1, r2, r3, r4, r5, r6⟩ := h1 i hi
    rw [a 0 (by decide), a 1 (by decide), a 4 (by decide), a 5 (by decide), a 2 (by decide), b, dd i hi, a' 0 (by decide), a' 1 (by decide), a' 4 (by decide), a' 5 (by decide), a' 2 (by decide), a' 6 (by decide), d', if_pos hi, ← r3]
    exact ⟨r0, r1, r2, fdV_eq (h4 i hi).2, r4, r5, r6⟩
  · rw [a 4 (by decide), a 5 (by decide), b]; exact h2 i hi
  · rw [a 4 (by decide), a 5 (by decide), b]; exact h3.1 i hi j hj
  · rw [a 4 (by decide), a 5 (by decide)]; exact h3.2.1 i hi
  · rw [b, dd i hi]
    have f := fdV_z (h4 i hi).2
    exact ⟨fun q => f.2.2.1 ((h4 i hi).1 q), f.1⟩
  · rw [a 1 (by decide)]; exact h5 i hi
  · exact WH_keep ⟨b, c⟩ ⟨by rw [b'], by rw [b'], a' 2 (by decide), by rw [b']⟩ h7
  · rw [dd i hi, a 4 (by decide)]
    intro q
    exact hx i hi ((fdV_z (h4 i hi).2).2.1 q)
theorem dayG_sim {n r : Nat} {B : Sr} {K : St} {M : Md} (h : Sm n r B K M) : Sm n r B (dayD K) (mDyG M) := by
  obtain ⟨⟨h1, hnl, hl⟩, hs, -⟩ := h
  have hp := Pr_fade h1
  obtain ⟨a, b, c, d, e⟩ := fade_st h1.h40 h1.kn n (Nat.le_refl n)
  obtain ⟨a', b', d'⟩ := mfade_st M n
  have hpw := h1.2.2.2.1
  have ef : fade K = fr fade1 n K := by unfold fade; rw [nn_eq h1.kn h1.h40]
  have em : fr mdy0 (mN M) M = fr mdy0 n M := by rw [mN_eq h1.mn h1.h40]
  unfold dayD mDyG
  refine gv_sim ?_
  rw [em] at hp ⊢
  rw [← ef] at a b c d e
  generalize fade K = K' at a b c d e hp ⊢
  have hq : RkQ M (fr mdy0 n M) := ⟨congrArg Prod.snd b', a'⟩
  generalize fr mdy0 n M = M' at hp hq ⊢
  cases q : K'.2.2.2 with
  | true =>
    rw [if_pos rfl]
    exact Cr_drop hp q
  | false =>
    rw [if_neg (by decide)]
    rw [q] at e
    have e2 := (e.resolve_left (by decide)).2
    have hn' : NL n K' := fun i hi z => by
      rw [b] at z
      rw [d, if_pos hi, a 4 (by decide)]
      rcases hnl i hi z with y | y
      · refine Or.inl ((fdV_z (hpw i hi).2).2.2.2 ?_)
        rcases e2 i hi with w | w
        · exact w
        · rw [(hpw i hi).2 w] at y; exact absurd y (by decide)
      · exact Or.inr y
    obtain ⟨x1, x2⟩ := Pr_drop0 hp
    have ed : dropL K' = K' := drop_id h1.h40 hp.kn hn'
    rw [ed] at x1 x2
    have hl' := hl hs
    have hP : PL n 0 K' (mRk M') := PL_3 hl'.1 a b c hp.1 hq
    refine ⟨x1, x2, fun _ => ⟨PL_new h1.h40 hP x1.1 hp.mn x1.mn, fun i hi => ?_⟩⟩
    rw [a 7 (by decide), a 1 (by decide), b, d, if_pos hi]
    have f := fdV_z (hpw i hi).2
    exact ⟨fun z => ⟨((hl'.2 i hi).1 z).1, f.2.2.1 ((hpw i hi).1 z)⟩, f.1⟩
theorem Sm_day {n r : Nat} {B : Sr} {K : St} {M : Md} (h : Sm n r B K M) : Sm n r B (uI K 2 (K.2.2.1 2 + 1)) (dyU M) := by
  obtain ⟨⟨⟨h1, h2, h3, h4, h5, h6, h7, h40, h30, hx, hb⟩, hnl, hl⟩, hs, ht⟩ := h
  have hq : RkQ M (dyU M) ∨ True := Or.inr trivial
  obtain ⟨w1, w2, w3, w4⟩ := h7
  have hP := (hl hs).1
  have hR : Rw n K (dyU M) := h1
  have hP2 := PL_new h40 hP hR h6 (show (dyU M).2.2.2 1 = nI n from h6)
  have hm : mHa (dyU M) = mHa M := rfl
  refine ⟨⟨⟨h1, h2, h3, h4, h5, h6, ⟨w1, w2, w3.trans hm.symm, ?_⟩, h40, h30, hx, hb⟩, hnl, fun _ => ⟨hP2, (hl hs).2⟩⟩, hs, ht⟩
  show K.2.2.1 2 + 1 = M.2.2.1 0 0 + 1
  rw [w4]
theorem day_sim {n r : Nat} {B : Sr} {K : St} {M : Md} (h : Sm n r B K M) : Sm n r B (liveDay K) (mDy M) := by
  have h1 := dayG_sim h
  unfold liveDay mDy
  generalize dayD K = K' at h1 ⊢
  generalize mDyG M = M' at h1 ⊢
  exact Sm_day h1
theorem days_sim {n r : Nat} {B : Sr} : ∀ (d : Nat) (K : St) (M : Md), Sm n r B K M → Sm n r B (fr live1 d K) (fr mDys1 d M)
  | 0, _, _, h => h
  | d + 1, K, M, h => by
    show Sm n r B (live1 d (fr live1 d K)) (mDys1 d (fr mDys1 d M))
    unfold live1 mDys1
    exact day_sim (days_sim d K M h)
