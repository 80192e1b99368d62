/-! the class's rows and the reference's: the loads come out alike -/
def Rw (n : Nat) (K : St) (M : Md) : Prop := ∀ i, i < n → K.1 0 i = M.1 0 i ∧ K.1 1 i = M.1 1 i ∧ bI (K.2.1 i) = M.1 2 i ∧ K.1 3 i = M.1 3 i ∧ K.1 4 i = M.1 4 i ∧ K.1 5 i = M.1 5 i ∧ K.1 2 i = M.1 6 i
def Hd (n : Nat) (K : St) : Prop := ∀ i, i < n → okH i (K.1 4 i) ∧ okH i (K.1 5 i) ∧ (K.2.1 i = false → K.1 4 i = -1) ∧ (K.1 4 i = -1 → K.1 5 i = -1)
def PL (n i : Nat) (K : St) (M : Md) : Prop := Rw n K M ∧ Hd n K ∧ K.2.2.1 0 = nI n ∧ (∀ j, j < n → K.1 7 j = M.2.2.1 2 j) ∧ ∀ j, j < n → i ≤ j → K.1 6 j = M.2.2.1 1 j
theorem mHg_b {K : St} {M : Md} {n i : Nat} (h : Rw n K M) (hi : i < n) : mHg M i = K.2.1 i := by
  have h1 := (h i hi).2.2.1
  unfold mHg
  rw [← h1]
  cases K.2.1 i <;> decide
theorem bear_m1 (S : St) (y : Int32) : bear S (-1) y = S := by
  unfold bear
  rw [if_neg]
  simp only [hasB]
  rw [show decide ((-1 : Int32) < 0) = true by decide]
  simp
theorem bear_j {S : St} {n j : Nat} (hn : S.2.2.1 0 = nI n) (h40 : n ≤ 40) (hj : j < n) (y : Int32) : bear S (nI j) y = uA S 7 j (S.1 7 j + y) := by
  unfold bear
  rw [if_pos (has_nI hn h40 hj), ix_nI (by omega)]
/-- a pull written on both sides -/
theorem PL_pull {n i j : Nat} {K : St} {M : Md} (h : PL n i K M) (y : Int32) : PL n i (uA K 7 j (K.1 7 j + y)) (aA M 2 j (M.2.2.1 2 j + y)) ∨ n ≤ j := by
  rcases Nat.lt_or_ge j n with hj | hj
  · refine Or.inl ⟨fun a ha => h.1 a ha, fun a ha => h.2.1 a ha, h.2.2.1, fun a ha => ?_, fun a ha hi => ?_⟩
    · show (if a = j then K.1 7 j + y else K.1 7 a) = (if a = j then M.2.2.1 2 j + y else M.2.2.1 2 a)
      rw [h.2.2.2.1 j hj, h.2.2.2.1 a ha]
    · exact h.2.2.2.2 a ha hi
  · exact Or.inr hj
theorem PL_load {n i : Nat} {K : St} {M : Md} (h : PL n (i + 1) K M) (y : Int32) : PL n i (uA K 6 i y) (aA M 1 i y) := by
  refine ⟨fun a ha => h.1 a ha, fun a ha => h.2.1 a ha, h.2.2.1, fun a ha => h.2.2.2.1 a ha, fun a ha hi => ?_⟩
  show (if a = i then y else K.1 6 a) = (if a = i then y else M.2.2.1 1 a)
  by_cases e : a = i
  · rw [if_pos e, if_pos e]
  · rw [if_neg e, if_neg e]
    exact h.2.2.2.2 a ha (by omega)
theorem PL_step {n i : Nat} {K : St} {M : Md} (h40 : n ≤ 40) (hi : i < n) (h : PL n (i + 1) K M) : PL n i (meas1 i K) (mrk1 i M) := by
  have hL : measL i K = mLd i M := by
    unfold measL mLd
    rw [mHg_b h.1 hi, (h.1 i hi).1, (h.1 i hi).2.2.2.2.2.2, h.2.2.2.1 i hi]
  unfold meas1 mrk1
  rw [hL]
  have h1 := PL_load h (mLd i M)
  generalize uA K 6 i (mLd i M) = K1 at h1 ⊢
  generalize aA M 1 i (mLd i M) = M1 at h1 ⊢
  obtain ⟨o4, o5, f4, f5⟩ := h1.2.1 i hi
  have r4 := (h1.1 i hi).2.2.2.2.1
  have r5 := (h1.1 i hi).2.2.2.2.2.1
  have l6 := h1.2.2.2.2 i hi (Nat.le_refl i)
  unfold mrkB
  rw [mHg_b h1.1 hi]
  by_cases e4 : K1.1 4 i = -1
  · have e5 := f5 e4
    have k1 : measB i K1 = K1 := by
      unfold measB
      rw [if_pos e5, e4, bear_m1]
    rw [k1, ← r4, if_pos e4]
    split
    · exact h1
    · exact h1
  · have hh : K1.2.1 i = true := by
      cases hb : K1.2.1 i with
      | true => rfl
      | false => exact absurd (f4 hb) e4
    rw [if_pos hh, ← r4, if_neg e4]
    obtain ⟨j, hj, q4⟩ := okH_j o4 e4
    have x4 : ix (M1.1 4 i) = j := by rw [← r4, q4]; exact ix_nI (by omega)
    unfold measB mP2 mP1 mSh
    rw [x4, ← r5, ← l6]
    by_cases e5 : K1.1 5 i = -1
    · rw [if_pos e5, if_pos e5, if_pos e5, q4, bear_j h1.2.2.1 h40 (by omega)]
      exact (PL_pull h1 _).resolve_right (by omega)
    · rw [if_neg e5, if_neg e5, if_neg e5, q4, bear_j h1.2.2.1 h40 (by omega)]
      have h2 := (PL_pull (j := j) h1 ((K1.1 6 i + 1) / 2)).resolve_right (by omega)
      obtain ⟨k, hk, q5⟩ := okH_j o5 e5
      have x5 : ix (K1.1 5 i) = k := by rw [q5]; exact ix_nI (by omega)
      show PL n i (bear (uA K1 7 j (K1.1 7 j + (K1.1 6 i + 1) / 2)) (K1.1 5 i) (K1.1 6 i / 2)) (aA (aA M1 2 j (M1.2.2.1 2 j + (K1.1 6 i + 1) / 2)) 2 (ix (K1.1 5 i)) ((aA M1 2 j (M1.2.2.1 2 j + (K1.1 6 i + 1) / 2)).2.2.1 2 (ix (K1.1 5 i)) + M1.2.2.1 1 i / 2))
      rw [x5, q5, bear_j h2.2.2.1 h40 (by omega), ← l6]
      exact (PL_pull h2 _).resolve_right (by omega)
theorem PL_frD {n : Nat} (h40 : n ≤ 40) : ∀ (i : Nat) (K : St) (M : Md), i ≤ n → PL n i K M → PL n 0 (frD meas1 i K) (frD mrk1 i M)
  | 0, _, _, _, h => h
  | i + 1, K, M, hi, h => PL_frD h40 i (meas1 i K) (mrk1 i M) (by omega) (PL_step h40 (by omega) h)
theorem PL_0 {n : Nat} {K : St} {M : Md} (h1 : Rw n K M) (h2 : Hd n K) (h3 : K.2.2.1 0 = nI n) : ∀ k : Nat, k ≤ n → Rw n (fr meas0 k K) (fr mrk0 k M) ∧ Hd n (fr meas0 k K) ∧ (fr meas0 k K).2.2.1 0 = nI n ∧ ∀ j, j < k → (fr meas0 k K).1 7 j = (fr mrk0 k M).2.2.1 2 j
  | 0, _ => ⟨h1, h2, h3, fun j hj => absurd hj (Nat.not_lt_zero _)⟩
  | k + 1, hk => by
    obtain ⟨a, b, c, d⟩ := PL_0 h1 h2 h3 k (by omega)
    refine ⟨fun i hi => a i hi, fun i hi => b i hi, c, fun j hj => ?_⟩
    show (if j = k then (0 : Int32) else (fr meas0 k K).1 7 j) = (if j = k then (0 : Int32) else (fr mrk0 k M).2.2.1 2 j)
    by_cases e : j = k
    · rw [if_pos e, if_pos e]
    · rw [if_neg e, if_neg e]
      exact d j (by omega)
/-- measuring gives the reference's loads and pulls -/
theorem PL_measure {n : Nat} {K : St} {M : Md} (h40 : n ≤ 40) (h1 : Rw n K M) (h2 : Hd n K) (h3 : K.2.2.1 0 = nI n) (h4 : M.2.2.2 1 = nI n) : PL n 0 (measure K) (mRk M) := by
  obtain ⟨a, b, c, d⟩ := PL_0 h1 h2 h3 n (Nat.le_refl n)
  have h := PL_frD h40 n _ _ (Nat.le_refl n) ⟨a, b, c, d, fun j hj hi => absurd hj (by omega)⟩
  unfold measure mRk
  rw [nn_eq h3 h40, mN_eq h4 h40]
  exact h
