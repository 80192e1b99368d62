/-! the class's rows and the reference's: the loads come out alike -/
def Rw (n : Nat) (K : St) (M : Md) : Prop := ∀ i, i < n → K.1 0 i = M.1 0 i ∧ K.1 1 i = M.1 1 i ∧ bI (K.2.1 i) = M.1 2 i ∧ K.1 3 i = M.1 3 i ∧ K.1 4 i = M.1 4 i ∧ K.1 5 i = M.1 5 i ∧ K.1 2 i = M.1 6 i
def Hd (n : Nat) (K : St) : Prop := ∀ i, i < n → okH i (K.1 4 i) ∧ okH i (K.1 5 i) ∧ (K.2.1 i = false → K.1 4 i = -1) ∧ (K.1 4 i = -1 → K.1 5 i = -1)
def PL (n i : Nat) (K : St) (M : Md) : Prop := Rw n K M ∧ Hd n K ∧ K.2.2.1 0 = nI n ∧ (∀ j, j < n → K.1 7 j = M.2.2.1 2 j) ∧ ∀ j, j < n → i ≤ j → K.1 6 j = M.2.2.1 1 j
theorem mHg_b {K : St} {M : Md} {n i : Nat} (h : Rw n K M) (hi : i < n) : mHg M i = K.2.1 i := by
  have h1 := (h i hi).2.2.1
  unfold mHg
  rw [← h1]
  cases K.2.1 i <;> decide
theorem bear_m1 (S : St) (y : Int32) : bear S (-1) y = S := by
  unfold bear
  rw [if_neg]
  simp only [hasB]
  rw [show decide ((-1 : Int32) < 0) = true by decide]
  simp
theorem bear_j {S : St} {n j : Nat} (hn : S.2.2.1 0 = nI n) (h40 : n ≤ 40) (hj : j < n) (y : Int32) : bear S (nI j) y = uA S 7 j (S.1 7 j + y) := by
  unfold bear
  rw [if_pos (has_nI hn h40 hj), ix_nI (by omega)]
/-- a pull written on both sides -/
theorem PL_pull {n i j : Nat} {K : St} {M : Md} (h : PL n i K M) (y : Int32) : PL n i (uA K 7 j (K.1 7 j + y)) (aA M 2 j (M.2.2.1 2 j + y)) ∨ n ≤ j := by
  rcases Nat.lt_or_ge j n with hj | hj
  · refine Or.inl ⟨fun a ha => h.1 a ha, fun a ha => h.2.1 a ha, h.2.2.1, fun a ha => ?_, fun a ha hi => ?_⟩
    · show (if a = j then K.1 7 j + y else K.1 7 a) = (if a = j then M.2.2.1 2 j + y else M.2.2.1 2 a)
      rw [h.2.2.2.1 j hj, h.2.2.2.1 a ha]
    · exact h.2.2.2.2 a ha hi
  · exact Or.inr hj
theorem PL_load {n i : Nat} {K : St} {M : Md} (h : PL n (i + 1) K M) (y : Int32) : PL n i (uA K 6 i y) (aA M 1 i y) := by
  refine ⟨fun a ha => h.1 a ha, fun a ha => h.2.1 a ha, h.2.2.1, fun a ha => h.2.2.2.1 a ha, fun a ha hi => ?_⟩
  show (if a = i then y else K.1 6 a) = (if a = i then y else M.2.2.1 1 a)
  by_cases e : a = i
  · rw [if_pos e, if_pos e]
  · rw [if_neg e, if_neg e]
    exact h.2.2.2.2 a ha (by omega)
theorem PL_step {n i : Nat} {K : St} {M : Md} (h40 : n ≤ 40) (hi : i < n) (h : PL n (i + 1) K M) : PL n i (meas1 i K) (mrk1 i M) := by
  have hL : measL i K = mLd i M := by
    unfold measL mLd
    rw [mHg_b h.1 hi, (h.1 i hi).1, (h.1 i hi).2.2.2.2.2.2, h.2.2.2.1 i hi]
  unfold meas1 mrk1
  rw [hL]
  have h1 := PL_load h (mLd i M)
  generalize uA K 6 i (mLd i M) = K1 at h1 ⊢
  generalize aA M 1 i (mLd i M) = M1 at h1 ⊢
  obtain ⟨o4, o5, f4, f5⟩ := h1.2.1 i hi
  have r4 := (h1.1 i hi).2.2.2.2.1
  have r5 := (h1.1 i hi).2.2.2.2.2.1
  have l6 := h1.2.2.2.2 i hi (Nat.le_refl i)
  unfold mrkB
  rw [mHg_b h1.1 hi]
  by_cases e4 : K1.1 4 i = -1
  · have e5 := f5 e4
    have k1 : measB i K1 = K1 := by
      unfold measB
      rw [if_pos e5, e4, bear_m1]
    rw [k1, ← r4, if_pos e4]
    split
    · exact h1
    · exact h1
  · have hh : K1.2.1 i = true := by
      cases hb : K1.2.1 i with
      | true => rfl
      | false => exact absurd (f4 hb) e4
    rw [if_pos hh, ← r4, if_neg e4]
    obtain ⟨j, hj, q4⟩ := okH_j o4 e4
    have x4 : ix (M1.1 4 i) = j := by rw [← r4, q4]; exact ix_nI (by omega)
    unfold measB mP2 mP1 mSh
    rw [x4, ← r5, ← l6]
    by_cases e5 : K1.1 5 i = -1
    · rw [if_pos e5, if_pos e5, if_pos e5, q4, bear_j h1.2.2.1 h40 (by omega)]
      exact (PL_pull h1 _).resolve_right (by omega)
    · rw [if_neg e5, if_neg e5, if_neg e5, q4, bear_j h1.2.2.1 h40 (by omega)]
      have h2 := (PL_pull (j := j) h1 ((K1.1 6 i + 1) / 2)).resolve_right (by omega)
      obtain ⟨k, hk, q5⟩ := okH_j o5 e5
      have x5 : ix (K1.1 5 i) = k := by rw [q5]; exact ix_nI (by omega)
      show PL n i (bear (uA K1 7 j (K1.1 7 j + (K1.1 6 i + 1) / 2)) (K1.1 5 i) (K1.1 6 i / 2)) (aA (aA M1 2 j (M1.2.2.1 2 j + (K1.1 6 i + 1) / 2)) 2 (ix (K1.1 5 i)) ((aA M1 2 j (M1.2.2.1 2 j + (K1.1 6 i + 1) / 2)).2.2.1 2 (ix (K1.1 5 i)) + M1.2.2.1 1 i / 2))
      rw [x5, q5, bear_j h2.2.2.1 h40 (by omega), ← l6]
      exact (PL_pull h2 _).resolve_right (by omega)
theorem PL_frD {n : Nat} (h40 : n ≤ 40) : ∀ (i : Nat) (K : St) (M : Md), i ≤ n → PL n i K M → PL n 0 (frD meas1 i K) (frD mrk1 i M)
  | 0, _, _, _, h => h
  | i + 1, K, M, hi, h => PL_frD h40 i (meas1 i K) (mrk1 i M) (by omega) (PL_step h40 (by omega) h)
theorem PL_0 {n : Nat} {K : St} {M : Md} (h1 : Rw n K M) (h2 : Hd n K) (h3 : K.2.2.1 0 = nI n) : ∀ k : Nat, k ≤ n → Rw n (fr meas0 k K) (fr mrk0 k M) ∧ Hd n (fr meas0 k K) ∧ (fr meas0 k K).2.2.1 0 = nI n ∧ ∀ j, j < k → (fr meas0 k K).1 7 j = (fr mrk0 k M).2.2.1 2 j
  | 0, _ => ⟨h1, h2, h3, fun j hj => absurd hj (Nat.not_lt_zero _)⟩
  | k + 1, hk => by
    obtain ⟨a, b, c, d⟩ := PL_0 h1 h2 h3 k (by omega)
    refine ⟨fun i hi => a i hi, fun i hi => b i hi, c, fun j hj => ?_⟩
    show (if j = k then (0 : Int32) else (fr meas0 k K).1 7 j) = (if j = k then (0 : Int32) else (fr mrk0 k M).2.2.1 2 j)
    by_cases e : j = k
    · rw [if_pos e, if_pos e]
    · rw [if_neg e, if_neg e]
      exact d j (by omega)
/-- measuring gives the reference's loads and pulls -/
theorem PL_measure {n : Nat} {K : St} {M : Md} (h40 : n ≤ 40) (h1 : Rw n K M) (h2 : Hd n K) (h3 : K.2.2.1 0 = nI n) (h4 : M.2.2.2 1 = nI n) : PL n 0 (measure K) (mRk M) := by
  obtain ⟨a, b, c, d⟩ := PL_0 h1 h2 h3 n (Nat.le_refl n)
  have h := PL_frD h40 n _ _ (Nat.le_refl n) ⟨a, b, c, d, fun j hj hi => absurd hj (by omega)⟩
  unfold measure mRk
  rw [nn_eq h3 h40, mN_eq h4 h40]
  exact h
theorem fr_frA {σ : Type} (g : Nat → σ → σ) : ∀ (k a : Nat) (s : σ), fr g (a + k) s = frA g a k (fr g a s)
  | 0, _, _ => rfl
  | k + 1, a, s => by
    rw [show a + (k + 1) = (a + 1) + k by omega, fr_frA g k (a + 1) s]
    rfl
theorem fr_id {σ : Type} {g : Nat → σ → σ} {s : σ} : ∀ m : Nat, (∀ i, i < m → g i s = s) → fr g m s = s
  | 0, _ => rfl
  | m + 1, h => by
    show g m (fr g m s) = s
    rw [fr_id m (fun i hi => h i (by omega))]
    exact h m (by omega)
theorem frA_rel {σ τ : Type} (R : σ → τ → Prop) {f : Nat → σ → σ} {g : Nat → τ → τ} (n : Nat) : ∀ (k a : Nat) (s : σ) (t : τ), a + k ≤ n → (∀ i s t, a ≤ i → i < n → R s t → R (f i s) (g i t)) → R s t → R (frA f a k s) (frA g a k t)
  | 0, _, _, _, _, _, hr => hr
  | k + 1, a, s, t, hk, h, hr => frA_rel R n k (a + 1) (f a s) (g a t) (by omega) (fun i s t ha hi q => h i s t (by omega) hi q) (h a s t (Nat.le_refl a) (by omega) hr)
/-- a round's state: rows, loads and pulls alike; b: was it stale before -/
def TS (n : Nat) (b : Bool) (K : St) (T : Md × Bool) : Prop := PL n 0 K T.1 ∧ K.2.2.2 = (b || T.2)
theorem Rw_put {n i : Nat} {K : St} {M : Md} {k : Nat} {v : Int32} (h : Rw n K M) (hk : k = 4 ∨ k = 5) : Rw n (uA K k i v) (tA M k i v) := by
  intro a ha
  obtain ⟨a0, a1, a2, a3, a4, a5, a6⟩ := h a ha
  rcases hk with rfl | rfl
  · refine ⟨a0, a1, a2, a3, ?_, a5, a6⟩
    show (if a = i then v else K.1 4 a) = (if a = i then v else M.1 4 a)
    rw [a4]
  · refine ⟨a0, a1, a2, a3, a4, ?_, a6⟩
    show (if a = i then v else K.1 5 a) = (if a = i then v else M.1 5 a)
    rw [a5]
theorem Hd_first {n i : Nat} {K : St} (h : Hd n K) (hi : i < n) : Hd n (uA (uA K 4 i (K.1 5 i)) 5 i (-1)) := by
  intro a ha
  obtain ⟨b4, b5, f4, f5⟩ := h a ha
  have e4 : (uA (uA K 4 i (K.1 5 i)) 5 i (-1)).1 4 a = if a = i then K.1 5 i else K.1 4 a := rfl
  have e5 : (uA (uA K 4 i (K.1 5 i)) 5 i (-1)).1 5 a = if a = i then -1 else K.1 5 a := rfl
  rw [e4, e5]
  by_cases e : a = i
  · subst e
    rw [if_pos rfl, if_pos rfl]
    exact ⟨b5, Or.inl rfl, fun q => f5 (f4 q), fun _ => rfl⟩
  · rw [if_neg e, if_neg e]
    exact ⟨b4, b5, f4, f5⟩
theorem Hd_second {n i : Nat} {K : St} (h : Hd n K) (hi : i < n) : Hd n (uA K 5 i (-1)) := by
  intro a ha
  obtain ⟨b4, b5, f4, f5⟩ := h a ha
  have e5 : (uA K 5 i (-1)).1 5 a = if a = i then -1 else K.1 5 a := rfl
  rw [e5]
  by_cases e : a = i
  · rw [if_pos e]
    exact ⟨b4, Or.inl rfl, f4, fun _ => rfl⟩
  · rw [if_neg e]
    exact ⟨b4, b5, f4, f5⟩
theorem TS_tear1 {n f i : Nat} {b : Bool} {K : St} {T : Md × Bool} (h40 : n ≤ 40) (hf : f < n) (hi : i < n) (h : TS n b K T) : TS n b (tear1 (nI f) i K) (mt1 f i T) := by
  obtain ⟨⟨h1, h2, h3, h4, h5⟩, h6⟩ := h
  obtain ⟨b4, b5, f4, f5⟩ := h2 i hi
  obtain ⟨-, -, -, -, r4, r5, -⟩ := h1 i hi
  unfold tear1 mt1 heldB
  rw [mHg_b h1 hi, ← r4, ← r5]
  by_cases e4 : K.1 4 i = nI f
  · have hh : K.2.1 i = true := by
      cases hb : K.2.1 i with
      | true => rfl
      | false => exact absurd ((f4 hb).symm.trans e4) (fun q => nI_m1 (by omega) q.symm)
    rw [if_pos e4, if_pos hh, if_pos (by simp [e4]), if_pos e4]
    exact ⟨⟨Rw_put (Rw_put h1 (Or.inl rfl)) (Or.inr rfl), Hd_first h2 hi, h3, h4, h5⟩, by show true = (b || true); simp⟩
  · rw [if_neg e4]
    by_cases e5 : K.1 5 i = nI f
    · have hh : K.2.1 i = true := by
        cases hb : K.2.1 i with
        | true => rfl
        | false => exact absurd ((f5 (f4 hb)).symm.trans e5) (fun q => nI_m1 (by omega) q.symm)
      rw [if_pos e5, if_pos hh, if_pos (by simp [e5]), if_neg e4]
      exact ⟨⟨Rw_put h1 (Or.inr rfl), Hd_second h2 hi, h3, h4, h5⟩, by show true = (b || true); simp⟩
    · rw [if_neg e5]
      have e : (if K.2.1 i = true then if (decide (K.1 4 i = nI f) || decide (K.1 5 i = nI f)) = true then if K.1 4 i = nI f then (tA (tA T.1 4 i (K.1 5 i)) 5 i (-1), true) else (tA T.1 5 i (-1), true) else T else T) = T := by
        split
        · rw [if_neg (by simp [e4, e5])]
        · rfl
      rw [e]
      exact ⟨⟨h1, h2, h3, h4, h5⟩, h6⟩
/-- all holds from f tear on both sides -/
theorem TS_tear {n f : Nat} {b : Bool} {K : St} {M : Md} (h40 : n ≤ 40) (hf : f < n) (hm : M.2.2.2 1 = nI n) (h : PL n 0 K M) (hs : K.2.2.2 = b) : TS n b (tearF K (nI f)) (mTear M f) := by
  have h3 := h.2.2.1
  have hid : ∀ i, i < f + 1 → tear1 (nI f) i K = K := fun i hi => by
    have h2 := h.2.1 i (by omega)
    have key : ∀ x : Int32, okH i x → ¬ x = nI f := fun x hx q => by
      rcases hx with rfl | ⟨j, hj, rfl⟩
      · exact nI_m1 (by omega) q.symm
      · have := (nI_eq (by omega) (by omega)).mp q
        omega
    unfold tear1
    rw [if_neg (key _ h2.1), if_neg (key _ h2.2.1)]
  have e := fr_frA (tear1 (nI f)) (n - (f + 1)) (f + 1) K
  rw [show f + 1 + (n - (f + 1)) = n by omega, fr_id (f + 1) hid] at e
  unfold tearF mTear
  rw [nn_eq h3 h40, mN_eq hm h40, e]
  exact frA_rel (TS n b) n (n - (f + 1)) (f + 1) K (M, false) (by omega) (fun i s t _ hi q => TS_tear1 h40 hf hi q) ⟨h, by rw [hs]; simp⟩
