/-! nobody pulls at a fallen stone -/
def NH (n : Nat) (K : St) : Prop := ∀ i, i < n → ∀ j, j < n → K.2.1 j = false → ¬ K.1 4 i = nI j ∧ ¬ K.1 5 i = nI j
def MZ (n : Nat) (K : St) : Prop := Hd n K ∧ NH n K ∧ K.2.2.1 0 = nI n ∧ ∀ j, j < n → K.2.1 j = false → K.1 7 j = 0
theorem MZ_pull {n j : Nat} {K : St} {y : Int32} (h : MZ n K) (hj : K.2.1 j = true) : MZ n (uA K 7 j y) := by
  obtain ⟨a, b, c, d⟩ := h
  refine ⟨fun i hi => a i hi, fun i hi => b i hi, c, fun i hi q => ?_⟩
  show (if i = j then y else K.1 7 i) = 0
  by_cases e : i = j
  · have q' : K.2.1 i = false := q
    rw [e, hj] at q'
    cases q'
  · rw [if_neg e]; exact d i hi q
theorem MZ_step {n i : Nat} {K : St} (h40 : n ≤ 40) (hi : i < n) (h : MZ n K) : MZ n (meas1 i K) := by
  have h0 : MZ n (uA K 6 i (measL i K)) := ⟨fun a ha => h.1 a ha, fun a ha => h.2.1 a ha, h.2.2.1, fun a ha q => h.2.2.2 a ha q⟩
  unfold meas1
  generalize uA K 6 i (measL i K) = K1 at h0 ⊢
  obtain ⟨o4, o5, f4, f5⟩ := h0.1 i hi
  have key : ∀ j, j < n → K1.1 4 i = nI j ∨ K1.1 5 i = nI j → K1.2.1 j = true := fun j hj q => by
    cases hb : K1.2.1 j with
    | true => rfl
    | false =>
      obtain ⟨x, y⟩ := h0.2.1 i hi j hj hb
      rcases q with q | q
      · exact absurd q x
      · exact absurd q y
  unfold measB
  by_cases e4 : K1.1 4 i = -1
  · rw [if_pos (f5 e4), e4, bear_m1]
    exact h0
  · obtain ⟨j, hj, q4⟩ := okH_j o4 e4
    by_cases e5 : K1.1 5 i = -1
    · rw [if_pos e5, q4, bear_j h0.2.2.1 h40 (by omega)]
      exact MZ_pull h0 (key j (by omega) (Or.inl q4))
    · obtain ⟨k, hk, q5⟩ := okH_j o5 e5
      rw [if_neg e5, q4, bear_j h0.2.2.1 h40 (by omega)]
      have h2 : MZ n (uA K1 7 j (K1.1 7 j + (K1.1 6 i + 1) / 2)) := MZ_pull h0 (key j (by omega) (Or.inl q4))
      show MZ n (bear (uA K1 7 j (K1.1 7 j + (K1.1 6 i + 1) / 2)) (K1.1 5 i) _)
      rw [q5, bear_j h2.2.2.1 h40 (by omega)]
      exact MZ_pull h2 (key k (by omega) (Or.inr q5))
theorem MZ_frD {n : Nat} (h40 : n ≤ 40) : ∀ (i : Nat) (K : St), i ≤ n → MZ n K → MZ n (frD meas1 i K)
  | 0, _, _, h => h
  | i + 1, K, hi, h => MZ_frD h40 i (meas1 i K) (by omega) (MZ_step h40 (by omega) h)
theorem MZ_0 {n : Nat} {K : St} (h1 : Hd n K) (h2 : NH n K) (h3 : K.2.2.1 0 = nI n) : ∀ k : Nat, k ≤ n → Hd n (fr meas0 k K) ∧ NH n (fr meas0 k K) ∧ (fr meas0 k K).2.2.1 0 = nI n ∧ ∀ j, j < k → (fr meas0 k K).1 7 j = 0
  | 0, _ => ⟨h1, h2, h3, fun j hj => absurd hj (Nat.not_lt_zero _)⟩
  | k + 1, hk => by
    obtain ⟨a, b, c, d⟩ := MZ_0 h1 h2 h3 k (by omega)
    refine ⟨fun i hi => a i hi, fun i hi => b i hi, c, fun j hj => ?_⟩
    show (if j = k then (0 : Int32) else (fr meas0 k K).1 7 j) = 0
    by_cases e : j = k
    · rw [if_pos e]
    · rw [if_neg e]; exact d j (by omega)
theorem MZ_measure {n : Nat} {K : St} (h40 : n ≤ 40) (h1 : Hd n K) (h2 : NH n K) (h3 : K.2.2.1 0 = nI n) : MZ n (measure K) := by
  obtain ⟨a, b, c, d⟩ := MZ_0 h1 h2 h3 n (Nat.le_refl n)
  have h := MZ_frD h40 n _ (Nat.le_refl n) ⟨a, b, c, fun j hj _ => d j hj⟩
  unfold measure
  rw [nn_eq h3 h40]
  exact h
