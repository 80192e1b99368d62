/-! what measuring keeps -/
theorem bear_k {k : Nat} (hk : k ≠ 7) (S : St) (x y : Int32) : (bear S x y).1 k = S.1 k ∧ (bear S x y).2.1 = S.2.1 := by
  unfold bear
  split
  · refine ⟨?_, rfl⟩
    show (if k = 7 then upd (S.1 7) (ix x) (S.1 7 (ix x) + y) else S.1 k) = S.1 k
    rw [if_neg hk]
  · exact ⟨rfl, rfl⟩
theorem measB_k {k : Nat} (hk : k ≠ 7) (i : Nat) (S : St) : (measB i S).1 k = S.1 k ∧ (measB i S).2.1 = S.2.1 := by
  unfold measB
  split
  · exact bear_k hk _ _ _
  · exact ⟨(bear_k hk _ _ _).1.trans (bear_k hk _ _ _).1, (bear_k hk _ _ _).2.trans (bear_k hk _ _ _).2⟩
theorem meas1_k {k : Nat} (h6 : k ≠ 6) (h7 : k ≠ 7) (i : Nat) (S : St) : (meas1 i S).1 k = S.1 k ∧ (meas1 i S).2.1 = S.2.1 := by
  obtain ⟨a, b⟩ := measB_k h7 i (uA S 6 i (measL i S))
  refine ⟨a.trans ?_, b⟩
  show (if k = 6 then upd (S.1 6) i (measL i S) else S.1 k) = S.1 k
  rw [if_neg h6]
theorem frD_k {k : Nat} (h6 : k ≠ 6) (h7 : k ≠ 7) : ∀ (m : Nat) (S : St), (frD meas1 m S).1 k = S.1 k ∧ (frD meas1 m S).2.1 = S.2.1
  | 0, _ => ⟨rfl, rfl⟩
  | m + 1, S => ⟨(frD_k h6 h7 m _).1.trans (meas1_k h6 h7 m S).1, (frD_k h6 h7 m _).2.trans (meas1_k h6 h7 m S).2⟩
theorem fr0_k {k : Nat} (h7 : k ≠ 7) : ∀ (m : Nat) (S : St), (fr meas0 m S).1 k = S.1 k ∧ (fr meas0 m S).2.1 = S.2.1
  | 0, _ => ⟨rfl, rfl⟩
  | m + 1, S => by
    obtain ⟨a, b⟩ := fr0_k h7 m S
    refine ⟨?_, b⟩
    show (if k = 7 then upd ((fr meas0 m S).1 7) m 0 else (fr meas0 m S).1 k) = S.1 k
    rw [if_neg h7]; exact a
theorem measure_k {k : Nat} (h6 : k ≠ 6) (h7 : k ≠ 7) (S : St) : (measure S).1 k = S.1 k ∧ (measure S).2.1 = S.2.1 := by
  unfold measure
  exact ⟨(frD_k h6 h7 _ _).1.trans (fr0_k h7 _ _).1, (frD_k h6 h7 _ _).2.trans (fr0_k h7 _ _).2⟩
/-- behind measuring, fallen stones stand as a round wants it -/
theorem Fl_measure {n : Nat} {K : St} (h40 : n ≤ 40) (h1 : Hd n K) (h2 : Gd n K) (h3 : Pw n K) (h4 : ∀ i, i < n → 0 ≤ K.1 1 i) : Fl n (measure K) := by
  obtain ⟨-, -, -, d⟩ := MZ_measure h40 h1 h2.1 h2.2.2
  intro i hi
  rw [(measure_k (k := 1) (by decide) (by decide) K).1, (measure_k (k := 3) (by decide) (by decide) K).1]
  refine ⟨fun q => ?_, (h3 i hi).2⟩
  rw [d i hi q]
  rw [(measure_k (k := 1) (by decide) (by decide) K).2] at q
  exact ⟨h4 i hi, (h3 i hi).1 q⟩
