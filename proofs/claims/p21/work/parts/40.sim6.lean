/-! holds of hanging stones alone, through a round -/
def Gd (n : Nat) (K : St) : Prop := NH n K ∧ D2 n K ∧ K.2.2.1 0 = nI n
theorem NHe_of {n f : Nat} {K : St} (h : NH n K) : NHe n f K := fun i hi j hj q _ => h i hi j hj q
theorem Gd_tear {n f : Nat} {K : St} (h40 : n ≤ 40) (hf : f < n) (h : Gd n K) : Gd n (tearF K (nI f)) := by
  obtain ⟨a, b⟩ := NH_tear h40 hf h.2.2 (NHe_of h.1) h.2.1
  exact ⟨a, b, (hk_tearF K (nI f)).trans h.2.2⟩
theorem Gd_tearO {n : Nat} {K : St} (h40 : n ≤ 40) (h : Gd n K) : Gd n (tearO K) := by
  unfold tearO
  rw [nn_eq h.2.2 h40]
  refine fr_In (fun S => Gd n S) n (fun i S hi q => ?_) n K (Nat.le_refl n) h
  unfold tearO1
  split
  · exact q
  · exact Gd_tear h40 hi q
theorem Gd_endO {n : Nat} {K : St} (h40 : n ≤ 40) (h : Gd n K) : Gd n (endO K) := by
  unfold endO
  rw [nn_eq h.2.2 h40]
  refine fr_In (fun S => Gd n S) n (fun i S hi q => ?_) n K (Nat.le_refl n) h
  unfold endO1
  split
  · exact q
  · split
    · exact q
    · unfold endSpell
      split
      · exact ⟨fun a ha => q.1 a ha, fun a ha => q.2.1 a ha, q.2.2⟩
      · exact q
theorem Gd_drop1 {n i : Nat} {K : St} (h40 : n ≤ 40) (hi : i < n) (h : Gd n K) : Gd n (drop1 i K) := by
  unfold drop1
  split
  · split
    · exact h
    · split
      · have h1 : NHe n i (uS (uI (uH K i false) 1 (K.2.2.1 1 - 1)) true) := fun a ha j hj q hn => h.1 a ha j hj (by
          have q' : (if j = i then false else K.2.1 j) = false := q
          rw [if_neg hn] at q'
          exact q')
        have h2 : D2 n (uS (uI (uH K i false) 1 (K.2.2.1 1 - 1)) true) := fun a ha => h.2.1 a ha
        have h3 : (uS (uI (uH K i false) 1 (K.2.2.1 1 - 1)) true).2.2.1 0 = nI n := h.2.2
        obtain ⟨a, b⟩ := NH_tear h40 hi h3 h1 h2
        exact ⟨a, b, (hk_tearF _ _).trans h3⟩
      · exact h
  · exact h
theorem Gd_drop {n : Nat} {K : St} (h40 : n ≤ 40) (h : Gd n K) : Gd n (dropL K) := by
  unfold dropL
  rw [nn_eq h.2.2 h40]
  exact fr_In (fun S => Gd n S) n (fun i S hi q => Gd_drop1 h40 hi q) n K (Nat.le_refl n) h
theorem bear_45 (S : St) (x y : Int32) : (bear S x y).1 4 = S.1 4 ∧ (bear S x y).1 5 = S.1 5 := by
  unfold bear
  split <;> exact ⟨rfl, rfl⟩
theorem measB_45 (i : Nat) (S : St) : (measB i S).1 4 = S.1 4 ∧ (measB i S).1 5 = S.1 5 := by
  unfold measB
  split
  · exact bear_45 _ _ _
  · exact ⟨(bear_45 _ _ _).1.trans (bear_45 _ _ _).1, (bear_45 _ _ _).2.trans (bear_45 _ _ _).2⟩
theorem meas1_45 (i : Nat) (S : St) : (meas1 i S).1 4 = S.1 4 ∧ (meas1 i S).1 5 = S.1 5 := measB_45 i _
theorem frD_45 : ∀ (k : Nat) (S : St), (frD meas1 k S).1 4 = S.1 4 ∧ (frD meas1 k S).1 5 = S.1 5
  | 0, _ => ⟨rfl, rfl⟩
  | k + 1, S => ⟨(frD_45 k _).1.trans (meas1_45 k S).1, (frD_45 k _).2.trans (meas1_45 k S).2⟩
theorem fr0_45 : ∀ (k : Nat) (S : St), (fr meas0 k S).1 4 = S.1 4 ∧ (fr meas0 k S).1 5 = S.1 5
  | 0, _ => ⟨rfl, rfl⟩
  | k + 1, S => fr0_45 k S
theorem measure_45 (S : St) : (measure S).1 4 = S.1 4 ∧ (measure S).1 5 = S.1 5 := by
  unfold measure
  exact ⟨(frD_45 _ _).1.trans (fr0_45 _ _).1, (frD_45 _ _).2.trans (fr0_45 _ _).2⟩
theorem Gd_measure {n : Nat} {K : St} (h40 : n ≤ 40) (h1 : Hd n K) (h : Gd n K) : Gd n (measure K) := by
  obtain ⟨-, b, c, -⟩ := MZ_measure h40 h1 h.1 h.2.2
  refine ⟨b, fun i hi => ?_, c⟩
  rw [(measure_45 K).1, (measure_45 K).2]
  exact h.2.1 i hi
