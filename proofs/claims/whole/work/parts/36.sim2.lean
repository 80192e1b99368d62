/-! a round of giving way, on both sides -/
theorem fr_comm {σ : Type} {P Q : Nat → σ → σ} (h : ∀ i j S, P j (Q i S) = Q i (P j S)) : ∀ (n : Nat) (S : σ), fr (fun i S => P i (Q i S)) n S = fr P n (fr Q n S)
  | 0, _ => rfl
  | n + 1, S => by
    have k : ∀ (m i : Nat) (X : σ), Q i (fr P m X) = fr P m (Q i X) := by
      intro m
      induction m with
      | zero => intro i X; rfl
      | succ m ih =>
        intro i X
        show Q i (P m (fr P m X)) = P m (fr P m (Q i X))
        rw [← h, ih]
    show P n (Q n (fr (fun i S => P i (Q i S)) n S)) = P n (fr P n (Q n (fr Q n S)))
    rw [fr_comm h n S, k]
/-- where fallen stones stand: no pull beyond the strength, no spell; no power below 0 -/
def Fl (n : Nat) (K : St) : Prop := ∀ i, i < n → (K.2.1 i = false → K.1 7 i ≤ K.1 1 i ∧ K.1 3 i = 0) ∧ (K.1 3 i ≤ 0 → K.1 3 i = 0)
def RT (n : Nat) (b : Bool) (K : St) (T : Md × Bool) : Prop := TS n b K T ∧ Fl n K ∧ T.1.2.2.2 1 = nI n
theorem Fl_tear1 {n : Nat} {x : Int32} {i : Nat} {K : St} (h : Fl n K) : Fl n (tear1 x i K) := by
  unfold tear1
  split
  · exact fun a ha => h a ha
  · split
    · exact fun a ha => h a ha
    · exact h
theorem Fl_tear {n : Nat} {x : Int32} {K : St} (h : Fl n K) : Fl n (tearF K x) := by
  unfold tearF
  exact fr_I (fun S => Fl n S) (fun i S q => Fl_tear1 q) _ _ h
theorem RT_0 {n i : Nat} {b : Bool} {K : St} {T : Md × Bool} (h40 : n ≤ 40) (hi : i < n) (hh : K.2.1 i = true) (h : RT n b K T) : RT n b (tearO1 i K) (mg0 i T) := by
  obtain ⟨⟨h1, h2⟩, h3, h4⟩ := h
  unfold tearO1 mg0
  rw [← h1.2.2.2.1 i hi, ← (h1.1 i hi).2.1]
  by_cases e : K.1 7 i ≤ K.1 1 i
  · rw [if_pos e, if_pos e]
    exact ⟨⟨h1, h2⟩, h3, h4⟩
  · rw [if_neg e, if_neg e]
    obtain ⟨q1, q2⟩ := TS_tear h40 hi h4 h1 h2
    exact ⟨⟨q1, by rw [q2]; show ((b || T.2) || (mTear T.1 i).2) = (b || (T.2 || (mTear T.1 i).2)); rw [Bool.or_assoc]⟩, Fl_tear h3, (congrFun (mi_tear T.1 i) 1).trans h4⟩
theorem RT_E {n i : Nat} {b : Bool} {K : St} {T : Md × Bool} (h40 : n ≤ 40) (hi : i < n) (h : RT n b K T) : RT n b (endO1 i K) (mgE i T) := by
  obtain ⟨⟨h1, h2⟩, h3, h4⟩ := h
  have r3 := (h1.1 i hi).2.2.2.1
  have l6 := h1.2.2.2.2 i hi (Nat.zero_le i)
  unfold endO1 mgE
  rw [← r3, ← l6]
  by_cases e0 : K.1 3 i ≤ 0
  · rw [if_pos e0, if_pos ((h3 i hi).2 e0)]
    exact ⟨⟨h1, h2⟩, h3, h4⟩
  · have z0 : ¬ K.1 3 i = 0 := fun q => e0 (by rw [q]; exact Int32.le_refl 0)
    rw [if_neg e0, if_neg z0]
    by_cases e1 : K.1 6 i ≤ K.1 3 i
    · rw [if_pos e1, if_neg (Int32.not_lt.mpr e1)]
      exact ⟨⟨h1, h2⟩, h3, h4⟩
    · rw [if_neg e1, if_pos (Int32.not_le.mp e1)]
      unfold endSpell
      rw [if_pos (has_nI h1.2.2.1 h40 hi), ix_nI (by omega)]
      refine ⟨⟨⟨fun a ha => ?_, fun a ha => h1.2.1 a ha, h1.2.2.1, fun a ha => h1.2.2.2.1 a ha, fun a ha q => h1.2.2.2.2 a ha q⟩, by show true = (b || true); simp⟩, fun a ha => ?_, h4⟩
      · obtain ⟨a0, a1, a2, a3, a4, a5, a6⟩ := h1.1 a ha
        refine ⟨a0, a1, a2, ?_, a4, a5, a6⟩
        show (if a = i then (0 : Int32) else K.1 3 a) = (if a = i then (0 : Int32) else T.1.1 3 a)
        rw [a3]
      · obtain ⟨q1, q2⟩ := h3 a ha
        have e3 : (uS (uA K 3 i 0) true).1 3 a = if a = i then 0 else K.1 3 a := rfl
        refine ⟨fun z => ⟨(q1 z).1, ?_⟩, ?_⟩
        · rw [e3]
          split
          · rfl
          · exact (q1 z).2
        · rw [e3]
          split
          · exact fun _ => rfl
          · exact q2
theorem RT_1 {n i : Nat} {b : Bool} {K : St} {T : Md × Bool} (h40 : n ≤ 40) (hi : i < n) (h : RT n b K T) : RT n b (endO1 i (tearO1 i K)) (mg1 i T) := by
  unfold mg1
  rw [mHg_b h.1.1.1 hi]
  cases hh : K.2.1 i with
  | true =>
    rw [if_pos rfl]
    exact RT_E h40 hi (RT_0 h40 hi hh h)
  | false =>
    rw [if_neg (by decide)]
    have q := (h.2.1 i hi).1 hh
    have e1 : tearO1 i K = K := by unfold tearO1; rw [if_pos q.1]
    have e2 : endO1 i K = K := by unfold endO1; rw [if_pos (by rw [q.2]; exact Int32.le_refl 0)]
    rw [e1, e2]
    exact h
