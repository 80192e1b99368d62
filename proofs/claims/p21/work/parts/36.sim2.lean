/-! a round of giving way, on both sides -/
theorem fr_comm {σ : Type} {P Q : Nat → σ → σ} (h : ∀ i j S, P j (Q i S) = Q i (P j S)) : ∀ (n : Nat) (S : σ), fr (fun i S => P i (Q i S)) n S = fr P n (fr Q n S)
  | 0, _ => rfl
  | n + 1, S => by
    have k : ∀ (m i : Nat) (X : σ), Q i (fr P m X) = fr P m (Q i X) := by
      intro m
      induction m with
      | zero => intro i X; rfl
      | succ m ih =>
        intro i X
        show Q i (P m (fr P m X)) = P m (fr P m (Q i X))
        rw [← h, ih]
    show P n (Q n (fr (fun i S => P i (Q i S)) n S)) = P n (fr P n (Q n (fr Q n S)))
    rw [fr_comm h n S, k]
/-- where fallen stones stand: no pull beyond the strength, no spell; no power below 0 -/
def Fl (n : Nat) (K : St) : Prop := ∀ i, i < n → (K.2.1 i = false → K.1 7 i ≤ K.1 1 i ∧ K.1 3 i = 0) ∧ (K.1 3 i ≤ 0 → K.1 3 i = 0)
def RT (n : Nat) (b : Bool) (K : St) (T : Md × Bool) : Prop := TS n b K T ∧ Fl n K ∧ T.1.2.2.2 1 = nI n
theorem Fl_tear1 {n : Nat} {x : Int32} {i : Nat} {K : St} (h : Fl n K) : Fl n (tear1 x i K) := by
  unfold tear1
  split
  · exact fun a ha => h a ha
  · split
    · exact fun a ha => h a ha
    · exact h
theorem Fl_tear {n : Nat} {x : Int32} {K : St} (h : Fl n K) : Fl n (tearF K x) := by
  unfold tearF
  exact fr_I (fun S => Fl n S) (fun i S q => Fl_tear1 q) _ _ h
theorem RT_0 {n i : Nat} {b : Bool} {K : St} {T : Md × Bool} (h40 : n ≤ 40) (hi : i < n) (hh : K.2.1 i = true) (h : RT n b K T) : RT n b (tearO1 i K) (mg0 i T) := by
  obtain ⟨⟨h1, h2⟩, h3, h4⟩ := h
  unfold tearO1 mg0
  rw [← h1.2.2.2.1 i hi, ← (h1.1 i hi).2.1]
  by_cases e : K.1 7 i ≤ K.1 1 i
  · rw [if_pos e, if_pos e]
    exact ⟨⟨h1, h2⟩, h3, h4⟩
  · rw [if_neg e, if_neg e]
    obtain ⟨q1, q2⟩ := TS_tear h40 hi h4 h1 h2
    exact ⟨⟨q1, by rw [q2]; show ((b || T.2) || (mTear T.1 i).2) = (b || (T.2 || (mTear T.1 i).2)); rw [Bool.or_assoc]⟩, Fl_tear h3, (congrFun (mi_tear T.1 i) 1).trans h4⟩
theorem RT_E {n i : Nat} {b : Bool} {K : St} {T : Md × Bool} (h40 : n ≤ 40) (hi : i < n) (h : RT n b K T) : RT n b (endO1 i K) (mgE i T) := by
  obtain ⟨⟨h1, h2⟩, h3, h4⟩ := h
  have r3 := (h1.1 i hi).2.2.2.1
  have l6 := h1.2.2.2.2 i hi (Nat.zero_le i)
  unfold endO1 mgE
  rw [← r3, ← l6]
  by_cases e0 : K.1 3 i ≤ 0
  · rw [if_pos e0, if_pos ((h3 i hi).2 e0)]
    exact ⟨⟨h1, h2⟩, h3, h4⟩
  · have z0 : ¬ K.1 3 i = 0 := fun q => e0 (by rw [q]; exact Int32.le_refl 0)
    rw [if_neg e0, if_neg z0]
    by_cases e1 : K.1 6 i ≤ K.1 3 i
    · rw [if_pos e1, if_neg (Int32.not_lt.mpr e1)]
      exact ⟨⟨h1, h2⟩, h3, h4⟩
    · rw [if_neg e1, if_pos (Int32.not_le.mp e1)]
      unfold endSpell
      rw [if_pos (has_nI h1.2.2.1 h40 hi), ix_nI (by omega)]
      refine ⟨⟨⟨fun a ha => ?_, fun a ha => h1.2.1 a ha, h1.2.2.1, fun a ha => h1.2.2.2.1 a ha, fun a ha q => h1.2.2.2.2 a ha q⟩, by show true = (b || true); simp⟩, fun a ha => ?_, h4⟩
      · obtain ⟨a0, a1, a2, a3, a4, a5, a6⟩ := h1.1 a ha
        refine ⟨a0, a1, a2, ?_, a4, a5, a6⟩
        show (if a = i then (0 : Int32) else K.1 3 a) = (if a = i then (0 : Int32) else T.1.1 3 a)
        rw [a3]
      · obtain ⟨q1, q2⟩ := h3 a ha
        have e3 : (uS (uA K 3 i 0) true).1 3 a = if a = i then 0 else K.1 3 a := rfl
        refine ⟨fun z => ⟨(q1 z).1, ?_⟩, ?_⟩
        · rw [e3]
          split
          · rfl
          · exact (q1 z).2
        · rw [e3]
          split
          · exact fun _ => rfl
          · exact q2
theorem RT_1 {n i : Nat} {b : Bool} {K : St} {T : Md × Bool} (h40 : n ≤ 40) (hi : i < n) (h : RT n b K T) : RT n b (endO1 i (tearO1 i K)) (mg1 i T) := by
  unfold mg1
  rw [mHg_b h.1.1.1 hi]
  cases hh : K.2.1 i with
  | true =>
    rw [if_pos rfl]
    exact RT_E h40 hi (RT_0 h40 hi hh h)
  | false =>
    rw [if_neg (by decide)]
    have q := (h.2.1 i hi).1 hh
    have e1 : tearO1 i K = K := by unfold tearO1; rw [if_pos q.1]
    have e2 : endO1 i K = K := by unfold endO1; rw [if_pos (by rw [q.2]; exact Int32.le_refl 0)]
    rw [e1, e2]
    exact h
theorem uA_comm {S : St} {k k2 : Nat} (h : k ≠ k2) (j j2 : Nat) (v v2 : Int32) : uA (uA S k j v) k2 j2 v2 = uA (uA S k2 j2 v2) k j v := by
  refine Prod.ext ?_ rfl
  funext a
  show (if a = k2 then upd (if k2 = k then upd (S.1 k) j v else S.1 k2) j2 v2 else if a = k then upd (S.1 k) j v else S.1 a) = (if a = k then upd (if k = k2 then upd (S.1 k2) j2 v2 else S.1 k) j v else if a = k2 then upd (S.1 k2) j2 v2 else S.1 a)
  have e1 : ¬ k2 = k := fun q => h q.symm
  rw [if_neg e1, if_neg h]
  by_cases a1 : a = k
  · have a2 : ¬ a = k2 := fun q => h (a1.symm.trans q)
    rw [if_neg a2, if_pos a1, if_pos a1]
  · rw [if_neg a1]
    by_cases a2 : a = k2
    · rw [if_pos a2, if_neg a1]
    · rw [if_neg a2, if_neg a1]
def sE (j : Nat) (S : St) : St := uS (uA S 3 j 0) true
theorem sE_tear1 (x : Int32) (i j : Nat) (S : St) : tear1 x i (sE j S) = sE j (tear1 x i S) := by
  unfold tear1 sE
  show (if S.1 4 i = x then uS (uA (uA (uA S 3 j 0) 4 i (S.1 5 i)) 5 i (-1)) true else if S.1 5 i = x then uS (uA (uA S 3 j 0) 5 i (-1)) true else uS (uA S 3 j 0) true) = _
  by_cases e : S.1 4 i = x
  · rw [if_pos e, if_pos e, uA_comm (k := 3) (k2 := 4) (by decide), uA_comm (k := 3) (k2 := 5) (by decide)]
  · rw [if_neg e, if_neg e]
    by_cases e2 : S.1 5 i = x
    · rw [if_pos e2, if_pos e2, uA_comm (k := 3) (k2 := 5) (by decide)]
    · rw [if_neg e2, if_neg e2]
theorem sE_fr (x : Int32) (j : Nat) (S : St) : ∀ m : Nat, fr (tear1 x) m (sE j S) = sE j (fr (tear1 x) m S)
  | 0 => rfl
  | m + 1 => by
    show tear1 x m (fr (tear1 x) m (sE j S)) = sE j (tear1 x m (fr (tear1 x) m S))
    rw [sE_fr x j S m, sE_tear1]
theorem sE_tearO1 (i j : Nat) (S : St) : tearO1 i (sE j S) = sE j (tearO1 i S) := by
  unfold tearO1
  show (if S.1 7 i ≤ S.1 1 i then sE j S else tearF (sE j S) (nI i)) = _
  by_cases e : S.1 7 i ≤ S.1 1 i
  · rw [if_pos e, if_pos e]
  · rw [if_neg e, if_neg e]
    exact sE_fr (nI i) j S (nn S)
theorem kp_tear1 (x : Int32) (i : Nat) (S : St) : (tear1 x i S).1 3 = S.1 3 ∧ (tear1 x i S).1 6 = S.1 6 ∧ (tear1 x i S).2.2.1 = S.2.2.1 := by
  unfold tear1
  split
  · exact ⟨rfl, rfl, rfl⟩
  · split <;> exact ⟨rfl, rfl, rfl⟩
theorem kp_fr (x : Int32) (S : St) : ∀ m : Nat, (fr (tear1 x) m S).1 3 = S.1 3 ∧ (fr (tear1 x) m S).1 6 = S.1 6 ∧ (fr (tear1 x) m S).2.2.1 = S.2.2.1
  | 0 => ⟨rfl, rfl, rfl⟩
  | m + 1 => by
    obtain ⟨a, b, c⟩ := kp_fr x S m
    obtain ⟨a1, b1, c1⟩ := kp_tear1 x m (fr (tear1 x) m S)
    exact ⟨a1.trans a, b1.trans b, c1.trans c⟩
theorem kp_tearO1 (i : Nat) (S : St) : (tearO1 i S).1 3 = S.1 3 ∧ (tearO1 i S).1 6 = S.1 6 ∧ (tearO1 i S).2.2.1 = S.2.2.1 := by
  unfold tearO1
  split
  · exact ⟨rfl, rfl, rfl⟩
  · exact kp_fr _ _ _
theorem endO1_eq (j : Nat) (S : St) : endO1 j S = if S.1 3 j ≤ 0 then S else if S.1 6 j ≤ S.1 3 j then S else if hasB S (nI j) then sE (ix (nI j)) S else S := rfl
theorem end_tear (i j : Nat) (S : St) : endO1 j (tearO1 i S) = tearO1 i (endO1 j S) := by
  obtain ⟨a, b, c⟩ := kp_tearO1 i S
  rw [endO1_eq, endO1_eq, a, b]
  have hb : hasB (tearO1 i S) (nI j) = hasB S (nI j) := by unfold hasB; rw [c]
  rw [hb]
  by_cases e : S.1 3 j ≤ 0
  · rw [if_pos e, if_pos e]
  · rw [if_neg e, if_neg e]
    by_cases e1 : S.1 6 j ≤ S.1 3 j
    · rw [if_pos e1, if_pos e1]
    · rw [if_neg e1, if_neg e1]
      by_cases e2 : hasB S (nI j) = true
      · rw [if_pos e2, if_pos e2, sE_tearO1]
      · rw [if_neg e2, if_neg e2]
theorem fr_rel {σ τ : Type} (R : σ → τ → Prop) {f : Nat → σ → σ} {g : Nat → τ → τ} : ∀ (n : Nat) (s : σ) (t : τ), (∀ i s t, i < n → R s t → R (f i s) (g i t)) → R s t → R (fr f n s) (fr g n t)
  | 0, _, _, _, hr => hr
  | n + 1, s, t, h, hr => h n _ _ (by omega) (fr_rel R n s t (fun i s t hi q => h i s t (by omega) q) hr)
/-- the class's tears and ends of spells of a round are the reference's -/
theorem RT_round {n : Nat} {K : St} {M : Md} (h40 : n ≤ 40) (h : PL n 0 K M) (hs : K.2.2.2 = false) (hf : Fl n K) (hm : M.2.2.2 1 = nI n) : RT n false (endO (tearO K)) (fr mg1 n (M, false)) := by
  have h1 : RT n false (fr (fun i S => endO1 i (tearO1 i S)) n K) (fr mg1 n (M, false)) := fr_rel (RT n false) n K (M, false) (fun i s t hi q => RT_1 h40 hi q) ⟨⟨h, by rw [hs]; rfl⟩, hf, hm⟩
  rw [fr_comm end_tear] at h1
  unfold endO tearO
  rw [show nn (fr tearO1 (nn K) K) = n from nn_eq ((hk_fr hk_tearO1 _ _).trans h.2.2.1) h40, nn_eq h.2.2.1 h40]
  exact h1
