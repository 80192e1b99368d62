/-! after a stone's holds have torn, nobody holds from it -/
def D2 (n : Nat) (K : St) : Prop := ∀ i, i < n → ¬ K.1 4 i = -1 → ¬ K.1 4 i = K.1 5 i
def NHe (n f : Nat) (K : St) : Prop := ∀ i, i < n → ∀ j, j < n → K.2.1 j = false → j ≠ f → ¬ K.1 4 i = nI j ∧ ¬ K.1 5 i = nI j
theorem m1_ne {j : Nat} (h : j < 2 ^ 31) : ¬ (-1 : Int32) = nI j := fun q => nI_m1 h q.symm
theorem NT_1 {n f m : Nat} {K : St} (h40 : n ≤ 40) (hf : f < n) (hm : m < n) (h : NHe n f K ∧ D2 n K ∧ ∀ a, a < m → ¬ K.1 4 a = nI f ∧ ¬ K.1 5 a = nI f) : NHe n f (tear1 (nI f) m K) ∧ D2 n (tear1 (nI f) m K) ∧ ∀ a, a < m + 1 → ¬ (tear1 (nI f) m K).1 4 a = nI f ∧ ¬ (tear1 (nI f) m K).1 5 a = nI f := by
  obtain ⟨h1, h2, h3⟩ := h
  unfold tear1
  by_cases e4 : K.1 4 m = nI f
  · rw [if_pos e4]
    have g4 : ∀ a, (uS (uA (uA K 4 m (K.1 5 m)) 5 m (-1)) true).1 4 a = if a = m then K.1 5 m else K.1 4 a := fun _ => rfl
    have g5 : ∀ a, (uS (uA (uA K 4 m (K.1 5 m)) 5 m (-1)) true).1 5 a = if a = m then -1 else K.1 5 a := fun _ => rfl
    have n4 : ¬ K.1 5 m = nI f := fun q => h2 m hm (by rw [e4]; exact nI_m1 (by omega)) (e4.trans q.symm)
    refine ⟨fun i hi j hj q hn => ?_, fun i hi => ?_, fun a ha => ?_⟩
    · obtain ⟨x, y⟩ := h1 i hi j hj q hn
      rw [g4, g5]
      by_cases z : i = m
      · rw [if_pos z, if_pos z, ← z]; exact ⟨y, m1_ne (by omega)⟩
      · rw [if_neg z, if_neg z]; exact ⟨x, y⟩
    · rw [g4, g5]
      by_cases z : i = m
      · rw [if_pos z, if_pos z]; exact fun q => q
      · rw [if_neg z, if_neg z]; exact h2 i hi
    · rw [g4, g5]
      by_cases z : a = m
      · rw [if_pos z, if_pos z]; exact ⟨n4, m1_ne (by omega)⟩
      · rw [if_neg z, if_neg z]; exact h3 a (by omega)
  · rw [if_neg e4]
    by_cases e5 : K.1 5 m = nI f
    · rw [if_pos e5]
      have g5 : ∀ a, (uS (uA K 5 m (-1)) true).1 5 a = if a = m then -1 else K.1 5 a := fun _ => rfl
      have g4 : ∀ a, (uS (uA K 5 m (-1)) true).1 4 a = K.1 4 a := fun _ => rfl
      refine ⟨fun i hi j hj q hn => ?_, fun i hi => ?_, fun a ha => ?_⟩
      · obtain ⟨x, y⟩ := h1 i hi j hj q hn
        rw [g4, g5]
        by_cases z : i = m
        · rw [if_pos z]; exact ⟨x, m1_ne (by omega)⟩
        · rw [if_neg z]; exact ⟨x, y⟩
      · rw [g4, g5]
        by_cases z : i = m
        · rw [if_pos z]; exact fun q => q
        · rw [if_neg z]; exact h2 i hi
      · rw [g4, g5]
        by_cases z : a = m
        · rw [if_pos z, z]; exact ⟨e4, m1_ne (by omega)⟩
        · rw [if_neg z]; exact h3 a (by omega)
    · rw [if_neg e5]
      refine ⟨h1, h2, fun a ha => ?_⟩
      by_cases z : a = m
      · rw [z]; exact ⟨e4, e5⟩
      · exact h3 a (by omega)
theorem NT_fr {n f : Nat} {K : St} (h40 : n ≤ 40) (hf : f < n) (h1 : NHe n f K) (h2 : D2 n K) : ∀ m : Nat, m ≤ n → NHe n f (fr (tear1 (nI f)) m K) ∧ D2 n (fr (tear1 (nI f)) m K) ∧ ∀ a, a < m → ¬ (fr (tear1 (nI f)) m K).1 4 a = nI f ∧ ¬ (fr (tear1 (nI f)) m K).1 5 a = nI f
  | 0, _ => ⟨h1, h2, fun a ha => absurd ha (Nat.not_lt_zero _)⟩
  | m + 1, hm => NT_1 h40 hf (by omega) (NT_fr h40 hf h1 h2 m (by omega))
theorem NH_tear {n f : Nat} {K : St} (h40 : n ≤ 40) (hf : f < n) (hn : K.2.2.1 0 = nI n) (h1 : NHe n f K) (h2 : D2 n K) : NH n (tearF K (nI f)) ∧ D2 n (tearF K (nI f)) := by
  obtain ⟨a, b, c⟩ := NT_fr h40 hf h1 h2 n (Nat.le_refl n)
  unfold tearF
  rw [nn_eq hn h40]
  refine ⟨fun i hi j hj q => ?_, b⟩
  by_cases z : j = f
  · rw [z]; exact c i hi
  · exact a i hi j hj q z
