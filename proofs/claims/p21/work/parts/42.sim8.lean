/-! a round that leaves the loads fresh has changed nothing -/
def Qk (f : St → St) : Prop := (∀ S, S.2.2.2 = true → (f S).2.2.2 = true) ∧ ∀ S, f S = S ∨ (f S).2.2.2 = true
theorem Qk_fr {f : Nat → St → St} (h : ∀ i, Qk (f i)) : ∀ n : Nat, Qk (fr f n)
  | 0 => ⟨fun _ q => q, fun _ => Or.inl rfl⟩
  | n + 1 => by
    obtain ⟨a, b⟩ := Qk_fr h n
    refine ⟨fun S q => (h n).1 _ (a S q), fun S => ?_⟩
    rcases b S with q | q
    · show f n (fr f n S) = S ∨ (f n (fr f n S)).2.2.2 = true
      rw [q]
      exact (h n).2 S
    · exact Or.inr ((h n).1 _ q)
theorem Qk_tear1 (x : Int32) (i : Nat) : Qk (tear1 x i) := by
  refine ⟨fun S q => ?_, fun S => ?_⟩
  · unfold tear1
    split
    · rfl
    · split
      · rfl
      · exact q
  · unfold tear1
    split
    · exact Or.inr rfl
    · split
      · exact Or.inr rfl
      · exact Or.inl rfl
theorem Qk_tearF (x : Int32) : Qk (fun S => tearF S x) := ⟨fun S q => (Qk_fr (Qk_tear1 x) (nn S)).1 S q, fun S => (Qk_fr (Qk_tear1 x) (nn S)).2 S⟩
theorem Qk_tearO1 (i : Nat) : Qk (tearO1 i) := by
  refine ⟨fun S q => ?_, fun S => ?_⟩
  · unfold tearO1
    split
    · exact q
    · exact (Qk_tearF (nI i)).1 S q
  · unfold tearO1
    split
    · exact Or.inl rfl
    · exact (Qk_tearF (nI i)).2 S
theorem Qk_endO1 (i : Nat) : Qk (endO1 i) := by
  refine ⟨fun S q => ?_, fun S => ?_⟩
  · rw [endO1_eq]
    split
    · exact q
    · split
      · exact q
      · split
        · rfl
        · exact q
  · rw [endO1_eq]
    split
    · exact Or.inl rfl
    · split
      · exact Or.inl rfl
      · split
        · exact Or.inr rfl
        · exact Or.inl rfl
theorem fresh_same {S : St} (h : (endO (tearO S)).2.2.2 = false) : endO (tearO S) = S := by
  have e1 := (Qk_fr Qk_endO1 (nn (tearO S))).2 (tearO S)
  have e2 := (Qk_fr Qk_tearO1 (nn S)).2 S
  rcases e1 with e1 | e1
  · rcases e2 with e2 | e2
    · exact (show endO (tearO S) = tearO S from e1).trans e2
    · have h2 : (endO (tearO S)).2.2.2 = true := (Qk_fr Qk_endO1 (nn (tearO S))).1 _ e2
      rw [h2] at h
      cases h
  · have h2 : (endO (tearO S)).2.2.2 = true := e1
    rw [h2] at h
    cases h
