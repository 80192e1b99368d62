/-! strength stays; behind the falling nothing is loose -/
theorem k1_fr {f : Nat → St → St} (h : ∀ i S, (f i S).1 1 = S.1 1) : ∀ (n : Nat) (S : St), (fr f n S).1 1 = S.1 1
  | 0, _ => rfl
  | n + 1, S => (h n _).trans (k1_fr h n S)
theorem k1_tear1 (x : Int32) (i : Nat) (S : St) : (tear1 x i S).1 1 = S.1 1 := by
  unfold tear1
  split
  · rfl
  · split <;> rfl
theorem k1_tearF (S : St) (x : Int32) : (tearF S x).1 1 = S.1 1 := k1_fr (k1_tear1 x) _ _
theorem k1_tearO (S : St) : (tearO S).1 1 = S.1 1 := k1_fr (fun i S => by
  unfold tearO1
  split
  · rfl
  · exact k1_tearF _ _) _ _
theorem k1_endO (S : St) : (endO S).1 1 = S.1 1 := k1_fr (fun i S => by
  unfold endO1
  split
  · rfl
  · split
    · rfl
    · unfold endSpell
      split <;> rfl) _ _
theorem k1_drop (S : St) : (dropL S).1 1 = S.1 1 := k1_fr (fun i S => by
  unfold drop1
  split
  · split
    · rfl
    · split
      · exact k1_tearF _ _
      · rfl
  · rfl) _ _
/-- a hold that isn't from x stays -/
theorem tr4 {x : Int32} {a : Nat} {S : St} (h : ¬ S.1 4 a = x) : ∀ m : Nat, (fr (tear1 x) m S).1 4 a = S.1 4 a
  | 0 => rfl
  | m + 1 => by
    have ih := tr4 h m
    show (tear1 x m (fr (tear1 x) m S)).1 4 a = S.1 4 a
    generalize fr (tear1 x) m S = X at ih ⊢
    unfold tear1
    by_cases e : X.1 4 m = x
    · rw [if_pos e]
      show (if a = m then X.1 5 m else X.1 4 a) = S.1 4 a
      by_cases z : a = m
      · exact absurd (by rw [← ih, z]; exact e) h
      · rw [if_neg z]; exact ih
    · rw [if_neg e]
      by_cases e5 : X.1 5 m = x
      · rw [if_pos e5]; exact ih
      · rw [if_neg e5]; exact ih
def NL (n : Nat) (K : St) : Prop := ∀ i, i < n → K.2.1 i = true → 0 < K.1 3 i ∨ ¬ K.1 4 i = -1
