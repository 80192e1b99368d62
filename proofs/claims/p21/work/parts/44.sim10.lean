theorem NL_1 {n m : Nat} {S : St} (h40 : n ≤ 40) (hm : m < n) (hd : Hd n S) (h : ∀ a, a < m → S.2.1 a = true → 0 < S.1 3 a ∨ ¬ S.1 4 a = -1) : ∀ a, a < m + 1 → (drop1 m S).2.1 a = true → 0 < (drop1 m S).1 3 a ∨ ¬ (drop1 m S).1 4 a = -1 := by
  intro a ha
  unfold drop1
  cases hh : S.2.1 m with
  | false =>
    rw [if_neg (by decide)]
    intro q
    by_cases z : a = m
    · rw [z, hh] at q; cases q
    · exact h a (by omega) q
  | true =>
    rw [if_pos rfl]
    by_cases e0 : 0 < S.1 3 m
    · rw [if_pos e0]
      intro q
      by_cases z : a = m
      · rw [z]; exact Or.inl e0
      · exact h a (by omega) q
    · rw [if_neg e0]
      by_cases e4 : S.1 4 m = -1
      · rw [if_pos e4]
        have kh := kh_fr (nI m) (uS (uI (uH S m false) 1 (S.2.2.1 1 - 1)) true) (nn (uS (uI (uH S m false) 1 (S.2.2.1 1 - 1)) true))
        obtain ⟨k3, -, -⟩ := kp_fr (nI m) (uS (uI (uH S m false) 1 (S.2.2.1 1 - 1)) true) (nn (uS (uI (uH S m false) 1 (S.2.2.1 1 - 1)) true))
        have ph : (tearF (uS (uI (uH S m false) 1 (S.2.2.1 1 - 1)) true) (nI m)).2.1 = fun a => if a = m then false else S.2.1 a := kh
        have p3 : (tearF (uS (uI (uH S m false) 1 (S.2.2.1 1 - 1)) true) (nI m)).1 3 = S.1 3 := k3
        intro q
        rw [ph] at q
        by_cases z : a = m
        · have q' : (if a = m then false else S.2.1 a) = true := q
          rw [if_pos z] at q'; cases q'
        · have q' : (if a = m then false else S.2.1 a) = true := q
          rw [if_neg z] at q'
          have hn : ¬ S.1 4 a = nI m := fun y => by
            rcases (hd a (by omega)).1 with y2 | ⟨j, hj, y2⟩
            · exact m1_ne (by omega) (y2.symm.trans y)
            · have := (nI_eq (by omega) (by omega)).mp (y2.symm.trans y)
              omega
          have p4 : (tearF (uS (uI (uH S m false) 1 (S.2.2.1 1 - 1)) true) (nI m)).1 4 a = S.1 4 a := tr4 (S := uS (uI (uH S m false) 1 (S.2.2.1 1 - 1)) true) hn _
          rw [p3, p4]
          exact h a (by omega) q'
      · rw [if_neg e4]
        intro q
        by_cases z : a = m
        · rw [z]; exact Or.inr e4
        · exact h a (by omega) q
theorem NL_fr {n : Nat} {K : St} {M : Md} (h40 : n ≤ 40) (h : DT n K M) : ∀ m : Nat, m ≤ n → DT n (fr drop1 m K) (fr md1 m M) ∧ ∀ a, a < m → (fr drop1 m K).2.1 a = true → 0 < (fr drop1 m K).1 3 a ∨ ¬ (fr drop1 m K).1 4 a = -1
  | 0, _ => ⟨h, fun a ha => absurd ha (Nat.not_lt_zero _)⟩
  | m + 1, hm => by
    obtain ⟨a, b⟩ := NL_fr h40 h m (by omega)
    exact ⟨DT_1 h40 (by omega) a, NL_1 h40 (by omega) a.1.2.1 b⟩
theorem NL_drop {n : Nat} {K : St} {M : Md} (h40 : n ≤ 40) (h : DT n K M) : NL n (dropL K) := by
  unfold dropL
  rw [nn_eq h.1.2.2.1 h40]
  exact (NL_fr h40 h n (Nat.le_refl n)).2
