/-! the law's checks of every stone: numbers -/
section ST
variable {n r : Nat} {B : Sr} {K : St} {M : Md}
theorem sI_cut (c : Nat → Int32) (k : Nat) : ∀ n : Nat, k < n → sI (fun o => if k ≤ o then c o else 0) n = sI (fun o => if k + 1 ≤ o then c o else 0) n + c k
  | 0, h => absurd h (Nat.not_lt_zero _)
  | n + 1, h => by
    rw [sI_s, sI_s]
    by_cases e : k = n
    · subst e
      have z : ∀ m : Nat, m ≤ k → ∀ a, k ≤ a → sI (fun o => if a ≤ o then c o else 0) m = 0 := fun m => by
        induction m with
        | zero => exact fun _ _ _ => rfl
        | succ m ih =>
          intro hm a ha
          rw [sI_s, ih (by omega) a ha, if_neg (by omega)]
          rfl
      rw [z k (Nat.le_refl k) k (Nat.le_refl k), z k (Nat.le_refl k) (k + 1) (by omega), if_pos (Nat.le_refl k), if_neg (by omega)]
      rfl
    · rw [sI_cut c k n (by omega), if_pos (by omega), if_pos (by omega), Int32.add_assoc, Int32.add_assoc, Int32.add_comm (c k)]
theorem sI_all {c d : Nat → Int32} : ∀ n : Nat, (∀ o, o < n → c o = d o) → sI c n = sI d n
  | 0, _ => rfl
  | n + 1, h => by rw [sI_s, sI_s, sI_all n (fun o ho => h o (by omega)), h n (by omega)]
abbrev Ld9 (M : Md) : Nat → Int32 := (mRk M).2.2.1 1
/-- what pull holds before stone k - 1 is looked at -/
def PK (n : Nat) (M : Md) (k : Nat) (P : Nat → Int32) : Prop := ∀ j, j < n → P j = sI (fun o => if k ≤ o then cbR M (Ld9 M) o j else 0) n
theorem PK_n (n : Nat) (M : Md) : PK n M n (fun _ => 0) := fun j _ => by
  have : ∀ m : Nat, m ≤ n → sI (fun o => if n ≤ o then cbR M (Ld9 M) o j else 0) m = 0 := fun m => by
    induction m with
    | zero => exact fun _ => rfl
    | succ m ih =>
      intro hm
      rw [sI_s, ih (by omega), if_neg (by omega)]
      rfl
  exact (this n (Nat.le_refl n)).symm
theorem PK_step (h : LI n r B K M) {k : Nat} {P : Nat → Int32} (hk : k < n) (hP : PK n M (k + 1) P) : PK n M k (jq1 M (Ld9 M) k P) := fun j hj => by
  rw [jq1_at h.h40 h.2.2.1 (Ld9 M) P hk hj, hP j hj, sI_cut _ k n hk]
theorem PK_at (h : LI n r B K M) {k : Nat} {P : Nat → Int32} (hk : k < n) (hP : PK n M (k + 1) P) : P k = (mRk M).2.2.1 2 k := by
  rw [hP k hk, (Rk_eqs h.h40 h.mn h.2.2.1 h.2.1).1 k hk]
  refine sI_all n fun o ho => ?_
  by_cases c : k + 1 ≤ o
  · rw [if_pos c]
  · rw [if_neg c, cbR_lo h.2.2.1 h.h40 _ ho (by omega) hk]
theorem ld_eq (h : LI n r B K M) {k : Nat} (hk : k < n) : (mRk M).2.2.1 1 k = if M.1 2 k = 0 then 0 else mx 0 (M.1 0 k + (mRk M).2.2.1 2 k - M.1 6 k) := (Rk_eqs h.h40 h.mn h.2.2.1 h.2.1).2.1 k hk
theorem LI_row (h : LI n r B K M) {i : Nat} (hi : i < n) : K.1 1 i = M.1 1 i ∧ K.1 3 i = M.1 3 i ∧ K.1 4 i = M.1 4 i ∧ K.1 5 i = M.1 5 i := by
  obtain ⟨-, r1, -, r3, r4, r5, -⟩ := h.1.1.1.1.1 i hi
  exact ⟨r1, r3, r4, r5⟩
theorem pull_le (h : LI n r B K M) {k : Nat} (hk : k < n) : (mRk M).2.2.1 2 k ≤ M.1 1 k := by
  obtain ⟨r1, -, -, -⟩ := LI_row h hk
  rcases (h.1.1.2.2 k hk).1 with c | c
  · rw [(load_q h.1.1 hk).2, ← r1]; exact c
  · have e : (mRk M).2.2.1 2 k = 0 := by
      rw [(Rk_eqs h.h40 h.mn h.2.2.1 h.2.1).1 k hk]
      have z : ∀ m : Nat, m ≤ n → sI (fun o => cbR M (Ld9 M) o k) m = 0 := fun m => by
        induction m with
        | zero => exact fun _ => rfl
        | succ m ih =>
          intro hm
          obtain ⟨-, -, r4, r5⟩ := LI_row h (show m < n by omega)
          have c4 := (c m (by omega)).1
          have c5 := (c m (by omega)).2
          rw [r4] at c4
          rw [r5] at c5
          rw [sI_s, ih (by omega)]
          unfold cbR
          simp [c4, c5]
      exact z n (Nat.le_refl n)
    rw [e]
    exact (h.2.2.1 k hk).2.2.2.2.2.2.2
theorem LI_sp (h : LI n r B K M) {k : Nat} (hk : k < n) : (0 < M.1 3 k → M.1 4 k = -1) ∧ (¬ M.1 2 k = 0 → 0 < M.1 3 k ∨ ¬ M.1 4 k = -1) ∧ (M.1 3 k ≤ 0 ∨ (mRk M).2.2.1 1 k ≤ M.1 3 k) := by
  obtain ⟨-, r3, r4, -⟩ := LI_row h hk
  refine ⟨fun q => ?_, fun q => ?_, ?_⟩
  · rw [← r4]; exact h.1.1.1.1.2.2.2.2.2.2.2.2.2.1 k hk (by rw [r3]; exact q)
  · have := h.1.1.1.2.1 k hk (by rw [← LI_hg h hk]; exact (JI_hg h.2.2.1 hk).mpr q)
    rw [r3, r4] at this
    exact this
  · have := (h.1.1.2.2 k hk).2
    rw [r3, ← (load_q h.1.1 hk).1] at this
    exact this
/-- holds are from stones ahead that hang -/
theorem LI_ho (h : LI n r B K M) {k : Nat} (hk : k < n) {w : Nat} (hw : w = 4 ∨ w = 5) : M.1 w k = -1 ∨ ∃ j : Nat, j < k ∧ M.1 w k = nI j ∧ M.1 2 j = 1 := by
  have h40 := h.h40
  obtain ⟨o4, o5, -⟩ := h.2.2.1 k hk
  obtain ⟨-, -, r4, r5⟩ := LI_row h hk
  have o : okH k (M.1 w k) := by rcases hw with rfl | rfl; exact o4; exact o5
  rcases o with y | ⟨j, hj, y⟩
  · exact Or.inl y
  · refine Or.inr ⟨j, hj, y, ?_⟩
    rcases LI_h01 h j (by omega) with z | z
    · exfalso
      have e := h.1.1.1.1.2.2.1.1 k hk j (by omega) (by rw [← LI_hg h (by omega)]; exact hg_n h (by omega) z)
      rw [r4, r5] at e
      rcases hw with rfl | rfl
      · exact e.1 y
      · exact e.2 y
    · exact z
/-- the root of a chain -/
theorem up_ok (h : LI n r B K M) : ∀ (f i : Nat), i < f → i < n → M.1 2 i = 1 → mUp f M i < n ∧ M.1 2 (mUp f M i) = 1 ∧ M.1 4 (mUp f M i) = -1
  | 0, _, hf, _, _ => absurd hf (Nat.not_lt_zero _)
  | f + 1, i, hf, hi, hh => by
    unfold mUp
    by_cases c : M.1 4 i = -1
    · rw [if_pos c]; exact ⟨hi, hh, c⟩
    · rw [if_neg c]
      rcases LI_ho h hi (Or.inl rfl) with y | ⟨j, hj, y, z⟩
      · exact absurd y c
      · rw [y, ix_nI (by have := h.h40; omega)]
        exact up_ok h f j (by omega) (by omega) z
theorem up_fuel (h : LI n r B K M) : ∀ (f g i : Nat), i < f → i < g → i < n → mUp f M i = mUp g M i
  | 0, _, _, hf, _, _ => absurd hf (Nat.not_lt_zero _)
  | _, 0, _, _, hg, _ => absurd hg (Nat.not_lt_zero _)
  | f + 1, g + 1, i, hf, hg, hi => by
    unfold mUp
    by_cases c : M.1 4 i = -1
    · rw [if_pos c, if_pos c]
    · rw [if_neg c, if_neg c]
      rcases LI_ho h hi (Or.inl rfl) with y | ⟨j, hj, y, z⟩
      · exact absurd y c
      · rw [y, ix_nI (by have := h.h40; omega)]
        exact up_fuel h f g j (by omega) (by omega) (by omega)
theorem up_one (h : LI n r B K M) {k j : Nat} (hk : k < n) (hj : j < k) (e : M.1 4 k = nI j) : mUp 40 M k = mUp 40 M j := by
  have h40 := h.h40
  have e1 : mUp 40 M k = mUp 39 M (ix (M.1 4 k)) := by
    conv => lhs; unfold mUp
    rw [if_neg (by rw [e]; exact nI_m1 (by omega))]
  rw [e1, e, ix_nI (by omega)]
  exact up_fuel h 39 40 j (by omega) (by omega) (by omega)
theorem up_self {k : Nat} (e : M.1 4 k = -1) : mUp 40 M k = k := by
  unfold mUp
  rw [if_pos e]
/-- what is gathered downwards -/
theorem add_fr {g : Nat → Int32 → Int32} {t : Nat → Int32} (hg : ∀ i a, g i a = a + t i) (x : Int32) : ∀ (k : Nat) (a : Int32), fr g k (a + x) = fr g k a + x
  | 0, _ => rfl
  | k + 1, a => by
    show g k (fr g k (a + x)) = g k (fr g k a) + x
    rw [add_fr hg x k a, hg, hg, Int32.add_assoc, Int32.add_assoc, Int32.add_comm x]
theorem dn_step {g : Nat → Int32 → Int32} {t : Nat → Int32} (hg : ∀ i a, g i a = a + t i) {k : Nat} {a v : Int32} (h : fr g (k + 1) a = v) : fr g k (a + t k) = v := by
  rw [add_fr hg]
  rw [← h]
  exact (hg k _).symm
end ST
