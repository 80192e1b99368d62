/-! the loads, reckoned again and again till nothing changes: the same as the reference's -/
def JI (n : Nat) (M : Md) : Prop := ∀ i, i < n → okH i (M.1 4 i) ∧ okH i (M.1 5 i) ∧ (M.1 4 i = -1 → M.1 5 i = -1) ∧ (¬ M.1 4 i = -1 → ¬ M.1 4 i = M.1 5 i) ∧ (M.1 2 i = 0 → M.1 4 i = -1 ∧ M.1 3 i = 0) ∧ (M.1 3 i ≤ 0 → M.1 3 i = 0) ∧ (M.1 2 i = 0 ∨ M.1 2 i = 1) ∧ 0 ≤ M.1 1 i
/-- weights and props as they may be -/
def WB (n : Nat) (M : Md) : Prop := ∀ i, i < n → (∃ a : Nat, a ≤ 20 ∧ M.1 0 i = nI a) ∧ ∃ b : Nat, b ≤ 60 ∧ M.1 6 i = nI b
theorem JI_hg {n i : Nat} {M : Md} (h : JI n M) (hi : i < n) : mHg M i = true ↔ ¬ M.1 2 i = 0 := by
  have h1 := (h i hi).2.2.2.2.2.2.1
  unfold mHg
  rw [decide_eq_true_eq]
  rcases h1 with z | z
  · rw [z]; exact ⟨fun q => absurd q (by decide), fun q => absurd rfl q⟩
  · rw [z]; exact ⟨fun _ => by decide, fun _ => rfl⟩
/-- what a stone takes off another one: its share of the load -/
def cbR (M : Md) (Ld : Nat → Int32) (o k : Nat) : Int32 :=
  if M.1 2 o = 0 ∨ M.1 4 o = -1 then 0
  else if M.1 5 o = -1 then (if M.1 4 o = nI k then Ld o else 0)
  else if M.1 4 o = nI k then Ld o - Ld o / 2 else if M.1 5 o = nI k then Ld o / 2 else 0
def jld (M : Md) (P : Nat → Int32) (k : Nat) : Int32 := if M.1 2 k = 0 then 0 else mx 0 (M.1 0 k + P k - M.1 6 k)
theorem cbR_lo {n : Nat} {M : Md} (h : JI n M) (h40 : n ≤ 40) (Ld : Nat → Int32) {o k : Nat} (ho : o < n) (hk : o ≤ k) (hk2 : k < n) : cbR M Ld o k = 0 := by
  obtain ⟨a4, a5, -⟩ := h o ho
  have key : ∀ x, okH o x → ¬ x = nI k := fun x hx e => by
    rcases hx with rfl | ⟨j, hj, rfl⟩
    · exact nI_m1 (by omega) e.symm
    · have := (nI_eq (by omega) (by omega)).mp e
      omega
  unfold cbR
  split
  · rfl
  · split
    · rw [if_neg (key _ a4)]
    · rw [if_neg (key _ a4), if_neg (key _ a5)]
theorem cbR_ld {M : Md} {L L' : Nat → Int32} {o k : Nat} (h : L o = L' o) : cbR M L o k = cbR M L' o k := by
  unfold cbR
  rw [h]
theorem sI_if (g : Nat → Int32) {i : Nat} : ∀ (n : Nat), i < n → sI (fun o => if i ≤ o then g o else 0) n = sI (fun o => if i + 1 ≤ o then g o else 0) n + g i := fun n hi => by
  have h1 := sI_upd (fun o => if i + 1 ≤ o then g o else 0) i (g i) n hi
  have e0 : (if i + 1 ≤ i then g i else 0) = 0 := if_neg (by omega)
  rw [e0, Int32.add_zero] at h1
  rw [← h1]
  refine sI_congr n (fun o _ => ?_)
  show (if i ≤ o then g o else 0) = (if o = i then g i else if i + 1 ≤ o then g o else 0)
  by_cases h : o = i
  · rw [if_pos (by omega), if_pos h, h]
  · rw [if_neg h]
    by_cases h2 : i + 1 ≤ o
    · rw [if_pos (by omega), if_pos h2]
    · rw [if_neg (by omega), if_neg h2]
theorem mx_sub {x y : Nat} (hx : x < 2 ^ 30) (hy : y < 2 ^ 30) : mx 0 (nI x - nI y) = nI (x - y) := by
  unfold mx
  rcases Nat.lt_or_ge x y with z | z
  · have h1 := pk_sneg hy z
    rw [if_neg (fun q => Int32.lt_asymm h1 q), show x - y = 0 by omega]
    rfl
  · rw [pk_sub z]
    by_cases h : x - y = 0
    · rw [h]; decide
    · rw [if_pos (show (0 : Int32) < nI (x - y) from nI_lt (a := 0) (b := x - y) (by omega) (by omega))]
theorem half_le {l : Nat} (h : l < 2 ^ 30) : (nI l + 1) / 2 = nI ((l + 1) / 2) ∧ nI l / 2 = nI (l / 2) ∧ nI l - nI l / 2 = nI ((l + 1) / 2) := by
  have e2 : nI l / 2 = nI (l / 2) := pk_div (a := l) (d := 2) (by omega) (by decide) (by decide)
  refine ⟨?_, e2, ?_⟩
  · rw [nI_1]
    exact pk_div (a := l + 1) (d := 2) (by omega) (by decide) (by decide)
  · rw [e2, pk_sub (by omega)]
    congr 1
    omega
theorem sumN_add (f g : Nat → Nat) : ∀ n : Nat, sumN (fun i => f i + g i) n = sumN f n + sumN g n
  | 0 => rfl
  | n + 1 => by
    show sumN (fun i => f i + g i) n + (f n + g n) = (sumN f n + f n) + (sumN g n + g n)
    rw [sumN_add f g n]
    omega
theorem sumN_one {c : Nat} {x : Int32} : ∀ n : Nat, n ≤ 2 ^ 30 → sumN (fun j => if x = nI j then c else 0) n ≤ c ∧ ((∀ j, j < n → ¬ x = nI j) → sumN (fun j => if x = nI j then c else 0) n = 0)
  | 0, _ => ⟨Nat.zero_le _, fun _ => rfl⟩
  | n + 1, h => by
    obtain ⟨h1, h2⟩ := sumN_one (c := c) (x := x) n (by omega)
    refine ⟨?_, fun q => ?_⟩
    · show sumN _ n + (if x = nI n then c else 0) ≤ c
      by_cases hx : x = nI n
      · rw [if_pos hx, h2 (fun j hj e => by
          rw [hx] at e
          have := (nI_eq (by omega) (by omega)).mp e
          omega)]
        omega
      · rw [if_neg hx]
        exact h1
    · show sumN _ n + (if x = nI n then c else 0) = 0
      rw [h2 (fun j hj => q j (by omega)), if_neg (q n (by omega))]
/-- the reference's measuring, from stone i on -/
def RkI (n i : Nat) (M X : Md) : Prop := X.1 = M.1 ∧ (∀ j, j < n → X.2.2.1 2 j = sI (fun o => if i ≤ o then cbR M (X.2.2.1 1) o j else 0) n) ∧ (∀ o, i ≤ o → o < n → X.2.2.1 1 o = jld M (X.2.2.1 2) o ∧ ∃ l : Nat, l ≤ 820 ∧ X.2.2.1 1 o = nI l) ∧ ∃ q : Nat → Nat, (∀ j, j < n → X.2.2.1 2 j = nI (q j)) ∧ sumN q i ≤ 20 * (n - i) ∧ ∀ j, j < n → q j ≤ 800
theorem sumN_mem {f : Nat → Nat} : ∀ {n i : Nat}, i < n → f i ≤ sumN f n
  | n + 1, i, h => by
    show f i ≤ sumN f n + f n
    by_cases e : i = n
    · subst e; omega
    · have := sumN_mem (f := f) (n := n) (i := i) (by omega)
      omega
theorem RkI_step {n i : Nat} {M X : Md} (h40 : n ≤ 40) (hJ : JI n M) (hW : WB n M) (hi : i < n) (h : RkI n (i + 1) M X) : RkI n i M (mrk1 i X) := by
  obtain ⟨h1, h2, h3, q, q1, q2, q3⟩ := h
  obtain ⟨⟨a, ha, ea⟩, b, hb, eb⟩ := hW i hi
  obtain ⟨o4, o5, f4, d45, -, -, hh, -⟩ := hJ i hi
  have hg : mHg X i = true ↔ ¬ M.1 2 i = 0 := by
    have := JI_hg hJ hi
    unfold mHg at this ⊢
    rw [h1]
    exact this
  have hLd : mLd i X = jld M (X.2.2.1 2) i := by
    unfold mLd jld
    rw [h1]
    by_cases c : M.1 2 i = 0
    · rw [if_pos c, if_neg (fun z => (hg.mp z) c)]
    · rw [if_neg c, if_pos (hg.mpr c)]
  have hqi := q3 i hi
  obtain ⟨l, hl, el⟩ : ∃ l : Nat, l ≤ q i + 20 ∧ mLd i X = nI l := by
    rw [hLd]
    unfold jld
    by_cases c : M.1 2 i = 0
    · rw [if_pos c]; exact ⟨0, by omega, rfl⟩
    · rw [if_neg c, ea, eb, q1 i hi, nI_add, mx_sub (by omega) (by omega)]
      exact ⟨a + q i - b, by omega, rfl⟩
  obtain ⟨hf1, hf2, hf3⟩ := half_le (l := l) (by omega)
  -- the new pulls
  have key : (mrk1 i X).1 = M.1 ∧ (mrk1 i X).2.2.1 1 = upd (X.2.2.1 1) i (nI l) ∧ ∃ cn : Nat → Nat, (∀ j, j < n → (mrk1 i X).2.2.1 2 j = X.2.2.1 2 j + nI (cn j) ∧ cbR M (upd (X.2.2.1 1) i (nI l)) i j = nI (cn j)) ∧ sumN cn i ≤ l ∧ (∀ j, i ≤ j → j < n → cn j = 0) ∧ ∀ j, j < n → cn j ≤ l := by
    have eL : upd (X.2.2.1 1) i (nI l) i = nI l := pk_us
    unfold mrk1
    rw [el]
    generalize hX1 : aA X 1 i (nI l) = X1
    have t1 : X1.1 = M.1 := by rw [← hX1]; exact h1
    have t2 : X1.2.2.1 1 = upd (X.2.2.1 1) i (nI l) := by rw [← hX1]; rfl
    have t3 : X1.2.2.1 2 = X.2.2.1 2 := by rw [← hX1]; rfl
    have hg1 : mHg X1 i = true ↔ ¬ M.1 2 i = 0 := by
      have := JI_hg hJ hi
      unfold mHg at this ⊢
      rw [t1]
      exact this
    unfold mrkB
    by_cases c : M.1 2 i = 0
    · rw [if_neg (fun z => (hg1.mp z) c)]
      refine ⟨t1, t2, fun _ => 0, fun j hj => ⟨by rw [t3]; exact (Int32.add_zero _).symm, by unfold cbR; rw [if_pos (Or.inl c)]; rfl⟩, ?_, fun _ _ _ => rfl, fun _ _ => Nat.zero_le _⟩
      have : ∀ m, sumN (fun _ => 0) m = 0 := fun m => by
        induction m with
        | zero => rfl
        | succ m ih => show sumN _ m + 0 = 0; rw [ih]
      rw [this]; exact Nat.zero_le _
    · rw [if_pos (hg1.mpr c), t1]
      by_cases c4 : M.1 4 i = -1
      · rw [if_pos c4]
        refine ⟨t1, t2, fun _ => 0, fun j hj => ⟨by rw [t3]; exact (Int32.add_zero _).symm, by unfold cbR; rw [if_pos (Or.inr c4)]; rfl⟩, ?_, fun _ _ _ => rfl, fun _ _ => Nat.zero_le _⟩
        have : ∀ m, sumN (fun _ => 0) m = 0 := fun m => by
          induction m with
          | zero => rfl
          | succ m ih => show sumN _ m + 0 = 0; rw [ih]
        rw [this]; exact Nat.zero_le _
      · rw [if_neg c4]
        obtain ⟨j4, hj4, e4⟩ := okH_j o4 c4
        have x4 : ix (X1.1 4 i) = j4 := by rw [t1, e4]; exact ix_nI (by omega)
        by_cases c5 : M.1 5 i = -1
        · have e5 : (mP1 i X1).1 5 i = -1 := by show X1.1 5 i = -1; rw [t1]; exact c5
          unfold mP2
          rw [if_pos e5]
          unfold mP1 mSh
          rw [x4, t1, if_pos c5]
          refine ⟨rfl, t2, fun j => if M.1 4 i = nI j then l else 0, fun j hj => ⟨?_, ?_⟩, (sumN_one i (by omega)).1, fun j h1 h2 => if_neg (fun z => by
            rw [e4] at z
            have := (nI_eq (by omega) (by omega)).mp z
            omega), fun j _ => by show (if _ then _ else _) ≤ _; split <;> omega⟩
          · show upd (X1.2.2.1 2) j4 (X1.2.2.1 2 j4 + X1.2.2.1 1 i) j = _
            rw [t2, eL, t3]
            show _ = X.2.2.1 2 j + nI (if M.1 4 i = nI j then l else 0)
            by_cases z : j = j4
            · subst z
              rw [pk_us, if_pos e4]
            · rw [pk_un z, if_neg (fun y => z (by
                rw [e4] at y
                exact ((nI_eq (by omega) (by omega)).mp y).symm))]
              exact (Int32.add_zero _).symm
          · unfold cbR
            rw [if_neg (fun z => z.elim c c4), if_pos c5, eL]
            show _ = nI (if M.1 4 i = nI j then l else 0)
            split <;> rfl
        · have e5 : ¬ (mP1 i X1).1 5 i = -1 := by show ¬ X1.1 5 i = -1; rw [t1]; exact c5
          obtain ⟨j5, hj5, e5'⟩ := okH_j o5 c5
          have hne : j5 ≠ j4 := fun z => d45 c4 (by rw [e4, e5', z])
          have x5 : ix (X1.1 5 i) = j5 := by rw [t1, e5']; exact ix_nI (by omega)
          unfold mP2
          rw [if_neg e5]
          unfold mP1 mSh
          rw [x4, t1, if_neg c5]
          have x5' : ix (M.1 5 i) = j5 := by rw [e5']; exact ix_nI (by omega)
          rw [x5']
          refine ⟨rfl, t2, fun j => (if M.1 4 i = nI j then (l + 1) / 2 else 0) + (if M.1 5 i = nI j then l / 2 else 0), fun j hj => ⟨?_, ?_⟩, ?_, fun j h1 h2 => ?_, fun j _ => ?_⟩
          · show upd (upd (X1.2.2.1 2) j4 (X1.2.2.1 2 j4 + (X1.2.2.1 1 i + 1) / 2)) j5 (upd (X1.2.2.1 2) j4 (X1.2.2.1 2 j4 + (X1.2.2.1 1 i + 1) / 2) j5 + X1.2.2.1 1 i / 2) j = _
            rw [t2, eL, t3, hf1, hf2]
            show _ = X.2.2.1 2 j + nI ((if M.1 4 i = nI j then (l + 1) / 2 else 0) + (if M.1 5 i = nI j then l / 2 else 0))
            by_cases z5 : j = j5
            · subst z5
              rw [pk_us, pk_un hne, if_pos e5', if_neg (fun y => hne (by
                rw [e4] at y
                exact ((nI_eq (by omega) (by omega)).mp y).symm)), Nat.zero_add]
            · rw [pk_un z5, if_neg (c := M.1 5 i = nI j) (fun y => z5 (by
                rw [e5'] at y
                exact ((nI_eq (by omega) (by omega)).mp y).symm)), Nat.add_zero]
              by_cases z : j = j4
              · subst z
                rw [pk_us, if_pos e4]
                rfl
              · rw [pk_un z, if_neg (fun y => z (by
                  rw [e4] at y
                  exact ((nI_eq (by omega) (by omega)).mp y).symm))]
                exact (Int32.add_zero _).symm
          · unfold cbR
            rw [if_neg (fun z => z.elim c c4), if_neg c5, eL, hf3, hf2]
            show _ = nI ((if M.1 4 i = nI j then (l + 1) / 2 else 0) + (if M.1 5 i = nI j then l / 2 else 0))
            by_cases z : M.1 4 i = nI j
            · rw [if_pos z, if_pos z, if_neg (fun y => d45 c4 (z.trans y.symm))]
              rfl
            · rw [if_neg z, if_neg z, Nat.zero_add]
              split <;> rfl
          · rw [sumN_add]
            have s1 := (sumN_one (c := (l + 1) / 2) (x := M.1 4 i) i (by omega)).1
            have s2 := (sumN_one (c := l / 2) (x := M.1 5 i) i (by omega)).1
            omega
          · show (if M.1 4 i = nI j then _ else _) + (if M.1 5 i = nI j then _ else _) = 0
            rw [if_neg (fun z => by
              rw [e4] at z
              have := (nI_eq (by omega) (by omega)).mp z
              omega), if_neg (fun z => by
              rw [e5'] at z
              have := (nI_eq (by omega) (by omega)).mp z
              omega)]
          · show (if M.1 4 i = nI j then _ else _) + (if M.1 5 i = nI j then _ else _) ≤ l
            split <;> split <;> omega
  obtain ⟨k1, k2, cn, k3, k4, k5, k6⟩ := key
  have hs1 : sumN q (i + 1) = sumN q i + q i := rfl
  have hsum : sumN (fun j => q j + cn j) i ≤ 20 * (n - i) := by
    rw [sumN_add]
    omega
  refine ⟨k1, fun j hj => ?_, fun o ho ho2 => ?_, fun j => q j + cn j, fun j hj => by rw [(k3 j hj).1, q1 j hj, nI_add], hsum, fun j hj => ?_⟩
  · rw [(k3 j hj).1, h2 j hj, k2, sI_if _ n hi]
    congr 1
    · refine sI_congr n (fun o _ => ?_)
      by_cases z : i + 1 ≤ o
      · rw [if_pos z, if_pos z]
        exact cbR_ld (pk_un (by omega)).symm
      · rw [if_neg z, if_neg z]
    · exact (k3 j hj).2.symm
  · have hp : (mrk1 i X).2.2.1 2 o = X.2.2.1 2 o := by
      rw [(k3 o ho2).1, k5 o ho ho2]
      exact Int32.add_zero _
    rw [k2]
    by_cases z : o = i
    · subst z
      rw [pk_us]
      refine ⟨?_, l, by omega, rfl⟩
      rw [← el, hLd]
      unfold jld
      rw [hp]
    · rw [pk_un z]
      obtain ⟨y1, y2⟩ := h3 o (by omega) ho2
      refine ⟨?_, y2⟩
      rw [y1]
      unfold jld
      rw [hp]
  · show q j + cn j ≤ 800
    by_cases z : j < i
    · have := sumN_mem (f := fun j => q j + cn j) z
      have h5 : q j + cn j ≤ sumN (fun j => q j + cn j) i := this
      omega
    · rw [k5 j (by omega) hj]
      exact q3 j hj
theorem RkI_frD {n : Nat} {M : Md} (h40 : n ≤ 40) (hJ : JI n M) (hW : WB n M) : ∀ (i : Nat) (X : Md), i ≤ n → RkI n i M X → RkI n 0 M (frD mrk1 i X)
  | 0, _, _, h => h
  | i + 1, X, hi, h => RkI_frD h40 hJ hW i (mrk1 i X) (by omega) (RkI_step h40 hJ hW (by omega) h)
theorem rk0_st (M : Md) : ∀ m : Nat, (fr mrk0 m M).1 = M.1 ∧ ∀ j, j < m → (fr mrk0 m M).2.2.1 2 j = 0
  | 0 => ⟨rfl, fun j hj => absurd hj (Nat.not_lt_zero _)⟩
  | m + 1 => by
    obtain ⟨a, b⟩ := rk0_st M m
    refine ⟨a, fun j hj => ?_⟩
    show upd ((fr mrk0 m M).2.2.1 2) m 0 j = 0
    by_cases z : j = m
    · rw [z, pk_us]
    · rw [pk_un z]
      exact b j (by omega)
theorem sI_zero : ∀ n : Nat, sI (fun _ => 0) n = 0
  | 0 => rfl
  | n + 1 => by rw [sI_s, sI_zero n]; rfl
/-- the reference's loads and pulls: what each is, and how much at most -/
theorem Rk_eqs {n : Nat} {M : Md} (h40 : n ≤ 40) (hn : M.2.2.2 1 = nI n) (hJ : JI n M) (hW : WB n M) : (∀ j, j < n → (mRk M).2.2.1 2 j = sI (fun o => cbR M ((mRk M).2.2.1 1) o j) n) ∧ (∀ o, o < n → (mRk M).2.2.1 1 o = jld M ((mRk M).2.2.1 2) o) ∧ (∀ o, o < n → ∃ l : Nat, l ≤ 820 ∧ (mRk M).2.2.1 1 o = nI l) ∧ ∀ o, o < n → ∃ l : Nat, l ≤ 800 ∧ (mRk M).2.2.1 2 o = nI l := by
  have h0 : RkI n n M (fr mrk0 n M) := by
    obtain ⟨a, b⟩ := rk0_st M n
    refine ⟨a, fun j hj => ?_, fun o h1 h2 => absurd h1 (Nat.not_le.mpr h2), fun _ => 0, fun j hj => b j hj, ?_, fun _ _ => Nat.zero_le _⟩
    · rw [b j hj, sI_congr (g := fun _ => 0) n (fun o ho => if_neg (Nat.not_le.mpr ho)), sI_zero]
    · have : ∀ m, sumN (fun _ => 0) m = 0 := fun m => by
        induction m with
        | zero => rfl
        | succ m ih => show sumN _ m + 0 = 0; rw [ih]
      rw [this]; exact Nat.zero_le _
  have h := RkI_frD h40 hJ hW n _ (Nat.le_refl n) h0
  unfold mRk
  rw [mN_eq hn h40]
  generalize frD mrk1 n (fr mrk0 n M) = X at h ⊢
  obtain ⟨-, h2, h3, q, q1, -, q3⟩ := h
  exact ⟨fun j hj => (h2 j hj).trans (sI_congr n (fun o _ => if_pos (Nat.zero_le _))), fun o ho => (h3 o (Nat.zero_le _) ho).1, fun o ho => (h3 o (Nat.zero_le _) ho).2, fun o ho => ⟨q o, q3 o ho, q1 o ho⟩⟩
/-! the law's own way: pulls out of loads, loads out of pulls -/
def jq1 (M : Md) (Ld : Nat → Int32) (o : Nat) (P : Nat → Int32) : Nat → Int32 := if M.1 2 o = 0 then P else if M.1 4 o = -1 then P else if M.1 5 o = -1 then upd P (ix (M.1 4 o)) (P (ix (M.1 4 o)) + (Ld o - 0)) else upd (upd P (ix (M.1 4 o)) (P (ix (M.1 4 o)) + (Ld o - Ld o / 2))) (ix (M.1 5 o)) (upd P (ix (M.1 4 o)) (P (ix (M.1 4 o)) + (Ld o - Ld o / 2)) (ix (M.1 5 o)) + Ld o / 2)
def jqS (M : Md) (Ld : Nat → Int32) (n : Nat) : Nat → Int32 := fr (jq1 M Ld) n (fun _ => 0)
def jl1 (M : Md) (P : Nat → Int32) (k : Nat) (S : (Nat → Int32) × Bool) : (Nat → Int32) × Bool := (upd S.1 k (jld M P k), S.2 || !decide (jld M P k = S.1 k))
def jIt (M : Md) (n : Nat) (Ld : Nat → Int32) : (Nat → Int32) × Bool := fr (jl1 M (jqS M Ld n)) n (Ld, false)
theorem jq1_at {n : Nat} {M : Md} (h40 : n ≤ 40) (hJ : JI n M) (Ld P : Nat → Int32) {o k : Nat} (ho : o < n) (hk : k < n) : jq1 M Ld o P k = P k + cbR M Ld o k := by
  obtain ⟨o4, o5, f4, d45, -⟩ := hJ o ho
  unfold jq1 cbR
  by_cases c : M.1 2 o = 0
  · rw [if_pos c, if_pos (Or.inl c)]; exact (Int32.add_zero _).symm
  · rw [if_neg c]
    by_cases c4 : M.1 4 o = -1
    · rw [if_pos c4, if_pos (Or.inr c4)]; exact (Int32.add_zero _).symm
    · have hc : ¬ (M.1 2 o = 0 ∨ M.1 4 o = -1) := fun z => z.elim c c4
      rw [if_neg c4, if_neg hc]
      obtain ⟨j4, hj4, e4⟩ := okH_j o4 c4
      have x4 : ix (M.1 4 o) = j4 := by rw [e4]; exact ix_nI (by omega)
      have t4 : M.1 4 o = nI k ↔ k = j4 := by rw [e4]; exact (nI_eq (by omega) (by omega)).trans ⟨fun z => z.symm, fun z => z.symm⟩
      by_cases c5 : M.1 5 o = -1
      · rw [if_pos c5, if_pos c5, x4, Int32.sub_zero]
        by_cases z : k = j4
        · rw [if_pos (t4.mpr z), z, pk_us]
        · rw [if_neg (fun y => z (t4.mp y)), pk_un z]; exact (Int32.add_zero _).symm
      · rw [if_neg c5, if_neg c5, x4]
        obtain ⟨j5, hj5, e5⟩ := okH_j o5 c5
        have x5 : ix (M.1 5 o) = j5 := by rw [e5]; exact ix_nI (by omega)
        have t5 : M.1 5 o = nI k ↔ k = j5 := by rw [e5]; exact (nI_eq (by omega) (by omega)).trans ⟨fun z => z.symm, fun z => z.symm⟩
        have hne : j5 ≠ j4 := fun z => d45 c4 (by rw [e4, e5, z])
        rw [x5]
        by_cases z5 : k = j5
        · rw [if_neg (c := M.1 4 o = nI k) (fun y => hne (z5.symm.trans (t4.mp y))), if_pos (t5.mpr z5), z5, pk_us, pk_un hne]
        · rw [pk_un z5]
          by_cases z : k = j4
          · rw [if_pos (t4.mpr z), z, pk_us]
          · rw [if_neg (fun y => z (t4.mp y)), if_neg (fun y => z5 (t5.mp y)), pk_un z]; exact (Int32.add_zero _).symm
theorem jqS_at {n : Nat} {M : Md} (h40 : n ≤ 40) (hJ : JI n M) (Ld : Nat → Int32) {k : Nat} (hk : k < n) : ∀ m : Nat, m ≤ n → fr (jq1 M Ld) m (fun _ => 0) k = sI (fun o => cbR M Ld o k) m
  | 0, _ => rfl
  | m + 1, hm => by
    show jq1 M Ld m (fr (jq1 M Ld) m (fun _ => 0)) k = _
    rw [jq1_at h40 hJ _ _ (by omega) hk, jqS_at h40 hJ Ld hk m (by omega), sI_s]
theorem jIt_at {n : Nat} {M : Md} (Ld : Nat → Int32) : ∀ m : Nat, (∀ k, (fr (jl1 M (jqS M Ld n)) m (Ld, false)).1 k = if k < m then jld M (jqS M Ld n) k else Ld k) ∧ ((fr (jl1 M (jqS M Ld n)) m (Ld, false)).2 = false ↔ ∀ k, k < m → jld M (jqS M Ld n) k = Ld k)
  | 0 => ⟨fun k => by rw [if_neg (Nat.not_lt_zero k)]; rfl, ⟨fun _ k hk => absurd hk (Nat.not_lt_zero k), fun _ => rfl⟩⟩
  | m + 1 => by
    obtain ⟨a, b⟩ := jIt_at (n := n) (M := M) Ld m
    refine ⟨fun k => ?_, ?_⟩
    · show upd (fr (jl1 M (jqS M Ld n)) m (Ld, false)).1 m (jld M (jqS M Ld n) m) k = _
      by_cases z : k = m
      · rw [z, pk_us, if_pos (Nat.lt_succ_self m)]
      · rw [pk_un z, a k]
        by_cases y : k < m
        · rw [if_pos y, if_pos (by omega)]
        · rw [if_neg y, if_neg (by omega)]
    · show ((fr (jl1 M (jqS M Ld n)) m (Ld, false)).2 || !decide (jld M (jqS M Ld n) m = (fr (jl1 M (jqS M Ld n)) m (Ld, false)).1 m)) = false ↔ _
      rw [Bool.or_eq_false_iff, b, a m, if_neg (Nat.lt_irrefl m), Bool.not_eq_false', decide_eq_true_eq]
      refine ⟨fun h k hk => ?_, fun h => ⟨fun k hk => h k (by omega), h m (Nat.lt_succ_self m)⟩⟩
      by_cases z : k = m
      · rw [z]; exact h.2
      · exact h.1 k (by omega)
/-- right from stone n - t on -/
def Gd2 (n t : Nat) (M : Md) (Ld : Nat → Int32) : Prop := ∀ k, k < n → n ≤ k + t → Ld k = (mRk M).2.2.1 1 k
theorem pull_of {n : Nat} {M : Md} (h40 : n ≤ 40) (hn : M.2.2.2 1 = nI n) (hJ : JI n M) (hW : WB n M) {Ld : Nat → Int32} {k : Nat} (hk : k < n) (h : ∀ o, k < o → o < n → Ld o = (mRk M).2.2.1 1 o) : jqS M Ld n k = (mRk M).2.2.1 2 k := by
  unfold jqS
  rw [jqS_at h40 hJ Ld hk n (Nat.le_refl n), (Rk_eqs h40 hn hJ hW).1 k hk]
  refine sI_congr n (fun o ho => ?_)
  rcases Nat.lt_or_ge k o with z | z
  · exact cbR_ld (h o z ho)
  · rw [cbR_lo hJ h40 _ ho z hk, cbR_lo hJ h40 _ ho z hk]
theorem Gd2_it {n t : Nat} {M : Md} (h40 : n ≤ 40) (hn : M.2.2.2 1 = nI n) (hJ : JI n M) (hW : WB n M) {Ld : Nat → Int32} (h : Gd2 n t M Ld) : Gd2 n (t + 1) M (jIt M n Ld).1 := fun k hk hkt => by
  have hp := pull_of h40 hn hJ hW hk (fun o ho ho2 => h o ho2 (by omega))
  show (fr (jl1 M (jqS M Ld n)) n (Ld, false)).1 k = _
  rw [(jIt_at Ld n).1 k, if_pos hk, (Rk_eqs h40 hn hJ hW).2.1 k hk]
  unfold jld
  rw [hp]
theorem Gd2_all {n : Nat} {M : Md} (h40 : n ≤ 40) (hn : M.2.2.2 1 = nI n) (hJ : JI n M) (hW : WB n M) {Ld : Nat → Int32} (h : Gd2 n n M Ld) : (jIt M n Ld).2 = false := by
  refine (jIt_at Ld n).2.mpr (fun k hk => ?_)
  have hp := pull_of h40 hn hJ hW hk (fun o ho ho2 => h o ho2 (by omega))
  rw [h k hk (by omega), (Rk_eqs h40 hn hJ hW).2.1 k hk]
  unfold jld
  rw [hp]
theorem Gd2_end {n : Nat} {M : Md} (h40 : n ≤ 40) (hn : M.2.2.2 1 = nI n) (hJ : JI n M) (hW : WB n M) {Ld : Nat → Int32} (h : (jIt M n Ld).2 = false) : (∀ k, k < n → Ld k = (mRk M).2.2.1 1 k) ∧ (∀ k, k < n → (jIt M n Ld).1 k = (mRk M).2.2.1 1 k) ∧ ∀ k, k < n → jqS M Ld n k = (mRk M).2.2.1 2 k := by
  have h1 := (jIt_at (M := M) (n := n) Ld n).2.mp h
  have h2 : ∀ t : Nat, Gd2 n t M Ld := fun t => by
    induction t with
    | zero => exact fun k hk z => absurd z (by omega)
    | succ t ih =>
      intro k hk z
      have hp := pull_of h40 hn hJ hW hk (fun o ho ho2 => ih o ho2 (by omega))
      rw [← h1 k hk, (Rk_eqs h40 hn hJ hW).2.1 k hk]
      unfold jld
      rw [hp]
  refine ⟨fun k hk => h2 n k hk (by omega), fun k hk => ?_, fun k hk => pull_of h40 hn hJ hW hk (fun o _ ho2 => h2 n o ho2 (by omega))⟩
  show (fr (jl1 M (jqS M Ld n)) n (Ld, false)).1 k = _
  rw [(jIt_at Ld n).1 k, if_pos hk, h1 k hk]
  exact h2 n k hk (by omega)
