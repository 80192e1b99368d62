/-! the law's own towers, as cells: the stones' objects, their rows of holds, the stairs; C: the class's cells (places below 100), T: what a method made for itself (places from 400 on) -/
def hL (M : Md) (k : Nat) : Nat := if M.1 4 k = -1 then 0 else if M.1 5 k = -1 then 1 else 2
def hF (M : Md) (k : Nat) : Nat → Int32 := fun j => if j = 0 then M.1 4 k else M.1 5 k
abbrev stoE (M : Md) (k : Nat) : va_E := .inr (4, [.int (M.1 0 k), .int (M.1 1 k), .int (M.1 2 k), .int (M.1 3 k), .ref (201 + 2 * k), .int (M.1 6 k)])
abbrev holE (M : Md) (k : Nat) : va_E := .inl (0, hL M k, .inl (hF M k))
abbrev staE (M : Md) (k : Nat) : va_E := .inl (0, 3, .inl (fun j => M.2.1 j k))
abbrev rfE (i n : Nat) (f : Nat → Option Nat) : va_E := .inl (i, n, .inr (.inr (.inr (.inr f))))
def rfS (n : Nat) : Nat → Option Nat := fun j => if j < n then some (200 + 2 * j) else none
def rfT (r : Nat) : Nat → Option Nat := fun j => if j < r then some (300 + j) else none
abbrev simE (M : Md) : va_E := .inr (3, [.ref 101, .ref 102, .int (M.2.2.1 0 0)])
def simw (n r : Nat) (M : Md) (i : Nat) : Option va_E :=
  if i = 100 then some (simE M)
  else if i = 101 then some (rfE 2 n (rfS n))
  else if i = 102 then some (rfE 3 r (rfT r))
  else if 200 ≤ i ∧ i < 200 + 2 * n then some (if i % 2 = 0 then stoE M ((i - 200) / 2) else holE M ((i - 200) / 2))
  else if 300 ≤ i ∧ i < 300 + r then some (staE M (i - 300)) else none
def gW (C : List va_E) (n r : Nat) (M : Md) (T : WF) : WF := fun i => if i < 100 then C[i]? else if i < 400 then simw n r M i else T i
def tU (T : WF) (q : Nat) (e : Option va_E) : WF := fun i => if i = q then e else T i
theorem tU_s (T : WF) (q : Nat) (e : Option va_E) : tU T q e q = e := if_pos rfl
theorem tU_n (T : WF) {q i : Nat} (e : Option va_E) (h : i ≠ q) : tU T q e i = T i := if_neg h
section SW
variable {C : List va_E} {n r : Nat} {M M' : Md} {T : WF}
theorem gW_lo {i : Nat} (h : i < 100) : gW C n r M T i = C[i]? := if_pos h
theorem gW_mid {i : Nat} (h1 : 100 ≤ i) (h2 : i < 400) : gW C n r M T i = simw n r M i := by
  unfold gW
  rw [if_neg (by omega), if_pos h2]
theorem gW_hi {i : Nat} (h : 400 ≤ i) : gW C n r M T i = T i := by
  unfold gW
  rw [if_neg (by omega), if_neg (by omega)]
theorem gW_100 : gW C n r M T 100 = some (simE M) := rfl
theorem gW_101 : gW C n r M T 101 = some (rfE 2 n (rfS n)) := rfl
theorem gW_102 : gW C n r M T 102 = some (rfE 3 r (rfT r)) := rfl
theorem simw_st {k : Nat} (h : k < n) : simw n r M (200 + 2 * k) = some (stoE M k) := by
  unfold simw
  rw [if_neg (by omega), if_neg (by omega), if_neg (by omega), if_pos (by omega), if_pos (by omega), show (200 + 2 * k - 200) / 2 = k by omega]
theorem simw_ho {k : Nat} (h : k < n) : simw n r M (201 + 2 * k) = some (holE M k) := by
  unfold simw
  rw [if_neg (by omega), if_neg (by omega), if_neg (by omega), if_pos (by omega), if_neg (by omega), show (201 + 2 * k - 200) / 2 = k by omega]
theorem simw_sa {k : Nat} (h40 : n ≤ 40) (h : k < r) : simw n r M (300 + k) = some (staE M k) := by
  unfold simw
  rw [if_neg (by omega), if_neg (by omega), if_neg (by omega), if_neg (by omega), if_pos (by omega), show 300 + k - 300 = k by omega]
theorem gW_st (h40 : n ≤ 40) {k : Nat} (h : k < n) : gW C n r M T (200 + 2 * k) = some (stoE M k) := by rw [gW_mid (by omega) (by omega), simw_st h]
theorem gW_ho (h40 : n ≤ 40) {k : Nat} (h : k < n) : gW C n r M T (201 + 2 * k) = some (holE M k) := by rw [gW_mid (by omega) (by omega), simw_ho h]
theorem gW_sa (h40 : n ≤ 40) (h30 : r ≤ 30) {k : Nat} (h : k < r) : gW C n r M T (300 + k) = some (staE M k) := by rw [gW_mid (by omega) (by omega), simw_sa h40 h]
theorem rfS_at {k : Nat} (h : k < n) : rfS n k = some (200 + 2 * k) := if_pos h
theorem rfT_at {k : Nat} (h : k < r) : rfT r k = some (300 + k) := if_pos h
/-- every place of the towers, by kind -/
theorem simw_cases {i : Nat} {e : va_E} (h : simw n r M i = some e) : (i = 100 ∧ e = simE M) ∨ (i = 101 ∧ e = rfE 2 n (rfS n)) ∨ (i = 102 ∧ e = rfE 3 r (rfT r)) ∨ (∃ k, k < n ∧ i = 200 + 2 * k ∧ e = stoE M k) ∨ (∃ k, k < n ∧ i = 201 + 2 * k ∧ e = holE M k) ∨ ∃ k, k < r ∧ i = 300 + k ∧ e = staE M k := by
  unfold simw at h
  split at h
  · next q => exact Or.inl ⟨q, (Option.some.inj h).symm⟩
  · split at h
    · next q => exact Or.inr (Or.inl ⟨q, (Option.some.inj h).symm⟩)
    · split at h
      · next q => exact Or.inr (Or.inr (Or.inl ⟨q, (Option.some.inj h).symm⟩))
      · split at h
        · next q =>
          split at h
          · exact Or.inr (Or.inr (Or.inr (Or.inl ⟨(i - 200) / 2, by omega, by omega, (Option.some.inj h).symm⟩)))
          · exact Or.inr (Or.inr (Or.inr (Or.inr (Or.inl ⟨(i - 200) / 2, by omega, by omega, (Option.some.inj h).symm⟩))))
        · split at h
          · next q => exact Or.inr (Or.inr (Or.inr (Or.inr (Or.inr ⟨i - 300, by omega, by omega, (Option.some.inj h).symm⟩))))
          · cases h
/-- what the towers' cells show of a state -/
theorem simw_same {M M' : Md} (hs : ∀ k, k < n → stoE M' k = stoE M k ∧ holE M' k = holE M k) (ht : ∀ k, k < r → staE M' k = staE M k) (hd : M'.2.2.1 0 0 = M.2.2.1 0 0) (i : Nat) : simw n r M' i = simw n r M i := by
  unfold simw
  rw [show simE M' = simE M by unfold simE; rw [hd]]
  split
  · rfl
  · split
    · rfl
    · split
      · rfl
      · split
        · next q =>
          have := hs ((i - 200) / 2) (by omega)
          split
          · rw [this.1]
          · rw [this.2]
        · split
          · next q => rw [ht (i - 300) (by omega)]
          · rfl
theorem gW_ext {M M' : Md} (h : ∀ i, 100 ≤ i → i < 400 → simw n r M' i = simw n r M i) : gW C n r M' T = gW C n r M T := by
  funext i
  unfold gW
  by_cases h1 : i < 100
  · rw [if_pos h1, if_pos h1]
  · by_cases h2 : i < 400
    · rw [if_neg h1, if_neg h1, if_pos h2, if_pos h2, h i (by omega) h2]
    · rw [if_neg h1, if_neg h1, if_neg h2, if_neg h2]
theorem gW_rows {M M' : Md} (h1 : ∀ k i, i < n → k < 7 → M'.1 k i = M.1 k i) (h2 : ∀ k i, i < r → k < 3 → M'.2.1 k i = M.2.1 k i) (h3 : M'.2.2.1 0 0 = M.2.2.1 0 0) (hx : ∀ k, k < r → staE M' k = staE M k) : gW C n r M' T = gW C n r M T :=
  gW_ext (fun i _ _ => simw_same (fun k hk => by
    have e0 := h1 0 k hk (by decide)
    have e1 := h1 1 k hk (by decide)
    have e2 := h1 2 k hk (by decide)
    have e3 := h1 3 k hk (by decide)
    have e4 := h1 4 k hk (by decide)
    have e5 := h1 5 k hk (by decide)
    have e6 := h1 6 k hk (by decide)
    unfold stoE holE hL hF
    rw [e0, e1, e2, e3, e4, e5, e6]
    exact ⟨rfl, rfl⟩) hx h3 i)
theorem gW_eq {M M' : Md} (h1 : M'.1 = M.1) (h2 : M'.2.1 = M.2.1) (h3 : M'.2.2.1 0 = M.2.2.1 0) : gW C n r M' T = gW C n r M T :=
  gW_rows (fun k i _ _ => by rw [h1]) (fun k i _ _ => by rw [h2]) (by rw [h3]) (fun k _ => by unfold staE; rw [h2])
theorem gW_wU {q : Nat} {e : va_E} (h1 : 100 ≤ q) (h2 : q < 400) (h : ∀ i, 100 ≤ i → i < 400 → simw n r M' i = if i = q then some e else simw n r M i) : wU (gW C n r M T) q e = gW C n r M' T := by
  funext i
  by_cases hi : i = q
  · subst hi
    rw [wU_s, gW_mid h1 h2, h i h1 h2, if_pos rfl]
  · rw [wU_n _ _ hi]
    unfold gW
    by_cases h3 : i < 100
    · rw [if_pos h3, if_pos h3]
    · by_cases h4 : i < 400
      · rw [if_neg h3, if_neg h3, if_pos h4, if_pos h4, h i (by omega) h4, if_neg hi]
      · rw [if_neg h3, if_neg h3, if_neg h4, if_neg h4]
theorem gW_tU {q : Nat} {e : va_E} (h : 400 ≤ q) : wU (gW C n r M T) q e = gW C n r M (tU T q (some e)) := by
  funext i
  by_cases hi : i = q
  · subst hi
    rw [wU_s, gW_hi h, tU_s]
  · rw [wU_n _ _ hi]
    unfold gW
    rw [tU_n _ _ hi]
/-- one stone's field written -/
theorem simw_tA {k j : Nat} {v : Int32} (hk : k ≠ 4 ∧ k ≠ 5) (hj : j < n) (i : Nat) : simw n r (tA M k j v) i = if i = 200 + 2 * j then some (stoE (tA M k j v) j) else simw n r M i := by
  by_cases hi : i = 200 + 2 * j
  · subst hi
    rw [if_pos rfl, simw_st hj]
  · rw [if_neg hi]
    have hst : ∀ a, a ≠ j → stoE (tA M k j v) a = stoE M a := fun a ha => by
      unfold stoE
      rw [tA_ne ha, tA_ne ha, tA_ne ha, tA_ne ha, tA_ne ha]
    have hho : ∀ a, holE (tA M k j v) a = holE M a := fun a => by
      unfold holE hL hF
      rw [tA_nk (Ne.symm hk.1), tA_nk (Ne.symm hk.2)]
    unfold simw
    split
    · rfl
    · split
      · rfl
      · split
        · rfl
        · split
          · split
            · rw [hst _ (by omega)]
            · rw [hho]
          · rfl
theorem gW_tA {k j : Nat} {v : Int32} (h40 : n ≤ 40) (hk : k ≠ 4 ∧ k ≠ 5) (hj : j < n) {e : va_E} (he : e = stoE (tA M k j v) j) : wU (gW C n r M T) (200 + 2 * j) e = gW C n r (tA M k j v) T :=
  gW_wU (by omega) (by omega) (fun i _ _ => by rw [simw_tA hk hj, he])
/-- one stair's row written -/
theorem simw_wA {j : Nat} {k : Nat} {v : Int32} (h40 : n ≤ 40) (hj : j < r) (i : Nat) : simw n r (wA M k j v) i = if i = 300 + j then some (staE (wA M k j v) j) else simw n r M i := by
  by_cases hi : i = 300 + j
  · subst hi
    rw [if_pos rfl, simw_sa h40 hj]
  · rw [if_neg hi]
    have hst : ∀ a, a ≠ j → staE (wA M k j v) a = staE M a := fun a ha => by
      unfold staE
      congr 2
      congr 1
      congr 1
      funext z
      show (if z = k then upd (M.2.1 k) j v else M.2.1 z) a = M.2.1 z a
      by_cases hz : z = k
      · rw [if_pos hz, hz]; exact if_neg ha
      · rw [if_neg hz]
    unfold simw
    split
    · rfl
    · split
      · rfl
      · split
        · rfl
        · split
          · rfl
          · split
            · rw [hst _ (by omega)]
            · rfl
theorem gW_wA {k j : Nat} {v : Int32} (h40 : n ≤ 40) (h30 : r ≤ 30) (hj : j < r) {e : va_E} (he : e = staE (wA M k j v) j) : wU (gW C n r M T) (300 + j) e = gW C n r (wA M k j v) T :=
  gW_wU (by omega) (by omega) (fun i _ _ => by rw [simw_wA h40 hj, he])
theorem gW_day {v : Int32} {e : va_E} (he : e = simE (aA M 0 0 v)) : wU (gW C n r M T) 100 e = gW C n r (aA M 0 0 v) T :=
  gW_wU (by omega) (by omega) (fun i _ _ => by
    by_cases hi : i = 100
    · subst hi
      rw [if_pos rfl, he]
      rfl
    · rw [if_neg hi]
      unfold simw
      rw [if_neg hi, if_neg hi]
      rfl)
end SW
/-- references: the class's cells have none beyond themselves, a method's own rows none but those of 412 -/
def okC (C : List va_E) : Prop := ∀ (i : Nat) (e : va_E), C[i]? = some e → eR (fun a => a < 100) e
def okT (T : WF) : Prop := ∀ i e, T i = some e → eR (fun a => i = 412 ∧ (a = 410 ∨ a = 411)) e
theorem eR_none {P : Nat → Prop} {i N : Nat} {f : Nat → Int32} : eR P (.inl (i, N, .inl f)) := trivial
theorem simw_R {n r : Nat} {M : Md} (h40 : n ≤ 40) (h30 : r ≤ 30) {i : Nat} {e : va_E} (h : simw n r M i = some e) : eR (fun a => 101 ≤ a ∧ a < 400) e := by
  rcases simw_cases h with ⟨-, rfl⟩ | ⟨-, rfl⟩ | ⟨-, rfl⟩ | ⟨k, hk, -, rfl⟩ | ⟨k, hk, -, rfl⟩ | ⟨k, hk, -, rfl⟩
  · exact ⟨by show 101 ≤ 101 ∧ 101 < 400; omega, by show 101 ≤ 102 ∧ 102 < 400; omega, trivial, trivial⟩
  · intro j a z
    unfold rfS at z
    split at z
    · cases z; omega
    · cases z
  · intro j a z
    unfold rfT at z
    split at z
    · cases z; omega
    · cases z
  · exact ⟨trivial, trivial, trivial, trivial, by show 101 ≤ 201 + 2 * k ∧ 201 + 2 * k < 400; omega, trivial, trivial⟩
  · trivial
  · trivial
theorem gW_R {C : List va_E} {n r : Nat} {M : Md} {T : WF} (h40 : n ≤ 40) (h30 : r ≤ 30) (hC : okC C) (hT : okT T) : wR (fun a => a < 100 ∨ (101 ≤ a ∧ a < 400) ∨ a = 410 ∨ a = 411) (gW C n r M T) := fun i e h => by
  unfold gW at h
  split at h
  · exact (hC i e h).imp (fun a ha => Or.inl ha)
  · split at h
    · exact (simw_R h40 h30 h).imp (fun a ha => Or.inr (Or.inl ha))
    · exact (hT i e h).imp (fun a ha => Or.inr (Or.inr ha.2))
theorem gW_N {C : List va_E} {n r : Nat} {M : Md} {T : WF} (h40 : n ≤ 40) (h30 : r ≤ 30) (hC : okC C) (hT : okT T) {q : Nat} (hq : 412 ≤ q) : wR (fun a => a ≠ q) (gW C n r M T) := fun i e h => ((gW_R h40 h30 hC hT) i e h).imp (fun a ha => by omega)
theorem gW_N0 {C : List va_E} {n r : Nat} {M : Md} {T : WF} (h40 : n ≤ 40) (h30 : r ≤ 30) (hC : okC C) (hT : okT T) (h12 : T 412 = none) {q : Nat} (hq : 400 ≤ q) : wR (fun a => a ≠ q) (gW C n r M T) := fun i e h => by
  unfold gW at h
  split at h
  · exact (hC i e h).imp (fun a ha => by omega)
  · split at h
    · exact (simw_R h40 h30 h).imp (fun a ha => by omega)
    · refine (hT i e h).imp (fun a ha => ?_)
      exfalso
      rw [ha.1, h12] at h
      cases h
theorem okT_U {T : WF} (hT : okT T) {q i N : Nat} {f : Nat → Int32} : okT (tU T q (some (.inl (i, N, .inl f)))) := fun j e h => by
  by_cases hj : j = q
  · subst hj
    rw [tU_s] at h
    cases h
    trivial
  · rw [tU_n _ _ hj] at h
    exact hT j e h
theorem okT_n {T : WF} (hT : okT T) {q : Nat} : okT (tU T q none) := fun j e h => by
  by_cases hj : j = q
  · subst hj
    rw [tU_s] at h
    cases h
  · rw [tU_n _ _ hj] at h
    exact hT j e h
theorem gW_less {C : List va_E} {n r : Nat} {M : Md} {T T' : WF} (h : ∀ i e, T' i = some e → T i = some e) : ∀ i e, gW C n r M T' i = some e → gW C n r M T i = some e := fun i e q => by
  unfold gW at q ⊢
  split at q
  · next h1 => rw [if_pos h1]; exact q
  · next h1 =>
    rw [if_neg h1]
    split at q
    · next h2 => rw [if_pos h2]; exact q
    · next h2 => rw [if_neg h2]; exact h i e q
theorem tU_less {T : WF} {q : Nat} : ∀ i e, tU T q none i = some e → T i = some e := fun i e h => by
  by_cases hi : i = q
  · subst hi; rw [tU_s] at h; cases h
  · rw [tU_n _ _ hi] at h; exact h
theorem tA_same {M : Md} {k j : Nat} {v : Int32} (h : M.1 k j = v) : tA M k j v = M := by
  obtain ⟨a, b⟩ := M
  show ((fun k' => if k' = k then upd (a k) j v else a k'), b) = (a, b)
  congr 1
  funext k'
  by_cases hk : k' = k
  · rw [if_pos hk, hk]
    funext z
    show (if z = j then v else a k z) = a k z
    by_cases hz : z = j
    · rw [if_pos hz, hz]; exact h.symm
    · rw [if_neg hz]
  · rw [if_neg hk]
