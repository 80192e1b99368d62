/-! what the methods of the stones do, in numbers -/
def ix (x : Int32) : Nat := x.toNatClampNeg
theorem ix_nI {j : Nat} (h : j < 2 ^ 31) : ix (nI j) = j := nI_clamp h
abbrev nn (S : St) : Nat := ix (S.2.2.1 0)
theorem nn_eq {S : St} {n : Nat} (hn : S.2.2.1 0 = nI n) (h40 : n ≤ 40) : nn S = n := by unfold nn; rw [hn]; exact ix_nI (by omega)
theorem nI_inc (i : Nat) : nI i + Int32.ofInt 1 = nI (i + 1) := nI_1 i
def dn : Nat → Int32
  | 0 => -1
  | n + 1 => nI n
theorem dn_dec (i : Nat) : nI i + Int32.ofInt (-1) = dn i := by
  cases i with
  | zero => decide
  | succ n => exact pk_m1 n
theorem dn_sub (i : Nat) : nI i - 1 = dn i := by
  cases i with
  | zero => decide
  | succ n => exact nI_pred n
def mx (x y : Int32) : Int32 := if x < y then y else x
def mn (x y : Int32) : Int32 := if y < x then y else x
def hasB (S : St) (x : Int32) : Bool := !decide (x < 0) && !decide (S.2.2.1 0 ≤ x)
theorem has_ix {S : St} {x : Int32} {n : Nat} (hn : S.2.2.1 0 = nI n) (h40 : n ≤ 40) (h : hasB S x = true) : ∃ j : Nat, j < n ∧ x = nI j := by
  simp only [hasB, Bool.and_eq_true, Bool.not_eq_true', decide_eq_false_iff_not] at h
  exact ix_of hn h40 h.1 h.2
theorem has_nI {S : St} {n j : Nat} (hn : S.2.2.1 0 = nI n) (h40 : n ≤ 40) (hj : j < n) : hasB S (nI j) = true := by
  simp only [hasB, Bool.and_eq_true, Bool.not_eq_true', decide_eq_false_iff_not]
  exact ⟨nI_pos (by omega), by rw [hn]; exact nI_ge hj (by omega)⟩
def isFullB (S : St) : Bool := !decide (S.2.2.1 0 < 40)
def hangsB (S : St) (x : Int32) : Bool := hasB S x && S.2.1 (ix x)
def hasSpellB (S : St) (x : Int32) : Bool := hasB S x && !decide (S.1 3 (ix x) ≤ 0)
def bear (S : St) (x y : Int32) : St := if hasB S x then uA S 7 (ix x) (S.1 7 (ix x) + y) else S
def endSpell (S : St) (x : Int32) : St := if hasB S x then uS (uA S 3 (ix x) 0) true else S
def tear1 (x : Int32) (i : Nat) (S : St) : St := if S.1 4 i = x then uS (uA (uA S 4 i (S.1 5 i)) 5 i (-1)) true else if S.1 5 i = x then uS (uA S 5 i (-1)) true else S
def tearF (S : St) (x : Int32) : St := fr (tear1 x) (nn S) S
def tearO1 (i : Nat) (S : St) : St := if S.1 7 i ≤ S.1 1 i then S else tearF S (nI i)
def tearO (S : St) : St := fr tearO1 (nn S) S
def endO1 (i : Nat) (S : St) : St := if S.1 3 i ≤ 0 then S else if S.1 6 i ≤ S.1 3 i then S else endSpell S (nI i)
def endO (S : St) : St := fr endO1 (nn S) S
def meas0 (i : Nat) (S : St) : St := uA S 7 i 0
def measL (i : Nat) (S : St) : Int32 := if S.2.1 i then mx 0 (S.1 0 i + S.1 7 i - S.1 2 i) else 0
def measB (i : Nat) (S : St) : St := if S.1 5 i = -1 then bear S (S.1 4 i) (S.1 6 i) else bear (bear S (S.1 4 i) ((S.1 6 i + 1) / 2)) ((bear S (S.1 4 i) ((S.1 6 i + 1) / 2)).1 5 i) ((bear S (S.1 4 i) ((S.1 6 i + 1) / 2)).1 6 i / 2)
def meas1 (i : Nat) (S : St) : St := measB i (uA S 6 i (measL i S))
def measure (S : St) : St := uS (frD meas1 (nn S) (fr meas0 (nn S) S)) false
def drop1 (i : Nat) (S : St) : St := if S.2.1 i then if 0 < S.1 3 i then S else if S.1 4 i = -1 then tearF (uS (uI (uH S i false) 1 (S.2.2.1 1 - 1)) true) (nI i) else S else S
def dropL (S : St) : St := fr drop1 (nn S) S
theorem hk_bear (S : St) (x y : Int32) : (bear S x y).2.2.1 0 = S.2.2.1 0 := by unfold bear; split <;> rfl
theorem hk_endSpell (S : St) (x : Int32) : (endSpell S x).2.2.1 0 = S.2.2.1 0 := by unfold endSpell; split <;> rfl
theorem hk_tear1 (x : Int32) (i : Nat) (S : St) : (tear1 x i S).2.2.1 0 = S.2.2.1 0 := by unfold tear1; split; rfl; split <;> rfl
theorem hk_fr {f : Nat → St → St} (h : ∀ i S, (f i S).2.2.1 0 = S.2.2.1 0) (n : Nat) (S : St) : (fr f n S).2.2.1 0 = S.2.2.1 0 := by
  induction n with
  | zero => rfl
  | succ n ih => exact (h n _).trans ih
theorem hk_frD {f : Nat → St → St} (h : ∀ i S, (f i S).2.2.1 0 = S.2.2.1 0) (n : Nat) (S : St) : (frD f n S).2.2.1 0 = S.2.2.1 0 := by
  induction n generalizing S with
  | zero => rfl
  | succ n ih => exact (ih _).trans (h n _)
theorem hk_tearF (S : St) (x : Int32) : (tearF S x).2.2.1 0 = S.2.2.1 0 := hk_fr (hk_tear1 x) _ _
theorem hk_tearO1 (i : Nat) (S : St) : (tearO1 i S).2.2.1 0 = S.2.2.1 0 := by unfold tearO1; split; rfl; exact hk_tearF _ _
theorem hk_tearO (S : St) : (tearO S).2.2.1 0 = S.2.2.1 0 := hk_fr hk_tearO1 _ _
theorem hk_endO1 (i : Nat) (S : St) : (endO1 i S).2.2.1 0 = S.2.2.1 0 := by unfold endO1; split; rfl; split; rfl; exact hk_endSpell _ _
theorem hk_endO (S : St) : (endO S).2.2.1 0 = S.2.2.1 0 := hk_fr hk_endO1 _ _
theorem hk_measB (i : Nat) (S : St) : (measB i S).2.2.1 0 = S.2.2.1 0 := by
  unfold measB; split
  · exact hk_bear _ _ _
  · exact (hk_bear _ _ _).trans (hk_bear _ _ _)
theorem hk_meas1 (i : Nat) (S : St) : (meas1 i S).2.2.1 0 = S.2.2.1 0 := hk_measB _ _
theorem hk_measure (S : St) : (measure S).2.2.1 0 = S.2.2.1 0 := (hk_frD hk_meas1 _ _).trans (hk_fr (f := meas0) (fun _ _ => rfl) _ _)
theorem hk_drop1 (i : Nat) (S : St) : (drop1 i S).2.2.1 0 = S.2.2.1 0 := by
  unfold drop1; split
  · split
    · rfl
    · split
      · exact hk_tearF _ _
      · rfl
  · rfl
theorem hk_dropL (S : St) : (dropL S).2.2.1 0 = S.2.2.1 0 := hk_fr hk_drop1 _ _
theorem ZforD {σ : Type} (W : Nat → σ → Prop) (I : Nat → σ → Prop) (f : Nat → σ → σ) (n : Nat) (s0 : σ) (h0 : I n s0) (hI : ∀ i s, i < n → I (i + 1) s → I i (f i s)) (hx : ∀ s, I 0 s → s = frD f n s0 → W 0 s) (hs : ∀ i s, i < n → I (i + 1) s → I i (f i s) → W i (f i s) → W (i + 1) s) : W n s0 := by
  have key : ∀ i s, i ≤ n → I i s → frD f i s = frD f n s0 → W i s := by
    intro i
    induction i with
    | zero => intro s _ h e; exact hx s h e
    | succ i ih =>
      intro s hi h e
      have hi' := hI i s (by omega) h
      exact hs i s (by omega) h hi' (ih (f i s) (by omega) hi' (by rw [← e]; rfl))
  exact key n s0 (Nat.le_refl n) h0 rfl
