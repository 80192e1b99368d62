/-! the quotient of two whole numbers is a number: no bits of a NaN are drawn -/
abbrev fD : Nat := 9223372036854775808
abbrev fI : Nat := 9218868437227405312
theorem fp_t : Jvm.FP.Core.Fmt.tails Jvm.FP.Core.b64 = 4503599627370496 := by decide +kernel
theorem fp_e : Jvm.FP.Core.Fmt.exps Jvm.FP.Core.b64 = 2048 := by decide +kernel
theorem fp_max : Jvm.FP.Core.Fmt.qmax Jvm.FP.Core.b64 = 971 := by decide +kernel
theorem fp_min : Jvm.FP.Core.Fmt.qmin Jvm.FP.Core.b64 = -1074 := by decide +kernel
theorem fp_asm (s : Bool) {e t : Nat} (h : e ≤ 2046 ∧ t < 4503599627370496 ∨ e = 2047 ∧ t = 0) : Jvm.FP.Core.assemble Jvm.FP.Core.b64 s e t % fD ≤ fI := by
  unfold Jvm.FP.Core.assemble
  rw [fp_t, fp_e]
  have hs : s.toNat = 0 ∨ s.toNat = 1 := by cases s <;> simp
  generalize s.toNat = k at hs ⊢
  unfold fD fI
  rcases hs with rfl | rfl <;> omega
theorem fp_enc (s : Bool) (c : Nat) (q : Int) (hc : c < 9007199254740992) (hq : q ≤ 971) : Jvm.FP.Core.encode Jvm.FP.Core.b64 (.fin s c q) % fD ≤ fI := by
  unfold Jvm.FP.Core.encode
  simp only [fp_t, fp_min]
  split
  · rename_i h
    exact fp_asm s (Or.inl ⟨by omega, h⟩)
  · exact fp_asm s (Or.inl ⟨by omega, by omega⟩)
theorem fp_inf (s : Bool) : Jvm.FP.Core.encode Jvm.FP.Core.b64 (.inf s) % fD ≤ fI := by
  unfold Jvm.FP.Core.encode
  simp only [fp_e]
  exact fp_asm s (Or.inr ⟨rfl, rfl⟩)
theorem fp_bound (s : Bool) (c : Nat) (q : Int) (hc : c < 9007199254740992) : Jvm.FP.Core.encode Jvm.FP.Core.b64 (Jvm.FP.Core.bound Jvm.FP.Core.b64 s c q) % fD ≤ fI := by
  unfold Jvm.FP.Core.bound
  rw [fp_max]
  split
  · rename_i h
    exact fp_enc s c q hc h
  · exact fp_inf s
theorem fp_ratio (s : Bool) (num den : Nat) (e : Int) : Jvm.FP.Core.encode Jvm.FP.Core.b64 (Jvm.FP.Core.roundRatio Jvm.FP.Core.b64 s num den e) % fD ≤ fI := by
  unfold Jvm.FP.Core.roundRatio
  split
  · exact fp_enc s 0 _ (by omega) (by rw [fp_min]; decide)
  · unfold Jvm.FP.Core.roundAt Jvm.FP.Core.settle
    split
    · rename_i h
      exact fp_bound s _ _ h
    · exact fp_bound s _ _ (by rw [fp_t]; decide)
theorem fp_ne {x : Nat} (h : x % fD ≤ fI) : Jvm.FP.Core.decode Jvm.FP.Core.b64 x ≠ .nan := by
  unfold Jvm.FP.Core.decode Jvm.FP.Core.fieldE Jvm.FP.Core.fieldT
  rw [fp_t, fp_e]
  unfold fD fI at h
  split
  · rename_i h1
    split
    · exact fun q => by cases q
    · rename_i h2
      exfalso
      omega
  · split <;> exact fun q => by cases q
theorem fp_n64 {x : Nat} (h : x % fD ≤ fI) : vf_n64 (UInt64.ofNat x) := by
  unfold vf_n64
  rw [UInt64.le_iff_toNat_le, UInt64.toNat_and]
  have e1 : (0x7fffffffffffffff : UInt64).toNat = 2 ^ 63 - 1 := by decide
  have e2 : (0x7ff0000000000000 : UInt64).toNat = 9218868437227405312 := by decide
  rw [e1, e2, Nat.and_two_pow_sub_one_eq_mod, UInt64.toNat_ofNat']
  unfold fD fI at h
  omega
theorem fp_i2d (a : Int32) : (FP.i2d a).toNat % fD ≤ fI := by
  have h := fp_ratio (decide (a.toInt < 0)) a.toInt.natAbs 1 0
  have e : FP.i2d a = UInt64.ofNat (Jvm.FP.Core.encode Jvm.FP.Core.b64 (Jvm.FP.Core.roundRatio Jvm.FP.Core.b64 (decide (a.toInt < 0)) a.toInt.natAbs 1 0)) := rfl
  rw [e]
  generalize Jvm.FP.Core.encode Jvm.FP.Core.b64 (Jvm.FP.Core.roundRatio Jvm.FP.Core.b64 (decide (a.toInt < 0)) a.toInt.natAbs 1 0) = x at h
  rw [UInt64.toNat_ofNat']
  unfold fD fI at h ⊢
  omega
def fp_ok (d : Jvm.FP.Core.Datum) : Bool := match d with
  | .fin _ c _ => c != 0
  | _ => false
theorem fp_div {x y : Nat} (hx : Jvm.FP.Core.decode Jvm.FP.Core.b64 x ≠ .nan) (hy : fp_ok (Jvm.FP.Core.decode Jvm.FP.Core.b64 y) = true) : Jvm.FP.Core.div Jvm.FP.Core.b64 x y % fD ≤ fI := by
  unfold Jvm.FP.Core.div
  generalize Jvm.FP.Core.decode Jvm.FP.Core.b64 x = dx at hx ⊢
  generalize Jvm.FP.Core.decode Jvm.FP.Core.b64 y = dy at hy ⊢
  cases dy with
  | nan => cases hy
  | inf s => cases hy
  | fin t d r =>
    have hd : ¬ d = 0 := by
      intro z
      rw [z] at hy
      have hy' : ((0 : Nat) != 0) = true := hy
      exact absurd hy' (by decide)
    cases dx with
    | nan => exact absurd rfl hx
    | inf s => exact fp_inf _
    | fin s c q =>
      show Jvm.FP.Core.encode Jvm.FP.Core.b64 (if d = 0 then (if c = 0 then .nan else .inf (s != t)) else Jvm.FP.Core.roundRatio Jvm.FP.Core.b64 (s != t) c d (q - r)) % fD ≤ fI
      rw [if_neg hd]
      exact fp_ratio _ _ _ _
theorem fp_40 : ∀ j : Fin 41, j.val = 0 ∨ fp_ok (Jvm.FP.Core.decode Jvm.FP.Core.b64 (FP.i2d (nI j.val)).toNat) = true := by decide +kernel
/-- the quotient by one of 1 to 40 -/
theorem fp_mean (a : Int32) {j : Nat} (h0 : j ≠ 0) (h40 : j ≤ 40) : vf_n64 (FP.ddiv (FP.i2d a) (FP.i2d (nI j))) := by
  have h := (fp_40 ⟨j, by omega⟩).resolve_left h0
  exact fp_n64 (fp_div (fp_ne (fp_i2d a)) h)
