/-! what is kept, and brought back -/
abbrev Kp : Type := (Nat → Nat → Int32) × (Nat → Nat → Int32) × (Nat → Int32)
abbrev kF (b : Nat) : Nat → Option Nat := va_up (va_up (va_up (fun _ => none) 0 (some (b + 1))) 1 (some (b + 2))) 2 (some (b + 3))
abbrev kpW (b : Nat) (K : Kp) : List va_E := [.inl (3, 3, .inr (.inr (.inr (.inr (kF b))))), .inl (0, 280, .inl (twF K.1)), .inl (0, 90, .inl (wyF K.2.1)), .inl (0, 1, .inl K.2.2)]
def kpO (M : Md) : Kp := (M.1, M.2.1, M.2.2.1 0)
def mBk (M : Md) (K : Kp) : Md := aA (K.1, K.2.1, M.2.2) 0 0 (K.2.2 0)
theorem mBk_t (M : Md) (K : Kp) : (mBk M K).1 = K.1 := rfl
theorem mBk_w (M : Md) (K : Kp) : (mBk M K).2.1 = K.2.1 := rfl
theorem mBk_i (M : Md) (K : Kp) : (mBk M K).2.2.2 = M.2.2.2 := rfl
theorem kpO_1 (M : Md) : (kpO M).1 = M.1 := rfl
theorem ok_Bk {n : Nat} {M M0 : Md} {K : Kp} (hK : K.1 = M0.1) (ho : okM n M0) : okM n (mBk M K) := by
  intro i hi
  rw [mBk_t, hK]
  exact ho i hi
theorem kq0 (N : Nat) : ∀ j a, (fun _ => none : Nat → Option Nat) j = some a → a < N := fun _ _ z => by cases z
theorem kqU {f : Nat → Option Nat} {N k v : Nat} (h : ∀ j a, f j = some a → a < N) (hv : v < N) : ∀ j a, va_up f k (some v) j = some a → a < N := fun j a z => by
  unfold va_up at z
  by_cases hj : j = k
  · rw [if_pos hj] at z; cases z; exact hv
  · rw [if_neg hj] at z; exact h j a z
section ZH
variable {p : Program} {l : Launch} {e : Env} {R : Room} {s : State} {m : MethodId} {args : Array Value} {below : List Frame} {meth : Method} {c : Code} {cc : ByteArray} {nL : Nat} {own : String} {G : gG} {A : Nat → Prop} {h h0 : Nat → Nat} {Q : State → Prop} {k n : Nat} {ws ws' : List va_E} {pc : Nat} {L : List (Nat × Value)} {st st' rest : List Value}
theorem arrV_ext {cI : ClassId} {N : Nat} {f g : Nat → Value} (hfg : ∀ j, j < N → f j = g j) : arrV cI N f = arrV cI N g := by
  unfold arrV
  congr 1
  exact congrArg (fun z => Array.ofFn z) (funext fun j => hfg j.val j.isLt)
/-- a cell's function matters below its length alone -/
theorem Z_fn {q i N : Nat} {f g : Nat → Int32} (he : ws[q]? = some (.inl (i, N, .inl f))) (hfg : ∀ j, j < N → f j = g j) (hw : ws.set q (.inl (i, N, .inl g)) = ws') (kk : Z p l e R s m args below meth c nL G A h Q k n ws' pc L st) : Z p l e R s m args below meth c nL G A h Q k n ws pc L st := fun H locs ls hP hD hS hl => by
  have h1 := hP.set hD (kW_at he) (e := kE G h (.inl (i, N, .inl g))) (by
    have h2 := hP q _ (kW_at he)
    show H[h q]? = some (vp_cell _ _)
    rw [show H[h q]? = some (arrV (G.2 i) N (fun j => .int (f j))) from h2, arrV_ext (fun j hj => congrArg Value.int (hfg j hj))]
    rfl) (fun _ _ => rfl)
  have h2 : va_D A ((kW G h ws).set q (h q, kE G h (.inl (i, N, .inl g)))) := hD.set (kW_at he)
  rw [kW_set, hw] at h1 h2
  exact kk H locs ls h1 h2 hS hl
theorem cpA {f g : Nat → Int32} (x : Int32) (N : Nat) (hx : x.toNatClampNeg = N) : ∀ j, j < N → va_cpy f g (0 : Int32).toNatClampNeg (0 : Int32).toNatClampNeg x.toNatClampNeg j = f j := fun j hj => by
  rw [hx, i0]
  show (if 0 ≤ j ∧ j < 0 + N then f (0 + (j - 0)) else g j) = f j
  rw [if_pos ⟨Nat.zero_le _, by omega⟩, show 0 + (j - 0) = j by omega]
end ZH
def mWoX (M : Md) (i : Nat) : Md := mGv (mDrop (tA (tA (tA (mI M 0 0) 3 i 0) 4 i (-1)) 5 i (-1)))
def mWo (M : Md) (x : Int32) : Md × Int32 := if mHas (mI M 0 0) x = false then (mI (mI M 0 0) 0 1, 0) else (mBk (mWoX M (ix x)) (kpO (mI M 0 0)), mHa (mI M 0 0) - mHa (mWoX M (ix x)))
def mLsG (i : Nat) : Nat → Nat → Md → Md × Nat
  | 0, d, M => (M, d)
  | k + 1, d, M => if mHg M i then mLsG i k (d + 1) (mDy M) else (M, d)
def mLsR (M : Md) (i : Nat) : Md × Nat := mLsG i 120 0 (mI M 0 0)
def mLs (M : Md) (x : Int32) : Md × Int32 := if mHas (mI M 0 0) x = false then (mI (mI M 0 0) 0 1, 0) else (mBk (mLsR M (ix x)).1 (kpO (mI M 0 0)), if mHg (mLsR M (ix x)).1 (ix x) then -1 else nI (mLsR M (ix x)).2)
def mFoW (w : Nat) : Nat := if w = 0 then 2 else if w = 1 then 4 else 5
def mFo (M : Md) (x y : Int32) : Md × Int32 := if isInB x 1 120 = false then (mI (mI M 0 0) 0 1, 0) else if isInB y 0 2 = false then (mI (mI M 0 0) 0 2, 0) else (mBk (mDys (mI M 0 0) (ix x)) (kpO (mI M 0 0)), mCt (mDys (mI M 0 0) (ix x)) (mFoW (ix y)))
def mAdX (M : Md) (v : Int32) (d i : Nat) : Md := mDys (mGv (tA M 6 i (mn 60 (M.1 6 i + v)))) d
def mAd1 (v : Int32) (d : Nat) (K : Kp) (i : Nat) (T : Md × Int32 × Int32) : Md × Int32 × Int32 :=
  if mHg T.1 i then if T.2.2 < mHa (mAdX T.1 v d i) then (mBk (mAdX T.1 v d i) K, nI i, mHa (mAdX T.1 v d i)) else (mBk (mAdX T.1 v d i) K, T.2.1, T.2.2) else T
def mAd0 (M : Md) (d : Nat) : Md := mDys (mI M 0 0) d
def mAdR (M : Md) (v : Int32) (d : Nat) : Md × Int32 × Int32 := fr (mAd1 v d (kpO (mI M 0 0))) (mN M) (mBk (mAd0 M d) (kpO (mI M 0 0)), -1, mHa (mAd0 M d))
def mAd (M : Md) (x y : Int32) : Md × Int32 := if isInB x 1 60 && isInB y 1 60 then ((mAdR M x (ix y)).1, (mAdR M x (ix y)).2.1) else (mI (mI M 0 0) 0 1, 0)
theorem mi_AdX (M : Md) (v : Int32) (d i : Nat) : (mAdX M v d i).2.2.2 = M.2.2.2 := by unfold mAdX; rw [mi_Dys, mi_Gv]
theorem mi_Ad1 (v : Int32) (d : Nat) (K : Kp) (i : Nat) (T : Md × Int32 × Int32) : (mAd1 v d K i T).1.2.2.2 = T.1.2.2.2 := by
  unfold mAd1; split
  · split
    · show (mBk _ K).2.2.2 = _
      rw [mBk_i, mi_AdX]
    · show (mBk _ K).2.2.2 = _
      rw [mBk_i, mi_AdX]
  · rfl
theorem ok_Ad1 {n : Nat} {M : Md} {v : Int32} {d i : Nat} {T : Md × Int32 × Int32} (ho0 : okM n M) (ho : okM n T.1) : okM n (mAd1 v d (kpO (mI M 0 0)) i T).1 := by
  unfold mAd1; split
  · split
    · exact ok_Bk (kpO_1 (mI M 0 0)) ho0
    · exact ok_Bk (kpO_1 (mI M 0 0)) ho0
  · exact ho
theorem kF_r {is : List Nat} {b c : Nat} (h1 : rN is (c + 1) = b + 1) (h2 : rN is (c + 2) = b + 2) (h3 : rN is (c + 3) = b + 3) : (fun j => (kF c j).map (rN is)) = kF b := by
  funext j
  show (va_up (va_up (va_up (fun _ => none) 0 (some (c + 1))) 1 (some (c + 2))) 2 (some (c + 3)) j).map (rN is) = va_up (va_up (va_up (fun _ => none) 0 (some (b + 1))) 1 (some (b + 2))) 2 (some (b + 3)) j
  unfold va_up
  by_cases e2 : j = 2
  · simp [e2, h3]
  · by_cases e1 : j = 1
    · simp [e1, h2]
    · by_cases e0 : j = 0
      · simp [e0, h1]
      · simp [e2, e1, e0]
theorem subW_kp (X : Md) (K : Kp) : subW [0, 1, 2, 3, 4, 5, 6, 7, 8, 9, 10] (mdW 0 X ++ kpW 7 K) (mdW 0 X ++ kpW 7 K) := by
  have e : (fun j => (kF 7 j).map (rN [0, 1, 2, 3, 4, 5, 6, 7, 8, 9, 10])) = kF 7 := kF_r rfl rfl rfl
  have h : (mdW 0 X ++ kpW 7 K).map (rE [0, 1, 2, 3, 4, 5, 6, 7, 8, 9, 10]) = mdW 0 X ++ kpW 7 K := congrArg (fun f => mdW 0 X ++ [.inl (3, 3, .inr (.inr (.inr (.inr f)))), .inl (0, 280, .inl (twF K.1)), .inl (0, 90, .inl (wyF K.2.1)), .inl (0, 1, .inl K.2.2)]) e
  unfold subW
  rw [h]
  rfl
