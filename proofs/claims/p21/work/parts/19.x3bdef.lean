/-! dropping the cells that are a method's own; the reference's other methods, as functions -/
theorem Z_cut {p : Program} {l : Launch} {e : Env} {R : Room} {s : State} {m : MethodId} {args : Array Value} {below : List Frame} {meth : Method} {c : Code} {nL : Nat} {G : gG} {A : Nat → Prop} {h h' : Nat → Nat} {Q : State → Prop} {k n : Nat} {ws X : List va_E} {N pc : Nat} {L : List (Nat × Value)} {st : List Value} (hN : ws.length = N) (hag : ∀ i, i < N → h' i = h i) (hf : eFs N ws) (hL : L.all (fun q => vF N q.2) = true) (hst : st.all (vF N) = true) (kk : Z p l e R s m args below meth c nL G A h Q k n ws pc L st) : Z p l e R s m args below meth c nL G A h' Q k n (ws ++ X) pc L st := fun H locs ls hP hD hS hl => by
  have key : ∀ (j : Nat) (q : Nat × va_E), (kW G h ws)[j]? = some q → (kW G h' (ws ++ X))[id j]? = some q := by
    intro j q hq
    rw [← kW_ag hN hag hf] at hq
    obtain ⟨e, he, rfl⟩ := kW_of hq
    exact kW_at (i := j) (by rw [List.getElem?_append_left (List.getElem?_eq_some_iff.mp he).1]; exact he)
  have h1 := kk H locs ls (hP.by id key) (hD.by id key (fun _ _ _ _ e => e)) hS (by rw [← kL_ag hag hL]; exact hl)
  rw [kVs_ag hag hst]
  exact h1
theorem eFs_md (M : Md) : eFs 7 (mdW 0 M) := ⟨rfl, trivial, trivial, trivial, trivial, trivial, trivial, trivial⟩
theorem isIn_lit {x H : Int32} (m : Nat) (hH : H = nI m) (hm : m < 2 ^ 31) (h : isInB x 0 H = true) : ∃ j : Nat, j ≤ m ∧ x = nI j := by
  simp only [isInB, Bool.and_eq_true, Bool.not_eq_true', decide_eq_false_iff_not] at h
  obtain ⟨j, hj, rfl⟩ := nI_of h.1
  exact ⟨j, Nat.not_lt.mp (fun q => h.2 (by rw [hH]; exact nI_lt q hj)), rfl⟩
theorem isIn_lit1 {x H : Int32} (m : Nat) (hH : H = nI m) (hm : m < 2 ^ 31) (h : isInB x 1 H = true) : ∃ j : Nat, j ≤ m ∧ x = nI j := by
  simp only [isInB, Bool.and_eq_true, Bool.not_eq_true', decide_eq_false_iff_not] at h
  have h0 : ¬ x < 0 := fun q => h.1 (by
    rw [Int32.lt_iff_toInt_lt] at q ⊢
    have e0 : (0 : Int32).toInt = 0 := by decide
    have e1 : (1 : Int32).toInt = 1 := by decide
    omega)
  obtain ⟨j, hj, rfl⟩ := nI_of h0
  exact ⟨j, Nat.not_lt.mp (fun q => h.2 (by rw [hH]; exact nI_lt q hj)), rfl⟩
theorem lt_lit {X : Int32} {n b : Nat} (B : Int32) (hB : B = nI b) (hn : X = nI n) (h : n ≤ b) (c : ¬ X = B) : n < b := by
  rcases Nat.lt_or_ge n b with q | q
  · exact q
  · exact absurd (by rw [hn, hB, show n = b by omega]) c
theorem eq_lit {X : Int32} {n b : Nat} (B : Int32) (hB : B = nI b) (hn : X = nI n) (h : n < b) (hb : b < 2 ^ 31) : ¬ X = B := fun c => by
  rw [hn, hB] at c
  exact absurd ((nI_eq (by omega) hb).mp c) (by omega)
def mFail (M : Md) (x : Int32) : Md := mI M 0 x
/-- a row of seven, of three -/
def s7 (w t q f o : Int32) : Nat → Int32 := upd (upd (upd (upd (upd (upd (upd (fun _ => 0) 0 w) 1 t) 2 1) 3 q) 4 f) 5 o) 6 0
def s3 (a b : Int32) : Nat → Int32 := upd (upd (upd (fun _ => 0) 0 a) 1 b) 2 0
abbrev rT (M : Md) (j : Nat) (g : Nat → Int32) : Md := (fun k' i => if i = j then g k' else M.1 k' i, M.2)
abbrev rW (M : Md) (j : Nat) (g : Nat → Int32) : Md := (M.1, (fun k' i => if i = j then g k' else M.2.1 k' i), M.2.2)
theorem cp7 (g : Nat → Int32) (T : Nat → Nat → Int32) (n : Nat) : va_cpy g (twF T) 0 (7 * n) 7 = twF (fun k' i => if i = n then g k' else T k' i) := by
  funext j
  show (if 7 * n ≤ j ∧ j < 7 * n + 7 then g (0 + (j - 7 * n)) else T (j % 7) (j / 7)) = (if j / 7 = n then g (j % 7) else T (j % 7) (j / 7))
  by_cases h : j / 7 = n
  · rw [if_pos (by omega), if_pos h, show 0 + (j - 7 * n) = j % 7 by omega]
  · rw [if_neg (by omega), if_neg h]
theorem cp3 (g : Nat → Int32) (T : Nat → Nat → Int32) (n : Nat) : va_cpy g (wyF T) 0 (3 * n) 3 = wyF (fun k' i => if i = n then g k' else T k' i) := by
  funext j
  show (if 3 * n ≤ j ∧ j < 3 * n + 3 then g (0 + (j - 3 * n)) else T (j % 3) (j / 3)) = (if j / 3 = n then g (j % 3) else T (j % 3) (j / 3))
  by_cases h : j / 3 = n
  · rw [if_pos (by omega), if_pos h, show 0 + (j - 3 * n) = j % 3 by omega]
  · rw [if_neg (by omega), if_neg h]
def mNew (M : Md) (n : Nat) (w t q f o : Int32) : Md := mI (rT M n (s7 w t q f o)) 1 (nI (n + 1))
def mStone (M : Md) (n : Nat) (w t q f o : Int32) : Md := mGv (mNew M n w t q f o)
theorem ok_row {M : Md} {n : Nat} {g : Nat → Int32} (ho : okM n M) (h4 : okH n (g 4)) (h5 : okH n (g 5)) : okM (n + 1) (rT M n g) := by
  intro i hi
  show okH i (if i = n then g 4 else M.1 4 i) ∧ okH i (if i = n then g 5 else M.1 5 i)
  by_cases h : i = n
  · rw [if_pos h, if_pos h, h]; exact ⟨h4, h5⟩
  · rw [if_neg h, if_neg h]; exact ho i (by omega)
def mConj (M : Md) (w t q : Int32) : Md × Int32 :=
  if isInB w 1 20 && isInB t 1 60 && isInB q 1 200 then if M.2.2.2 1 = 40 then (mI (mI M 0 0) 0 2, 0) else (mStone (mI M 0 0) (mN M) w t q (-1) (-1), nI (mN M)) else (mI (mI M 0 0) 0 1, 0)
def mHang (M : Md) (w t f o : Int32) : Md × Int32 :=
  if isInB w 1 20 = false ∨ isInB t 1 60 = false ∨ f = o then (mI (mI M 0 0) 0 1, 0)
  else if mHas (mI M 0 0) f = false ∨ ¬ o = -1 ∧ mHas (mI M 0 0) o = false then (mI (mI M 0 0) 0 2, 0)
  else if M.2.2.2 1 = 40 ∨ mHg (mI M 0 0) (ix f) = false ∨ ¬ o = -1 ∧ mHg (mI M 0 0) (ix o) = false then (mI (mI M 0 0) 0 3, 0)
  else (mStone (mI M 0 0) (mN M) w t 0 f o, nI (mN M))
def mProp (M : Md) (x v : Int32) : Md × Int32 :=
  if mHas (mI M 0 0) x = false then (mI (mI M 0 0) 0 1, 0) else if isInB v 0 60 = false then (mI (mI M 0 0) 0 2, 0) else if mHg (mI M 0 0) (ix x) = false then (mI (mI M 0 0) 0 3, 0)
  else (mGv (tA (mI M 0 0) 6 (ix x) v), mHa (mI M 0 0) - mHa (mGv (tA (mI M 0 0) 6 (ix x) v)))
def mRenew (M : Md) (x v : Int32) : Md × Int32 :=
  if mHas (mI M 0 0) x = false then (mI (mI M 0 0) 0 1, 0) else if isInB v 1 200 = false then (mI (mI M 0 0) 0 2, 0)
  else if M.1 3 (ix x) = 0 then (mI (mRk (mI M 0 0)) 0 3, 0) else if (mRk (mI M 0 0)).2.2.1 1 (ix x) ≤ v then (tA (mRk (mI M 0 0)) 3 (ix x) v, M.1 3 (ix x)) else (mI (mRk (mI M 0 0)) 0 3, 0)
def mStair (M : Md) (a b : Int32) : Md × Int32 :=
  if mHas (mI M 0 0) a = false ∨ mHas (mI M 0 0) b = false then (mI (mI M 0 0) 0 1, 0) else if a = b then (mI (mI M 0 0) 0 2, 0) else if M.2.2.2 2 = 30 ∨ mHg (mI M 0 0) (ix a) = false ∨ mHg (mI M 0 0) (ix b) = false then (mI (mI M 0 0) 0 3, 0)
  else (mI (rW (mI M 0 0) (mR M) (s3 a b)) 2 (nI (mR M + 1)), nI (mR M))
def mSwapT (M : Md) (a b : Int32) : Int32 := if mHasR M a = false ∨ mHasR M b = false then 1 else if a = b then 2 else if M.2.1 2 (ix a) + M.2.1 2 (ix b) ≤ 0 then 0 else 3
def mSwap (M : Md) (a b : Int32) : Md × Bool :=
  if mSwapT M a b = 0 then if M.2.1 0 (ix a) = M.2.1 1 (ix b) ∨ M.2.1 0 (ix b) = M.2.1 1 (ix a) then (mI M 0 0, false) else (wA (wA (mI M 0 0) 1 (ix a) (M.2.1 1 (ix b))) 1 (ix b) (M.2.1 1 (ix a)), true)
  else (mI M 0 (mSwapT M a b), false)
def mJoins (M : Md) (k w : Int32) : Md × Int32 := if mHasR (mI M 0 0) k && isInB w 0 2 then (mI M 0 0, M.2.1 (ix w) (ix k)) else (mI (mI M 0 0) 0 1, 0)
def mhf1 (M : Md) (f i : Nat) (a : Int32) : Int32 := a + (if mHg M i && heldB M i (nI f) then 1 else 0)
def mHf (M : Md) (f : Nat) : Int32 := frA (mhf1 M f) (f + 1) (mN M - (f + 1)) 0
def mTold (M : Md) (i w : Nat) : Int32 := if w = 7 then M.2.2.1 1 i else if w = 8 then (if mHg M i then M.2.2.1 2 i else 0) else if w = 9 then (if mHg M i then mHf M i else 0) else M.1 w i
def mStn (M : Md) (x y : Int32) : Md × Int32 := if mHas (mI M 0 0) x && isInB y 0 9 then (mRk (mI M 0 0), mTold (mRk (mI M 0 0)) (ix x) (ix y)) else (mI (mI M 0 0) 0 1, 0)
def mUp : Nat → Md → Nat → Nat
  | 0, _, i => i
  | k + 1, M, i => if M.1 4 i = -1 then i else mUp k M (ix (M.1 4 i))
def mFirst (M : Md) (x : Int32) : Md × Int32 := if mHas (mI M 0 0) x = false then (mI (mI M 0 0) 0 1, 0) else if mHg (mI M 0 0) (ix x) = false then (mI M 0 0, -1) else (mI M 0 0, nI (mUp 40 M (ix x)))
def mk4 (M : Md) (i : Nat) (a : Int32) : Int32 := a + (1 - M.2.1 2 i)
def mc1 (M : Md) (w i : Nat) (a : Int32) : Int32 := if mHg M i then a + (if w = 2 then 1 else if w = 3 then (if M.1 3 i ≤ 0 then 0 else 1) else if w = 5 then M.1 3 i else if w = 6 then M.1 6 i else if M.1 3 i ≤ 0 then 0 else M.2.2.1 1 i) else a
def mCt (M : Md) (w : Nat) : Int32 := if w = 0 then M.2.2.1 0 0 else if w = 1 then M.2.2.2 1 else if w = 4 then fr (mk4 M) (mR M) 0 else fr (mc1 M w) (mN M) 0
def mCount (M : Md) (x : Int32) : Md × Int32 := if isInB x 0 7 then (mRk (mI M 0 0), mCt (mRk (mI M 0 0)) (ix x)) else (mI (mI M 0 0) 0 1, 0)
def mdy0 (i : Nat) (M : Md) : Md := tA M 3 i (mx 0 (M.1 3 i - 2))
def mDyG (M : Md) : Md := mGv (mDrop (fr mdy0 (mN M) M))
def dyU (M : Md) : Md := aA M 0 0 (M.2.2.1 0 0 + 1)
theorem dyU_i (M : Md) : (dyU M).2.2.2 = M.2.2.2 := rfl
theorem dyU_t (M : Md) : (dyU M).1 = M.1 := rfl
def mDy (M : Md) : Md := dyU (mDyG M)
def mDys1 (_ : Nat) (M : Md) : Md := mDy M
def mDys (M : Md) (d : Nat) : Md := fr mDys1 d M
def mPass (M : Md) (x : Int32) : Md × Int32 := if isInB x 1 120 then (mDys (mI M 0 0) (ix x), mHa (mI M 0 0) - mHa (mDys (mI M 0 0) (ix x))) else (mI (mI M 0 0) 0 1, 0)
theorem mi_dy0 (i : Nat) (M : Md) : (mdy0 i M).2.2.2 = M.2.2.2 := rfl
theorem mi_Dy0 (M : Md) : (fr mdy0 (mN M) M).2.2.2 = M.2.2.2 := mI_fr mi_dy0 _ _
theorem ok_dy0 {n i : Nat} {M : Md} (ho : okM n M) : okM n (mdy0 i M) := ok_put ho (fun h => by omega)
theorem mi_DyG (M : Md) : (mDyG M).2.2.2 = M.2.2.2 := by unfold mDyG; rw [mi_Gv, mi_Drop, mi_Dy0]
theorem mi_Dy (M : Md) : (mDy M).2.2.2 = M.2.2.2 := by unfold mDy; rw [dyU_i, mi_DyG]
theorem mt_Dy (M : Md) : (mDy M).1 = (mDyG M).1 := by unfold mDy; rw [dyU_t]
theorem ok_DyG {M : Md} {n : Nat} (hn : M.2.2.2 1 = nI n) (h40 : n ≤ 40) (ho : okM n M) : okM n (mDyG M) := by
  have h1 : okM n (fr mdy0 (mN M) M) := fr_I (fun T => okM n T) (fun i T h => ok_dy0 h) _ _ ho
  have h2 : (fr mdy0 (mN M) M).2.2.2 1 = nI n := (congrFun (mi_Dy0 M) 1).trans hn
  unfold mDyG
  exact ok_Gv ((congrFun (mi_Drop _) 1).trans h2) h40 (ok_Drop h2 h40 h1)
theorem ok_Dy {M : Md} {n : Nat} (hn : M.2.2.2 1 = nI n) (h40 : n ≤ 40) (ho : okM n M) : okM n (mDy M) := ok_of (mt_Dy M) (ok_DyG hn h40 ho)
theorem mi_Dys (M : Md) (d : Nat) : (mDys M d).2.2.2 = M.2.2.2 := mI_fr (f := mDys1) (fun _ M => mi_Dy M) _ _
theorem ok_Dys {M : Md} {n : Nat} (d : Nat) (hn : M.2.2.2 1 = nI n) (h40 : n ≤ 40) (ho : okM n M) : okM n (mDys M d) :=
  (fr_I (fun T => T.2.2.2 1 = nI n ∧ okM n T) (f := mDys1) (fun _ T h => ⟨(congrFun (mi_Dy T) 1).trans h.1, ok_Dy h.1 h40 h.2⟩) d M ⟨hn, ho⟩).2
theorem i7 : (7 : Int32).toNatClampNeg = 7 := by decide
theorem i3 : (3 : Int32).toNatClampNeg = 3 := by decide
theorem i0 : (0 : Int32).toNatClampNeg = 0 := by decide
theorem cp_b7 {n : Nat} (h : n < 40) : (nI (7 * n)).toNatClampNeg + (7 : Int32).toNatClampNeg ≤ 280 := by rw [nI_clamp (by omega), i7]; omega
theorem cp_b3 {n : Nat} (h : n < 30) : (nI (3 * n)).toNatClampNeg + (3 : Int32).toNatClampNeg ≤ 90 := by rw [nI_clamp (by omega), i3]; omega
theorem cpI7 {n : Nat} (h : n < 40) (g : Nat → Int32) (T : Nat → Nat → Int32) : va_cpy g (twF T) (0 : Int32).toNatClampNeg (nI (7 * n)).toNatClampNeg (7 : Int32).toNatClampNeg = twF (fun k' i => if i = n then g k' else T k' i) := by rw [nI_clamp (by omega), i7, i0]; exact cp7 g T n
theorem cpI3 {n : Nat} (h : n < 30) (g : Nat → Int32) (T : Nat → Nat → Int32) : va_cpy g (wyF T) (0 : Int32).toNatClampNeg (nI (3 * n)).toNatClampNeg (3 : Int32).toNatClampNeg = wyF (fun k' i => if i = n then g k' else T k' i) := by rw [nI_clamp (by omega), i3, i0]; exact cp3 g T n
theorem Z_join {p : Program} {l : Launch} {e : Env} {R : Room} {s : State} {m : MethodId} {args : Array Value} {below : List Frame} {meth : Method} {c : Code} {nL : Nat} {G : gG} {A : Nat → Prop} {h : Nat → Nat} {Q : State → Prop} {k n : Nat} {ws : List va_E} {pc : Nat} {L : List (Nat × Value)} {st : List Value} (pc2 : Nat) (L2 : List (Nat × Value)) (st2 : List Value) (h1 : Z p l e R s m args below meth c nL G A h Q k n ws pc2 L2 st2) (h2 : Z p l e R s m args below meth c nL G A h Q k n ws pc2 L2 st2 → Z p l e R s m args below meth c nL G A h Q k n ws pc L st) : Z p l e R s m args below meth c nL G A h Q k n ws pc L st := h2 h1
