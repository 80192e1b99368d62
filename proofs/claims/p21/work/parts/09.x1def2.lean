/-- giving way, k rounds at most -/
def gwB (S : St) : St := endO (tearO (if S.2.2.2 then measure S else S))
def gw : Nat → St → St
  | 0, S => S
  | k + 1, S => if (gwB S).2.2.2 then gw k (dropL (gwB S)) else gwB S
def giveWay (S : St) : St := gw 1000 S
def cutL (S : St) (x : Int32) : St := if hasB S x then giveWay (dropL (uA (uA (endSpell S x) 4 (ix x) (-1)) 5 (ix x) (-1))) else S
def fade1 (i : Nat) (S : St) : St := if S.1 3 i ≤ 2 then if S.1 3 i ≤ 0 then S else endSpell S (nI i) else uA S 3 i (S.1 3 i - 2)
def fade (S : St) : St := fr fade1 (nn S) S
def dayD (S : St) : St := giveWay (if (fade S).2.2.2 then dropL (fade S) else fade S)
def liveDay (S : St) : St := uI (dayD S) 2 ((dayD S).2.2.1 2 + 1)
def live1 (_ : Nat) (S : St) : St := liveDay S
def liveDays (S : St) (d : Int32) : St := fr live1 (ix d) S
def held1 (S : St) (x : Int32) (i : Nat) (a : Int32) : Int32 := if S.1 4 i = x then a + 1 else if S.1 5 i = x then a + 1 else a
def heldBy (S : St) (x : Int32) : Int32 := fr (held1 S x) (nn S) 0
def topN : Nat → St → Int32 → Int32
  | 0, _, _ => -1
  | k + 1, S, x => if hasB S x then if S.1 3 (ix x) ≤ 0 then topN k S (S.1 4 (ix x)) else x else -1
def topOf (S : St) (x : Int32) : Int32 := topN 40 S x
def cSp1 (S : St) (i : Nat) (a : Int32) : Int32 := a + (if S.1 3 i ≤ 0 then 0 else 1)
def cSp (S : St) : Int32 := fr (cSp1 S) (nn S) 0
def sPw1 (S : St) (i : Nat) (a : Int32) : Int32 := a + S.1 3 i
def sPw (S : St) : Int32 := fr (sPw1 S) (nn S) 0
def sPr1 (S : St) (i : Nat) (a : Int32) : Int32 := a + (if S.2.1 i then S.1 2 i else 0)
def sPr (S : St) : Int32 := fr (sPr1 S) (nn S) 0
def sLd1 (S : St) (i : Nat) (a : Int32) : Int32 := a + S.1 6 i
def sLd (S : St) : Int32 := fr (sLd1 S) (nn S) 0
def sSl1 (S : St) (i : Nat) (a : Int32) : Int32 := a + (if S.1 3 i ≤ 0 then 0 else S.1 6 i)
def sSl (S : St) : Int32 := fr (sSl1 S) (nn S) 0
def tellN (S : St) (x : Int32) (w : Nat) : Int32 := match w with
  | 0 => S.1 0 (ix x)
  | 1 => S.1 1 (ix x)
  | 2 => bI (S.2.1 (ix x))
  | 3 => S.1 3 (ix x)
  | 4 => S.1 4 (ix x)
  | 5 => S.1 5 (ix x)
  | 6 => S.1 2 (ix x)
  | 7 => S.1 6 (ix x)
  | 8 => S.1 7 (ix x)
  | _ => heldBy S x
def tell (S : St) (x w : Int32) : Int32 := if hasB S x then tellN S x (ix w) else 0
def addH (S : St) (j : Nat) (w t f o : Int32) : St := uS (uI (uI (uH (uA (uA (uA (uA S 0 j w) 1 j t) 4 j f) 5 j o) j true) 0 (nI j + 1)) 1 (S.2.2.1 1 + 1)) true
def addP (S : St) (j : Nat) (w t q : Int32) : St := uA (addH S j w t (-1) (-1)) 3 j q
def setProp (S : St) (x q : Int32) : St := if hasB S x then uS (uA S 2 (ix x) q) true else S
def cp1 (O : St) (i : Nat) (S : St) : St := uA (uA (uH (uA (uA (uA (uA (uA (uA S 0 i (O.1 0 i)) 1 i (O.1 1 i)) 2 i (O.1 2 i)) 3 i (O.1 3 i)) 4 i (O.1 4 i)) 5 i (O.1 5 i)) i (O.2.1 i)) 6 i (O.1 6 i)) 7 i (O.1 7 i)
def copyF (S O : St) : St := uS (uI (uI (uI (fr (cp1 O) (nn O) S) 0 (O.2.2.1 0)) 1 (O.2.2.1 1)) 2 (O.2.2.1 2)) O.2.2.2
theorem hk_gwB (S : St) : (gwB S).2.2.1 0 = S.2.2.1 0 := by
  refine (hk_endO _).trans ((hk_tearO _).trans ?_)
  split
  · exact hk_measure _
  · rfl
theorem hk_gw : ∀ (k : Nat) (S : St), (gw k S).2.2.1 0 = S.2.2.1 0
  | 0, _ => rfl
  | k + 1, S => by
    unfold gw
    split
    · exact (hk_gw k _).trans ((hk_dropL _).trans (hk_gwB S))
    · exact hk_gwB S
theorem hk_giveWay (S : St) : (giveWay S).2.2.1 0 = S.2.2.1 0 := hk_gw _ _
theorem hk_cutL (S : St) (x : Int32) : (cutL S x).2.2.1 0 = S.2.2.1 0 := by
  unfold cutL; split
  · exact (hk_giveWay _).trans ((hk_dropL _).trans (hk_endSpell S x))
  · rfl
theorem hk_fade1 (i : Nat) (S : St) : (fade1 i S).2.2.1 0 = S.2.2.1 0 := by
  unfold fade1; split
  · split
    · rfl
    · exact hk_endSpell _ _
  · rfl
theorem hk_fade (S : St) : (fade S).2.2.1 0 = S.2.2.1 0 := hk_fr hk_fade1 _ _
theorem hk_dayD (S : St) : (dayD S).2.2.1 0 = S.2.2.1 0 := by
  refine (hk_giveWay _).trans ?_
  split
  · exact (hk_dropL _).trans (hk_fade S)
  · exact hk_fade S
theorem hk_liveDay (S : St) : (liveDay S).2.2.1 0 = S.2.2.1 0 := hk_dayD S
theorem hk_liveDays (S : St) (d : Int32) : (liveDays S d).2.2.1 0 = S.2.2.1 0 := hk_fr (fun _ S => hk_liveDay S) _ _
theorem hk_setProp (S : St) (x q : Int32) : (setProp S x q).2.2.1 0 = S.2.2.1 0 := by unfold setProp; split <;> rfl
theorem full_no {S : St} {n : Nat} (hn : S.2.2.1 0 = nI n) (hl : n < 40) : isFullB S = false := by
  simp only [isFullB, Bool.not_eq_false', decide_eq_true_eq]
  rw [hn]
  exact nI_lt (b := 40) hl (by omega)
theorem Zind {σ : Type} (W : Nat → σ → Prop) (N : Nat) (s0 : σ) (hz : ∀ s, W 0 s) (hs : ∀ k s, (∀ s', W k s') → W (k + 1) s) : W N s0 := by
  have key : ∀ k s, W k s := by
    intro k
    induction k with
    | zero => exact hz
    | succ k ih => exact fun s => hs k s ih
  exact key N s0
theorem ge_no' {n i : Nat} (hi : i < n) (hn : n < 2 ^ 31) : ¬ nI n ≤ nI i := nI_ge hi hn
section ZT
variable {p : Program} {l : Launch} {e : Env} {R : Room} {s : State} {m : MethodId} {args : Array Value} {below : List Frame} {meth : Method} {c : Code} {cc : ByteArray} {nL : Nat} {own : String} {G : gG} {A : Nat → Prop} {h : Nat → Nat} {Q : State → Prop} {k n : Nat} {ws : List va_E} {pc : Nat} {L : List (Nat × Value)} {st : List Value}
theorem Z_tIn (C : Cx p s m args c cc nL own G A) {dflt lo hi off : Int} {offs : Array Int} {len : Nat} {x : Int32} (z : Int) (tgt : Nat) (d : decode cc pc = .ok (.tableswitch dflt lo hi offs, len)) (hx : x.toInt = z) (h1 : ¬ z < lo) (h2 : ¬ hi < z) (ho : offs[(z - lo).toNat]? = some off) (ht : (pc : Int) + off = (tgt : Int)) (kk : Z p l e R s m args below meth c nL G A h Q k n ws tgt L st) : Z p l e R s m args below meth c nL G A h Q k n ws pc L (.int x :: st) := fun H locs ls hP hD hS hl => lv_tableIn C.1 C.2.1 d (by rw [hx]; exact h1) (by rw [hx]; exact h2) (by rw [hx]; exact ho) ht (kk H locs ls hP hD hS hl)
theorem Z_tOut (C : Cx p s m args c cc nL own G A) {dflt lo hi : Int} {offs : Array Int} {len : Nat} {x : Int32} (tgt : Nat) (d : decode cc pc = .ok (.tableswitch dflt lo hi offs, len)) (h1 : x.toInt < lo ∨ hi < x.toInt) (ht : (pc : Int) + dflt = (tgt : Int)) (kk : Z p l e R s m args below meth c nL G A h Q k n ws tgt L st) : Z p l e R s m args below meth c nL G A h Q k n ws pc L (.int x :: st) := fun H locs ls hP hD hS hl => lv_tableOut C.1 C.2.1 d h1 ht (kk H locs ls hP hD hS hl)
end ZT
theorem ge_yes2 {n : Nat} {q : Prop} (hn : q) : nI n ≤ nI n := Int32.le_refl _
theorem ge_no2 {n i : Nat} {q : Prop} (hn : q) (h40 : n ≤ 120) (hi : i < n) : ¬ nI n ≤ nI i := nI_ge hi (by omega)
theorem ix_9 : ix (nI 0) = 0 ∧ ix (nI 1) = 1 ∧ ix (nI 2) = 2 ∧ ix (nI 3) = 3 ∧ ix (nI 4) = 4 ∧ ix (nI 5) = 5 ∧ ix (nI 6) = 6 ∧ ix (nI 7) = 7 ∧ ix (nI 8) = 8 ∧ ix (nI 9) = 9 := by decide
theorem gw_def (S : St) : gw 1000 S = giveWay S := by unfold giveWay; rfl
theorem topN_def (S : St) (x : Int32) : topN 40 S x = topOf S x := by unfold topOf; rfl
theorem Z_pc {p : Program} {l : Launch} {e : Env} {R : Room} {s : State} {m : MethodId} {args : Array Value} {below : List Frame} {meth : Method} {c : Code} {nL : Nat} {G : gG} {A : Nat → Prop} {h : Nat → Nat} {Q : State → Prop} {k n : Nat} {ws : List va_E} {pc : Nat} {L L' : List (Nat × Value)} {st : List Value} (hL : L' = L) (kk : Z p l e R s m args below meth c nL G A h Q k n ws pc L st) : Z p l e R s m args below meth c nL G A h Q k n ws pc L' st := hL ▸ kk
