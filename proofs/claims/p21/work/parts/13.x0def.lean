/-! what the methods of the stairs do: rows 0 first end, 1 second end, 2 distance; number 0: built -/
abbrev Sr : Type := (Nat → Nat → Int32) × (Nat → Int32)
abbrev vA (B : Sr) (k j : Nat) (v : Int32) : Sr := (fun k' => if k' = k then upd (B.1 k) j v else B.1 k', B.2)
abbrev vI (B : Sr) (k : Nat) (v : Int32) : Sr := (B.1, fun k' => if k' = k then v else B.2 k')
abbrev srW (b : Nat) (B : Sr) : List va_E := [.inr (0, [.ref (b + 1), .ref (b + 2), .ref (b + 3), .int (B.2 0)]), .inl (0, 30, .inl (B.1 0)), .inl (0, 30, .inl (B.1 1)), .inl (0, 40, .inl (B.1 2))]
abbrev twO : List va_E := [.inr (2, [.ref 1, .ref 11, .ref 21])]
def hasR (B : Sr) (x : Int32) : Bool := !decide (x < 0) && !decide (B.2 0 ≤ x)
theorem has_ixR {B : Sr} {x : Int32} {b : Nat} (hb : B.2 0 = nI b) (h30 : b ≤ 30) (h : hasR B x = true) : ∃ j : Nat, j < b ∧ x = nI j := by
  simp only [hasR, Bool.and_eq_true, Bool.not_eq_true', decide_eq_false_iff_not] at h
  exact ix_of hb (by omega) h.1 h.2
theorem has_nIR {B : Sr} {b j : Nat} (hb : B.2 0 = nI b) (h30 : b ≤ 30) (hj : j < b) : hasR B (nI j) = true := by
  simp only [hasR, Bool.and_eq_true, Bool.not_eq_true', decide_eq_false_iff_not]
  exact ⟨nI_pos (by omega), by rw [hb]; exact nI_ge hj (by omega)⟩
def fullR (B : Sr) : Bool := !decide (B.2 0 < 30)
theorem fullR_no {B : Sr} {b : Nat} (hb : B.2 0 = nI b) (hl : b < 30) : fullR B = false := by
  simp only [fullR, Bool.not_eq_false', decide_eq_true_eq]
  rw [hb]
  exact nI_lt (b := 30) hl (by omega)
def goneR (B : Sr) (S : St) (x : Int32) : Bool := !hasR B x || !hangsB S (B.1 0 (ix x)) || !hangsB S (B.1 1 (ix x))
def addR (B : Sr) (j : Nat) (x y : Int32) : Sr := vI (vA (vA B 0 j x) 1 j y) 0 (nI j + 1)
def swapB (B : Sr) (x y : Int32) : Bool := hasR B x && hasR B y && !decide (B.1 0 (ix x) = B.1 1 (ix y)) && !decide (B.1 0 (ix y) = B.1 1 (ix x))
def swapP (B : Sr) (x y : Int32) : Sr := if swapB B x y then vA (vA B 1 (ix x) (B.1 1 (ix y))) 1 (ix y) (B.1 1 (ix x)) else B
def tellRN (B : Sr) (S : St) (x : Int32) (w : Nat) : Int32 := match w with
  | 0 => B.1 0 (ix x)
  | 1 => B.1 1 (ix x)
  | _ => bI (goneR B S x)
def tellR (B : Sr) (S : St) (x w : Int32) : Int32 := if hasR B x then tellRN B S x (ix w) else 0
def left1 (B : Sr) (S : St) (i : Nat) (a : Int32) : Int32 := a + (if goneR B S (nI i) then 0 else 1)
def leftR (B : Sr) (S : St) : Int32 := fr (left1 B S) (ix (B.2 0)) 0
def placeB (x : Int32) : Bool := !decide (x < 0) && !decide (40 ≤ x)
theorem place_ix {x : Int32} (h : placeB x = true) : ∃ j : Nat, j < 40 ∧ x = nI j := by
  simp only [placeB, Bool.and_eq_true, Bool.not_eq_true', decide_eq_false_iff_not] at h
  exact ix_of (H := 40) (n := 40) rfl (Nat.le_refl _) h.1 h.2
def stepB (B : Sr) (f t d : Int32) : Bool := placeB f && placeB t && decide (B.1 2 (ix f) = d) && decide (B.1 2 (ix t) = -1)
def stepP (B : Sr) (f t d : Int32) : Sr := if stepB B f t d then vA B 2 (ix t) (d + 1) else B
def rchA (T : Sr × Bool) (d : Int32) (i : Nat) : Sr := stepP T.1 (T.1.1 0 i) (T.1.1 1 i) d
def reach1 (S : St) (d : Int32) (i : Nat) (T : Sr × Bool) : Sr × Bool :=
  if goneR T.1 S (nI i) then T
  else if stepB T.1 (T.1.1 0 i) (T.1.1 1 i) d then (rchA T d i, true)
  else if stepB (rchA T d i) ((rchA T d i).1 1 i) ((rchA T d i).1 0 i) d then (stepP (rchA T d i) ((rchA T d i).1 1 i) ((rchA T d i).1 0 i) d, true) else (stepP (rchA T d i) ((rchA T d i).1 1 i) ((rchA T d i).1 0 i) d, T.2)
def reachF (S : St) (d : Int32) (B : Sr) : Sr × Bool := fr (reach1 S d) (ix (B.2 0)) (B, false)
def bfs (S : St) (t : Nat) : Nat → Nat → Sr → Sr
  | 0, _, B => B
  | k + 1, d, B => if B.1 2 t = -1 then (if (reachF S (nI d) B).2 then bfs S t k (d + 1) (reachF S (nI d) B).1 else (reachF S (nI d) B).1) else B
def clr1 (i : Nat) (B : Sr) : Sr := vA B 2 i (-1)
def fewP (B : Sr) (S : St) (x y : Int32) : Sr := bfs S (ix y) 40 0 (vA (fr clr1 40 B) 2 (ix x) 0)
theorem hb_stepP (B : Sr) (f t d : Int32) : (stepP B f t d).2 0 = B.2 0 := by unfold stepP; split <;> rfl
theorem hb_reach1 (S : St) (d : Int32) (i : Nat) (T : Sr × Bool) : (reach1 S d i T).1.2 0 = T.1.2 0 := by
  unfold reach1
  split
  · rfl
  · split
    · exact hb_stepP _ _ _ _
    · split
      · exact (hb_stepP _ _ _ _).trans (hb_stepP _ _ _ _)
      · exact (hb_stepP _ _ _ _).trans (hb_stepP _ _ _ _)
theorem hb_reachF (S : St) (d : Int32) (B : Sr) : (reachF S d B).1.2 0 = B.2 0 := by
  unfold reachF
  generalize ix (B.2 0) = n
  induction n with
  | zero => rfl
  | succ n ih => exact (hb_reach1 S d n _).trans ih
theorem bfs_def (S : St) (B : Sr) (x y : Int32) : bfs S (ix y) 40 0 (vA (fr clr1 40 B) 2 (ix x) 0) = fewP B S x y := by unfold fewP; rfl
theorem r_eq {B : Sr} {b : Nat} (hb : B.2 0 = nI b) (h30 : b ≤ 30) : ix (B.2 0) = b := by rw [hb]; exact ix_nI (by omega)
def fewV (B : Sr) (S : St) (x y : Int32) : Int32 := if hasB S x then if hasB S y then (fewP B S x y).1 2 (ix y) else -1 else -1
def fewQ (B : Sr) (S : St) (x y : Int32) : Sr := if hasB S x then if hasB S y then fewP B S x y else B else B
theorem ge_yes40 {q : Prop} (h : q) : (40 : Int32) ≤ nI 40 := by decide
theorem ge_no40 {i : Nat} {q r : Prop} (h : q) (h4 : r) (hi : i < 40) : ¬ (40 : Int32) ≤ nI i := nI_ge (b := 40) hi (by omega)
theorem Z_lkp {p : Program} {l : Launch} {e : Env} {R : Room} {s : State} {m : MethodId} {args : Array Value} {below : List Frame} {meth : Method} {c : Code} {cc : ByteArray} {nL : Nat} {own : String} {G : gG} {A : Nat → Prop} {h : Nat → Nat} {Q : State → Prop} {k n : Nat} {ws : List va_E} {pc : Nat} {L : List (Nat × Value)} {st : List Value} (C : Cx p s m args c cc nL own G A) {dflt off : Int} {ps : Array (Int × Int)} {len : Nat} {x : Int32} (tgt : Nat) (d : decode cc pc = .ok (.lookupswitch dflt ps, len)) (hp : (ps.toList.zip (ps.toList.drop 1)).all (fun (a, next) => a.1 < next.1) = true) (ho : Op.lookupswitch.offset ps.toList dflt x.toInt = off) (ht : (pc : Int) + off = (tgt : Int)) (kk : Z p l e R s m args below meth c nL G A h Q k n ws tgt L st) : Z p l e R s m args below meth c nL G A h Q k n ws pc L (.int x :: st) := fun H locs ls hP hD hS hl => lv_lookup C.1 C.2.1 d hp ho ht (kk H locs ls hP hD hS hl)
