/-! WHAT A STATE IS: the stones of one sky as eight rows of numbers (0 weight, 1 strength, 2 prop, 3 power, 4 first hold, 5 second hold, 6 load, 7 pull), who hangs, three numbers (0 hung, 1 hanging, 2 day), stale -/
abbrev St : Type := (Nat → Nat → Int32) × (Nat → Bool) × (Nat → Int32) × Bool
def bI (b : Bool) : Int32 := if b then 1 else 0
abbrev uA (S : St) (k j : Nat) (v : Int32) : St := (fun k' => if k' = k then upd (S.1 k) j v else S.1 k', S.2)
abbrev uH (S : St) (j : Nat) (b : Bool) : St := (S.1, (fun j' => if j' = j then b else S.2.1 j'), S.2.2)
abbrev uI (S : St) (k : Nat) (v : Int32) : St := (S.1, S.2.1, (fun k' => if k' = k then v else S.2.2.1 k'), S.2.2.2)
abbrev uS (S : St) (b : Bool) : St := (S.1, S.2.1, S.2.2.1, b)
abbrev stW (b : Nat) (S : St) : List va_E := [.inr (1, [.ref (b + 1), .ref (b + 2), .ref (b + 3), .ref (b + 4), .ref (b + 5), .ref (b + 6), .ref (b + 7), .ref (b + 8), .ref (b + 9), .int (S.2.2.1 0), .int (S.2.2.1 1), .int (S.2.2.1 2), .int (bI S.2.2.2)]), .inl (0, 40, .inl (S.1 0)), .inl (0, 40, .inl (S.1 1)), .inl (0, 40, .inl (S.1 2)), .inl (0, 40, .inl (S.1 3)), .inl (0, 40, .inl (S.1 4)), .inl (0, 40, .inl (S.1 5)), .inl (1, 40, .inl (fun j => bI (S.2.1 j))), .inl (0, 40, .inl (S.1 6)), .inl (0, 40, .inl (S.1 7))]
theorem bI_t : bI true = 1 := rfl
theorem bI_f : bI false = 0 := rfl
theorem bI_0 {b : Bool} : bI b = 0 ↔ b = false := by cases b <;> decide
theorem bI_n0 {b : Bool} : ¬ bI b = 0 ↔ b = true := by cases b <;> decide
theorem bI_nar (b : Bool) : narrow .boolean (.int (bI b)) = .int (bI b) := by cases b <;> rfl
theorem bI_vp (b : Bool) : vp_nar .boolean (bI b) = bI b := by cases b <;> rfl
theorem bI_fit (b : Bool) : fits .boolean (.int (bI b)) = true := by cases b <;> rfl
theorem upd_bI (f : Nat → Bool) (j : Nat) (b : Bool) : upd (fun i => bI (f i)) j (vp_nar .boolean (bI b)) = fun i => bI (if i = j then b else f i) := by
  rw [bI_vp]
  funext i
  by_cases h : i = j <;> simp [upd, h]
/-- a loop upwards -/
def fr {σ : Type} (f : Nat → σ → σ) : Nat → σ → σ
  | 0, s => s
  | n + 1, s => f n (fr f n s)
/-- a loop downwards: from n - 1 to 0 -/
def frD {σ : Type} (f : Nat → σ → σ) : Nat → σ → σ
  | 0, s => s
  | n + 1, s => frD f n (f n s)
theorem Zfor {σ : Type} (W : Nat → σ → Prop) (I : Nat → σ → Prop) (f : Nat → σ → σ) (n : Nat) (s0 : σ) (h0 : I 0 s0) (hI : ∀ i s, i < n → I i s → I (i + 1) (f i s)) (hx : ∀ s, I n s → s = fr f n s0 → W n s) (hs : ∀ i s, i < n → I i s → I (i + 1) (f i s) → W (i + 1) (f i s) → W i s) : W 0 s0 := by
  have key : ∀ d i s, i + d = n → I i s → s = fr f i s0 → W i s := by
    intro d
    induction d with
    | zero =>
      intro i s hi h e
      obtain rfl : i = n := by omega
      exact hx s h e
    | succ d ih =>
      intro i s hi h e
      have hi' := hI i s (by omega) h
      exact hs i s (by omega) h hi' (ih (i + 1) (f i s) (by omega) hi' (by rw [e]; rfl))
  exact key n 0 s0 (by omega) h0 rfl
theorem ge_no {H : Int32} {n i : Nat} (hn : H = nI n) (h40 : n ≤ 40) (hi : i < n) : ¬ H ≤ nI i := by rw [hn]; exact nI_ge hi (by omega)
theorem ge_yes {H : Int32} {n : Nat} (hn : H = nI n) : H ≤ nI n := by rw [hn]; exact Int32.le_refl _
theorem ix_of {H x : Int32} {n : Nat} (hn : H = nI n) (h40 : n ≤ 40) (h1 : ¬ x < 0) (h2 : ¬ H ≤ x) : ∃ j : Nat, j < n ∧ x = nI j := by
  obtain ⟨j, hj, rfl⟩ := nI_of h1
  rw [hn] at h2
  exact ⟨j, Nat.not_le.mp (fun q => h2 (nI_le q hj)), rfl⟩
section ZN
variable {p : Program} {l : Launch} {e : Env} {R : Room} {s : State} {m : MethodId} {args : Array Value} {below : List Frame} {meth : Method} {c : Code} {cc : ByteArray} {nL : Nat} {own : String} {G : gG} {A : Nat → Prop} {h : Nat → Nat} {Q : State → Prop} {k n : Nat} {ws ws' : List va_E} {pc : Nat} {L L' : List (Nat × Value)} {st : List Value}
theorem Z_iaN (C : Cx p s m args c cc nL own G A) {q N j : Nat} {f : Nat → Int32} {v : Int32} (d : decode cc pc = .ok (.iaload, 1)) (he : ws[q]? = some (.inl (0, N, .inl f))) (hj : j < N) (hN : N < 2 ^ 31) (hv : f j = v) (kk : Z p l e R s m args below meth c nL G A h Q k n ws (pc + 1) L (.int v :: st)) : Z p l e R s m args below meth c nL G A h Q k n ws pc L (.int (nI j) :: .ref q :: st) := Z_iald C d he (vp_in_nI hj hN) (by rw [nI_clamp (Nat.lt_trans hj hN)]; exact hv) kk
theorem Z_zaN (C : Cx p s m args c cc nL own G A) {q N j : Nat} {f : Nat → Int32} {v : Int32} (d : decode cc pc = .ok (.baload, 1)) (he : ws[q]? = some (.inl (1, N, .inl f))) (hj : j < N) (hN : N < 2 ^ 31) (hv : f j = v) (kk : Z p l e R s m args below meth c nL G A h Q k n ws (pc + 1) L (.int v :: st)) : Z p l e R s m args below meth c nL G A h Q k n ws pc L (.int (nI j) :: .ref q :: st) := Z_zald C d he (vp_in_nI hj hN) (by rw [nI_clamp (Nat.lt_trans hj hN)]; exact hv) kk
theorem Z_isN (C : Cx p s m args c cc nL own G A) {q N j : Nat} {f : Nat → Int32} {x : Int32} (d : decode cc pc = .ok (.iastore, 1)) (he : ws[q]? = some (.inl (0, N, .inl f))) (hj : j < N) (hN : N < 2 ^ 31) (hw : ws.set q (.inl (0, N, .inl (upd f j x))) = ws') (kk : Z p l e R s m args below meth c nL G A h Q k n ws' (pc + 1) L st) : Z p l e R s m args below meth c nL G A h Q k n ws pc L (.int x :: .int (nI j) :: .ref q :: st) := Z_iast C d he (vp_in_nI hj hN) (by rw [nI_clamp (Nat.lt_trans hj hN)]) hw kk
theorem Z_zsN (C : Cx p s m args c cc nL own G A) {q N j : Nat} {f : Nat → Bool} {b : Bool} {x : Int32} (d : decode cc pc = .ok (.bastore, 1)) (he : ws[q]? = some (.inl (1, N, .inl (fun i => bI (f i))))) (hx : x = bI b) (hj : j < N) (hN : N < 2 ^ 31) (hw : ws.set q (.inl (1, N, .inl (fun i => bI (if i = j then b else f i)))) = ws') (kk : Z p l e R s m args below meth c nL G A h Q k n ws' (pc + 1) L st) : Z p l e R s m args below meth c nL G A h Q k n ws pc L (.int x :: .int (nI j) :: .ref q :: st) := Z_zast C d he (vp_in_nI hj hN) (by rw [nI_clamp (Nat.lt_trans hj hN), hx, upd_bI]) hw kk
end ZN
