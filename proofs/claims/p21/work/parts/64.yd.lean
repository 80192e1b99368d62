/-! more rows: the stack retyped, a row's function, places renamed -/
section YF
variable {p : Program} {l : Launch} {e : Env} {R : Room} {s : State} {m : MethodId} {args : Array Value} {below : List Frame} {meth : Method} {c : Code} {cc : ByteArray} {nL : Nat} {own : String} {G : gG} {A : Nat → Prop} {h h0 : Nat → Nat} {Q : State → Prop} {k n : Nat} {w w' : WF} {pc : Nat} {L L' : List (Nat × Value)} {st st' rest : List Value}
theorem Y_stk (st' : List Value) (hst : st = st') (kk : Y p l e R s m args below meth c nL G A h Q k n w pc L st') : Y p l e R s m args below meth c nL G A h Q k n w pc L st := by rw [hst]; exact kk
theorem Y_kn (k' n' : Nat) (hk : k = k') (hn : n = n') (kk : Y p l e R s m args below meth c nL G A h Q k' n' w pc L st) : Y p l e R s m args below meth c nL G A h Q k n w pc L st := by rw [hk, hn]; exact kk
/-- a cell's function matters below its length alone -/
theorem Y_fn {q i N : Nat} {f : Nat → Int32} (g : Nat → Int32) (he : w q = some (.inl (i, N, .inl f))) (hfg : ∀ j, j < N → f j = g j) (kk : Y p l e R s m args below meth c nL G A h Q k n (wU w q (.inl (i, N, .inl g))) pc L st) : Y p l e R s m args below meth c nL G A h Q k n w pc L st := fun H locs ls ws hP hD hM hS hl => by
  obtain ⟨j, hj⟩ := hM.1 q _ he
  have h1 := hP.set hD hj (e := kE G h (.inl (i, N, .inl g))) (by
    have h2 := hP j _ hj
    show H[h q]? = some (vp_cell (G.2 i) (N, .inl g))
    rw [show H[h q]? = some (arrV (G.2 i) N (fun j => .int (f j))) from h2, arrV_ext (fun j hj => congrArg Value.int (hfg j hj))]
    rfl) (fun _ _ => rfl)
  exact kk H locs ls _ h1 (hD.set hj) (hM.set he hj) hS hl
end YF
theorem kV_id {r : Nat → Nat} {v : Value} (h : vR (fun a => r a = a) v) : kV r v = v := by
  cases v with
  | ref a => exact congrArg Value.ref h
  | _ => rfl
theorem kVs_id {r : Nat → Nat} : ∀ {fs : List Value}, sR (fun a => r a = a) fs → fs.map (kV r) = fs
  | [], _ => rfl
  | _ :: _, q => by rw [List.map_cons, kV_id q.1, kVs_id q.2]
theorem rEf_id {r : Nat → Nat} {e : va_E} (h : eR (fun a => r a = a) e) : rEf r e = e := by
  cases e with
  | inl a =>
    obtain ⟨i, n, f | f | f | f | f⟩ := a
    · rfl
    · rfl
    · rfl
    · rfl
    · have e : (fun j => (f j).map r) = f := by
        funext j
        cases hf : f j with
        | none => rfl
        | some a => exact congrArg some (h j a hf)
      exact congrArg (fun z => (Sum.inl (i, (n, Sum.inr (Sum.inr (Sum.inr (Sum.inr z))))) : va_E)) e
  | inr o =>
    obtain ⟨ci, fs⟩ := o
    show Sum.inr (ci, _) = Sum.inr (ci, _)
    rw [kVs_id h]
theorem tU_tU (T : WF) (q : Nat) (a b : Option va_E) : tU (tU T q a) q b = tU T q b := by
  funext i
  by_cases h : i = q
  · rw [h, tU_s, tU_s]
  · rw [tU_n _ _ h, tU_n _ _ h, tU_n _ _ h]
theorem tU_id {T : WF} {q : Nat} {a : Option va_E} (h : T q = a) : tU T q a = T := by
  funext i
  by_cases hi : i = q
  · rw [hi, tU_s, h]
  · rw [tU_n _ _ hi]
/-- a place taken over by another: 201 + 2 o by q -/
def rn (o q : Nat) (i : Nat) : Nat := if i = 201 + 2 * o then q else i
theorem rn_s (o q : Nat) : rn o q (201 + 2 * o) = q := if_pos rfl
theorem rn_n {o q i : Nat} (h : i ≠ 201 + 2 * o) : rn o q i = i := if_neg h
theorem hold_ren {V : List va_E} {n r : Nat} {M M' : Md} {T : WF} {o q N : Nat} {f : Nat → Int32} (h40 : n ≤ 40) (h30 : r ≤ 30) (hC : okC V) (hT : okT T) (hq : 400 ≤ q) (hTq : T q = none) (ho : o < n) (hs : ∀ a, a < n → stoE M' a = stoE M a) (hs2 : ∀ a, a < n → a ≠ o → holE M' a = holE M a) (hh : holE M' o = .inl (0, N, .inl f)) (ht : ∀ a, staE M' a = staE M a) (hd : M'.2.2.1 0 0 = M.2.2.1 0 0) : (∀ i e, gW V n r M' T i = some e → wU (gW V n r M (tU T q (some (.inl (0, N, .inl f))))) (200 + 2 * o) (.inr (4, [.int (M.1 0 o), .int (M.1 1 o), .int (M.1 2 o), .int (M.1 3 o), .ref q, .int (M.1 6 o)])) (rn o q i) = some (rEf (rn o q) e)) ∧ ∀ i j e f', gW V n r M' T i = some e → gW V n r M' T j = some f' → rn o q i = rn o q j → i = j := by
  have hne : ∀ i e, gW V n r M' T i = some e → i ≠ q := fun i e h z => by
    subst z
    rw [gW_hi hq, hTq] at h
    cases h
  refine ⟨fun i e h => ?_, fun i j e f' hi hj hr => ?_⟩
  · have hiq := hne i e h
    by_cases h1 : i < 100
    · rw [gW_lo h1] at h
      rw [rn_n (by omega), wU_n _ _ (by omega), gW_lo h1, h, rEf_id]
      exact (hC i e h).imp (fun a ha => rn_n (by omega))
    · by_cases h2 : i < 400
      · rw [gW_mid (by omega) h2] at h
        rcases simw_cases h with ⟨rfl, rfl⟩ | ⟨rfl, rfl⟩ | ⟨rfl, rfl⟩ | ⟨k, hk, rfl, rfl⟩ | ⟨k, hk, rfl, rfl⟩ | ⟨k, hk, rfl, rfl⟩
        · rw [rn_n (by omega), wU_n _ _ (by omega), gW_100, rEf_id]
          · unfold simE
            rw [hd]
          · exact ⟨rn_n (by omega), rn_n (by omega), trivial, trivial⟩
        · rw [rn_n (by omega), wU_n _ _ (by omega), gW_101, rEf_id]
          intro j a z
          unfold rfS at z
          split at z
          · cases z
            exact rn_n (by omega)
          · cases z
        · rw [rn_n (by omega), wU_n _ _ (by omega), gW_102, rEf_id]
          intro j a z
          unfold rfT at z
          split at z
          · cases z
            exact rn_n (by omega)
          · cases z
        · rw [rn_n (by omega), hs k hk]
          by_cases hko : k = o
          · subst hko
            rw [wU_s]
            show _ = some (Sum.inr (4, [_, _, _, _, Value.ref (rn k q (201 + 2 * k)), _]))
            rw [rn_s]
            rfl
          · rw [wU_n _ _ (by omega), gW_st h40 hk, rEf_id]
            exact ⟨trivial, trivial, trivial, trivial, rn_n (by omega), trivial, trivial⟩
        · by_cases hko : k = o
          · subst hko
            rw [rn_s, hh, wU_n _ _ (by omega), gW_hi hq, tU_s]
            rfl
          · rw [rn_n (by omega), wU_n _ _ (by omega), gW_ho h40 hk, hs2 k hk hko]
            rfl
        · rw [rn_n (by omega), wU_n _ _ (by omega), gW_sa h40 h30 hk, ht k]
          rfl
      · rw [gW_hi (by omega)] at h
        rw [rn_n (by omega), wU_n _ _ (by omega), gW_hi (by omega), tU_n _ _ hiq, h, rEf_id]
        exact (hT i e h).imp (fun a ha => rn_n (by omega))
  · have h1 := hne i e hi
    have h2 := hne j f' hj
    unfold rn at hr
    split at hr
    · next a =>
      split at hr
      · next b => rw [a, b]
      · exact absurd hr.symm h2
    · split at hr
      · exact absurd hr h1
      · exact hr
/-- a stone loses its holds from k -/
def jL (k o : Nat) (M : Md) : Md := if M.1 4 o = nI k then tA (tA M 4 o (M.1 5 o)) 5 o (-1) else if M.1 5 o = nI k then tA M 5 o (-1) else M
def jC (k o : Nat) (M : Md) : Nat := if heldB M o (nI k) = true then 1 else 0
theorem jL_row {k o : Nat} {M : Md} {i a : Nat} (h : i ≠ 4 ∧ i ≠ 5) : (jL k o M).1 i a = M.1 i a := by
  unfold jL
  split
  · rw [tA_nk h.2, tA_nk h.1]
  · split
    · rw [tA_nk h.2]
    · rfl
theorem jL_at {k o : Nat} {M : Md} {i a : Nat} (h : a ≠ o) : (jL k o M).1 i a = M.1 i a := by
  unfold jL
  split
  · rw [tA_ne h, tA_ne h]
  · split
    · rw [tA_ne h]
    · rfl
theorem jL_2 (k o : Nat) (M : Md) : (jL k o M).2 = M.2 := by
  unfold jL
  split
  · rfl
  · split <;> rfl
theorem jL_no {k o : Nat} {M : Md} (h : heldB M o (nI k) = false) : jL k o M = M := by
  simp only [heldB, Bool.or_eq_false_iff, decide_eq_false_iff_not] at h
  unfold jL
  rw [if_neg h.1, if_neg h.2]
