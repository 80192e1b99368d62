/-! new cells -/
section ZF
variable {p : Program} {l : Launch} {e : Env} {R : Room} {s : State} {m : MethodId} {args : Array Value} {below : List Frame} {meth : Method} {c : Code} {cc : ByteArray} {nL : Nat} {own : String} {G : gG} {A : Nat → Prop} {h : Nat → Nat} {Q : State → Prop} {k n : Nat} {ws ws' : List va_E} {pc : Nat} {L : List (Nat × Value)} {st st' rest : List Value}
theorem kst_ag {N : Nat} {h h' : Nat → Nat} (hag : ∀ i, i < N → h' i = h i) {q : Nat} {st : List Value} (hst : st.all (vF N) = true) (hq : h' N = q) : (Value.ref N :: st).map (kV h') = .ref q :: st.map (kV h) := by
  show .ref (h' N) :: st.map (kV h') = _
  rw [kVs_ag hag hst, hq]
end ZF
