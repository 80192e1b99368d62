section ZT
variable {p : Program} {l : Launch} {e : Env} {R : Room} {s : State} {m : MethodId} {args : Array Value} {below : List Frame} {meth : Method} {c : Code} {cc : ByteArray} {nL : Nat} {own : String} {G : gG} {A : Nat → Prop} {h : Nat → Nat} {Q : State → Prop} {k n : Nat} {ws ws' : List va_E} {pc : Nat} {L : List (Nat × Value)} {st : List Value} {r : Option Value} {xE : Option String}
theorem Z_iretX (C : Cx p s m args c cc nL own G A) (hr : meth.sig.returnType = some .int) (hlk : meth.locks = false) {v : Int32} (d : decode cc pc = .ok (.ireturn, 1)) (hE : xE = none) (hv : r = some (.int v)) (hw : ws = ws') : Z p l e R s m args below meth c nL G A h (vx_MQ below (gQx G h A xE r ws') (gXC G h A xE ws') args s k n A) k n ws pc L [.int v] := fun H locs ls hP hD hS hl => by
  subst hw; subst hv
  exact vx_ret (W.iret C.1 C.2.1 hr (fun t ht _ => ⟨hE, ⟨rfl, by rw [ht]; exact hP⟩, hS.F ht⟩) hS.2.2 d (hlocks := hlk))
theorem Z_zretX (C : Cx p s m args c cc nL own G A) (hr : meth.sig.returnType = some .boolean) (hlk : meth.locks = false) {v : Int32} (d : decode cc pc = .ok (.ireturn, 1)) (hn : narrow .boolean (.int v) = .int v) (hE : xE = none) (hv : r = some (.int v)) (hw : ws = ws') : Z p l e R s m args below meth c nL G A h (vx_MQ below (gQx G h A xE r ws') (gXC G h A xE ws') args s k n A) k n ws pc L [.int v] := fun H locs ls hP hD hS hl => by
  subst hw; subst hv
  exact vx_ret (W.zret C.1 C.2.1 hr hn (fun t ht _ => ⟨hE, ⟨rfl, by rw [ht]; exact hP⟩, hS.F ht⟩) hS.2.2 d (hlocks := hlk))
theorem Z_throw (C : Cx p s m args c cc nL RX2 G A) (hst : l.stackTraces = false) (hX : gX A s s.heap) (hex : ∀ x ∈ c.exceptionTable.toList, False) (hlk : meth.locks = false) {ik ic is mc ms : Nat} {E text : String} (hat : atX ik ic E) (hstr : (is, text) ∈ strsX)
    (d0 : decode cc pc = .ok (.new ik, 3)) (d3 : decode cc (pc + 3) = .ok (.dup, 1)) (d4 : decode cc (pc + 4) = .ok (.ldc is, 2)) (d6 : decode cc (pc + 6) = .ok (.invokespecial ic, 3)) (d9 : decode cc (pc + 9) = .ok (.athrow, 1))
    (hR : 5 < R.frames ∧ (st.map fun v => v.category).sum + 82 ≤ R.locals) (hcs : k + 1 ≤ R.cells ∧ n + 6 ≤ R.slots) (hc : k + 1 ≤ mc) (hs : n + 6 ≤ ms) (hE : xE = some E) (hw : ws = ws') : Z p l e R s m args below meth c nL G A h (vx_MQ below (gQx G h A xE r ws') (gXC G h A xE ws') args s mc ms A) k n ws pc L st := fun H locs ls hP hD hS hl => by
  subst hw
  obtain ⟨a1, a2, a3, a4, a5, a6, a7⟩ := hat
  obtain ⟨sa, hsa⟩ := hX.2.2 _ hstr
  have hts := C.2.2.2.2.1
  have h1 : ∀ w ∈ vx_atS RX2 ic E namesX, w.before args s = true := vx_hat (B := nW) (fun w hw => hts w (of_decide_eq_true (List.all_eq_true.mp a1 w hw))) (fun w hw => of_decide_eq_true (List.all_eq_true.mp a2 w hw)) (nW_use C.2.2.2.2.2.2.2)
  exact vx_throwS (names := namesX) (text := text) (sa := sa) (A := A) C.1 C.2.1 hst C.2.2.2.1 a6 a7 (hts _ a4) (hts _ a5) hsa h1 (fun w hw => List.all_eq_true.mp a3 w hw) hX.1 hX.2.1 hS (hl.1.trans C.2.2.1.symm) d0 d3 d4 d6 d9 (fun x hx => (hex x hx).elim) hR.1 (by rw [kst_cat]; exact hR.2) hcs.1 hcs.2 hlk
    (fun t _ hz hk => ⟨hE, hP.kept (fun j q hq => hk q.1 (hP j q hq).lt), Nat.le_trans hS.1 hz, fun q h1 h2 => (hk q (Nat.lt_of_lt_of_le h1 hS.1)).trans (hS.2.1 q h1 h2)⟩) hS.2.2 hc hs
end ZT
