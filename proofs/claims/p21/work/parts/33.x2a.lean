/-! the class's methods -/
section ZN2
variable {p : Program} {l : Launch} {e : Env} {R : Room} {s : State} {m : MethodId} {args : Array Value} {below : List Frame} {meth : Method} {c : Code} {cc : ByteArray} {nL : Nat} {own : String} {G : gG} {A : Nat → Prop} {h : Nat → Nat} {Q : State → Prop} {k n : Nat} {ws ws' : List va_E} {pc : Nat} {L : List (Nat × Value)} {st : List Value}
theorem Z_getN (C : Cx p s m args c cc nL own G A) {Cn ref host : String} {T : u_T} {N ci : Nat} {ty : Nat → FieldType} (K : cK Cn T N ci ty) {index q : Nat} (j : Nat) {fs : List Value} {v : Value} (d : decode cc pc = .ok (.getfield index, 3)) (he : ws[q]? = some (.inr (ci, fs))) (hj : j < N) (hlink : Cond.fieldLinkNest own index ref (T j).2.1 (T j).2.2.1 host ∈ nW) (hr : (T j).1 = ref) (hv : fs[j]? = some v) (kk : Z p l e R s m args below meth c nL G A h Q k n ws (pc + 3) L (v :: st)) : Z p l e R s m args below meth c nL G A h Q k n ws pc L (.ref q :: st) := fun H locs ls hP hD hS hl =>
  va_getN (D := G.1) (ci := ci) (v := kV h v) (C := Cn) (T := T) (N := N) C.1 C.2.1 C.2.2.2.2.1 K.1 C.2.2.2.1 C.2.2.2.2.2.1 hP q (kW_at he) K.2.1 j hj (nW_use C.2.2.2.2.2.2.2 _ hlink) (fun _ h9 => by rw [← hr]; exact h9) (by rw [List.getElem?_map, hv]; rfl) d (kk H locs ls hP hD hS hl)
end ZN2
theorem full_lt {S : St} {n : Nat} (hn : S.2.2.1 0 = nI n) (h40 : n ≤ 40) (h : isFullB S = false) : n < 40 := by
  rcases Nat.lt_or_ge n 40 with q | q
  · exact q
  · obtain rfl : n = 40 := by omega
    simp only [isFullB, hn] at h
    exact absurd h (by decide)
theorem fullR_lt {B : Sr} {n : Nat} (hn : B.2 0 = nI n) (h40 : n ≤ 30) (h : fullR B = false) : n < 30 := by
  rcases Nat.lt_or_ge n 30 with q | q
  · exact q
  · obtain rfl : n = 30 := by omega
    simp only [fullR, hn] at h
    exact absurd h (by decide)
def eA : String := "java/lang/IllegalArgumentException"
def cConj (K : St) (w t q : Int32) : Option String × Int32 × St := if isInB w 1 20 && isInB t 1 60 && isInB q 1 200 then if isFullB K then (some "java/lang/IllegalStateException", 0, K) else (none, nI (nn K), giveWay (addP K (nn K) w t q)) else (some "java/lang/IllegalArgumentException", 0, K)
def cProp (K : St) (x v : Int32) : Option String × Int32 × St := if hasB K x = false then (some "java/lang/IndexOutOfBoundsException", 0, K) else if isInB v 0 60 = false then (some "java/lang/IllegalArgumentException", 0, K) else if hangsB K x = false then (some "java/lang/IllegalStateException", 0, K) else (none, K.2.2.1 1 - (giveWay (setProp K x v)).2.2.1 1, giveWay (setProp K x v))
def cRenew (K : St) (x v : Int32) : Option String × Int32 × St := if hasB K x = false then (some "java/lang/IndexOutOfBoundsException", 0, K) else if isInB v 1 200 = false then (some "java/lang/IllegalArgumentException", 0, K) else if hasSpellB K x = false then (some "java/lang/IllegalStateException", 0, K) else if K.1 6 (ix x) ≤ v then (none, K.1 3 (ix x), uA K 3 (ix x) v) else (some "java/lang/IllegalStateException", 0, K)
def cStair (K : St) (B : Sr) (a d : Int32) : Option String × Int32 × Sr := if hasB K a = false ∨ hasB K d = false then (some "java/lang/IndexOutOfBoundsException", 0, B) else if a = d then (some "java/lang/IllegalArgumentException", 0, B) else if fullR B = true ∨ hangsB K a = false ∨ hangsB K d = false then (some "java/lang/IllegalStateException", 0, B) else (none, nI (ix (B.2 0)), addR B (ix (B.2 0)) a d)
def cSwap (K : St) (B : Sr) (a d : Int32) : Option String × Bool × Sr := if hasR B a = false ∨ hasR B d = false then (some "java/lang/IndexOutOfBoundsException", false, B) else if a = d then (some "java/lang/IllegalArgumentException", false, B) else if goneR B K a = true ∨ goneR B K d = true then (some "java/lang/IllegalStateException", false, B) else (none, swapB B a d, swapP B a d)
def cJoins (K : St) (B : Sr) (k w : Int32) : Option String × Int32 := if hasR B k && isInB w 0 2 then (none, tellR B K k w) else (some "java/lang/IndexOutOfBoundsException", 0)
def cSteps (K : St) (B : Sr) (a d : Int32) : Option String × Int32 × Sr := if hasB K a = false ∨ hasB K d = false then (some "java/lang/IndexOutOfBoundsException", 0, B) else if hangsB K a = false ∨ hangsB K d = false then (none, -1, B) else (none, fewV B K a d, fewQ B K a d)
def cStone (K : St) (x w : Int32) : Option String × Int32 := if hasB K x && isInB w 0 9 then (none, tell K x w) else (some "java/lang/IndexOutOfBoundsException", 0)
def cFirst (K : St) (x : Int32) : Option String × Int32 := if hasB K x then (none, topOf K x) else (some "java/lang/IndexOutOfBoundsException", 0)
def cPass (K : St) (x : Int32) : Option String × Int32 × St := if isInB x 1 120 then (none, K.2.2.1 1 - (liveDays K x).2.2.1 1, liveDays K x) else (some "java/lang/IllegalArgumentException", 0, K)
def cWo (K D : St) (x : Int32) : Option String × Int32 × St := if hasB K x = false then (some "java/lang/IndexOutOfBoundsException", 0, D) else if hangsB K x = false then (none, 0, D) else (none, K.2.2.1 1 - (cutL (copyF D K) x).2.2.1 1, cutL (copyF D K) x)
set_option maxHeartbeats 4000000 in
set_option maxRecDepth 20000 in
theorem c_X2_isWithin (x : Int32) (y : Int32) (q : Int32) : CT yX2_isWithin cX2_isWithin 3 (some .boolean) 0 0 0 [.int x, .int y, .int q] ([]) (some (.int (bI (isInB x y q)))) ([]) := by
  refine CT_of (L := [(0, .int x), (1, .int y), (2, .int q)]) (by decide) (fun _ => rfl) (fun _ => Nat.le_of_ble_eq_true rfl) ?_
  intro p l e s m args below meth c G h A C hr hlk _
  refine Z_iload_n C dX2_isWithin_0 rfl rfl ?_
  refine Z_iload_n C dX2_isWithin_1 rfl rfl ?_
  refine Z_icmp_lt C 14 dX2_isWithin_2 (by decide) (fun c1 => ?_) (fun c1 => ?_)
  · refine Z_iconst C (v := 0) dX2_isWithin_14 (by decide) ?_
    exact Z_zret C hr hlk dX2_isWithin_15 rfl (congrArg (fun z => some (Value.int z)) (show (bI (isInB x y q)) = 0 from by simp [isInB, bI, c1])) rfl
  · refine Z_iload_n C dX2_isWithin_5 rfl rfl ?_
    refine Z_iload_n C dX2_isWithin_6 rfl rfl ?_
    refine Z_icmp_gt C 14 dX2_isWithin_7 (by decide) (fun c2 => ?_) (fun c2 => ?_)
    · refine Z_iconst C (v := 0) dX2_isWithin_14 (by decide) ?_
      exact Z_zret C hr hlk dX2_isWithin_15 rfl (congrArg (fun z => some (Value.int z)) (show (bI (isInB x y q)) = 0 from by simp [isInB, bI, c1, c2])) rfl
    · refine Z_iconst C (v := 1) dX2_isWithin_10 (by decide) ?_
      refine Z_goto C 15 dX2_isWithin_11 (by decide) ?_
      exact Z_zret C hr hlk dX2_isWithin_15 rfl (congrArg (fun z => some (Value.int z)) (show (bI (isInB x y q)) = 1 from by simp [isInB, bI, c1, c2])) rfl
set_option maxHeartbeats 4000000 in
set_option maxRecDepth 20000 in
theorem c_X2_isBody (x : Int32) (y : Int32) : CT yX2_isBody cX2_isBody 2 (some .boolean) 1 0 0 [.int x, .int y] ([]) (some (.int (bI (isInB x 1 20 && isInB y 1 60)))) ([]) := by
  refine CT_of (L := [(0, .int x), (1, .int y)]) (by decide) (fun _ => rfl) (fun _ => Nat.le_of_ble_eq_true rfl) ?_
  intro p l e s m args below meth c G h A C hr hlk _
  refine Z_iload_n C dX2_isBody_0 rfl rfl ?_
  refine Z_iconst C (v := 1) dX2_isBody_1 (by decide) ?_
  refine Z_bipush C (v := 20) dX2_isBody_2 (by decide) ?_
  refine Z_callS C (ws' := []) (st' := [.int (bI (isInB x 1 20))]) (rest := []) [] (c_X2_isWithin x 1 20) m_X2_isWithin g_124 dX2_isBody_4 rfl rfl rfl (outR _ _ _) (NW := 0) rfl rfl rfl rfl ⟨Nat.le_of_ble_eq_true rfl, Nat.le_of_ble_eq_true rfl⟩ ⟨Nat.le_of_ble_eq_true rfl, Nat.le_of_ble_eq_true rfl⟩ (Nat.le_of_ble_eq_true rfl) rfl ?_
  refine Z_if_eq C 24 dX2_isBody_7 (by decide) (fun c1 => ?_) (fun c1 => ?_)
  · have c1 := bI_0.mp c1
    refine Z_iconst C (v := 0) dX2_isBody_24 (by decide) ?_
    exact Z_zret C hr hlk dX2_isBody_25 rfl (congrArg (fun z => some (Value.int z)) (show (bI (isInB x 1 20 && isInB y 1 60)) = 0 from by simp [bI, c1])) rfl
  · have c1 := bI_n0.mp c1
    refine Z_iload_n C dX2_isBody_10 rfl rfl ?_
    refine Z_iconst C (v := 1) dX2_isBody_11 (by decide) ?_
    refine Z_bipush C (v := 60) dX2_isBody_12 (by decide) ?_
    refine Z_callS C (ws' := []) (st' := [.int (bI (isInB y 1 60))]) (rest := []) [] (c_X2_isWithin y 1 60) m_X2_isWithin g_124 dX2_isBody_14 rfl rfl rfl (outR _ _ _) (NW := 0) rfl rfl rfl rfl ⟨Nat.le_of_ble_eq_true rfl, Nat.le_of_ble_eq_true rfl⟩ ⟨Nat.le_of_ble_eq_true rfl, Nat.le_of_ble_eq_true rfl⟩ (Nat.le_of_ble_eq_true rfl) rfl ?_
    refine Z_if_eq C 24 dX2_isBody_17 (by decide) (fun c2 => ?_) (fun c2 => ?_)
    · have c2 := bI_0.mp c2
      refine Z_iconst C (v := 0) dX2_isBody_24 (by decide) ?_
      exact Z_zret C hr hlk dX2_isBody_25 rfl (congrArg (fun z => some (Value.int z)) (show (bI (isInB x 1 20 && isInB y 1 60)) = 0 from by simp [bI, c1, c2])) rfl
    · have c2 := bI_n0.mp c2
      refine Z_iconst C (v := 1) dX2_isBody_20 (by decide) ?_
      refine Z_goto C 25 dX2_isBody_21 (by decide) ?_
      exact Z_zret C hr hlk dX2_isBody_25 rfl (congrArg (fun z => some (Value.int z)) (show (bI (isInB x 1 20 && isInB y 1 60)) = 1 from by simp [bI, c1, c2])) rfl
set_option maxHeartbeats 4000000 in
set_option maxRecDepth 20000 in
theorem c_X2_conjure (K : St) (D : St) (B : Sr) (w : Int32) (t : Int32) (q : Int32) {n : Nat} (hn : K.2.2.1 0 = nI n) (h40 : n ≤ 40) {r : Nat} (hb : B.2 0 = nI r) (h30 : r ≤ 30) : CTX yX2_conjure cX2_conjure 5 (some .int) 6 1 6 [.ref 0, .int w, .int t, .int q] (twO ++ (stW 1 K ++ (stW 11 D ++ srW 21 B))) ((cConj K w t q).1) (some (.int ((cConj K w t q).2.1))) (twO ++ (stW 1 ((cConj K w t q).2.2) ++ (stW 11 D ++ srW 21 B))) := by
  refine CTX_of (L := [(0, .ref 0), (1, .int w), (2, .int t), (3, .int q)]) (by decide) (fun _ => rfl) (fun _ => Nat.le_of_ble_eq_true rfl) ?_
  intro p l e s m args below meth c G h A C hst hX hex hr hlk _
  have eN : nn K = n := nn_eq hn h40; have eR : ix (B.2 0) = r := r_eq hb h30
  refine Z_iload_n C dX2_conjure_0 rfl rfl ?_
  refine Z_iload_n C dX2_conjure_1 rfl rfl ?_
  refine Z_callS C (ws' := twO ++ (stW 1 K ++ (stW 11 D ++ srW 21 B))) (st' := [.int (bI (isInB w 1 20 && isInB t 1 60))]) (rest := []) [] (c_X2_isBody w t) m_X2_isBody g_477 dX2_conjure_2 rfl rfl rfl (outS 1 rfl (outS 10 rfl (outS 10 rfl (outR _ _ _)))) (NW := 25) rfl rfl rfl rfl ⟨Nat.le_of_ble_eq_true rfl, Nat.le_of_ble_eq_true rfl⟩ ⟨Nat.le_of_ble_eq_true rfl, Nat.le_of_ble_eq_true rfl⟩ (Nat.le_of_ble_eq_true rfl) rfl ?_
  refine Z_if_eq C 19 dX2_conjure_5 (by decide) (fun c1 => ?_) (fun c1 => ?_)
  · have c1 := bI_0.mp c1
    exact Z_throw C hst hX hex hlk atX_38 (text := "no such weight, strength or power") (by simp [strsX]) dX2_conjure_19 dX2_conjure_22 dX2_conjure_23 dX2_conjure_25 dX2_conjure_28 ⟨Nat.le_of_ble_eq_true rfl, Nat.le_of_ble_eq_true rfl⟩ ⟨Nat.le_of_ble_eq_true rfl, Nat.le_of_ble_eq_true rfl⟩ (Nat.le_of_ble_eq_true rfl) (Nat.le_of_ble_eq_true rfl) (show (cConj K w t q).1 = some "java/lang/IllegalArgumentException" from by simp [cConj, c1, eN, eR, bI]) (by rw [show ((cConj K w t q).2.2) = K from by simp [cConj, c1, eN, eR, bI]])
  · have c1 := bI_n0.mp c1
    refine Z_iload_n C dX2_conjure_8 rfl rfl ?_
    refine Z_iconst C (v := 1) dX2_conjure_9 (by decide) ?_
    refine Z_sipush C (v := 200) dX2_conjure_10 (by decide) ?_
    refine Z_callS C (ws' := twO ++ (stW 1 K ++ (stW 11 D ++ srW 21 B))) (st' := [.int (bI (isInB q 1 200))]) (rest := []) [] (c_X2_isWithin q 1 200) m_X2_isWithin g_124 dX2_conjure_13 rfl rfl rfl (outS 1 rfl (outS 10 rfl (outS 10 rfl (outR _ _ _)))) (NW := 25) rfl rfl rfl rfl ⟨Nat.le_of_ble_eq_true rfl, Nat.le_of_ble_eq_true rfl⟩ ⟨Nat.le_of_ble_eq_true rfl, Nat.le_of_ble_eq_true rfl⟩ (Nat.le_of_ble_eq_true rfl) rfl ?_
    refine Z_if_ne C 29 dX2_conjure_16 (by decide) (fun c2 => ?_) (fun c2 => ?_)
    · have c2 := bI_n0.mp c2
      refine Z_aload_n C dX2_conjure_29 rfl rfl ?_
      refine Z_get C K2 (v := .ref 1) 0 dX2_conjure_30 rfl (by decide) g_106 rfl rfl ?_
      refine Z_callV C (ws' := twO ++ (stW 1 K ++ (stW 11 D ++ srW 21 B))) (st' := [.int (bI (isFullB K))]) (rest := []) [1, 2, 3, 4, 5, 6, 7, 8, 9, 10] (c_X1_isFull K) m_X1_isFull K1 g_481 dX2_conjure_33 rfl rfl rfl (outS 1 rfl (outS 10 rfl (outS 10 rfl (outR _ _ _)))) (NW := 25) rfl rfl rfl rfl rfl ⟨Nat.le_of_ble_eq_true rfl, Nat.le_of_ble_eq_true rfl⟩ ⟨Nat.le_of_ble_eq_true rfl, Nat.le_of_ble_eq_true rfl⟩ (Nat.le_of_ble_eq_true rfl) rfl ?_
      refine Z_if_eq C 49 dX2_conjure_36 (by decide) (fun c3 => ?_) (fun c3 => ?_)
      · have c3 := bI_0.mp c3
        have hl := full_lt hn h40 c3
        refine Z_aload_n C dX2_conjure_49 rfl rfl ?_
        refine Z_get C K2 (v := .ref 1) 0 dX2_conjure_50 rfl (by decide) g_106 rfl rfl ?_
        refine Z_iload_n C dX2_conjure_53 rfl rfl ?_
        refine Z_iload_n C dX2_conjure_54 rfl rfl ?_
        refine Z_iload_n C dX2_conjure_55 rfl rfl ?_
        refine Z_callV C (ws' := twO ++ (stW 1 (addP K n w t q) ++ (stW 11 D ++ srW 21 B))) (st' := [.int (nI n)]) (rest := []) [1, 2, 3, 4, 5, 6, 7, 8, 9, 10] (c_X1_addBySpell K w t q hn hl) m_X1_addBySpell K1 g_501 dX2_conjure_56 rfl rfl rfl (outS 1 rfl (outI 10 rfl rfl rfl (outS 10 rfl (outR _ _ _)))) (NW := 25) rfl rfl rfl rfl rfl ⟨Nat.le_of_ble_eq_true rfl, Nat.le_of_ble_eq_true rfl⟩ ⟨Nat.le_of_ble_eq_true rfl, Nat.le_of_ble_eq_true rfl⟩ (Nat.le_of_ble_eq_true rfl) rfl ?_
        refine Z_ws (fun X1 => twO ++ (stW 1 X1 ++ (stW 11 D ++ srW 21 B))) (addP K n w t q) (fun X1 eX1 => ?_)
        refine Z_istore C (L' := [(4, .int (nI n)), (0, .ref 0), (1, .int w), (2, .int t), (3, .int q)]) dX2_conjure_59 (by decide) rfl ?_
        refine Z_aload_n C dX2_conjure_61 rfl rfl ?_
        refine Z_get C K2 (v := .ref 1) 0 dX2_conjure_62 rfl (by decide) g_106 rfl rfl ?_
        refine Z_callV C (ws' := twO ++ (stW 1 (giveWay X1) ++ (stW 11 D ++ srW 21 B))) (st' := []) (rest := []) [1, 2, 3, 4, 5, 6, 7, 8, 9, 10] (c_X1_giveWay X1 (show X1.2.2.1 0 = nI (n + 1) from by rw [eX1]; exact nI_1 n) (show n + 1 ≤ 40 from hl)) m_X1_giveWay K1 g_510 dX2_conjure_65 rfl rfl rfl (outS 1 rfl (outI 10 rfl rfl rfl (outS 10 rfl (outR _ _ _)))) (NW := 25) rfl rfl rfl rfl rfl ⟨Nat.le_of_ble_eq_true rfl, Nat.le_of_ble_eq_true rfl⟩ ⟨Nat.le_of_ble_eq_true rfl, Nat.le_of_ble_eq_true rfl⟩ (Nat.le_of_ble_eq_true rfl) rfl ?_
        refine Z_ws (fun X2 => twO ++ (stW 1 X2 ++ (stW 11 D ++ srW 21 B))) (giveWay X1) (fun X2 eX2 => ?_)
        refine Z_iload C dX2_conjure_68 rfl ?_
        exact Z_widen (Nat.le_of_ble_eq_true rfl) (Nat.le_of_ble_eq_true rfl) (Z_iretX C hr hlk dX2_conjure_70 (show (cConj K w t q).1 = none from by subst eX1 eX2; simp [cConj, c1, c2, c3, eN, eR, bI]) (congrArg (fun z => some (Value.int z)) (show ((cConj K w t q).2.1) = (nI n) from by subst eX1 eX2; simp [cConj, c1, c2, c3, eN, eR, bI])) (by rw [show ((cConj K w t q).2.2) = X2 from by subst eX1 eX2; simp [cConj, c1, c2, c3, eN, eR, bI]]))
      · have c3 := bI_n0.mp c3
        exact Z_throw C hst hX hex hlk atX_49 (text := "no more stones") (by simp [strsX]) dX2_conjure_39 dX2_conjure_42 dX2_conjure_43 dX2_conjure_45 dX2_conjure_48 ⟨Nat.le_of_ble_eq_true rfl, Nat.le_of_ble_eq_true rfl⟩ ⟨Nat.le_of_ble_eq_true rfl, Nat.le_of_ble_eq_true rfl⟩ (Nat.le_of_ble_eq_true rfl) (Nat.le_of_ble_eq_true rfl) (show (cConj K w t q).1 = some "java/lang/IllegalStateException" from by simp [cConj, c1, c2, c3, eN, eR, bI]) (by rw [show ((cConj K w t q).2.2) = K from by simp [cConj, c1, c2, c3, eN, eR, bI]])
    · have c2 := bI_0.mp c2
      exact Z_throw C hst hX hex hlk atX_38 (text := "no such weight, strength or power") (by simp [strsX]) dX2_conjure_19 dX2_conjure_22 dX2_conjure_23 dX2_conjure_25 dX2_conjure_28 ⟨Nat.le_of_ble_eq_true rfl, Nat.le_of_ble_eq_true rfl⟩ ⟨Nat.le_of_ble_eq_true rfl, Nat.le_of_ble_eq_true rfl⟩ (Nat.le_of_ble_eq_true rfl) (Nat.le_of_ble_eq_true rfl) (show (cConj K w t q).1 = some "java/lang/IllegalArgumentException" from by simp [cConj, c1, c2, eN, eR, bI]) (by rw [show ((cConj K w t q).2.2) = K from by simp [cConj, c1, c2, eN, eR, bI]])
set_option maxHeartbeats 4000000 in
set_option maxRecDepth 20000 in
theorem c_X2_prop (K : St) (D : St) (B : Sr) (x : Int32) (v : Int32) {n : Nat} (hn : K.2.2.1 0 = nI n) (h40 : n ≤ 40) {r : Nat} (hb : B.2 0 = nI r) (h30 : r ≤ 30) : CTX yX2_prop cX2_prop 4 (some .int) 6 1 6 [.ref 0, .int x, .int v] (twO ++ (stW 1 K ++ (stW 11 D ++ srW 21 B))) ((cProp K x v).1) (some (.int ((cProp K x v).2.1))) (twO ++ (stW 1 ((cProp K x v).2.2) ++ (stW 11 D ++ srW 21 B))) := by
  refine CTX_of (L := [(0, .ref 0), (1, .int x), (2, .int v)]) (by decide) (fun _ => rfl) (fun _ => Nat.le_of_ble_eq_true rfl) ?_
  intro p l e s m args below meth c G h A C hst hX hex hr hlk _
  have eN : nn K = n := nn_eq hn h40; have eR : ix (B.2 0) = r := r_eq hb h30
  refine Z_aload_n C dX2_prop_0 rfl rfl ?_
  refine Z_get C K2 (v := .ref 1) 0 dX2_prop_1 rfl (by decide) g_106 rfl rfl ?_
  refine Z_iload_n C dX2_prop_4 rfl rfl ?_
  refine Z_callV C (ws' := twO ++ (stW 1 K ++ (stW 11 D ++ srW 21 B))) (st' := [.int (bI (hasB K x))]) (rest := []) [1, 2, 3, 4, 5, 6, 7, 8, 9, 10] (c_X1_has K x) m_X1_has K1 g_216 dX2_prop_5 rfl rfl rfl (outS 1 rfl (outS 10 rfl (outS 10 rfl (outR _ _ _)))) (NW := 25) rfl rfl rfl rfl rfl ⟨Nat.le_of_ble_eq_true rfl, Nat.le_of_ble_eq_true rfl⟩ ⟨Nat.le_of_ble_eq_true rfl, Nat.le_of_ble_eq_true rfl⟩ (Nat.le_of_ble_eq_true rfl) rfl ?_
  refine Z_if_ne C 21 dX2_prop_8 (by decide) (fun c1 => ?_) (fun c1 => ?_)
  · have c1 := bI_n0.mp c1
    refine Z_iload_n C dX2_prop_21 rfl rfl ?_
    refine Z_iconst C (v := 0) dX2_prop_22 (by decide) ?_
    refine Z_bipush C (v := 60) dX2_prop_23 (by decide) ?_
    refine Z_callS C (ws' := twO ++ (stW 1 K ++ (stW 11 D ++ srW 21 B))) (st' := [.int (bI (isInB v 0 60))]) (rest := []) [] (c_X2_isWithin v 0 60) m_X2_isWithin g_124 dX2_prop_25 rfl rfl rfl (outS 1 rfl (outS 10 rfl (outS 10 rfl (outR _ _ _)))) (NW := 25) rfl rfl rfl rfl ⟨Nat.le_of_ble_eq_true rfl, Nat.le_of_ble_eq_true rfl⟩ ⟨Nat.le_of_ble_eq_true rfl, Nat.le_of_ble_eq_true rfl⟩ (Nat.le_of_ble_eq_true rfl) rfl ?_
    refine Z_if_ne C 41 dX2_prop_28 (by decide) (fun c2 => ?_) (fun c2 => ?_)
    · have c2 := bI_n0.mp c2
      refine Z_aload_n C dX2_prop_41 rfl rfl ?_
      refine Z_get C K2 (v := .ref 1) 0 dX2_prop_42 rfl (by decide) g_106 rfl rfl ?_
      refine Z_iload_n C dX2_prop_45 rfl rfl ?_
      refine Z_callV C (ws' := twO ++ (stW 1 K ++ (stW 11 D ++ srW 21 B))) (st' := [.int (bI (hangsB K x))]) (rest := []) [1, 2, 3, 4, 5, 6, 7, 8, 9, 10] (c_X1_isHanging K x hn h40) m_X1_isHanging K1 g_218 dX2_prop_46 rfl rfl rfl (outS 1 rfl (outS 10 rfl (outS 10 rfl (outR _ _ _)))) (NW := 25) rfl rfl rfl rfl rfl ⟨Nat.le_of_ble_eq_true rfl, Nat.le_of_ble_eq_true rfl⟩ ⟨Nat.le_of_ble_eq_true rfl, Nat.le_of_ble_eq_true rfl⟩ (Nat.le_of_ble_eq_true rfl) rfl ?_
      refine Z_if_ne C 62 dX2_prop_49 (by decide) (fun c3 => ?_) (fun c3 => ?_)
      · have c3 := bI_n0.mp c3
        refine Z_aload_n C dX2_prop_62 rfl rfl ?_
        refine Z_get C K2 (v := .ref 1) 0 dX2_prop_63 rfl (by decide) g_106 rfl rfl ?_
        refine Z_getN C K1 (v := .int (K.2.2.1 1)) 10 dX2_prop_66 rfl (by decide) (show Cond.fieldLinkNest RX2 81 RX1 "hanging" "I" RX2 ∈ nW by simp [nW]) rfl rfl ?_
        refine Z_istore_n C (L' := [(3, .int (K.2.2.1 1)), (0, .ref 0), (1, .int x), (2, .int v)]) dX2_prop_69 rfl (by decide) rfl ?_
        refine Z_aload_n C dX2_prop_70 rfl rfl ?_
        refine Z_get C K2 (v := .ref 1) 0 dX2_prop_71 rfl (by decide) g_106 rfl rfl ?_
        refine Z_iload_n C dX2_prop_74 rfl rfl ?_
        refine Z_iload_n C dX2_prop_75 rfl rfl ?_
        refine Z_callV C (ws' := twO ++ (stW 1 (setProp K x v) ++ (stW 11 D ++ srW 21 B))) (st' := []) (rest := []) [1, 2, 3, 4, 5, 6, 7, 8, 9, 10] (c_X1_setProp K x v hn h40) m_X1_setProp K1 g_526 dX2_prop_76 rfl rfl rfl (outS 1 rfl (outI 10 rfl rfl rfl (outS 10 rfl (outR _ _ _)))) (NW := 25) rfl rfl rfl rfl rfl ⟨Nat.le_of_ble_eq_true rfl, Nat.le_of_ble_eq_true rfl⟩ ⟨Nat.le_of_ble_eq_true rfl, Nat.le_of_ble_eq_true rfl⟩ (Nat.le_of_ble_eq_true rfl) rfl ?_
        refine Z_ws (fun X1 => twO ++ (stW 1 X1 ++ (stW 11 D ++ srW 21 B))) (setProp K x v) (fun X1 eX1 => ?_)
        refine Z_aload_n C dX2_prop_79 rfl rfl ?_
        refine Z_get C K2 (v := .ref 1) 0 dX2_prop_80 rfl (by decide) g_106 rfl rfl ?_
        refine Z_callV C (ws' := twO ++ (stW 1 (giveWay X1) ++ (stW 11 D ++ srW 21 B))) (st' := []) (rest := []) [1, 2, 3, 4, 5, 6, 7, 8, 9, 10] (c_X1_giveWay X1 (show X1.2.2.1 0 = nI _ from by rw [eX1]; exact ((hk_setProp K x v).trans hn)) h40) m_X1_giveWay K1 g_510 dX2_prop_83 rfl rfl rfl (outS 1 rfl (outI 10 rfl rfl rfl (outS 10 rfl (outR _ _ _)))) (NW := 25) rfl rfl rfl rfl rfl ⟨Nat.le_of_ble_eq_true rfl, Nat.le_of_ble_eq_true rfl⟩ ⟨Nat.le_of_ble_eq_true rfl, Nat.le_of_ble_eq_true rfl⟩ (Nat.le_of_ble_eq_true rfl) rfl ?_
        refine Z_ws (fun X2 => twO ++ (stW 1 X2 ++ (stW 11 D ++ srW 21 B))) (giveWay X1) (fun X2 eX2 => ?_)
        refine Z_iload_n C dX2_prop_86 rfl rfl ?_
        refine Z_aload_n C dX2_prop_87 rfl rfl ?_
        refine Z_get C K2 (v := .ref 1) 0 dX2_prop_88 rfl (by decide) g_106 rfl rfl ?_
        refine Z_getN C K1 (v := .int (X2.2.2.1 1)) 10 dX2_prop_91 rfl (by decide) (show Cond.fieldLinkNest RX2 81 RX1 "hanging" "I" RX2 ∈ nW by simp [nW]) rfl rfl ?_
        refine Z_isub C (v := (K.2.2.1 1) - (X2.2.2.1 1)) dX2_prop_94 rfl ?_
        exact Z_widen (Nat.le_of_ble_eq_true rfl) (Nat.le_of_ble_eq_true rfl) (Z_iretX C hr hlk dX2_prop_95 (show (cProp K x v).1 = none from by subst eX1 eX2; simp [cProp, c1, c2, c3, eN, eR, bI]) (congrArg (fun z => some (Value.int z)) (show ((cProp K x v).2.1) = ((K.2.2.1 1) - (X2.2.2.1 1)) from by subst eX1 eX2; simp [cProp, c1, c2, c3, eN, eR, bI])) (by rw [show ((cProp K x v).2.2) = X2 from by subst eX1 eX2; simp [cProp, c1, c2, c3, eN, eR, bI]]))
      · have c3 := bI_0.mp c3
        exact Z_throw C hst hX hex hlk atX_49 (text := "it has fallen") (by simp [strsX]) dX2_prop_52 dX2_prop_55 dX2_prop_56 dX2_prop_58 dX2_prop_61 ⟨Nat.le_of_ble_eq_true rfl, Nat.le_of_ble_eq_true rfl⟩ ⟨Nat.le_of_ble_eq_true rfl, Nat.le_of_ble_eq_true rfl⟩ (Nat.le_of_ble_eq_true rfl) (Nat.le_of_ble_eq_true rfl) (show (cProp K x v).1 = some "java/lang/IllegalStateException" from by simp [cProp, c1, c2, c3, eN, eR, bI]) (by rw [show ((cProp K x v).2.2) = K from by simp [cProp, c1, c2, c3, eN, eR, bI]])
    · have c2 := bI_0.mp c2
      exact Z_throw C hst hX hex hlk atX_38 (text := "no such prop") (by simp [strsX]) dX2_prop_31 dX2_prop_34 dX2_prop_35 dX2_prop_37 dX2_prop_40 ⟨Nat.le_of_ble_eq_true rfl, Nat.le_of_ble_eq_true rfl⟩ ⟨Nat.le_of_ble_eq_true rfl, Nat.le_of_ble_eq_true rfl⟩ (Nat.le_of_ble_eq_true rfl) (Nat.le_of_ble_eq_true rfl) (show (cProp K x v).1 = some "java/lang/IllegalArgumentException" from by simp [cProp, c1, c2, eN, eR, bI]) (by rw [show ((cProp K x v).2.2) = K from by simp [cProp, c1, c2, eN, eR, bI]])
  · have c1 := bI_0.mp c1
    exact Z_throw C hst hX hex hlk atX_67 (text := "no such stone") (by simp [strsX]) dX2_prop_11 dX2_prop_14 dX2_prop_15 dX2_prop_17 dX2_prop_20 ⟨Nat.le_of_ble_eq_true rfl, Nat.le_of_ble_eq_true rfl⟩ ⟨Nat.le_of_ble_eq_true rfl, Nat.le_of_ble_eq_true rfl⟩ (Nat.le_of_ble_eq_true rfl) (Nat.le_of_ble_eq_true rfl) (show (cProp K x v).1 = some "java/lang/IndexOutOfBoundsException" from by simp [cProp, c1, eN, eR, bI]) (by rw [show ((cProp K x v).2.2) = K from by simp [cProp, c1, eN, eR, bI]])
set_option maxHeartbeats 4000000 in
set_option maxRecDepth 20000 in
theorem c_X2_renew (K : St) (D : St) (B : Sr) (x : Int32) (v : Int32) {n : Nat} (hn : K.2.2.1 0 = nI n) (h40 : n ≤ 40) {r : Nat} (hb : B.2 0 = nI r) (h30 : r ≤ 30) : CTX yX2_renew cX2_renew 4 (some .int) 6 1 6 [.ref 0, .int x, .int v] (twO ++ (stW 1 K ++ (stW 11 D ++ srW 21 B))) ((cRenew K x v).1) (some (.int ((cRenew K x v).2.1))) (twO ++ (stW 1 ((cRenew K x v).2.2) ++ (stW 11 D ++ srW 21 B))) := by
  refine CTX_of (L := [(0, .ref 0), (1, .int x), (2, .int v)]) (by decide) (fun _ => rfl) (fun _ => Nat.le_of_ble_eq_true rfl) ?_
  intro p l e s m args below meth c G h A C hst hX hex hr hlk _
  have eN : nn K = n := nn_eq hn h40; have eR : ix (B.2 0) = r := r_eq hb h30
  refine Z_aload_n C dX2_renew_0 rfl rfl ?_
  refine Z_get C K2 (v := .ref 1) 0 dX2_renew_1 rfl (by decide) g_106 rfl rfl ?_
  refine Z_iload_n C dX2_renew_4 rfl rfl ?_
  refine Z_callV C (ws' := twO ++ (stW 1 K ++ (stW 11 D ++ srW 21 B))) (st' := [.int (bI (hasB K x))]) (rest := []) [1, 2, 3, 4, 5, 6, 7, 8, 9, 10] (c_X1_has K x) m_X1_has K1 g_216 dX2_renew_5 rfl rfl rfl (outS 1 rfl (outS 10 rfl (outS 10 rfl (outR _ _ _)))) (NW := 25) rfl rfl rfl rfl rfl ⟨Nat.le_of_ble_eq_true rfl, Nat.le_of_ble_eq_true rfl⟩ ⟨Nat.le_of_ble_eq_true rfl, Nat.le_of_ble_eq_true rfl⟩ (Nat.le_of_ble_eq_true rfl) rfl ?_
  refine Z_if_ne C 21 dX2_renew_8 (by decide) (fun c1 => ?_) (fun c1 => ?_)
  · have c1 := bI_n0.mp c1
    obtain ⟨j, hj, rfl⟩ := has_ix hn h40 c1
    have ej : ix (nI j) = j := ix_nI (by omega)
    refine Z_iload_n C dX2_renew_21 rfl rfl ?_
    refine Z_iconst C (v := 1) dX2_renew_22 (by decide) ?_
    refine Z_sipush C (v := 200) dX2_renew_23 (by decide) ?_
    refine Z_callS C (ws' := twO ++ (stW 1 K ++ (stW 11 D ++ srW 21 B))) (st' := [.int (bI (isInB v 1 200))]) (rest := []) [] (c_X2_isWithin v 1 200) m_X2_isWithin g_124 dX2_renew_26 rfl rfl rfl (outS 1 rfl (outS 10 rfl (outS 10 rfl (outR _ _ _)))) (NW := 25) rfl rfl rfl rfl ⟨Nat.le_of_ble_eq_true rfl, Nat.le_of_ble_eq_true rfl⟩ ⟨Nat.le_of_ble_eq_true rfl, Nat.le_of_ble_eq_true rfl⟩ (Nat.le_of_ble_eq_true rfl) rfl ?_
    refine Z_if_ne C 42 dX2_renew_29 (by decide) (fun c2 => ?_) (fun c2 => ?_)
    · have c2 := bI_n0.mp c2
      refine Z_aload_n C dX2_renew_42 rfl rfl ?_
      refine Z_get C K2 (v := .ref 1) 0 dX2_renew_43 rfl (by decide) g_106 rfl rfl ?_
      refine Z_iload_n C dX2_renew_46 rfl rfl ?_
      refine Z_callV C (ws' := twO ++ (stW 1 K ++ (stW 11 D ++ srW 21 B))) (st' := [.int (bI (hasSpellB K (nI j)))]) (rest := []) [1, 2, 3, 4, 5, 6, 7, 8, 9, 10] (c_X1_hasSpell K (nI j) hn h40) m_X1_hasSpell K1 g_536 dX2_renew_47 rfl rfl rfl (outS 1 rfl (outS 10 rfl (outS 10 rfl (outR _ _ _)))) (NW := 25) rfl rfl rfl rfl rfl ⟨Nat.le_of_ble_eq_true rfl, Nat.le_of_ble_eq_true rfl⟩ ⟨Nat.le_of_ble_eq_true rfl, Nat.le_of_ble_eq_true rfl⟩ (Nat.le_of_ble_eq_true rfl) rfl ?_
      refine Z_if_eq C 66 dX2_renew_50 (by decide) (fun c3 => ?_) (fun c3 => ?_)
      · have c3 := bI_0.mp c3
        exact Z_throw C hst hX hex hlk atX_49 (text := "it does not hang by a spell, or the power is less than its load") (by simp [strsX]) dX2_renew_66 dX2_renew_69 dX2_renew_70 dX2_renew_72 dX2_renew_75 ⟨Nat.le_of_ble_eq_true rfl, Nat.le_of_ble_eq_true rfl⟩ ⟨Nat.le_of_ble_eq_true rfl, Nat.le_of_ble_eq_true rfl⟩ (Nat.le_of_ble_eq_true rfl) (Nat.le_of_ble_eq_true rfl) (show (cRenew K (nI j) v).1 = some "java/lang/IllegalStateException" from by simp [cRenew, c1, ej, c2, c3, eN, eR, bI]) (by rw [show ((cRenew K (nI j) v).2.2) = K from by simp [cRenew, c1, ej, c2, c3, eN, eR, bI]])
      · have c3 := bI_n0.mp c3
        refine Z_iload_n C dX2_renew_53 rfl rfl ?_
        refine Z_aload_n C dX2_renew_54 rfl rfl ?_
        refine Z_get C K2 (v := .ref 1) 0 dX2_renew_55 rfl (by decide) g_106 rfl rfl ?_
        refine Z_getN C K1 (v := .ref 9) 7 dX2_renew_58 rfl (by decide) (show Cond.fieldLinkNest RX2 94 RX1 "load" "[I" RX2 ∈ nW by simp [nW]) rfl rfl ?_
        refine Z_iload_n C dX2_renew_61 rfl rfl ?_
        refine Z_iaN C (v := K.1 6 j) dX2_renew_62 rfl (by omega) (by decide) rfl ?_
        refine Z_icmp_ge C 76 dX2_renew_63 (by decide) (fun c4 => ?_) (fun c4 => ?_)
        · refine Z_aload_n C dX2_renew_76 rfl rfl ?_
          refine Z_get C K2 (v := .ref 1) 0 dX2_renew_77 rfl (by decide) g_106 rfl rfl ?_
          refine Z_getN C K1 (v := .ref 5) 3 dX2_renew_80 rfl (by decide) (show Cond.fieldLinkNest RX2 100 RX1 "power" "[I" RX2 ∈ nW by simp [nW]) rfl rfl ?_
          refine Z_iload_n C dX2_renew_83 rfl rfl ?_
          refine Z_iaN C (v := K.1 3 j) dX2_renew_84 rfl (by omega) (by decide) rfl ?_
          refine Z_istore_n C (L' := [(3, .int (K.1 3 j)), (0, .ref 0), (1, .int (nI j)), (2, .int v)]) dX2_renew_85 rfl (by decide) rfl ?_
          refine Z_aload_n C dX2_renew_86 rfl rfl ?_
          refine Z_get C K2 (v := .ref 1) 0 dX2_renew_87 rfl (by decide) g_106 rfl rfl ?_
          refine Z_getN C K1 (v := .ref 5) 3 dX2_renew_90 rfl (by decide) (show Cond.fieldLinkNest RX2 100 RX1 "power" "[I" RX2 ∈ nW by simp [nW]) rfl rfl ?_
          refine Z_iload_n C dX2_renew_93 rfl rfl ?_
          refine Z_iload_n C dX2_renew_94 rfl rfl ?_
          refine Z_isN C (ws' := twO ++ (stW 1 (uA K 3 j v) ++ (stW 11 D ++ srW 21 B))) dX2_renew_95 rfl (by omega) (by decide) rfl ?_
          refine Z_iload_n C dX2_renew_96 rfl rfl ?_
          exact Z_widen (Nat.le_of_ble_eq_true rfl) (Nat.le_of_ble_eq_true rfl) (Z_iretX C hr hlk dX2_renew_97 (show (cRenew K (nI j) v).1 = none from by simp [cRenew, c1, ej, c2, c3, c4, eN, eR, bI]) (congrArg (fun z => some (Value.int z)) (show ((cRenew K (nI j) v).2.1) = (K.1 3 j) from by simp [cRenew, c1, ej, c2, c3, c4, eN, eR, bI])) (by rw [show ((cRenew K (nI j) v).2.2) = (uA K 3 j v) from by simp [cRenew, c1, ej, c2, c3, c4, eN, eR, bI]]))
        · exact Z_throw C hst hX hex hlk atX_49 (text := "it does not hang by a spell, or the power is less than its load") (by simp [strsX]) dX2_renew_66 dX2_renew_69 dX2_renew_70 dX2_renew_72 dX2_renew_75 ⟨Nat.le_of_ble_eq_true rfl, Nat.le_of_ble_eq_true rfl⟩ ⟨Nat.le_of_ble_eq_true rfl, Nat.le_of_ble_eq_true rfl⟩ (Nat.le_of_ble_eq_true rfl) (Nat.le_of_ble_eq_true rfl) (show (cRenew K (nI j) v).1 = some "java/lang/IllegalStateException" from by simp [cRenew, c1, ej, c2, c3, c4, eN, eR, bI]) (by rw [show ((cRenew K (nI j) v).2.2) = K from by simp [cRenew, c1, ej, c2, c3, c4, eN, eR, bI]])
    · have c2 := bI_0.mp c2
      exact Z_throw C hst hX hex hlk atX_38 (text := "no such power") (by simp [strsX]) dX2_renew_32 dX2_renew_35 dX2_renew_36 dX2_renew_38 dX2_renew_41 ⟨Nat.le_of_ble_eq_true rfl, Nat.le_of_ble_eq_true rfl⟩ ⟨Nat.le_of_ble_eq_true rfl, Nat.le_of_ble_eq_true rfl⟩ (Nat.le_of_ble_eq_true rfl) (Nat.le_of_ble_eq_true rfl) (show (cRenew K (nI j) v).1 = some "java/lang/IllegalArgumentException" from by simp [cRenew, c1, ej, c2, eN, eR, bI]) (by rw [show ((cRenew K (nI j) v).2.2) = K from by simp [cRenew, c1, ej, c2, eN, eR, bI]])
  · have c1 := bI_0.mp c1
    exact Z_throw C hst hX hex hlk atX_67 (text := "no such stone") (by simp [strsX]) dX2_renew_11 dX2_renew_14 dX2_renew_15 dX2_renew_17 dX2_renew_20 ⟨Nat.le_of_ble_eq_true rfl, Nat.le_of_ble_eq_true rfl⟩ ⟨Nat.le_of_ble_eq_true rfl, Nat.le_of_ble_eq_true rfl⟩ (Nat.le_of_ble_eq_true rfl) (Nat.le_of_ble_eq_true rfl) (show (cRenew K x v).1 = some "java/lang/IndexOutOfBoundsException" from by simp [cRenew, c1, eN, eR, bI]) (by rw [show ((cRenew K x v).2.2) = K from by simp [cRenew, c1, eN, eR, bI]])
set_option maxHeartbeats 4000000 in
set_option maxRecDepth 20000 in
theorem c_X2_stair (K : St) (D : St) (B : Sr) (a : Int32) (d : Int32) {n : Nat} (hn : K.2.2.1 0 = nI n) (h40 : n ≤ 40) {r : Nat} (hb : B.2 0 = nI r) (h30 : r ≤ 30) : CTX yX2_stair cX2_stair 3 (some .int) 6 1 6 [.ref 0, .int a, .int d] (twO ++ (stW 1 K ++ (stW 11 D ++ srW 21 B))) ((cStair K B a d).1) (some (.int ((cStair K B a d).2.1))) (twO ++ (stW 1 K ++ (stW 11 D ++ srW 21 ((cStair K B a d).2.2)))) := by
  refine CTX_of (L := [(0, .ref 0), (1, .int a), (2, .int d)]) (by decide) (fun _ => rfl) (fun _ => Nat.le_of_ble_eq_true rfl) ?_
  intro p l e s m args below meth c G h A C hst hX hex hr hlk _
  have eN : nn K = n := nn_eq hn h40; have eR : ix (B.2 0) = r := r_eq hb h30
  refine Z_aload_n C dX2_stair_0 rfl rfl ?_
  refine Z_get C K2 (v := .ref 1) 0 dX2_stair_1 rfl (by decide) g_106 rfl rfl ?_
  refine Z_iload_n C dX2_stair_4 rfl rfl ?_
  refine Z_callV C (ws' := twO ++ (stW 1 K ++ (stW 11 D ++ srW 21 B))) (st' := [.int (bI (hasB K a))]) (rest := []) [1, 2, 3, 4, 5, 6, 7, 8, 9, 10] (c_X1_has K a) m_X1_has K1 g_216 dX2_stair_5 rfl rfl rfl (outS 1 rfl (outS 10 rfl (outS 10 rfl (outR _ _ _)))) (NW := 25) rfl rfl rfl rfl rfl ⟨Nat.le_of_ble_eq_true rfl, Nat.le_of_ble_eq_true rfl⟩ ⟨Nat.le_of_ble_eq_true rfl, Nat.le_of_ble_eq_true rfl⟩ (Nat.le_of_ble_eq_true rfl) rfl ?_
  refine Z_if_eq C 22 dX2_stair_8 (by decide) (fun c1 => ?_) (fun c1 => ?_)
  · have c1 := bI_0.mp c1
    exact Z_throw C hst hX hex hlk atX_67 (text := "no such stone") (by simp [strsX]) dX2_stair_22 dX2_stair_25 dX2_stair_26 dX2_stair_28 dX2_stair_31 ⟨Nat.le_of_ble_eq_true rfl, Nat.le_of_ble_eq_true rfl⟩ ⟨Nat.le_of_ble_eq_true rfl, Nat.le_of_ble_eq_true rfl⟩ (Nat.le_of_ble_eq_true rfl) (Nat.le_of_ble_eq_true rfl) (show (cStair K B a d).1 = some "java/lang/IndexOutOfBoundsException" from by simp [cStair, c1, eN, eR, bI]) (by rw [show ((cStair K B a d).2.2) = B from by simp [cStair, c1, eN, eR, bI]])
  · have c1 := bI_n0.mp c1
    refine Z_aload_n C dX2_stair_11 rfl rfl ?_
    refine Z_get C K2 (v := .ref 1) 0 dX2_stair_12 rfl (by decide) g_106 rfl rfl ?_
    refine Z_iload_n C dX2_stair_15 rfl rfl ?_
    refine Z_callV C (ws' := twO ++ (stW 1 K ++ (stW 11 D ++ srW 21 B))) (st' := [.int (bI (hasB K d))]) (rest := []) [1, 2, 3, 4, 5, 6, 7, 8, 9, 10] (c_X1_has K d) m_X1_has K1 g_216 dX2_stair_16 rfl rfl rfl (outS 1 rfl (outS 10 rfl (outS 10 rfl (outR _ _ _)))) (NW := 25) rfl rfl rfl rfl rfl ⟨Nat.le_of_ble_eq_true rfl, Nat.le_of_ble_eq_true rfl⟩ ⟨Nat.le_of_ble_eq_true rfl, Nat.le_of_ble_eq_true rfl⟩ (Nat.le_of_ble_eq_true rfl) rfl ?_
    refine Z_if_ne C 32 dX2_stair_19 (by decide) (fun c2 => ?_) (fun c2 => ?_)
    · have c2 := bI_n0.mp c2
      refine Z_iload_n C dX2_stair_32 rfl rfl ?_
      refine Z_iload_n C dX2_stair_33 rfl rfl ?_
      refine Z_icmp_ne C 47 dX2_stair_34 (by decide) (fun c3 => ?_) (fun c3 => ?_)
      · refine Z_aload_n C dX2_stair_47 rfl rfl ?_
        refine Z_get C K2 (v := .ref 21) 2 dX2_stair_48 rfl (by decide) g_108 rfl rfl ?_
        refine Z_callV C (ws' := twO ++ (stW 1 K ++ (stW 11 D ++ srW 21 B))) (st' := [.int (bI (fullR B))]) (rest := []) [21, 22, 23, 24] (c_X0_isFull B) m_X0_isFull K0 g_547 dX2_stair_51 rfl rfl rfl (outS 1 rfl (outS 10 rfl (outS 10 rfl (outR _ _ _)))) (NW := 25) rfl rfl rfl rfl rfl ⟨Nat.le_of_ble_eq_true rfl, Nat.le_of_ble_eq_true rfl⟩ ⟨Nat.le_of_ble_eq_true rfl, Nat.le_of_ble_eq_true rfl⟩ (Nat.le_of_ble_eq_true rfl) rfl ?_
        refine Z_if_ne C 79 dX2_stair_54 (by decide) (fun c4 => ?_) (fun c4 => ?_)
        · have c4 := bI_n0.mp c4
          exact Z_throw C hst hX hex hlk atX_49 (text := "no more stairs, or one of them has fallen") (by simp [strsX]) dX2_stair_79 dX2_stair_82 dX2_stair_83 dX2_stair_85 dX2_stair_88 ⟨Nat.le_of_ble_eq_true rfl, Nat.le_of_ble_eq_true rfl⟩ ⟨Nat.le_of_ble_eq_true rfl, Nat.le_of_ble_eq_true rfl⟩ (Nat.le_of_ble_eq_true rfl) (Nat.le_of_ble_eq_true rfl) (show (cStair K B a d).1 = some "java/lang/IllegalStateException" from by simp [cStair, c1, c2, c3, c4, eN, eR, bI]) (by rw [show ((cStair K B a d).2.2) = B from by simp [cStair, c1, c2, c3, c4, eN, eR, bI]])
        · have c4 := bI_0.mp c4
          refine Z_aload_n C dX2_stair_57 rfl rfl ?_
          refine Z_get C K2 (v := .ref 1) 0 dX2_stair_58 rfl (by decide) g_106 rfl rfl ?_
          refine Z_iload_n C dX2_stair_61 rfl rfl ?_
          refine Z_callV C (ws' := twO ++ (stW 1 K ++ (stW 11 D ++ srW 21 B))) (st' := [.int (bI (hangsB K a))]) (rest := []) [1, 2, 3, 4, 5, 6, 7, 8, 9, 10] (c_X1_isHanging K a hn h40) m_X1_isHanging K1 g_218 dX2_stair_62 rfl rfl rfl (outS 1 rfl (outS 10 rfl (outS 10 rfl (outR _ _ _)))) (NW := 25) rfl rfl rfl rfl rfl ⟨Nat.le_of_ble_eq_true rfl, Nat.le_of_ble_eq_true rfl⟩ ⟨Nat.le_of_ble_eq_true rfl, Nat.le_of_ble_eq_true rfl⟩ (Nat.le_of_ble_eq_true rfl) rfl ?_
          refine Z_if_eq C 79 dX2_stair_65 (by decide) (fun c5 => ?_) (fun c5 => ?_)
          · have c5 := bI_0.mp c5
            exact Z_throw C hst hX hex hlk atX_49 (text := "no more stairs, or one of them has fallen") (by simp [strsX]) dX2_stair_79 dX2_stair_82 dX2_stair_83 dX2_stair_85 dX2_stair_88 ⟨Nat.le_of_ble_eq_true rfl, Nat.le_of_ble_eq_true rfl⟩ ⟨Nat.le_of_ble_eq_true rfl, Nat.le_of_ble_eq_true rfl⟩ (Nat.le_of_ble_eq_true rfl) (Nat.le_of_ble_eq_true rfl) (show (cStair K B a d).1 = some "java/lang/IllegalStateException" from by simp [cStair, c1, c2, c3, c4, c5, eN, eR, bI]) (by rw [show ((cStair K B a d).2.2) = B from by simp [cStair, c1, c2, c3, c4, c5, eN, eR, bI]])
          · have c5 := bI_n0.mp c5
            refine Z_aload_n C dX2_stair_68 rfl rfl ?_
            refine Z_get C K2 (v := .ref 1) 0 dX2_stair_69 rfl (by decide) g_106 rfl rfl ?_
            refine Z_iload_n C dX2_stair_72 rfl rfl ?_
            refine Z_callV C (ws' := twO ++ (stW 1 K ++ (stW 11 D ++ srW 21 B))) (st' := [.int (bI (hangsB K d))]) (rest := []) [1, 2, 3, 4, 5, 6, 7, 8, 9, 10] (c_X1_isHanging K d hn h40) m_X1_isHanging K1 g_218 dX2_stair_73 rfl rfl rfl (outS 1 rfl (outS 10 rfl (outS 10 rfl (outR _ _ _)))) (NW := 25) rfl rfl rfl rfl rfl ⟨Nat.le_of_ble_eq_true rfl, Nat.le_of_ble_eq_true rfl⟩ ⟨Nat.le_of_ble_eq_true rfl, Nat.le_of_ble_eq_true rfl⟩ (Nat.le_of_ble_eq_true rfl) rfl ?_
            refine Z_if_ne C 89 dX2_stair_76 (by decide) (fun c6 => ?_) (fun c6 => ?_)
            · have c6 := bI_n0.mp c6
              have hl := fullR_lt hb h30 c4
              refine Z_aload_n C dX2_stair_89 rfl rfl ?_
              refine Z_get C K2 (v := .ref 21) 2 dX2_stair_90 rfl (by decide) g_108 rfl rfl ?_
              refine Z_iload_n C dX2_stair_93 rfl rfl ?_
              refine Z_iload_n C dX2_stair_94 rfl rfl ?_
              refine Z_callV C (ws' := twO ++ (stW 1 K ++ (stW 11 D ++ srW 21 (addR B r a d)))) (st' := [.int (nI r)]) (rest := []) [21, 22, 23, 24] (c_X0_add B a d hb hl) m_X0_add K0 g_552 dX2_stair_95 rfl rfl rfl (outS 1 rfl (outS 10 rfl (outS 10 rfl (outL 4 rfl rfl rfl)))) (NW := 25) rfl rfl rfl rfl rfl ⟨Nat.le_of_ble_eq_true rfl, Nat.le_of_ble_eq_true rfl⟩ ⟨Nat.le_of_ble_eq_true rfl, Nat.le_of_ble_eq_true rfl⟩ (Nat.le_of_ble_eq_true rfl) rfl ?_
              refine Z_ws (fun X1 => twO ++ (stW 1 K ++ (stW 11 D ++ srW 21 X1))) (addR B r a d) (fun X1 eX1 => ?_)
              exact Z_widen (Nat.le_of_ble_eq_true rfl) (Nat.le_of_ble_eq_true rfl) (Z_iretX C hr hlk dX2_stair_98 (show (cStair K B a d).1 = none from by subst eX1; simp [cStair, c1, c2, c3, c4, c5, c6, eN, eR, bI]) (congrArg (fun z => some (Value.int z)) (show ((cStair K B a d).2.1) = (nI r) from by subst eX1; simp [cStair, c1, c2, c3, c4, c5, c6, eN, eR, bI])) (by rw [show ((cStair K B a d).2.2) = X1 from by subst eX1; simp [cStair, c1, c2, c3, c4, c5, c6, eN, eR, bI]]))
            · have c6 := bI_0.mp c6
              exact Z_throw C hst hX hex hlk atX_49 (text := "no more stairs, or one of them has fallen") (by simp [strsX]) dX2_stair_79 dX2_stair_82 dX2_stair_83 dX2_stair_85 dX2_stair_88 ⟨Nat.le_of_ble_eq_true rfl, Nat.le_of_ble_eq_true rfl⟩ ⟨Nat.le_of_ble_eq_true rfl, Nat.le_of_ble_eq_true rfl⟩ (Nat.le_of_ble_eq_true rfl) (Nat.le_of_ble_eq_true rfl) (show (cStair K B a d).1 = some "java/lang/IllegalStateException" from by simp [cStair, c1, c2, c3, c4, c5, c6, eN, eR, bI]) (by rw [show ((cStair K B a d).2.2) = B from by simp [cStair, c1, c2, c3, c4, c5, c6, eN, eR, bI]])
      · exact Z_throw C hst hX hex hlk atX_38 (text := "both are the same") (by simp [strsX]) dX2_stair_37 dX2_stair_40 dX2_stair_41 dX2_stair_43 dX2_stair_46 ⟨Nat.le_of_ble_eq_true rfl, Nat.le_of_ble_eq_true rfl⟩ ⟨Nat.le_of_ble_eq_true rfl, Nat.le_of_ble_eq_true rfl⟩ (Nat.le_of_ble_eq_true rfl) (Nat.le_of_ble_eq_true rfl) (show (cStair K B a d).1 = some "java/lang/IllegalArgumentException" from by simp [cStair, c1, c2, c3, eN, eR, bI]) (by rw [show ((cStair K B a d).2.2) = B from by simp [cStair, c1, c2, c3, eN, eR, bI]])
    · have c2 := bI_0.mp c2
      exact Z_throw C hst hX hex hlk atX_67 (text := "no such stone") (by simp [strsX]) dX2_stair_22 dX2_stair_25 dX2_stair_26 dX2_stair_28 dX2_stair_31 ⟨Nat.le_of_ble_eq_true rfl, Nat.le_of_ble_eq_true rfl⟩ ⟨Nat.le_of_ble_eq_true rfl, Nat.le_of_ble_eq_true rfl⟩ (Nat.le_of_ble_eq_true rfl) (Nat.le_of_ble_eq_true rfl) (show (cStair K B a d).1 = some "java/lang/IndexOutOfBoundsException" from by simp [cStair, c1, c2, eN, eR, bI]) (by rw [show ((cStair K B a d).2.2) = B from by simp [cStair, c1, c2, eN, eR, bI]])
set_option maxHeartbeats 4000000 in
set_option maxRecDepth 20000 in
theorem c_X2_swap (K : St) (D : St) (B : Sr) (a : Int32) (d : Int32) {n : Nat} (hn : K.2.2.1 0 = nI n) (h40 : n ≤ 40) {r : Nat} (hb : B.2 0 = nI r) (h30 : r ≤ 30) : CTX yX2_swap cX2_swap 3 (some .boolean) 6 1 6 [.ref 0, .int a, .int d] (twO ++ (stW 1 K ++ (stW 11 D ++ srW 21 B))) ((cSwap K B a d).1) (some (.int (bI (cSwap K B a d).2.1))) (twO ++ (stW 1 K ++ (stW 11 D ++ srW 21 ((cSwap K B a d).2.2)))) := by
  refine CTX_of (L := [(0, .ref 0), (1, .int a), (2, .int d)]) (by decide) (fun _ => rfl) (fun _ => Nat.le_of_ble_eq_true rfl) ?_
  intro p l e s m args below meth c G h A C hst hX hex hr hlk _
  have eN : nn K = n := nn_eq hn h40; have eR : ix (B.2 0) = r := r_eq hb h30
  refine Z_aload_n C dX2_swap_0 rfl rfl ?_
  refine Z_get C K2 (v := .ref 21) 2 dX2_swap_1 rfl (by decide) g_108 rfl rfl ?_
  refine Z_iload_n C dX2_swap_4 rfl rfl ?_
  refine Z_callV C (ws' := twO ++ (stW 1 K ++ (stW 11 D ++ srW 21 B))) (st' := [.int (bI (hasR B a))]) (rest := []) [21, 22, 23, 24] (c_X0_has B a) m_X0_has K0 g_120 dX2_swap_5 rfl rfl rfl (outS 1 rfl (outS 10 rfl (outS 10 rfl (outR _ _ _)))) (NW := 25) rfl rfl rfl rfl rfl ⟨Nat.le_of_ble_eq_true rfl, Nat.le_of_ble_eq_true rfl⟩ ⟨Nat.le_of_ble_eq_true rfl, Nat.le_of_ble_eq_true rfl⟩ (Nat.le_of_ble_eq_true rfl) rfl ?_
  refine Z_if_eq C 22 dX2_swap_8 (by decide) (fun c1 => ?_) (fun c1 => ?_)
  · have c1 := bI_0.mp c1
    exact Z_throw C hst hX hex hlk atX_67 (text := "no such stair") (by simp [strsX]) dX2_swap_22 dX2_swap_25 dX2_swap_26 dX2_swap_28 dX2_swap_31 ⟨Nat.le_of_ble_eq_true rfl, Nat.le_of_ble_eq_true rfl⟩ ⟨Nat.le_of_ble_eq_true rfl, Nat.le_of_ble_eq_true rfl⟩ (Nat.le_of_ble_eq_true rfl) (Nat.le_of_ble_eq_true rfl) (show (cSwap K B a d).1 = some "java/lang/IndexOutOfBoundsException" from by simp [cSwap, c1, eN, eR, bI]) (by rw [show ((cSwap K B a d).2.2) = B from by simp [cSwap, c1, eN, eR, bI]])
  · have c1 := bI_n0.mp c1
    refine Z_aload_n C dX2_swap_11 rfl rfl ?_
    refine Z_get C K2 (v := .ref 21) 2 dX2_swap_12 rfl (by decide) g_108 rfl rfl ?_
    refine Z_iload_n C dX2_swap_15 rfl rfl ?_
    refine Z_callV C (ws' := twO ++ (stW 1 K ++ (stW 11 D ++ srW 21 B))) (st' := [.int (bI (hasR B d))]) (rest := []) [21, 22, 23, 24] (c_X0_has B d) m_X0_has K0 g_120 dX2_swap_16 rfl rfl rfl (outS 1 rfl (outS 10 rfl (outS 10 rfl (outR _ _ _)))) (NW := 25) rfl rfl rfl rfl rfl ⟨Nat.le_of_ble_eq_true rfl, Nat.le_of_ble_eq_true rfl⟩ ⟨Nat.le_of_ble_eq_true rfl, Nat.le_of_ble_eq_true rfl⟩ (Nat.le_of_ble_eq_true rfl) rfl ?_
    refine Z_if_ne C 32 dX2_swap_19 (by decide) (fun c2 => ?_) (fun c2 => ?_)
    · have c2 := bI_n0.mp c2
      refine Z_iload_n C dX2_swap_32 rfl rfl ?_
      refine Z_iload_n C dX2_swap_33 rfl rfl ?_
      refine Z_icmp_ne C 47 dX2_swap_34 (by decide) (fun c3 => ?_) (fun c3 => ?_)
      · refine Z_aload_n C dX2_swap_47 rfl rfl ?_
        refine Z_get C K2 (v := .ref 21) 2 dX2_swap_48 rfl (by decide) g_108 rfl rfl ?_
        refine Z_iload_n C dX2_swap_51 rfl rfl ?_
        refine Z_aload_n C dX2_swap_52 rfl rfl ?_
        refine Z_get C K2 (v := .ref 1) 0 dX2_swap_53 rfl (by decide) g_106 rfl rfl ?_
        refine Z_callV C (ws' := twO ++ (stW 1 K ++ (stW 11 D ++ srW 21 B))) (st' := [.int (bI (goneR B K a))]) (rest := []) [21, 22, 23, 24, 1, 2, 3, 4, 5, 6, 7, 8, 9, 10] (c_X0_isGone B K a hb h30 hn h40) m_X0_isGone K0 g_562 dX2_swap_56 rfl rfl rfl (outS 1 rfl (outS 10 rfl (outS 10 rfl (outR _ _ _)))) (NW := 25) rfl rfl rfl rfl rfl ⟨Nat.le_of_ble_eq_true rfl, Nat.le_of_ble_eq_true rfl⟩ ⟨Nat.le_of_ble_eq_true rfl, Nat.le_of_ble_eq_true rfl⟩ (Nat.le_of_ble_eq_true rfl) rfl ?_
        refine Z_if_ne C 77 dX2_swap_59 (by decide) (fun c4 => ?_) (fun c4 => ?_)
        · have c4 := bI_n0.mp c4
          exact Z_throw C hst hX hex hlk atX_49 (text := "one of them is gone") (by simp [strsX]) dX2_swap_77 dX2_swap_80 dX2_swap_81 dX2_swap_83 dX2_swap_86 ⟨Nat.le_of_ble_eq_true rfl, Nat.le_of_ble_eq_true rfl⟩ ⟨Nat.le_of_ble_eq_true rfl, Nat.le_of_ble_eq_true rfl⟩ (Nat.le_of_ble_eq_true rfl) (Nat.le_of_ble_eq_true rfl) (show (cSwap K B a d).1 = some "java/lang/IllegalStateException" from by simp [cSwap, c1, c2, c3, c4, eN, eR, bI]) (by rw [show ((cSwap K B a d).2.2) = B from by simp [cSwap, c1, c2, c3, c4, eN, eR, bI]])
        · have c4 := bI_0.mp c4
          refine Z_aload_n C dX2_swap_62 rfl rfl ?_
          refine Z_get C K2 (v := .ref 21) 2 dX2_swap_63 rfl (by decide) g_108 rfl rfl ?_
          refine Z_iload_n C dX2_swap_66 rfl rfl ?_
          refine Z_aload_n C dX2_swap_67 rfl rfl ?_
          refine Z_get C K2 (v := .ref 1) 0 dX2_swap_68 rfl (by decide) g_106 rfl rfl ?_
          refine Z_callV C (ws' := twO ++ (stW 1 K ++ (stW 11 D ++ srW 21 B))) (st' := [.int (bI (goneR B K d))]) (rest := []) [21, 22, 23, 24, 1, 2, 3, 4, 5, 6, 7, 8, 9, 10] (c_X0_isGone B K d hb h30 hn h40) m_X0_isGone K0 g_562 dX2_swap_71 rfl rfl rfl (outS 1 rfl (outS 10 rfl (outS 10 rfl (outR _ _ _)))) (NW := 25) rfl rfl rfl rfl rfl ⟨Nat.le_of_ble_eq_true rfl, Nat.le_of_ble_eq_true rfl⟩ ⟨Nat.le_of_ble_eq_true rfl, Nat.le_of_ble_eq_true rfl⟩ (Nat.le_of_ble_eq_true rfl) rfl ?_
          refine Z_if_eq C 87 dX2_swap_74 (by decide) (fun c5 => ?_) (fun c5 => ?_)
          · have c5 := bI_0.mp c5
            refine Z_aload_n C dX2_swap_87 rfl rfl ?_
            refine Z_get C K2 (v := .ref 21) 2 dX2_swap_88 rfl (by decide) g_108 rfl rfl ?_
            refine Z_iload_n C dX2_swap_91 rfl rfl ?_
            refine Z_iload_n C dX2_swap_92 rfl rfl ?_
            refine Z_callV C (ws' := twO ++ (stW 1 K ++ (stW 11 D ++ srW 21 (swapP B a d)))) (st' := [.int (bI (swapB B a d))]) (rest := []) [21, 22, 23, 24] (c_X0_exchangeEnds B a d hb h30) m_X0_exchangeEnds K0 g_564 dX2_swap_93 rfl rfl rfl (outS 1 rfl (outS 10 rfl (outS 10 rfl (outL 4 rfl rfl rfl)))) (NW := 25) rfl rfl rfl rfl rfl ⟨Nat.le_of_ble_eq_true rfl, Nat.le_of_ble_eq_true rfl⟩ ⟨Nat.le_of_ble_eq_true rfl, Nat.le_of_ble_eq_true rfl⟩ (Nat.le_of_ble_eq_true rfl) rfl ?_
            refine Z_ws (fun X1 => twO ++ (stW 1 K ++ (stW 11 D ++ srW 21 X1))) (swapP B a d) (fun X1 eX1 => ?_)
            exact Z_widen (Nat.le_of_ble_eq_true rfl) (Nat.le_of_ble_eq_true rfl) (Z_zretX C hr hlk dX2_swap_96 (bI_nar _) (show (cSwap K B a d).1 = none from by subst eX1; simp [cSwap, c1, c2, c3, c4, c5, eN, eR, bI]) (congrArg (fun z => some (Value.int z)) (show (bI (cSwap K B a d).2.1) = (bI (swapB B a d)) from by subst eX1; simp [cSwap, c1, c2, c3, c4, c5, eN, eR, bI])) (by rw [show ((cSwap K B a d).2.2) = X1 from by subst eX1; simp [cSwap, c1, c2, c3, c4, c5, eN, eR, bI]]))
          · have c5 := bI_n0.mp c5
            exact Z_throw C hst hX hex hlk atX_49 (text := "one of them is gone") (by simp [strsX]) dX2_swap_77 dX2_swap_80 dX2_swap_81 dX2_swap_83 dX2_swap_86 ⟨Nat.le_of_ble_eq_true rfl, Nat.le_of_ble_eq_true rfl⟩ ⟨Nat.le_of_ble_eq_true rfl, Nat.le_of_ble_eq_true rfl⟩ (Nat.le_of_ble_eq_true rfl) (Nat.le_of_ble_eq_true rfl) (show (cSwap K B a d).1 = some "java/lang/IllegalStateException" from by simp [cSwap, c1, c2, c3, c4, c5, eN, eR, bI]) (by rw [show ((cSwap K B a d).2.2) = B from by simp [cSwap, c1, c2, c3, c4, c5, eN, eR, bI]])
      · exact Z_throw C hst hX hex hlk atX_38 (text := "both are the same") (by simp [strsX]) dX2_swap_37 dX2_swap_40 dX2_swap_41 dX2_swap_43 dX2_swap_46 ⟨Nat.le_of_ble_eq_true rfl, Nat.le_of_ble_eq_true rfl⟩ ⟨Nat.le_of_ble_eq_true rfl, Nat.le_of_ble_eq_true rfl⟩ (Nat.le_of_ble_eq_true rfl) (Nat.le_of_ble_eq_true rfl) (show (cSwap K B a d).1 = some "java/lang/IllegalArgumentException" from by simp [cSwap, c1, c2, c3, eN, eR, bI]) (by rw [show ((cSwap K B a d).2.2) = B from by simp [cSwap, c1, c2, c3, eN, eR, bI]])
    · have c2 := bI_0.mp c2
      exact Z_throw C hst hX hex hlk atX_67 (text := "no such stair") (by simp [strsX]) dX2_swap_22 dX2_swap_25 dX2_swap_26 dX2_swap_28 dX2_swap_31 ⟨Nat.le_of_ble_eq_true rfl, Nat.le_of_ble_eq_true rfl⟩ ⟨Nat.le_of_ble_eq_true rfl, Nat.le_of_ble_eq_true rfl⟩ (Nat.le_of_ble_eq_true rfl) (Nat.le_of_ble_eq_true rfl) (show (cSwap K B a d).1 = some "java/lang/IndexOutOfBoundsException" from by simp [cSwap, c1, c2, eN, eR, bI]) (by rw [show ((cSwap K B a d).2.2) = B from by simp [cSwap, c1, c2, eN, eR, bI]])
set_option maxHeartbeats 4000000 in
set_option maxRecDepth 20000 in
theorem c_X2_joins (K : St) (D : St) (B : Sr) (k : Int32) (w : Int32) {n : Nat} (hn : K.2.2.1 0 = nI n) (h40 : n ≤ 40) {r : Nat} (hb : B.2 0 = nI r) (h30 : r ≤ 30) : CTX yX2_joins cX2_joins 3 (some .int) 6 1 6 [.ref 0, .int k, .int w] (twO ++ (stW 1 K ++ (stW 11 D ++ srW 21 B))) ((cJoins K B k w).1) (some (.int ((cJoins K B k w).2))) (twO ++ (stW 1 K ++ (stW 11 D ++ srW 21 B))) := by
  refine CTX_of (L := [(0, .ref 0), (1, .int k), (2, .int w)]) (by decide) (fun _ => rfl) (fun _ => Nat.le_of_ble_eq_true rfl) ?_
  intro p l e s m args below meth c G h A C hst hX hex hr hlk _
  have eN : nn K = n := nn_eq hn h40; have eR : ix (B.2 0) = r := r_eq hb h30
  refine Z_aload_n C dX2_joins_0 rfl rfl ?_
  refine Z_get C K2 (v := .ref 21) 2 dX2_joins_1 rfl (by decide) g_108 rfl rfl ?_
  refine Z_iload_n C dX2_joins_4 rfl rfl ?_
  refine Z_callV C (ws' := twO ++ (stW 1 K ++ (stW 11 D ++ srW 21 B))) (st' := [.int (bI (hasR B k))]) (rest := []) [21, 22, 23, 24] (c_X0_has B k) m_X0_has K0 g_120 dX2_joins_5 rfl rfl rfl (outS 1 rfl (outS 10 rfl (outS 10 rfl (outR _ _ _)))) (NW := 25) rfl rfl rfl rfl rfl ⟨Nat.le_of_ble_eq_true rfl, Nat.le_of_ble_eq_true rfl⟩ ⟨Nat.le_of_ble_eq_true rfl, Nat.le_of_ble_eq_true rfl⟩ (Nat.le_of_ble_eq_true rfl) rfl ?_
  refine Z_if_eq C 20 dX2_joins_8 (by decide) (fun c1 => ?_) (fun c1 => ?_)
  · have c1 := bI_0.mp c1
    exact Z_throw C hst hX hex hlk atX_67 (text := "no such stair, or nothing to tell") (by simp [strsX]) dX2_joins_20 dX2_joins_23 dX2_joins_24 dX2_joins_26 dX2_joins_29 ⟨Nat.le_of_ble_eq_true rfl, Nat.le_of_ble_eq_true rfl⟩ ⟨Nat.le_of_ble_eq_true rfl, Nat.le_of_ble_eq_true rfl⟩ (Nat.le_of_ble_eq_true rfl) (Nat.le_of_ble_eq_true rfl) (show (cJoins K B k w).1 = some "java/lang/IndexOutOfBoundsException" from by simp [cJoins, c1, eN, eR, bI]) rfl
  · have c1 := bI_n0.mp c1
    refine Z_iload_n C dX2_joins_11 rfl rfl ?_
    refine Z_iconst C (v := 0) dX2_joins_12 (by decide) ?_
    refine Z_iconst C (v := 2) dX2_joins_13 (by decide) ?_
    refine Z_callS C (ws' := twO ++ (stW 1 K ++ (stW 11 D ++ srW 21 B))) (st' := [.int (bI (isInB w 0 2))]) (rest := []) [] (c_X2_isWithin w 0 2) m_X2_isWithin g_124 dX2_joins_14 rfl rfl rfl (outS 1 rfl (outS 10 rfl (outS 10 rfl (outR _ _ _)))) (NW := 25) rfl rfl rfl rfl ⟨Nat.le_of_ble_eq_true rfl, Nat.le_of_ble_eq_true rfl⟩ ⟨Nat.le_of_ble_eq_true rfl, Nat.le_of_ble_eq_true rfl⟩ (Nat.le_of_ble_eq_true rfl) rfl ?_
    refine Z_if_ne C 30 dX2_joins_17 (by decide) (fun c2 => ?_) (fun c2 => ?_)
    · have c2 := bI_n0.mp c2
      obtain ⟨u, hu, rfl⟩ := isIn_lit 2 rfl (by decide) c2
      have eu : ix (nI u) = u := ix_nI (by omega)
      refine Z_aload_n C dX2_joins_30 rfl rfl ?_
      refine Z_get C K2 (v := .ref 21) 2 dX2_joins_31 rfl (by decide) g_108 rfl rfl ?_
      refine Z_iload_n C dX2_joins_34 rfl rfl ?_
      refine Z_iload_n C dX2_joins_35 rfl rfl ?_
      refine Z_aload_n C dX2_joins_36 rfl rfl ?_
      refine Z_get C K2 (v := .ref 1) 0 dX2_joins_37 rfl (by decide) g_106 rfl rfl ?_
      refine Z_callV C (ws' := twO ++ (stW 1 K ++ (stW 11 D ++ srW 21 B))) (st' := [.int (tellR B K k (nI u))]) (rest := []) [21, 22, 23, 24, 1, 2, 3, 4, 5, 6, 7, 8, 9, 10] (c_X0_tell B K k (nI u) hb h30 hn h40 rfl (by first | omega | decide)) m_X0_tell K0 g_195 dX2_joins_40 rfl rfl rfl (outS 1 rfl (outS 10 rfl (outS 10 rfl (outR _ _ _)))) (NW := 25) rfl rfl rfl rfl rfl ⟨Nat.le_of_ble_eq_true rfl, Nat.le_of_ble_eq_true rfl⟩ ⟨Nat.le_of_ble_eq_true rfl, Nat.le_of_ble_eq_true rfl⟩ (Nat.le_of_ble_eq_true rfl) rfl ?_
      exact Z_widen (Nat.le_of_ble_eq_true rfl) (Nat.le_of_ble_eq_true rfl) (Z_iretX C hr hlk dX2_joins_43 (show (cJoins K B k (nI u)).1 = none from by simp [cJoins, c1, c2, eu, eN, eR, bI]) (congrArg (fun z => some (Value.int z)) (show ((cJoins K B k (nI u)).2) = (tellR B K k (nI u)) from by simp [cJoins, c1, c2, eu, eN, eR, bI])) rfl)
    · have c2 := bI_0.mp c2
      exact Z_throw C hst hX hex hlk atX_67 (text := "no such stair, or nothing to tell") (by simp [strsX]) dX2_joins_20 dX2_joins_23 dX2_joins_24 dX2_joins_26 dX2_joins_29 ⟨Nat.le_of_ble_eq_true rfl, Nat.le_of_ble_eq_true rfl⟩ ⟨Nat.le_of_ble_eq_true rfl, Nat.le_of_ble_eq_true rfl⟩ (Nat.le_of_ble_eq_true rfl) (Nat.le_of_ble_eq_true rfl) (show (cJoins K B k w).1 = some "java/lang/IndexOutOfBoundsException" from by simp [cJoins, c1, c2, eN, eR, bI]) rfl
set_option maxHeartbeats 4000000 in
set_option maxRecDepth 20000 in
theorem c_X2_steps (K : St) (D : St) (B : Sr) (a : Int32) (d : Int32) {n : Nat} (hn : K.2.2.1 0 = nI n) (h40 : n ≤ 40) {r : Nat} (hb : B.2 0 = nI r) (h30 : r ≤ 30) : CTX yX2_steps cX2_steps 3 (some .int) 6 1 6 [.ref 0, .int a, .int d] (twO ++ (stW 1 K ++ (stW 11 D ++ srW 21 B))) ((cSteps K B a d).1) (some (.int ((cSteps K B a d).2.1))) (twO ++ (stW 1 K ++ (stW 11 D ++ srW 21 ((cSteps K B a d).2.2)))) := by
  refine CTX_of (L := [(0, .ref 0), (1, .int a), (2, .int d)]) (by decide) (fun _ => rfl) (fun _ => Nat.le_of_ble_eq_true rfl) ?_
  intro p l e s m args below meth c G h A C hst hX hex hr hlk _
  have eN : nn K = n := nn_eq hn h40; have eR : ix (B.2 0) = r := r_eq hb h30
  refine Z_aload_n C dX2_steps_0 rfl rfl ?_
  refine Z_get C K2 (v := .ref 1) 0 dX2_steps_1 rfl (by decide) g_106 rfl rfl ?_
  refine Z_iload_n C dX2_steps_4 rfl rfl ?_
  refine Z_callV C (ws' := twO ++ (stW 1 K ++ (stW 11 D ++ srW 21 B))) (st' := [.int (bI (hasB K a))]) (rest := []) [1, 2, 3, 4, 5, 6, 7, 8, 9, 10] (c_X1_has K a) m_X1_has K1 g_216 dX2_steps_5 rfl rfl rfl (outS 1 rfl (outS 10 rfl (outS 10 rfl (outR _ _ _)))) (NW := 25) rfl rfl rfl rfl rfl ⟨Nat.le_of_ble_eq_true rfl, Nat.le_of_ble_eq_true rfl⟩ ⟨Nat.le_of_ble_eq_true rfl, Nat.le_of_ble_eq_true rfl⟩ (Nat.le_of_ble_eq_true rfl) rfl ?_
  refine Z_if_eq C 22 dX2_steps_8 (by decide) (fun c1 => ?_) (fun c1 => ?_)
  · have c1 := bI_0.mp c1
    exact Z_throw C hst hX hex hlk atX_67 (text := "no such stone") (by simp [strsX]) dX2_steps_22 dX2_steps_25 dX2_steps_26 dX2_steps_28 dX2_steps_31 ⟨Nat.le_of_ble_eq_true rfl, Nat.le_of_ble_eq_true rfl⟩ ⟨Nat.le_of_ble_eq_true rfl, Nat.le_of_ble_eq_true rfl⟩ (Nat.le_of_ble_eq_true rfl) (Nat.le_of_ble_eq_true rfl) (show (cSteps K B a d).1 = some "java/lang/IndexOutOfBoundsException" from by simp [cSteps, c1, eN, eR, bI]) (by rw [show ((cSteps K B a d).2.2) = B from by simp [cSteps, c1, eN, eR, bI]])
  · have c1 := bI_n0.mp c1
    refine Z_aload_n C dX2_steps_11 rfl rfl ?_
    refine Z_get C K2 (v := .ref 1) 0 dX2_steps_12 rfl (by decide) g_106 rfl rfl ?_
    refine Z_iload_n C dX2_steps_15 rfl rfl ?_
    refine Z_callV C (ws' := twO ++ (stW 1 K ++ (stW 11 D ++ srW 21 B))) (st' := [.int (bI (hasB K d))]) (rest := []) [1, 2, 3, 4, 5, 6, 7, 8, 9, 10] (c_X1_has K d) m_X1_has K1 g_216 dX2_steps_16 rfl rfl rfl (outS 1 rfl (outS 10 rfl (outS 10 rfl (outR _ _ _)))) (NW := 25) rfl rfl rfl rfl rfl ⟨Nat.le_of_ble_eq_true rfl, Nat.le_of_ble_eq_true rfl⟩ ⟨Nat.le_of_ble_eq_true rfl, Nat.le_of_ble_eq_true rfl⟩ (Nat.le_of_ble_eq_true rfl) rfl ?_
    refine Z_if_ne C 32 dX2_steps_19 (by decide) (fun c2 => ?_) (fun c2 => ?_)
    · have c2 := bI_n0.mp c2
      refine Z_aload_n C dX2_steps_32 rfl rfl ?_
      refine Z_get C K2 (v := .ref 1) 0 dX2_steps_33 rfl (by decide) g_106 rfl rfl ?_
      refine Z_iload_n C dX2_steps_36 rfl rfl ?_
      refine Z_callV C (ws' := twO ++ (stW 1 K ++ (stW 11 D ++ srW 21 B))) (st' := [.int (bI (hangsB K a))]) (rest := []) [1, 2, 3, 4, 5, 6, 7, 8, 9, 10] (c_X1_isHanging K a hn h40) m_X1_isHanging K1 g_218 dX2_steps_37 rfl rfl rfl (outS 1 rfl (outS 10 rfl (outS 10 rfl (outR _ _ _)))) (NW := 25) rfl rfl rfl rfl rfl ⟨Nat.le_of_ble_eq_true rfl, Nat.le_of_ble_eq_true rfl⟩ ⟨Nat.le_of_ble_eq_true rfl, Nat.le_of_ble_eq_true rfl⟩ (Nat.le_of_ble_eq_true rfl) rfl ?_
      refine Z_if_eq C 54 dX2_steps_40 (by decide) (fun c3 => ?_) (fun c3 => ?_)
      · have c3 := bI_0.mp c3
        refine Z_iconst C (v := (-1)) dX2_steps_54 (by decide) ?_
        exact Z_widen (Nat.le_of_ble_eq_true rfl) (Nat.le_of_ble_eq_true rfl) (Z_iretX C hr hlk dX2_steps_55 (show (cSteps K B a d).1 = none from by simp [cSteps, c1, c2, c3, eN, eR, bI]) (congrArg (fun z => some (Value.int z)) (show ((cSteps K B a d).2.1) = (-1) from by simp [cSteps, c1, c2, c3, eN, eR, bI])) (by rw [show ((cSteps K B a d).2.2) = B from by simp [cSteps, c1, c2, c3, eN, eR, bI]]))
      · have c3 := bI_n0.mp c3
        refine Z_aload_n C dX2_steps_43 rfl rfl ?_
        refine Z_get C K2 (v := .ref 1) 0 dX2_steps_44 rfl (by decide) g_106 rfl rfl ?_
        refine Z_iload_n C dX2_steps_47 rfl rfl ?_
        refine Z_callV C (ws' := twO ++ (stW 1 K ++ (stW 11 D ++ srW 21 B))) (st' := [.int (bI (hangsB K d))]) (rest := []) [1, 2, 3, 4, 5, 6, 7, 8, 9, 10] (c_X1_isHanging K d hn h40) m_X1_isHanging K1 g_218 dX2_steps_48 rfl rfl rfl (outS 1 rfl (outS 10 rfl (outS 10 rfl (outR _ _ _)))) (NW := 25) rfl rfl rfl rfl rfl ⟨Nat.le_of_ble_eq_true rfl, Nat.le_of_ble_eq_true rfl⟩ ⟨Nat.le_of_ble_eq_true rfl, Nat.le_of_ble_eq_true rfl⟩ (Nat.le_of_ble_eq_true rfl) rfl ?_
        refine Z_if_ne C 56 dX2_steps_51 (by decide) (fun c4 => ?_) (fun c4 => ?_)
        · have c4 := bI_n0.mp c4
          refine Z_aload_n C dX2_steps_56 rfl rfl ?_
          refine Z_get C K2 (v := .ref 21) 2 dX2_steps_57 rfl (by decide) g_108 rfl rfl ?_
          refine Z_iload_n C dX2_steps_60 rfl rfl ?_
          refine Z_iload_n C dX2_steps_61 rfl rfl ?_
          refine Z_aload_n C dX2_steps_62 rfl rfl ?_
          refine Z_get C K2 (v := .ref 1) 0 dX2_steps_63 rfl (by decide) g_106 rfl rfl ?_
          refine Z_callV C (ws' := twO ++ (stW 1 K ++ (stW 11 D ++ srW 21 (fewQ B K a d)))) (st' := [.int (fewV B K a d)]) (rest := []) [21, 22, 23, 24, 1, 2, 3, 4, 5, 6, 7, 8, 9, 10] (c_X0_fewestSteps B K a d hb h30 hn h40) m_X0_fewestSteps K0 g_219 dX2_steps_66 rfl rfl rfl (outS 1 rfl (outS 10 rfl (outS 10 rfl (outL 4 rfl rfl rfl)))) (NW := 25) rfl rfl rfl rfl rfl ⟨Nat.le_of_ble_eq_true rfl, Nat.le_of_ble_eq_true rfl⟩ ⟨Nat.le_of_ble_eq_true rfl, Nat.le_of_ble_eq_true rfl⟩ (Nat.le_of_ble_eq_true rfl) rfl ?_
          refine Z_ws (fun X1 => twO ++ (stW 1 K ++ (stW 11 D ++ srW 21 X1))) (fewQ B K a d) (fun X1 eX1 => ?_)
          exact Z_widen (Nat.le_of_ble_eq_true rfl) (Nat.le_of_ble_eq_true rfl) (Z_iretX C hr hlk dX2_steps_69 (show (cSteps K B a d).1 = none from by subst eX1; simp [cSteps, c1, c2, c3, c4, eN, eR, bI]) (congrArg (fun z => some (Value.int z)) (show ((cSteps K B a d).2.1) = (fewV B K a d) from by subst eX1; simp [cSteps, c1, c2, c3, c4, eN, eR, bI])) (by rw [show ((cSteps K B a d).2.2) = X1 from by subst eX1; simp [cSteps, c1, c2, c3, c4, eN, eR, bI]]))
        · have c4 := bI_0.mp c4
          refine Z_iconst C (v := (-1)) dX2_steps_54 (by decide) ?_
          exact Z_widen (Nat.le_of_ble_eq_true rfl) (Nat.le_of_ble_eq_true rfl) (Z_iretX C hr hlk dX2_steps_55 (show (cSteps K B a d).1 = none from by simp [cSteps, c1, c2, c3, c4, eN, eR, bI]) (congrArg (fun z => some (Value.int z)) (show ((cSteps K B a d).2.1) = (-1) from by simp [cSteps, c1, c2, c3, c4, eN, eR, bI])) (by rw [show ((cSteps K B a d).2.2) = B from by simp [cSteps, c1, c2, c3, c4, eN, eR, bI]]))
    · have c2 := bI_0.mp c2
      exact Z_throw C hst hX hex hlk atX_67 (text := "no such stone") (by simp [strsX]) dX2_steps_22 dX2_steps_25 dX2_steps_26 dX2_steps_28 dX2_steps_31 ⟨Nat.le_of_ble_eq_true rfl, Nat.le_of_ble_eq_true rfl⟩ ⟨Nat.le_of_ble_eq_true rfl, Nat.le_of_ble_eq_true rfl⟩ (Nat.le_of_ble_eq_true rfl) (Nat.le_of_ble_eq_true rfl) (show (cSteps K B a d).1 = some "java/lang/IndexOutOfBoundsException" from by simp [cSteps, c1, c2, eN, eR, bI]) (by rw [show ((cSteps K B a d).2.2) = B from by simp [cSteps, c1, c2, eN, eR, bI]])
set_option maxHeartbeats 4000000 in
set_option maxRecDepth 20000 in
theorem c_X2_stone (K : St) (D : St) (B : Sr) (x : Int32) (w : Int32) {n : Nat} (hn : K.2.2.1 0 = nI n) (h40 : n ≤ 40) {r : Nat} (hb : B.2 0 = nI r) (h30 : r ≤ 30) : CTX yX2_stone cX2_stone 3 (some .int) 6 1 6 [.ref 0, .int x, .int w] (twO ++ (stW 1 K ++ (stW 11 D ++ srW 21 B))) ((cStone K x w).1) (some (.int ((cStone K x w).2))) (twO ++ (stW 1 K ++ (stW 11 D ++ srW 21 B))) := by
  refine CTX_of (L := [(0, .ref 0), (1, .int x), (2, .int w)]) (by decide) (fun _ => rfl) (fun _ => Nat.le_of_ble_eq_true rfl) ?_
  intro p l e s m args below meth c G h A C hst hX hex hr hlk _
  have eN : nn K = n := nn_eq hn h40; have eR : ix (B.2 0) = r := r_eq hb h30
  refine Z_aload_n C dX2_stone_0 rfl rfl ?_
  refine Z_get C K2 (v := .ref 1) 0 dX2_stone_1 rfl (by decide) g_106 rfl rfl ?_
  refine Z_iload_n C dX2_stone_4 rfl rfl ?_
  refine Z_callV C (ws' := twO ++ (stW 1 K ++ (stW 11 D ++ srW 21 B))) (st' := [.int (bI (hasB K x))]) (rest := []) [1, 2, 3, 4, 5, 6, 7, 8, 9, 10] (c_X1_has K x) m_X1_has K1 g_216 dX2_stone_5 rfl rfl rfl (outS 1 rfl (outS 10 rfl (outS 10 rfl (outR _ _ _)))) (NW := 25) rfl rfl rfl rfl rfl ⟨Nat.le_of_ble_eq_true rfl, Nat.le_of_ble_eq_true rfl⟩ ⟨Nat.le_of_ble_eq_true rfl, Nat.le_of_ble_eq_true rfl⟩ (Nat.le_of_ble_eq_true rfl) rfl ?_
  refine Z_if_eq C 21 dX2_stone_8 (by decide) (fun c1 => ?_) (fun c1 => ?_)
  · have c1 := bI_0.mp c1
    exact Z_throw C hst hX hex hlk atX_67 (text := "no such stone, or nothing to tell") (by simp [strsX]) dX2_stone_21 dX2_stone_24 dX2_stone_25 dX2_stone_27 dX2_stone_30 ⟨Nat.le_of_ble_eq_true rfl, Nat.le_of_ble_eq_true rfl⟩ ⟨Nat.le_of_ble_eq_true rfl, Nat.le_of_ble_eq_true rfl⟩ (Nat.le_of_ble_eq_true rfl) (Nat.le_of_ble_eq_true rfl) (show (cStone K x w).1 = some "java/lang/IndexOutOfBoundsException" from by simp [cStone, c1, eN, eR, bI]) rfl
  · have c1 := bI_n0.mp c1
    refine Z_iload_n C dX2_stone_11 rfl rfl ?_
    refine Z_iconst C (v := 0) dX2_stone_12 (by decide) ?_
    refine Z_bipush C (v := 9) dX2_stone_13 (by decide) ?_
    refine Z_callS C (ws' := twO ++ (stW 1 K ++ (stW 11 D ++ srW 21 B))) (st' := [.int (bI (isInB w 0 9))]) (rest := []) [] (c_X2_isWithin w 0 9) m_X2_isWithin g_124 dX2_stone_15 rfl rfl rfl (outS 1 rfl (outS 10 rfl (outS 10 rfl (outR _ _ _)))) (NW := 25) rfl rfl rfl rfl ⟨Nat.le_of_ble_eq_true rfl, Nat.le_of_ble_eq_true rfl⟩ ⟨Nat.le_of_ble_eq_true rfl, Nat.le_of_ble_eq_true rfl⟩ (Nat.le_of_ble_eq_true rfl) rfl ?_
    refine Z_if_ne C 31 dX2_stone_18 (by decide) (fun c2 => ?_) (fun c2 => ?_)
    · have c2 := bI_n0.mp c2
      obtain ⟨u, hu, rfl⟩ := isIn_lit 9 rfl (by decide) c2
      have eu : ix (nI u) = u := ix_nI (by omega)
      refine Z_aload_n C dX2_stone_31 rfl rfl ?_
      refine Z_get C K2 (v := .ref 1) 0 dX2_stone_32 rfl (by decide) g_106 rfl rfl ?_
      refine Z_iload_n C dX2_stone_35 rfl rfl ?_
      refine Z_iload_n C dX2_stone_36 rfl rfl ?_
      refine Z_callV C (ws' := twO ++ (stW 1 K ++ (stW 11 D ++ srW 21 B))) (st' := [.int (tell K x (nI u))]) (rest := []) [1, 2, 3, 4, 5, 6, 7, 8, 9, 10] (c_X1_tell K x (nI u) hn h40 rfl (by first | omega | decide)) m_X1_tell K1 g_240 dX2_stone_37 rfl rfl rfl (outS 1 rfl (outS 10 rfl (outS 10 rfl (outR _ _ _)))) (NW := 25) rfl rfl rfl rfl rfl ⟨Nat.le_of_ble_eq_true rfl, Nat.le_of_ble_eq_true rfl⟩ ⟨Nat.le_of_ble_eq_true rfl, Nat.le_of_ble_eq_true rfl⟩ (Nat.le_of_ble_eq_true rfl) rfl ?_
      exact Z_widen (Nat.le_of_ble_eq_true rfl) (Nat.le_of_ble_eq_true rfl) (Z_iretX C hr hlk dX2_stone_40 (show (cStone K x (nI u)).1 = none from by simp [cStone, c1, c2, eu, eN, eR, bI]) (congrArg (fun z => some (Value.int z)) (show ((cStone K x (nI u)).2) = (tell K x (nI u)) from by simp [cStone, c1, c2, eu, eN, eR, bI])) rfl)
    · have c2 := bI_0.mp c2
      exact Z_throw C hst hX hex hlk atX_67 (text := "no such stone, or nothing to tell") (by simp [strsX]) dX2_stone_21 dX2_stone_24 dX2_stone_25 dX2_stone_27 dX2_stone_30 ⟨Nat.le_of_ble_eq_true rfl, Nat.le_of_ble_eq_true rfl⟩ ⟨Nat.le_of_ble_eq_true rfl, Nat.le_of_ble_eq_true rfl⟩ (Nat.le_of_ble_eq_true rfl) (Nat.le_of_ble_eq_true rfl) (show (cStone K x w).1 = some "java/lang/IndexOutOfBoundsException" from by simp [cStone, c1, c2, eN, eR, bI]) rfl
set_option maxHeartbeats 4000000 in
set_option maxRecDepth 20000 in
theorem c_X2_first (K : St) (D : St) (B : Sr) (x : Int32) {n : Nat} (hn : K.2.2.1 0 = nI n) (h40 : n ≤ 40) {r : Nat} (hb : B.2 0 = nI r) (h30 : r ≤ 30) : CTX yX2_first cX2_first 2 (some .int) 6 1 6 [.ref 0, .int x] (twO ++ (stW 1 K ++ (stW 11 D ++ srW 21 B))) ((cFirst K x).1) (some (.int ((cFirst K x).2))) (twO ++ (stW 1 K ++ (stW 11 D ++ srW 21 B))) := by
  refine CTX_of (L := [(0, .ref 0), (1, .int x)]) (by decide) (fun _ => rfl) (fun _ => Nat.le_of_ble_eq_true rfl) ?_
  intro p l e s m args below meth c G h A C hst hX hex hr hlk _
  have eN : nn K = n := nn_eq hn h40; have eR : ix (B.2 0) = r := r_eq hb h30
  refine Z_aload_n C dX2_first_0 rfl rfl ?_
  refine Z_get C K2 (v := .ref 1) 0 dX2_first_1 rfl (by decide) g_106 rfl rfl ?_
  refine Z_iload_n C dX2_first_4 rfl rfl ?_
  refine Z_callV C (ws' := twO ++ (stW 1 K ++ (stW 11 D ++ srW 21 B))) (st' := [.int (bI (hasB K x))]) (rest := []) [1, 2, 3, 4, 5, 6, 7, 8, 9, 10] (c_X1_has K x) m_X1_has K1 g_216 dX2_first_5 rfl rfl rfl (outS 1 rfl (outS 10 rfl (outS 10 rfl (outR _ _ _)))) (NW := 25) rfl rfl rfl rfl rfl ⟨Nat.le_of_ble_eq_true rfl, Nat.le_of_ble_eq_true rfl⟩ ⟨Nat.le_of_ble_eq_true rfl, Nat.le_of_ble_eq_true rfl⟩ (Nat.le_of_ble_eq_true rfl) rfl ?_
  refine Z_if_ne C 21 dX2_first_8 (by decide) (fun c1 => ?_) (fun c1 => ?_)
  · have c1 := bI_n0.mp c1
    refine Z_aload_n C dX2_first_21 rfl rfl ?_
    refine Z_get C K2 (v := .ref 1) 0 dX2_first_22 rfl (by decide) g_106 rfl rfl ?_
    refine Z_iload_n C dX2_first_25 rfl rfl ?_
    refine Z_callV C (ws' := twO ++ (stW 1 K ++ (stW 11 D ++ srW 21 B))) (st' := [.int (topOf K x)]) (rest := []) [1, 2, 3, 4, 5, 6, 7, 8, 9, 10] (c_X1_topOf K x hn h40) m_X1_topOf K1 g_252 dX2_first_26 rfl rfl rfl (outS 1 rfl (outS 10 rfl (outS 10 rfl (outR _ _ _)))) (NW := 25) rfl rfl rfl rfl rfl ⟨Nat.le_of_ble_eq_true rfl, Nat.le_of_ble_eq_true rfl⟩ ⟨Nat.le_of_ble_eq_true rfl, Nat.le_of_ble_eq_true rfl⟩ (Nat.le_of_ble_eq_true rfl) rfl ?_
    exact Z_widen (Nat.le_of_ble_eq_true rfl) (Nat.le_of_ble_eq_true rfl) (Z_iretX C hr hlk dX2_first_29 (show (cFirst K x).1 = none from by simp [cFirst, c1, eN, eR, bI]) (congrArg (fun z => some (Value.int z)) (show ((cFirst K x).2) = (topOf K x) from by simp [cFirst, c1, eN, eR, bI])) rfl)
  · have c1 := bI_0.mp c1
    exact Z_throw C hst hX hex hlk atX_67 (text := "no such stone") (by simp [strsX]) dX2_first_11 dX2_first_14 dX2_first_15 dX2_first_17 dX2_first_20 ⟨Nat.le_of_ble_eq_true rfl, Nat.le_of_ble_eq_true rfl⟩ ⟨Nat.le_of_ble_eq_true rfl, Nat.le_of_ble_eq_true rfl⟩ (Nat.le_of_ble_eq_true rfl) (Nat.le_of_ble_eq_true rfl) (show (cFirst K x).1 = some "java/lang/IndexOutOfBoundsException" from by simp [cFirst, c1, eN, eR, bI]) rfl
set_option maxHeartbeats 4000000 in
set_option maxRecDepth 20000 in
theorem c_X2_pass (K : St) (D : St) (B : Sr) (x : Int32) {n : Nat} (hn : K.2.2.1 0 = nI n) (h40 : n ≤ 40) {r : Nat} (hb : B.2 0 = nI r) (h30 : r ≤ 30) : CTX yX2_pass cX2_pass 3 (some .int) 6 1 6 [.ref 0, .int x] (twO ++ (stW 1 K ++ (stW 11 D ++ srW 21 B))) ((cPass K x).1) (some (.int ((cPass K x).2.1))) (twO ++ (stW 1 ((cPass K x).2.2) ++ (stW 11 D ++ srW 21 B))) := by
  refine CTX_of (L := [(0, .ref 0), (1, .int x)]) (by decide) (fun _ => rfl) (fun _ => Nat.le_of_ble_eq_true rfl) ?_
  intro p l e s m args below meth c G h A C hst hX hex hr hlk _
  have eN : nn K = n := nn_eq hn h40; have eR : ix (B.2 0) = r := r_eq hb h30
  refine Z_iload_n C dX2_pass_0 rfl rfl ?_
  refine Z_iconst C (v := 1) dX2_pass_1 (by decide) ?_
  refine Z_bipush C (v := 120) dX2_pass_2 (by decide) ?_
  refine Z_callS C (ws' := twO ++ (stW 1 K ++ (stW 11 D ++ srW 21 B))) (st' := [.int (bI (isInB x 1 120))]) (rest := []) [] (c_X2_isWithin x 1 120) m_X2_isWithin g_124 dX2_pass_4 rfl rfl rfl (outS 1 rfl (outS 10 rfl (outS 10 rfl (outR _ _ _)))) (NW := 25) rfl rfl rfl rfl ⟨Nat.le_of_ble_eq_true rfl, Nat.le_of_ble_eq_true rfl⟩ ⟨Nat.le_of_ble_eq_true rfl, Nat.le_of_ble_eq_true rfl⟩ (Nat.le_of_ble_eq_true rfl) rfl ?_
  refine Z_if_ne C 20 dX2_pass_7 (by decide) (fun c1 => ?_) (fun c1 => ?_)
  · have c1 := bI_n0.mp c1
    obtain ⟨u, hu, rfl⟩ := isIn_lit1 120 rfl (by decide) c1
    have eu : ix (nI u) = u := ix_nI (by omega)
    refine Z_aload_n C dX2_pass_20 rfl rfl ?_
    refine Z_get C K2 (v := .ref 1) 0 dX2_pass_21 rfl (by decide) g_106 rfl rfl ?_
    refine Z_getN C K1 (v := .int (K.2.2.1 1)) 10 dX2_pass_24 rfl (by decide) (show Cond.fieldLinkNest RX2 81 RX1 "hanging" "I" RX2 ∈ nW by simp [nW]) rfl rfl ?_
    refine Z_istore_n C (L' := [(2, .int (K.2.2.1 1)), (0, .ref 0), (1, .int (nI u))]) dX2_pass_27 rfl (by decide) rfl ?_
    refine Z_aload_n C dX2_pass_28 rfl rfl ?_
    refine Z_get C K2 (v := .ref 1) 0 dX2_pass_29 rfl (by decide) g_106 rfl rfl ?_
    refine Z_iload_n C dX2_pass_32 rfl rfl ?_
    refine Z_callV C (ws' := twO ++ (stW 1 (liveDays K (nI u)) ++ (stW 11 D ++ srW 21 B))) (st' := []) (rest := []) [1, 2, 3, 4, 5, 6, 7, 8, 9, 10] (c_X1_liveDays K (nI u) hn h40 rfl (Nat.le_trans hu (by decide))) m_X1_liveDays K1 g_305 dX2_pass_33 rfl rfl rfl (outS 1 rfl (outI 10 rfl rfl rfl (outS 10 rfl (outR _ _ _)))) (NW := 25) rfl rfl rfl rfl rfl ⟨Nat.le_of_ble_eq_true rfl, Nat.le_of_ble_eq_true rfl⟩ ⟨Nat.le_of_ble_eq_true rfl, Nat.le_of_ble_eq_true rfl⟩ (Nat.le_of_ble_eq_true rfl) rfl ?_
    refine Z_ws (fun X1 => twO ++ (stW 1 X1 ++ (stW 11 D ++ srW 21 B))) (liveDays K (nI u)) (fun X1 eX1 => ?_)
    refine Z_iload_n C dX2_pass_36 rfl rfl ?_
    refine Z_aload_n C dX2_pass_37 rfl rfl ?_
    refine Z_get C K2 (v := .ref 1) 0 dX2_pass_38 rfl (by decide) g_106 rfl rfl ?_
    refine Z_getN C K1 (v := .int (X1.2.2.1 1)) 10 dX2_pass_41 rfl (by decide) (show Cond.fieldLinkNest RX2 81 RX1 "hanging" "I" RX2 ∈ nW by simp [nW]) rfl rfl ?_
    refine Z_isub C (v := (K.2.2.1 1) - (X1.2.2.1 1)) dX2_pass_44 rfl ?_
    exact Z_widen (Nat.le_of_ble_eq_true rfl) (Nat.le_of_ble_eq_true rfl) (Z_iretX C hr hlk dX2_pass_45 (show (cPass K (nI u)).1 = none from by subst eX1; simp [cPass, c1, eu, eN, eR, bI]) (congrArg (fun z => some (Value.int z)) (show ((cPass K (nI u)).2.1) = ((K.2.2.1 1) - (X1.2.2.1 1)) from by subst eX1; simp [cPass, c1, eu, eN, eR, bI])) (by rw [show ((cPass K (nI u)).2.2) = X1 from by subst eX1; simp [cPass, c1, eu, eN, eR, bI]]))
  · have c1 := bI_0.mp c1
    exact Z_throw C hst hX hex hlk atX_38 (text := "no such days") (by simp [strsX]) dX2_pass_10 dX2_pass_13 dX2_pass_14 dX2_pass_16 dX2_pass_19 ⟨Nat.le_of_ble_eq_true rfl, Nat.le_of_ble_eq_true rfl⟩ ⟨Nat.le_of_ble_eq_true rfl, Nat.le_of_ble_eq_true rfl⟩ (Nat.le_of_ble_eq_true rfl) (Nat.le_of_ble_eq_true rfl) (show (cPass K x).1 = some "java/lang/IllegalArgumentException" from by simp [cPass, c1, eN, eR, bI]) (by rw [show ((cPass K x).2.2) = K from by simp [cPass, c1, eN, eR, bI]])
set_option maxHeartbeats 4000000 in
set_option maxRecDepth 20000 in
theorem c_X2_without (K : St) (D : St) (B : Sr) (x : Int32) {n : Nat} (hn : K.2.2.1 0 = nI n) (h40 : n ≤ 40) {r : Nat} (hb : B.2 0 = nI r) (h30 : r ≤ 30) : CTX yX2_without cX2_without 2 (some .int) 6 1 6 [.ref 0, .int x] (twO ++ (stW 1 K ++ (stW 11 D ++ srW 21 B))) ((cWo K D x).1) (some (.int ((cWo K D x).2.1))) (twO ++ (stW 1 K ++ (stW 11 ((cWo K D x).2.2) ++ srW 21 B))) := by
  refine CTX_of (L := [(0, .ref 0), (1, .int x)]) (by decide) (fun _ => rfl) (fun _ => Nat.le_of_ble_eq_true rfl) ?_
  intro p l e s m args below meth c G h A C hst hX hex hr hlk _
  have eN : nn K = n := nn_eq hn h40; have eR : ix (B.2 0) = r := r_eq hb h30
  refine Z_aload_n C dX2_without_0 rfl rfl ?_
  refine Z_get C K2 (v := .ref 1) 0 dX2_without_1 rfl (by decide) g_106 rfl rfl ?_
  refine Z_iload_n C dX2_without_4 rfl rfl ?_
  refine Z_callV C (ws' := twO ++ (stW 1 K ++ (stW 11 D ++ srW 21 B))) (st' := [.int (bI (hasB K x))]) (rest := []) [1, 2, 3, 4, 5, 6, 7, 8, 9, 10] (c_X1_has K x) m_X1_has K1 g_216 dX2_without_5 rfl rfl rfl (outS 1 rfl (outS 10 rfl (outS 10 rfl (outR _ _ _)))) (NW := 25) rfl rfl rfl rfl rfl ⟨Nat.le_of_ble_eq_true rfl, Nat.le_of_ble_eq_true rfl⟩ ⟨Nat.le_of_ble_eq_true rfl, Nat.le_of_ble_eq_true rfl⟩ (Nat.le_of_ble_eq_true rfl) rfl ?_
  refine Z_if_ne C 21 dX2_without_8 (by decide) (fun c1 => ?_) (fun c1 => ?_)
  · have c1 := bI_n0.mp c1
    refine Z_aload_n C dX2_without_21 rfl rfl ?_
    refine Z_get C K2 (v := .ref 1) 0 dX2_without_22 rfl (by decide) g_106 rfl rfl ?_
    refine Z_iload_n C dX2_without_25 rfl rfl ?_
    refine Z_callV C (ws' := twO ++ (stW 1 K ++ (stW 11 D ++ srW 21 B))) (st' := [.int (bI (hangsB K x))]) (rest := []) [1, 2, 3, 4, 5, 6, 7, 8, 9, 10] (c_X1_isHanging K x hn h40) m_X1_isHanging K1 g_218 dX2_without_26 rfl rfl rfl (outS 1 rfl (outS 10 rfl (outS 10 rfl (outR _ _ _)))) (NW := 25) rfl rfl rfl rfl rfl ⟨Nat.le_of_ble_eq_true rfl, Nat.le_of_ble_eq_true rfl⟩ ⟨Nat.le_of_ble_eq_true rfl, Nat.le_of_ble_eq_true rfl⟩ (Nat.le_of_ble_eq_true rfl) rfl ?_
    refine Z_if_ne C 34 dX2_without_29 (by decide) (fun c2 => ?_) (fun c2 => ?_)
    · have c2 := bI_n0.mp c2
      refine Z_aload_n C dX2_without_34 rfl rfl ?_
      refine Z_get C K2 (v := .ref 11) 1 dX2_without_35 rfl (by decide) g_107 rfl rfl ?_
      refine Z_aload_n C dX2_without_38 rfl rfl ?_
      refine Z_get C K2 (v := .ref 1) 0 dX2_without_39 rfl (by decide) g_106 rfl rfl ?_
      refine Z_callV C (ws' := twO ++ (stW 1 K ++ (stW 11 (copyF D K) ++ srW 21 B))) (st' := []) (rest := []) [11, 12, 13, 14, 15, 16, 17, 18, 19, 20, 1, 2, 3, 4, 5, 6, 7, 8, 9, 10] (c_X1_copyFrom D K hn h40) m_X1_copyFrom K1 g_356 dX2_without_42 rfl rfl rfl (outS 1 rfl (outS 10 rfl (outI 10 rfl rfl rfl (outR _ _ _)))) (NW := 25) rfl rfl rfl rfl rfl ⟨Nat.le_of_ble_eq_true rfl, Nat.le_of_ble_eq_true rfl⟩ ⟨Nat.le_of_ble_eq_true rfl, Nat.le_of_ble_eq_true rfl⟩ (Nat.le_of_ble_eq_true rfl) rfl ?_
      refine Z_ws (fun X1 => twO ++ (stW 1 K ++ (stW 11 X1 ++ srW 21 B))) (copyF D K) (fun X1 eX1 => ?_)
      refine Z_aload_n C dX2_without_45 rfl rfl ?_
      refine Z_get C K2 (v := .ref 11) 1 dX2_without_46 rfl (by decide) g_107 rfl rfl ?_
      refine Z_iload_n C dX2_without_49 rfl rfl ?_
      refine Z_callV C (ws' := twO ++ (stW 1 K ++ (stW 11 (cutL X1 x) ++ srW 21 B))) (st' := []) (rest := []) [11, 12, 13, 14, 15, 16, 17, 18, 19, 20] (c_X1_cutLoose X1 x (show X1.2.2.1 0 = nI _ from by rw [eX1]; exact ((rfl).trans hn)) h40) m_X1_cutLoose K1 g_360 dX2_without_50 rfl rfl rfl (outS 1 rfl (outS 10 rfl (outI 10 rfl rfl rfl (outR _ _ _)))) (NW := 25) rfl rfl rfl rfl rfl ⟨Nat.le_of_ble_eq_true rfl, Nat.le_of_ble_eq_true rfl⟩ ⟨Nat.le_of_ble_eq_true rfl, Nat.le_of_ble_eq_true rfl⟩ (Nat.le_of_ble_eq_true rfl) rfl ?_
      refine Z_ws (fun X2 => twO ++ (stW 1 K ++ (stW 11 X2 ++ srW 21 B))) (cutL X1 x) (fun X2 eX2 => ?_)
      refine Z_aload_n C dX2_without_53 rfl rfl ?_
      refine Z_get C K2 (v := .ref 1) 0 dX2_without_54 rfl (by decide) g_106 rfl rfl ?_
      refine Z_getN C K1 (v := .int (K.2.2.1 1)) 10 dX2_without_57 rfl (by decide) (show Cond.fieldLinkNest RX2 81 RX1 "hanging" "I" RX2 ∈ nW by simp [nW]) rfl rfl ?_
      refine Z_aload_n C dX2_without_60 rfl rfl ?_
      refine Z_get C K2 (v := .ref 11) 1 dX2_without_61 rfl (by decide) g_107 rfl rfl ?_
      refine Z_getN C K1 (v := .int (X2.2.2.1 1)) 10 dX2_without_64 rfl (by decide) (show Cond.fieldLinkNest RX2 81 RX1 "hanging" "I" RX2 ∈ nW by simp [nW]) rfl rfl ?_
      refine Z_isub C (v := (K.2.2.1 1) - (X2.2.2.1 1)) dX2_without_67 rfl ?_
      exact Z_widen (Nat.le_of_ble_eq_true rfl) (Nat.le_of_ble_eq_true rfl) (Z_iretX C hr hlk dX2_without_68 (show (cWo K D x).1 = none from by subst eX1 eX2; simp [cWo, c1, c2, eN, eR, bI]) (congrArg (fun z => some (Value.int z)) (show ((cWo K D x).2.1) = ((K.2.2.1 1) - (X2.2.2.1 1)) from by subst eX1 eX2; simp [cWo, c1, c2, eN, eR, bI])) (by rw [show ((cWo K D x).2.2) = X2 from by subst eX1 eX2; simp [cWo, c1, c2, eN, eR, bI]]))
    · have c2 := bI_0.mp c2
      refine Z_iconst C (v := 0) dX2_without_32 (by decide) ?_
      exact Z_widen (Nat.le_of_ble_eq_true rfl) (Nat.le_of_ble_eq_true rfl) (Z_iretX C hr hlk dX2_without_33 (show (cWo K D x).1 = none from by simp [cWo, c1, c2, eN, eR, bI]) (congrArg (fun z => some (Value.int z)) (show ((cWo K D x).2.1) = 0 from by simp [cWo, c1, c2, eN, eR, bI])) (by rw [show ((cWo K D x).2.2) = D from by simp [cWo, c1, c2, eN, eR, bI]]))
  · have c1 := bI_0.mp c1
    exact Z_throw C hst hX hex hlk atX_67 (text := "no such stone") (by simp [strsX]) dX2_without_11 dX2_without_14 dX2_without_15 dX2_without_17 dX2_without_20 ⟨Nat.le_of_ble_eq_true rfl, Nat.le_of_ble_eq_true rfl⟩ ⟨Nat.le_of_ble_eq_true rfl, Nat.le_of_ble_eq_true rfl⟩ (Nat.le_of_ble_eq_true rfl) (Nat.le_of_ble_eq_true rfl) (show (cWo K D x).1 = some "java/lang/IndexOutOfBoundsException" from by simp [cWo, c1, eN, eR, bI]) (by rw [show ((cWo K D x).2.2) = D from by simp [cWo, c1, eN, eR, bI]])
