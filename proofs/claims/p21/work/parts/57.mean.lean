/-! the two means -/
section ZD
variable {p : Program} {l : Launch} {e : Env} {R : Room} {s : State} {m : MethodId} {args : Array Value} {below : List Frame} {meth : Method} {c : Code} {cc : ByteArray} {nL : Nat} {own : String} {G : gG} {A : Nat → Prop} {h : Nat → Nat} {Q : State → Prop} {k n : Nat} {ws ws' : List va_E} {pc : Nat} {L L' : List (Nat × Value)} {st : List Value} {r : Option Value}
theorem Z_i2d (C : Cx p s m args c cc nL own G A) {x : Int32} {v : UInt64} (d : decode cc pc = .ok (.i2d, 1)) (hv : FP.i2d x = v) (kk : Z p l e R s m args below meth c nL G A h Q k n ws (pc + 1) L (.double v :: st)) : Z p l e R s m args below meth c nL G A h Q k n ws pc L (.int x :: st) := fun H locs ls hP hD hS hl => lv_i2d C.1 C.2.1 d (by subst hv; exact kk H locs ls hP hD hS hl)
theorem Z_ddiv (C : Cx p s m args c cc nL own G A) {x y v : UInt64} (d : decode cc pc = .ok (.ddiv, 1)) (hne : vf_n64 (FP.ddiv x y)) (hv : FP.ddiv x y = v) (kk : Z p l e R s m args below meth c nL G A h Q k n ws (pc + 1) L (.double v :: st)) : Z p l e R s m args below meth c nL G A h Q k n ws pc L (.double y :: .double x :: st) := fun H locs ls hP hD hS hl => lv_ddiv C.1 C.2.1 d hne (by subst hv; exact kk H locs ls hP hD hS hl)
theorem Z_dconst0 (C : Cx p s m args c cc nL own G A) (d : decode cc pc = .ok (.dconst 0, 1)) (kk : Z p l e R s m args below meth c nL G A h Q k n ws (pc + 1) L (.double FP.dconst0 :: st)) : Z p l e R s m args below meth c nL G A h Q k n ws pc L st := fun H locs ls hP hD hS hl => lv_dconst0 C.1 C.2.1 d (kk H locs ls hP hD hS hl)
theorem Z_dret (C : Cx p s m args c cc nL own G A) (hr : meth.sig.returnType = some .double) (hlk : meth.locks = false) {v : UInt64} (d : decode cc pc = .ok (.dreturn, 1)) (hv : r = some (.double v)) (hw : ws = ws') : Z p l e R s m args below meth c nL G A h (MQ below (gQ G h A r ws') args s k n A) k n ws pc L [.double v] := fun H locs ls hP hD hS hl => by
  subst hw; subst hv
  exact W.dret C.1 C.2.1 hr (fun t ht _ => ⟨⟨rfl, by rw [ht]; exact hP⟩, hS.F ht⟩) hS.2.2 d (hlocks := hlk)
end ZD
def cMn (K : St) : UInt64 := if 0 < K.2.2.1 1 then FP.ddiv (FP.i2d (sLd K)) (FP.i2d (K.2.2.1 1)) else FP.dconst0
def mSm1 (M : Md) (i : Nat) (a : Int32) : Int32 := a + M.2.2.1 1 i
def mSm (M : Md) : Int32 := fr (mSm1 M) (mN M) 0
def mMnR (X : Md) : UInt64 := if mHa X = 0 then FP.dconst0 else FP.ddiv (FP.i2d (mSm X)) (FP.i2d (mHa X))
def mMn (M : Md) : UInt64 := mMnR (mRk (mI M 0 0))
set_option maxHeartbeats 4000000 in
set_option maxRecDepth 20000 in
theorem c_X2_mean (K : St) (D : St) (B : Sr) {n : Nat} (hn : K.2.2.1 0 = nI n) (h40 : n ≤ 40) (hd : 0 < K.2.2.1 1 → vf_n64 (FP.ddiv (FP.i2d (sLd K)) (FP.i2d (K.2.2.1 1)))) : CT yX2_mean cX2_mean 1 (some .double) 2 0 0 [.ref 0] (twO ++ (stW 1 K ++ (stW 11 D ++ srW 21 B))) (some (.double (cMn K))) (twO ++ (stW 1 K ++ (stW 11 D ++ srW 21 B))) := by
  refine CT_of (L := [(0, .ref 0)]) (by decide) (fun _ => rfl) (fun _ => Nat.le_of_ble_eq_true rfl) ?_
  intro p l e s m args below meth c G h A C hr hlk _
  refine Z_aload_n C dX2_mean_0 rfl rfl ?_
  refine Z_get C K2 (v := .ref 1) 0 dX2_mean_1 rfl (by decide) g_106 rfl rfl ?_
  refine Z_getN C K1 (v := .int (K.2.2.1 1)) 10 dX2_mean_4 rfl (by decide) (show Cond.fieldLinkNest RX2 81 RX1 "hanging" "I" RX2 ∈ nW by simp [nW]) rfl rfl ?_
  refine Z_if_gt C 12 dX2_mean_7 (by decide) (fun c1 => ?_) (fun c1 => ?_)
  · refine Z_aload_n C dX2_mean_12 rfl rfl ?_
    refine Z_get C K2 (v := .ref 1) 0 dX2_mean_13 rfl (by decide) g_106 rfl rfl ?_
    refine Z_callV C (ws' := twO ++ (stW 1 K ++ (stW 11 D ++ srW 21 B))) (st' := [.int (sLd K)]) (rest := []) [1, 2, 3, 4, 5, 6, 7, 8, 9, 10] (c_X1_sumOfLoads K hn h40) m_X1_sumOfLoads K1 g_423 dX2_mean_16 rfl rfl rfl (outS 1 rfl (outS 10 rfl (outS 10 rfl (outR _ _ _)))) (NW := 25) rfl rfl rfl rfl rfl ⟨Nat.le_of_ble_eq_true rfl, Nat.le_of_ble_eq_true rfl⟩ ⟨Nat.le_of_ble_eq_true rfl, Nat.le_of_ble_eq_true rfl⟩ (Nat.le_of_ble_eq_true rfl) rfl ?_
    refine Z_i2d C dX2_mean_19 rfl ?_
    refine Z_aload_n C dX2_mean_20 rfl rfl ?_
    refine Z_get C K2 (v := .ref 1) 0 dX2_mean_21 rfl (by decide) g_106 rfl rfl ?_
    refine Z_getN C K1 (v := .int (K.2.2.1 1)) 10 dX2_mean_24 rfl (by decide) (show Cond.fieldLinkNest RX2 81 RX1 "hanging" "I" RX2 ∈ nW by simp [nW]) rfl rfl ?_
    refine Z_i2d C dX2_mean_27 rfl ?_
    refine Z_ddiv C (v := cMn K) dX2_mean_28 (hd c1) (by unfold cMn; rw [if_pos c1]) ?_
    exact Z_dret C hr hlk dX2_mean_29 rfl rfl
  · have e : cMn K = FP.dconst0 := by unfold cMn; rw [if_neg c1]
    refine Z_dconst0 C dX2_mean_10 ?_
    rw [e]
    exact Z_dret C hr hlk dX2_mean_11 rfl rfl
