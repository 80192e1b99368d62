/-! the two means -/
section ZD
variable {p : Program} {l : Launch} {e : Env} {R : Room} {s : State} {m : MethodId} {args : Array Value} {below : List Frame} {meth : Method} {c : Code} {cc : ByteArray} {nL : Nat} {own : String} {G : gG} {A : Nat → Prop} {h : Nat → Nat} {Q : State → Prop} {k n : Nat} {ws ws' : List va_E} {pc : Nat} {L L' : List (Nat × Value)} {st : List Value} {r : Option Value}
theorem Z_i2d (C : Cx p s m args c cc nL own G A) {x : Int32} {v : UInt64} (d : decode cc pc = .ok (.i2d, 1)) (hv : FP.i2d x = v) (kk : Z p l e R s m args below meth c nL G A h Q k n ws (pc + 1) L (.double v :: st)) : Z p l e R s m args below meth c nL G A h Q k n ws pc L (.int x :: st) := fun H locs ls hP hD hS hl => lv_i2d C.1 C.2.1 d (by subst hv; exact kk H locs ls hP hD hS hl)
theorem Z_ddiv (C : Cx p s m args c cc nL own G A) {x y v : UInt64} (d : decode cc pc = .ok (.ddiv, 1)) (hne : vf_n64 (FP.ddiv x y)) (hv : FP.ddiv x y = v) (kk : Z p l e R s m args below meth c nL G A h Q k n ws (pc + 1) L (.double v :: st)) : Z p l e R s m args below meth c nL G A h Q k n ws pc L (.double y :: .double x :: st) := fun H locs ls hP hD hS hl => lv_ddiv C.1 C.2.1 d hne (by subst hv; exact kk H locs ls hP hD hS hl)
theorem Z_dconst0 (C : Cx p s m args c cc nL own G A) (d : decode cc pc = .ok (.dconst 0, 1)) (kk : Z p l e R s m args below meth c nL G A h Q k n ws (pc + 1) L (.double FP.dconst0 :: st)) : Z p l e R s m args below meth c nL G A h Q k n ws pc L st := fun H locs ls hP hD hS hl => lv_dconst0 C.1 C.2.1 d (kk H locs ls hP hD hS hl)
theorem Z_dret (C : Cx p s m args c cc nL own G A) (hr : meth.sig.returnType = some .double) (hlk : meth.locks = false) {v : UInt64} (d : decode cc pc = .ok (.dreturn, 1)) (hv : r = some (.double v)) (hw : ws = ws') : Z p l e R s m args below meth c nL G A h (MQ below (gQ G h A r ws') args s k n A) k n ws pc L [.double v] := fun H locs ls hP hD hS hl => by
  subst hw; subst hv
  exact W.dret C.1 C.2.1 hr (fun t ht _ => ⟨⟨rfl, by rw [ht]; exact hP⟩, hS.F ht⟩) hS.2.2 d (hlocks := hlk)
end ZD
def cMn (K : St) : UInt64 := if 0 < K.2.2.1 1 then FP.ddiv (FP.i2d (sLd K)) (FP.i2d (K.2.2.1 1)) else FP.dconst0
def mSm1 (M : Md) (i : Nat) (a : Int32) : Int32 := a + M.2.2.1 1 i
def mSm (M : Md) : Int32 := fr (mSm1 M) (mN M) 0
def mMnR (X : Md) : UInt64 := if mHa X = 0 then FP.dconst0 else FP.ddiv (FP.i2d (mSm X)) (FP.i2d (mHa X))
def mMn (M : Md) : UInt64 := mMnR (mRk (mI M 0 0))
set_option maxHeartbeats 4000000 in
set_option maxRecDepth 20000 in
theorem c_X2_mean (K : St) (D : St) (B : Sr) {n : Nat} (hn : K.2.2.1 0 = nI n) (h40 : n ≤ 40) (hd : 0 < K.2.2.1 1 → vf_n64 (FP.ddiv (FP.i2d (sLd K)) (FP.i2d (K.2.2.1 1)))) : CT yX2_mean cX2_mean 1 (some .double) 2 0 0 [.ref 0] (twO ++ (stW 1 K ++ (stW 11 D ++ srW 21 B))) (some (.double (cMn K))) (twO ++ (stW 1 K ++ (stW 11 D ++ srW 21 B))) := by
  refine CT_of (L := [(0, .ref 0)]) (by decide) (fun _ => rfl) (fun _ => Nat.le_of_ble_eq_true rfl) ?_
  intro p l e s m args below meth c G h A C hr hlk _
  refine Z_aload_n C dX2_mean_0 rfl rfl ?_
  refine Z_get C K2 (v := .ref 1) 0 dX2_mean_1 rfl (by decide) g_131 rfl rfl ?_
  refine Z_getN C K1 (v := .int (K.2.2.1 1)) 10 dX2_mean_4 rfl (by decide) (show Cond.fieldLinkNest RX2 81 RX1 "hanging" "I" RX2 ∈ nW by simp [nW]) rfl rfl ?_
  refine Z_if_gt C 12 dX2_mean_7 (by decide) (fun c1 => ?_) (fun c1 => ?_)
  · refine Z_aload_n C dX2_mean_12 rfl rfl ?_
    refine Z_get C K2 (v := .ref 1) 0 dX2_mean_13 rfl (by decide) g_131 rfl rfl ?_
    refine Z_callV C (ws' := twO ++ (stW 1 K ++ (stW 11 D ++ srW 21 B))) (st' := [.int (sLd K)]) (rest := []) [1, 2, 3, 4, 5, 6, 7, 8, 9, 10] (c_X1_sumOfLoads K hn h40) m_X1_sumOfLoads K1 g_145 dX2_mean_16 rfl rfl rfl (outS 1 rfl (outS 10 rfl (outS 10 rfl (outR _ _ _)))) (NW := 25) rfl rfl rfl rfl rfl ⟨Nat.le_of_ble_eq_true rfl, Nat.le_of_ble_eq_true rfl⟩ ⟨Nat.le_of_ble_eq_true rfl, Nat.le_of_ble_eq_true rfl⟩ (Nat.le_of_ble_eq_true rfl) rfl ?_
    refine Z_i2d C dX2_mean_19 rfl ?_
    refine Z_aload_n C dX2_mean_20 rfl rfl ?_
    refine Z_get C K2 (v := .ref 1) 0 dX2_mean_21 rfl (by decide) g_131 rfl rfl ?_
    refine Z_getN C K1 (v := .int (K.2.2.1 1)) 10 dX2_mean_24 rfl (by decide) (show Cond.fieldLinkNest RX2 81 RX1 "hanging" "I" RX2 ∈ nW by simp [nW]) rfl rfl ?_
    refine Z_i2d C dX2_mean_27 rfl ?_
    refine Z_ddiv C (v := cMn K) dX2_mean_28 (hd c1) (by unfold cMn; rw [if_pos c1]) ?_
    exact Z_dret C hr hlk dX2_mean_29 rfl rfl
  · have e : cMn K = FP.dconst0 := by unfold cMn; rw [if_neg c1]
    refine Z_dconst0 C dX2_mean_10 ?_
    rw [e]
    exact Z_dret C hr hlk dX2_mean_11 rfl rfl
set_option maxHeartbeats 4000000 in
set_option maxRecDepth 20000 in
theorem c_X3_mean (M : Md) {n r : Nat} (hn : M.2.2.2 1 = nI n) (h40 : n ≤ 40) (hq : M.2.2.2 2 = nI r) (h30 : r ≤ 30) (ho : okM n M) (hd : ¬ mHa (mRk (mI M 0 0)) = 0 → vf_n64 (FP.ddiv (FP.i2d (mSm (mRk (mI M 0 0)))) (FP.i2d (mHa (mRk (mI M 0 0)))))) : CT yX3_mean cX3_mean 3 (some .double) 4 0 0 [.ref 0] (mdW 0 M) (some (.double (mMn M))) (mdW 0 (mRk (mI M 0 0))) := by
  refine CT_of (L := [(0, .ref 0)]) (by decide) (fun _ => rfl) (fun _ => Nat.le_of_ble_eq_true rfl) ?_
  intro p l e s m args below meth c G h A C hr hlk _
  refine Z_aload_n C dX3_mean_0 rfl rfl ?_
  refine Z_iconst C (v := 0) dX3_mean_1 (by decide) ?_
  refine Z_put C K3 (ws' := mdW 0 (mI M 0 0)) 0 dX3_mean_2 rfl (by decide) g_572 rfl rfl rfl rfl rfl (Nat.le_of_ble_eq_true rfl) rfl ?_
  refine Z_aload_n C dX3_mean_5 rfl rfl ?_
  refine Z_callV C (ws' := mdW 0 (mRk (mI M 0 0))) (st' := []) (rest := []) [0, 1, 2, 3, 4, 5, 6] (c_X3_reckon (mI M 0 0) hn h40 hq h30 ho) m_X3_reckon K3 g_626 dX3_mean_6 rfl rfl rfl (outL 7 rfl rfl rfl) (NW := 7) rfl rfl rfl rfl rfl ⟨Nat.le_of_ble_eq_true rfl, Nat.le_of_ble_eq_true rfl⟩ ⟨Nat.le_of_ble_eq_true rfl, Nat.le_of_ble_eq_true rfl⟩ (Nat.le_of_ble_eq_true rfl) rfl ?_
  have hX1 : (mRk (mI M 0 0)).2.2.2 1 = nI n := (congrFun (mi_Rk (mI M 0 0)) 1).trans hn
  have hX2 : (mRk (mI M 0 0)).2.2.2 2 = nI r := (congrFun (mi_Rk (mI M 0 0)) 2).trans hq
  have hXo : okM n (mRk (mI M 0 0)) := ok_Rk ho
  have hXm : mMn M = mMnR (mRk (mI M 0 0)) := rfl
  rw [hXm]
  clear hXm
  generalize mRk (mI M 0 0) = X1 at hd hX1 hX2 hXo ⊢
  refine Z_iconst C (v := 0) dX3_mean_9 (by decide) ?_
  refine Z_istore_n C (L' := [(1, .int 0), (0, .ref 0)]) dX3_mean_10 rfl (by decide) rfl ?_
  refine Z_iconst C (v := 0) dX3_mean_11 (by decide) ?_
  refine Z_istore_n C (L' := [(2, .int 0), (1, .int 0), (0, .ref 0)]) dX3_mean_12 rfl (by decide) rfl ?_
  refine Zfor (σ := Int32) (fun i T1 => Z p l e _ s m args below meth c 3 G A h _ 0 0 (mdW 0 X1) 13 [(2, .int (nI i)), (1, .int T1), (0, .ref 0)] []) (fun i T1 => True) (mSm1 X1) n (0) trivial (fun i T1 hi hT1 => trivial) (fun T1 hT1 eT1 => ?_) (fun i T1 hi hT1 hT1' kk => ?_)
  · refine Z_iload_n C dX3_mean_13 rfl rfl ?_
    refine Z_aload_n C dX3_mean_14 rfl rfl ?_
    refine Z_get C K3 (v := .int (X1.2.2.2 1)) 1 dX3_mean_15 rfl (by decide) g_573 rfl rfl ?_
    refine Z_icmp_ge C 36 dX3_mean_18 (by decide) (fun c1 => ?_) (fun c1 => absurd (ge_yes hX1) c1)
    have eS : mSm X1 = T1 := by unfold mSm; rw [mN_eq hX1 h40]; exact eT1.symm
    refine Z_aload_n C dX3_mean_36 rfl rfl ?_
    refine Z_callV C (ws' := mdW 0 X1) (st' := [.int (mHa X1)]) (rest := []) [0, 1, 2, 3, 4, 5, 6] (c_X3_hanging X1 hX1 h40 hX2 h30 hXo) m_X3_hanging K3 g_675 dX3_mean_37 rfl rfl rfl (outR _ _ _) (NW := 7) rfl rfl rfl rfl rfl ⟨Nat.le_of_ble_eq_true rfl, Nat.le_of_ble_eq_true rfl⟩ ⟨Nat.le_of_ble_eq_true rfl, Nat.le_of_ble_eq_true rfl⟩ (Nat.le_of_ble_eq_true rfl) rfl ?_
    refine Z_if_ne C 47 dX3_mean_40 (by decide) (fun c2 => ?_) (fun c2 => ?_)
    · refine Z_iload_n C dX3_mean_47 rfl rfl ?_
      refine Z_i2d C dX3_mean_48 rfl ?_
      refine Z_aload_n C dX3_mean_49 rfl rfl ?_
      refine Z_callV C (ws' := mdW 0 X1) (st' := [.int (mHa X1), .double (FP.i2d T1)]) (rest := [.double (FP.i2d T1)]) [0, 1, 2, 3, 4, 5, 6] (c_X3_hanging X1 hX1 h40 hX2 h30 hXo) m_X3_hanging K3 g_675 dX3_mean_50 rfl rfl rfl (outR _ _ _) (NW := 7) rfl rfl rfl rfl rfl ⟨Nat.le_of_ble_eq_true rfl, Nat.le_of_ble_eq_true rfl⟩ ⟨Nat.le_of_ble_eq_true rfl, Nat.le_of_ble_eq_true rfl⟩ (Nat.le_of_ble_eq_true rfl) rfl ?_
      refine Z_i2d C dX3_mean_53 rfl ?_
      refine Z_ddiv C (v := mMnR X1) dX3_mean_54 (by rw [← eS]; exact hd c2) (by unfold mMnR; rw [if_neg c2, eS]) ?_
      exact Z_dret C hr hlk dX3_mean_55 rfl rfl
    · have e : mMnR X1 = FP.dconst0 := by unfold mMnR; rw [if_pos c2]
      refine Z_dconst0 C dX3_mean_43 ?_
      refine Z_goto C 55 dX3_mean_44 (by decide) ?_
      rw [e]
      exact Z_dret C hr hlk dX3_mean_55 rfl rfl
  · refine Z_iload_n C dX3_mean_13 rfl rfl ?_
    refine Z_aload_n C dX3_mean_14 rfl rfl ?_
    refine Z_get C K3 (v := .int (X1.2.2.2 1)) 1 dX3_mean_15 rfl (by decide) g_573 rfl rfl ?_
    refine Z_icmp_ge C 36 dX3_mean_18 (by decide) (fun c2 => absurd c2 (ge_no hX1 h40 hi)) (fun c2 => ?_)
    refine Z_iload_n C dX3_mean_21 rfl rfl ?_
    refine Z_aload_n C dX3_mean_22 rfl rfl ?_
    refine Z_get C K3 (v := .ref 4) 6 dX3_mean_23 rfl (by decide) g_578 rfl rfl ?_
    refine Z_iload_n C dX3_mean_26 rfl rfl ?_
    refine Z_iaN C (v := X1.2.2.1 1 i) dX3_mean_27 rfl (show i < 40 by omega) (by decide) rfl ?_
    refine Z_iadd C (v := T1 + (X1.2.2.1 1 i)) dX3_mean_28 rfl ?_
    refine Z_istore_n C (L' := [(1, .int (T1 + (X1.2.2.1 1 i))), (2, .int (nI i)), (0, .ref 0)]) dX3_mean_29 rfl (by decide) rfl ?_
    refine Z_iinc C (L' := [(2, .int (nI (i + 1))), (1, .int (T1 + (X1.2.2.1 1 i))), (0, .ref 0)]) (v := nI (i + 1)) dX3_mean_30 rfl (nI_inc _) (by decide) rfl ?_
    refine Z_goto C 13 dX3_mean_33 (by decide) ?_
    rw [show (mSm1 X1) i T1 = T1 + (X1.2.2.1 1 i) from rfl] at kk
    exact Z_sub (by simp) kk
