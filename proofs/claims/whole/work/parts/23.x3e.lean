/-! the reference's steps: the ends of a way are stones -/
def okW (n r : Nat) (M : Md) : Prop := ∀ k, k < r → (∃ j : Nat, j < n ∧ M.2.1 0 k = nI j) ∧ (∃ j : Nat, j < n ∧ M.2.1 1 k = nI j)
def maw0 (a i : Nat) (M : Md) : Md := aA M 3 i (if nI i = nI a then 0 else -1)
def mstA (d k : Nat) (M : Md) : Md := if M.2.2.1 3 (ix (M.2.1 0 k)) = nI d then if M.2.2.1 3 (ix (M.2.1 1 k)) = -1 then aA M 3 (ix (M.2.1 1 k)) (nI (d + 1)) else M else M
def mstB (d k : Nat) (M : Md) : Md := if M.2.2.1 3 (ix (M.2.1 1 k)) = nI d then if M.2.2.1 3 (ix (M.2.1 0 k)) = -1 then aA M 3 (ix (M.2.1 0 k)) (nI (d + 1)) else M else M
def mst1 (d k : Nat) (M : Md) : Md := if M.2.1 2 k = 1 then M else mstB d k (mstA d k M)
def mSt (t r : Nat) : Nat → Nat → Md → Md
  | 0, _, M => M
  | k + 1, d, M => if M.2.2.1 3 t = -1 then mSt t r k (d + 1) (fr (mst1 d) r M) else M
def mStR (M : Md) (x y : Int32) : Md := mSt (ix y) (mR M) (mN M) 0 (fr (maw0 (ix x)) (mN M) (mI M 0 0))
def mSteps (M : Md) (x y : Int32) : Md × Int32 :=
  if mHas (mI M 0 0) x = false ∨ mHas (mI M 0 0) y = false then (mI (mI M 0 0) 0 1, 0) else if mHg (mI M 0 0) (ix x) = false ∨ mHg (mI M 0 0) (ix y) = false then (mI M 0 0, -1)
  else (mStR M x y, (mStR M x y).2.2.1 3 (ix y))
theorem mi_stA (d k : Nat) (M : Md) : (mstA d k M).2.2.2 = M.2.2.2 := by unfold mstA; split; split <;> rfl; rfl
theorem mi_stB (d k : Nat) (M : Md) : (mstB d k M).2.2.2 = M.2.2.2 := by unfold mstB; split; split <;> rfl; rfl
theorem mi_st1 (d k : Nat) (M : Md) : (mst1 d k M).2.2.2 = M.2.2.2 := by unfold mst1; split; rfl; exact (mi_stB _ _ _).trans (mi_stA _ _ _)
theorem mw_stA (d k : Nat) (M : Md) : (mstA d k M).2.1 = M.2.1 := by unfold mstA; split; split <;> rfl; rfl
theorem mw_stB (d k : Nat) (M : Md) : (mstB d k M).2.1 = M.2.1 := by unfold mstB; split; split <;> rfl; rfl
theorem mw_st1 (d k : Nat) (M : Md) : (mst1 d k M).2.1 = M.2.1 := by unfold mst1; split; rfl; exact (mw_stB _ _ _).trans (mw_stA _ _ _)
theorem ow_st1 {n r d k : Nat} {M : Md} (ho : okW n r M) : okW n r (mst1 d k M) := by
  intro j hj
  rw [mw_st1]
  exact ho j hj
set_option maxHeartbeats 4000000 in
set_option maxRecDepth 20000 in
theorem c_X3_steps (M : Md) (x : Int32) (y : Int32) {n r : Nat} (hn : M.2.2.2 1 = nI n) (h40 : n ≤ 40) (hq : M.2.2.2 2 = nI r) (h30 : r ≤ 30) (ho : okM n M) (hw : okW n r M) : CT yX3_steps cX3_steps 5 (some .int) 2 0 0 [.ref 0, .int x, .int y] (mdW 0 M) (some (.int ((mSteps M x y).2))) (mdW 0 ((mSteps M x y).1)) := by
  refine CT_of (L := [(0, .ref 0), (1, .int x), (2, .int y)]) (by decide) (fun _ => rfl) (fun _ => Nat.le_of_ble_eq_true rfl) ?_
  intro p l e s m args below meth c G h A C hr hlk _
  have eN : mN M = n := mN_eq hn h40; have eR : mR M = r := mR_eq hq h30
  refine Z_aload_n C dX3_steps_0 rfl rfl ?_
  refine Z_iconst C (v := 0) dX3_steps_1 (by decide) ?_
  refine Z_put C K3 (ws' := mdW 0 (mI M 0 0)) 0 dX3_steps_2 rfl (by decide) g_572 rfl rfl rfl rfl rfl (Nat.le_of_ble_eq_true rfl) rfl ?_
  refine Z_aload_n C dX3_steps_5 rfl rfl ?_
  refine Z_iload_n C dX3_steps_6 rfl rfl ?_
  refine Z_callV C (ws' := mdW 0 (mI M 0 0)) (st' := [.int (bI (mHas (mI M 0 0) x))]) (rest := []) [0, 1, 2, 3, 4, 5, 6] (c_X3_isStone (mI M 0 0) x) m_X3_isStone K3 g_667 dX3_steps_7 rfl rfl rfl (outR _ _ _) (NW := 7) rfl rfl rfl rfl rfl ⟨Nat.le_of_ble_eq_true rfl, Nat.le_of_ble_eq_true rfl⟩ ⟨Nat.le_of_ble_eq_true rfl, Nat.le_of_ble_eq_true rfl⟩ (Nat.le_of_ble_eq_true rfl) rfl ?_
  refine Z_if_eq C 21 dX3_steps_10 (by decide) (fun c1 => ?_) (fun c1 => ?_)
  · have c1 := bI_0.mp c1
    refine Z_aload_n C dX3_steps_21 rfl rfl ?_
    refine Z_iconst C (v := 1) dX3_steps_22 (by decide) ?_
    refine Z_callV C (ws' := mdW 0 (mI (mI M 0 0) 0 1)) (st' := [.int 0]) (rest := []) [0, 1, 2, 3, 4, 5, 6] (c_X3_fail (mI M 0 0) 1) m_X3_fail K3 g_611 dX3_steps_23 rfl rfl rfl (outL 7 rfl rfl rfl) (NW := 7) rfl rfl rfl rfl rfl ⟨Nat.le_of_ble_eq_true rfl, Nat.le_of_ble_eq_true rfl⟩ ⟨Nat.le_of_ble_eq_true rfl, Nat.le_of_ble_eq_true rfl⟩ (Nat.le_of_ble_eq_true rfl) rfl ?_
    exact Z_iret C hr hlk dX3_steps_26 (congrArg (fun z => some (Value.int z)) (show ((mSteps M x y).2) = 0 from by simp [mSteps, c1, eN, eR])) (by rw [show ((mSteps M x y).1) = (mI (mI M 0 0) 0 1) from by simp [mSteps, c1, eN, eR]])
  · have c1 := bI_n0.mp c1
    obtain ⟨a, ha, qa⟩ := isIn_ix hn (by omega) c1
    subst qa
    have ea : ix (nI a) = a := ix_nI (by omega)
    refine Z_aload_n C dX3_steps_13 rfl rfl ?_
    refine Z_iload_n C dX3_steps_14 rfl rfl ?_
    refine Z_callV C (ws' := mdW 0 (mI M 0 0)) (st' := [.int (bI (mHas (mI M 0 0) y))]) (rest := []) [0, 1, 2, 3, 4, 5, 6] (c_X3_isStone (mI M 0 0) y) m_X3_isStone K3 g_667 dX3_steps_15 rfl rfl rfl (outR _ _ _) (NW := 7) rfl rfl rfl rfl rfl ⟨Nat.le_of_ble_eq_true rfl, Nat.le_of_ble_eq_true rfl⟩ ⟨Nat.le_of_ble_eq_true rfl, Nat.le_of_ble_eq_true rfl⟩ (Nat.le_of_ble_eq_true rfl) rfl ?_
    refine Z_if_ne C 27 dX3_steps_18 (by decide) (fun c2 => ?_) (fun c2 => ?_)
    · have c2 := bI_n0.mp c2
      obtain ⟨b, hb, qb⟩ := isIn_ix hn (by omega) c2
      subst qb
      have eb : ix (nI b) = b := ix_nI (by omega)
      refine Z_aload_n C dX3_steps_27 rfl rfl ?_
      refine Z_iload_n C dX3_steps_28 rfl rfl ?_
      refine Z_callV C (ws' := mdW 0 (mI M 0 0)) (st' := [.int (bI (mHg (mI M 0 0) a))]) (rest := []) [0, 1, 2, 3, 4, 5, 6] (c_X3_hangs (mI M 0 0) (nI a) rfl (by omega)) m_X3_hangs K3 g_630 dX3_steps_29 rfl rfl rfl (outR _ _ _) (NW := 7) rfl rfl rfl rfl rfl ⟨Nat.le_of_ble_eq_true rfl, Nat.le_of_ble_eq_true rfl⟩ ⟨Nat.le_of_ble_eq_true rfl, Nat.le_of_ble_eq_true rfl⟩ (Nat.le_of_ble_eq_true rfl) rfl ?_
      refine Z_if_eq C 43 dX3_steps_32 (by decide) (fun c3 => ?_) (fun c3 => ?_)
      · have c3 := bI_0.mp c3
        refine Z_iconst C (v := (-1)) dX3_steps_43 (by decide) ?_
        exact Z_iret C hr hlk dX3_steps_44 (congrArg (fun z => some (Value.int z)) (show ((mSteps M (nI a) (nI b)).2) = (-1) from by simp [mSteps, c1, ea, c2, eb, c3, eN, eR])) (by rw [show ((mSteps M (nI a) (nI b)).1) = (mI M 0 0) from by simp [mSteps, c1, ea, c2, eb, c3, eN, eR]])
      · have c3 := bI_n0.mp c3
        refine Z_aload_n C dX3_steps_35 rfl rfl ?_
        refine Z_iload_n C dX3_steps_36 rfl rfl ?_
        refine Z_callV C (ws' := mdW 0 (mI M 0 0)) (st' := [.int (bI (mHg (mI M 0 0) b))]) (rest := []) [0, 1, 2, 3, 4, 5, 6] (c_X3_hangs (mI M 0 0) (nI b) rfl (by omega)) m_X3_hangs K3 g_630 dX3_steps_37 rfl rfl rfl (outR _ _ _) (NW := 7) rfl rfl rfl rfl rfl ⟨Nat.le_of_ble_eq_true rfl, Nat.le_of_ble_eq_true rfl⟩ ⟨Nat.le_of_ble_eq_true rfl, Nat.le_of_ble_eq_true rfl⟩ (Nat.le_of_ble_eq_true rfl) rfl ?_
        refine Z_if_ne C 45 dX3_steps_40 (by decide) (fun c4 => ?_) (fun c4 => ?_)
        · have c4 := bI_n0.mp c4
          refine Z_iconst C (v := 0) dX3_steps_45 (by decide) ?_
          refine Z_istore_n C (L' := [(3, .int 0), (0, .ref 0), (1, .int (nI a)), (2, .int (nI b))]) dX3_steps_46 rfl (by decide) rfl ?_
          refine Zfor (σ := Md) (fun i T1 => Z p l e _ s m args below meth c 5 G A h _ 0 0 (mdW 0 T1) 47 [(3, .int (nI i)), (0, .ref 0), (1, .int (nI a)), (2, .int (nI b))] []) (fun i T1 => T1.2.2.2 1 = nI n ∧ T1.2.2.2 2 = nI r ∧ okW n r T1) (maw0 a) n ((mI M 0 0)) (⟨hn, hq, hw⟩) (fun i T1 hi hT1 => hT1) (fun T1 hT1 eT1 => ?_) (fun i T1 hi hT1 hT1' kk => ?_)
          · refine Z_iload_n C dX3_steps_47 rfl rfl ?_
            refine Z_aload_n C dX3_steps_48 rfl rfl ?_
            refine Z_get C K3 (v := .int (T1.2.2.2 1)) 1 dX3_steps_49 rfl (by decide) g_573 rfl rfl ?_
            refine Z_icmp_ge C 77 dX3_steps_52 (by decide) (fun c5 => ?_) (fun c5 => absurd (ge_yes hT1.1) c5)
            refine Z_iconst C (v := 0) dX3_steps_77 (by decide) ?_
            refine Z_istore_n C (L' := [(3, .int 0), (0, .ref 0), (1, .int (nI a)), (2, .int (nI b))]) dX3_steps_78 rfl (by decide) rfl ?_
            have hg0 : mSt b r n 0 T1 = mStR M (nI a) (nI b) := by rw [mStR, ea, eb, eN, eR, eT1]
            refine Zind (σ := Md) (fun k U => ∀ d : Nat, d + k = n → U.2.2.2 1 = nI n → U.2.2.2 2 = nI r → okW n r U → mSt b r k d U = mStR M (nI a) (nI b) → Z p l e _ s m args below meth c 5 G A h _ 0 0 (mdW 0 U) 79 [(3, .int (nI d)), (0, .ref 0), (1, .int (nI a)), (2, .int (nI b))] []) n T1 (fun U d hd hU1 hU2 hU3 hg => ?_) (fun k U ih d hd hU1 hU2 hU3 hg => ?_) 0 (Nat.zero_add _) hT1.1 hT1.2.1 hT1.2.2 hg0
            · obtain rfl : d = n := by omega
              refine Z_iload_n C dX3_steps_79 rfl rfl ?_
              refine Z_aload_n C dX3_steps_80 rfl rfl ?_
              refine Z_get C K3 (v := .int (U.2.2.2 1)) 1 dX3_steps_81 rfl (by decide) g_573 rfl rfl ?_
              refine Z_icmp_ge C 229 dX3_steps_84 (by decide) (fun c6 => ?_) (fun c6 => absurd (ge_yes hU1) c6)
              refine Z_aload_n C dX3_steps_229 rfl rfl ?_
              refine Z_get C K3 (v := .ref 6) 8 dX3_steps_230 rfl (by decide) g_580 rfl rfl ?_
              refine Z_iload_n C dX3_steps_233 rfl rfl ?_
              refine Z_iaN C (v := U.2.2.1 3 b) dX3_steps_234 rfl (by omega) (by decide) rfl ?_
              exact Z_iret C hr hlk dX3_steps_235 (congrArg (fun z => some (Value.int z)) (show ((mSteps M (nI a) (nI b)).2) = (U.2.2.1 3 b) from by have hR : mStR M (nI a) (nI b) = U := (by rw [← hg]; simp [mSt]); simp [mSteps, hR, c1, ea, c2, eb, c3, c4, c5, c6])) (by rw [show ((mSteps M (nI a) (nI b)).1) = U from by have hR : mStR M (nI a) (nI b) = U := (by rw [← hg]; simp [mSt]); simp [mSteps, hR, c1, ea, c2, eb, c3, c4, c5, c6]])
            · refine Z_iload_n C dX3_steps_79 rfl rfl ?_
              refine Z_aload_n C dX3_steps_80 rfl rfl ?_
              refine Z_get C K3 (v := .int (U.2.2.2 1)) 1 dX3_steps_81 rfl (by decide) g_573 rfl rfl ?_
              refine Z_icmp_ge C 229 dX3_steps_84 (by decide) (fun c7 => absurd c7 (ge_no hU1 h40 (by omega))) (fun c7 => ?_)
              refine Z_aload_n C dX3_steps_87 rfl rfl ?_
              refine Z_get C K3 (v := .ref 6) 8 dX3_steps_88 rfl (by decide) g_580 rfl rfl ?_
              refine Z_iload_n C dX3_steps_91 rfl rfl ?_
              refine Z_iaN C (v := U.2.2.1 3 b) dX3_steps_92 rfl (by omega) (by decide) rfl ?_
              refine Z_iconst C (v := (-1)) dX3_steps_93 (by decide) ?_
              refine Z_icmp_ne C 229 dX3_steps_94 (by decide) (fun c8 => ?_) (fun c8 => ?_)
              · refine Z_aload_n C dX3_steps_229 rfl rfl ?_
                refine Z_get C K3 (v := .ref 6) 8 dX3_steps_230 rfl (by decide) g_580 rfl rfl ?_
                refine Z_iload_n C dX3_steps_233 rfl rfl ?_
                refine Z_iaN C (v := U.2.2.1 3 b) dX3_steps_234 rfl (by omega) (by decide) rfl ?_
                exact Z_iret C hr hlk dX3_steps_235 (congrArg (fun z => some (Value.int z)) (show ((mSteps M (nI a) (nI b)).2) = (U.2.2.1 3 b) from by have hR : mStR M (nI a) (nI b) = U := (by rw [← hg, mSt, if_neg c8]); simp [mSteps, hR, c1, ea, c2, eb, c3, c4, c5, c7, c8])) (by rw [show ((mSteps M (nI a) (nI b)).1) = U from by have hR : mStR M (nI a) (nI b) = U := (by rw [← hg, mSt, if_neg c8]); simp [mSteps, hR, c1, ea, c2, eb, c3, c4, c5, c7, c8]])
              · refine Z_iconst C (v := 0) dX3_steps_97 (by decide) ?_
                refine Z_istore C (L' := [(4, .int 0), (3, .int (nI d)), (0, .ref 0), (1, .int (nI a)), (2, .int (nI b))]) dX3_steps_98 (by decide) rfl ?_
                refine Zfor (σ := Md) (fun i T2 => Z p l e _ s m args below meth c 5 G A h _ 0 0 (mdW 0 T2) 100 [(4, .int (nI i)), (3, .int (nI d)), (0, .ref 0), (1, .int (nI a)), (2, .int (nI b))] []) (fun i T2 => T2.2.2.2 1 = nI n ∧ T2.2.2.2 2 = nI r ∧ okW n r T2) (mst1 d) r (U) (⟨hU1, hU2, hU3⟩) (fun i T2 hi hT2 => ⟨(congrFun (mi_st1 d i T2) 1).trans hT2.1, (congrFun (mi_st1 d i T2) 2).trans hT2.2.1, ow_st1 hT2.2.2⟩) (fun T2 hT2 eT2 => ?_) (fun i T2 hi hT2 hT2' kk => ?_)
                · refine Z_iload C dX3_steps_100 rfl ?_
                  refine Z_aload_n C dX3_steps_102 rfl rfl ?_
                  refine Z_get C K3 (v := .int (T2.2.2.2 2)) 2 dX3_steps_103 rfl (by decide) g_574 rfl rfl ?_
                  refine Z_icmp_ge C 223 dX3_steps_106 (by decide) (fun c9 => ?_) (fun c9 => absurd (ge_yes hT2.2.1) c9)
                  refine Z_iinc C (L' := [(3, .int (nI (d + 1))), (4, .int (nI r)), (0, .ref 0), (1, .int (nI a)), (2, .int (nI b))]) (v := nI (d + 1)) dX3_steps_223 rfl (nI_inc _) (by decide) rfl ?_
                  refine Z_goto C 79 dX3_steps_226 (by decide) ?_
                  exact Z_sub (by simp) (ih T2 (d + 1) (by omega) hT2.1 hT2.2.1 hT2.2.2 (by rw [← hg, mSt, if_pos c8, eT2]))
                · refine Z_iload C dX3_steps_100 rfl ?_
                  refine Z_aload_n C dX3_steps_102 rfl rfl ?_
                  refine Z_get C K3 (v := .int (T2.2.2.2 2)) 2 dX3_steps_103 rfl (by decide) g_574 rfl rfl ?_
                  refine Z_icmp_ge C 223 dX3_steps_106 (by decide) (fun c10 => absurd c10 (ge_no hT2.2.1 (Nat.le_trans h30 (by decide)) hi)) (fun c10 => ?_)
                  refine Z_aload_n C dX3_steps_109 rfl rfl ?_
                  refine Z_iload C dX3_steps_110 rfl ?_
                  refine Z_iconst C (v := 2) dX3_steps_112 (by decide) ?_
                  refine Z_callV C (ws' := mdW 0 T2) (st' := [.int (T2.2.1 2 i)]) (rest := []) [0, 1, 2, 3, 4, 5, 6] (c_X3_st T2 (nI i) 2 rfl (by omega) rfl (by first | decide | omega)) m_X3_st K3 g_659 dX3_steps_113 rfl rfl rfl (outR _ _ _) (NW := 7) rfl rfl rfl rfl rfl ⟨Nat.le_of_ble_eq_true rfl, Nat.le_of_ble_eq_true rfl⟩ ⟨Nat.le_of_ble_eq_true rfl, Nat.le_of_ble_eq_true rfl⟩ (Nat.le_of_ble_eq_true rfl) rfl ?_
                  refine Z_iconst C (v := 1) dX3_steps_116 (by decide) ?_
                  refine Z_icmp_ne C 123 dX3_steps_117 (by decide) (fun c11 => ?_) (fun c11 => ?_)
                  · obtain ⟨⟨a1, ha1, qa⟩, ⟨b1, hb1, qb⟩⟩ := hT2.2.2 i hi
                    have ea1 : ix (T2.2.1 0 i) = a1 := by rw [qa]; exact ix_nI (by omega)
                    have eb1 : ix (T2.2.1 1 i) = b1 := by rw [qb]; exact ix_nI (by omega)
                    refine Z_aload_n C dX3_steps_123 rfl rfl ?_
                    refine Z_get C K3 (v := .ref 6) 8 dX3_steps_124 rfl (by decide) g_580 rfl rfl ?_
                    refine Z_aload_n C dX3_steps_127 rfl rfl ?_
                    refine Z_iload C dX3_steps_128 rfl ?_
                    refine Z_iconst C (v := 0) dX3_steps_130 (by decide) ?_
                    refine Z_callV C (ws' := mdW 0 T2) (st' := [.int (T2.2.1 0 i), .ref 6]) (rest := [.ref 6]) [0, 1, 2, 3, 4, 5, 6] (c_X3_st T2 (nI i) 0 rfl (by omega) rfl (by first | decide | omega)) m_X3_st K3 g_659 dX3_steps_131 rfl rfl rfl (outR _ _ _) (NW := 7) rfl rfl rfl rfl rfl ⟨Nat.le_of_ble_eq_true rfl, Nat.le_of_ble_eq_true rfl⟩ ⟨Nat.le_of_ble_eq_true rfl, Nat.le_of_ble_eq_true rfl⟩ (Nat.le_of_ble_eq_true rfl) rfl ?_
                    refine Z_st (st := [.int (nI a1), .ref 6]) (by rw [qa]) ?_
                    refine Z_iaN C (v := T2.2.2.1 3 a1) dX3_steps_134 rfl (by omega) (by decide) rfl ?_
                    refine Z_iload_n C dX3_steps_135 rfl rfl ?_
                    refine Z_icmp_ne C 170 dX3_steps_136 (by decide) (fun c12 => ?_) (fun c12 => ?_)
                    · refine Z_ws (fun Y => mdW 0 Y) T2 (fun Y eY => ?_)
                      have hA : mstA d i T2 = Y := by rw [eY]; simp [mstA, c1, ea, c2, eb, c3, c4, c5, c7, c8, c10, c11, ea1, eb1, c12]
                      have hwX : Y.2.1 = T2.2.1 := by rw [eY]
                      have ea9 : ix (Y.2.1 0 i) = a1 := by rw [hwX]; exact ea1
                      have eb9 : ix (Y.2.1 1 i) = b1 := by rw [hwX]; exact eb1
                      refine Z_aload_n C dX3_steps_170 rfl rfl ?_
                      refine Z_get C K3 (v := .ref 6) 8 dX3_steps_171 rfl (by decide) g_580 rfl rfl ?_
                      refine Z_aload_n C dX3_steps_174 rfl rfl ?_
                      refine Z_iload C dX3_steps_175 rfl ?_
                      refine Z_iconst C (v := 1) dX3_steps_177 (by decide) ?_
                      refine Z_callV C (ws' := mdW 0 Y) (st' := [.int (Y.2.1 1 i), .ref 6]) (rest := [.ref 6]) [0, 1, 2, 3, 4, 5, 6] (c_X3_st Y (nI i) 1 rfl (by omega) rfl (by first | decide | omega)) m_X3_st K3 g_659 dX3_steps_178 rfl rfl rfl (outR _ _ _) (NW := 7) rfl rfl rfl rfl rfl ⟨Nat.le_of_ble_eq_true rfl, Nat.le_of_ble_eq_true rfl⟩ ⟨Nat.le_of_ble_eq_true rfl, Nat.le_of_ble_eq_true rfl⟩ (Nat.le_of_ble_eq_true rfl) rfl ?_
                      refine Z_st (st := [.int (nI b1), .ref 6]) (by rw [hwX, qb]) ?_
                      refine Z_iaN C (v := Y.2.2.1 3 b1) dX3_steps_181 rfl (by omega) (by decide) rfl ?_
                      refine Z_iload_n C dX3_steps_182 rfl rfl ?_
                      refine Z_icmp_ne C 217 dX3_steps_183 (by decide) (fun c13 => ?_) (fun c13 => ?_)
                      · refine Z_iinc C (L' := [(4, .int (nI (i + 1))), (3, .int (nI d)), (0, .ref 0), (1, .int (nI a)), (2, .int (nI b))]) (v := nI (i + 1)) dX3_steps_217 rfl (nI_inc _) (by decide) rfl ?_
                        refine Z_goto C 100 dX3_steps_220 (by decide) ?_
                        rw [show (mst1 d) i T2 = Y from by simp [mst1, mstB, c1, ea, c2, eb, c3, c4, c5, c7, c8, c10, c11, ea1, eb1, c12, hA, ea9, eb9, c13]] at kk
                        exact Z_sub (by simp [bI_t, bI_f]) kk
                      · refine Z_aload_n C dX3_steps_186 rfl rfl ?_
                        refine Z_get C K3 (v := .ref 6) 8 dX3_steps_187 rfl (by decide) g_580 rfl rfl ?_
                        refine Z_aload_n C dX3_steps_190 rfl rfl ?_
                        refine Z_iload C dX3_steps_191 rfl ?_
                        refine Z_iconst C (v := 0) dX3_steps_193 (by decide) ?_
                        refine Z_callV C (ws' := mdW 0 Y) (st' := [.int (Y.2.1 0 i), .ref 6]) (rest := [.ref 6]) [0, 1, 2, 3, 4, 5, 6] (c_X3_st Y (nI i) 0 rfl (by omega) rfl (by first | decide | omega)) m_X3_st K3 g_659 dX3_steps_194 rfl rfl rfl (outR _ _ _) (NW := 7) rfl rfl rfl rfl rfl ⟨Nat.le_of_ble_eq_true rfl, Nat.le_of_ble_eq_true rfl⟩ ⟨Nat.le_of_ble_eq_true rfl, Nat.le_of_ble_eq_true rfl⟩ (Nat.le_of_ble_eq_true rfl) rfl ?_
                        refine Z_st (st := [.int (nI a1), .ref 6]) (by rw [hwX, qa]) ?_
                        refine Z_iaN C (v := Y.2.2.1 3 a1) dX3_steps_197 rfl (by omega) (by decide) rfl ?_
                        refine Z_iconst C (v := (-1)) dX3_steps_198 (by decide) ?_
                        refine Z_icmp_ne C 217 dX3_steps_199 (by decide) (fun c14 => ?_) (fun c14 => ?_)
                        · refine Z_iinc C (L' := [(4, .int (nI (i + 1))), (3, .int (nI d)), (0, .ref 0), (1, .int (nI a)), (2, .int (nI b))]) (v := nI (i + 1)) dX3_steps_217 rfl (nI_inc _) (by decide) rfl ?_
                          refine Z_goto C 100 dX3_steps_220 (by decide) ?_
                          rw [show (mst1 d) i T2 = Y from by simp [mst1, mstB, c1, ea, c2, eb, c3, c4, c5, c7, c8, c10, c11, ea1, eb1, c12, hA, ea9, eb9, c13, c14]] at kk
                          exact Z_sub (by simp [bI_t, bI_f]) kk
                        · refine Z_aload_n C dX3_steps_202 rfl rfl ?_
                          refine Z_get C K3 (v := .ref 6) 8 dX3_steps_203 rfl (by decide) g_580 rfl rfl ?_
                          refine Z_aload_n C dX3_steps_206 rfl rfl ?_
                          refine Z_iload C dX3_steps_207 rfl ?_
                          refine Z_iconst C (v := 0) dX3_steps_209 (by decide) ?_
                          refine Z_callV C (ws' := mdW 0 Y) (st' := [.int (Y.2.1 0 i), .ref 6]) (rest := [.ref 6]) [0, 1, 2, 3, 4, 5, 6] (c_X3_st Y (nI i) 0 rfl (by omega) rfl (by first | decide | omega)) m_X3_st K3 g_659 dX3_steps_210 rfl rfl rfl (outR _ _ _) (NW := 7) rfl rfl rfl rfl rfl ⟨Nat.le_of_ble_eq_true rfl, Nat.le_of_ble_eq_true rfl⟩ ⟨Nat.le_of_ble_eq_true rfl, Nat.le_of_ble_eq_true rfl⟩ (Nat.le_of_ble_eq_true rfl) rfl ?_
                          refine Z_st (st := [.int (nI a1), .ref 6]) (by rw [hwX, qa]) ?_
                          refine Z_iload_n C dX3_steps_213 rfl rfl ?_
                          refine Z_iconst C (v := 1) dX3_steps_214 (by decide) ?_
                          refine Z_iadd C (v := nI (d + 1)) dX3_steps_215 (nI_1 d) ?_
                          refine Z_isN C (ws' := mdW 0 (aA Y 3 a1 (nI (d + 1)))) dX3_steps_216 rfl (by omega) (by decide) rfl ?_
                          refine Z_iinc C (L' := [(4, .int (nI (i + 1))), (3, .int (nI d)), (0, .ref 0), (1, .int (nI a)), (2, .int (nI b))]) (v := nI (i + 1)) dX3_steps_217 rfl (nI_inc _) (by decide) rfl ?_
                          refine Z_goto C 100 dX3_steps_220 (by decide) ?_
                          rw [show (mst1 d) i T2 = (aA Y 3 a1 (nI (d + 1))) from by simp [mst1, mstB, c1, ea, c2, eb, c3, c4, c5, c7, c8, c10, c11, ea1, eb1, c12, hA, ea9, eb9, c13, c14]] at kk
                          exact Z_sub (by simp [bI_t, bI_f]) kk
                    · refine Z_aload_n C dX3_steps_139 rfl rfl ?_
                      refine Z_get C K3 (v := .ref 6) 8 dX3_steps_140 rfl (by decide) g_580 rfl rfl ?_
                      refine Z_aload_n C dX3_steps_143 rfl rfl ?_
                      refine Z_iload C dX3_steps_144 rfl ?_
                      refine Z_iconst C (v := 1) dX3_steps_146 (by decide) ?_
                      refine Z_callV C (ws' := mdW 0 T2) (st' := [.int (T2.2.1 1 i), .ref 6]) (rest := [.ref 6]) [0, 1, 2, 3, 4, 5, 6] (c_X3_st T2 (nI i) 1 rfl (by omega) rfl (by first | decide | omega)) m_X3_st K3 g_659 dX3_steps_147 rfl rfl rfl (outR _ _ _) (NW := 7) rfl rfl rfl rfl rfl ⟨Nat.le_of_ble_eq_true rfl, Nat.le_of_ble_eq_true rfl⟩ ⟨Nat.le_of_ble_eq_true rfl, Nat.le_of_ble_eq_true rfl⟩ (Nat.le_of_ble_eq_true rfl) rfl ?_
                      refine Z_st (st := [.int (nI b1), .ref 6]) (by rw [qb]) ?_
                      refine Z_iaN C (v := T2.2.2.1 3 b1) dX3_steps_150 rfl (by omega) (by decide) rfl ?_
                      refine Z_iconst C (v := (-1)) dX3_steps_151 (by decide) ?_
                      refine Z_icmp_ne C 170 dX3_steps_152 (by decide) (fun c15 => ?_) (fun c15 => ?_)
                      · refine Z_ws (fun Y => mdW 0 Y) T2 (fun Y eY => ?_)
                        have hA : mstA d i T2 = Y := by rw [eY]; simp [mstA, c1, ea, c2, eb, c3, c4, c5, c7, c8, c10, c11, ea1, eb1, c12, c15]
                        have hwX : Y.2.1 = T2.2.1 := by rw [eY]
                        have ea9 : ix (Y.2.1 0 i) = a1 := by rw [hwX]; exact ea1
                        have eb9 : ix (Y.2.1 1 i) = b1 := by rw [hwX]; exact eb1
                        refine Z_aload_n C dX3_steps_170 rfl rfl ?_
                        refine Z_get C K3 (v := .ref 6) 8 dX3_steps_171 rfl (by decide) g_580 rfl rfl ?_
                        refine Z_aload_n C dX3_steps_174 rfl rfl ?_
                        refine Z_iload C dX3_steps_175 rfl ?_
                        refine Z_iconst C (v := 1) dX3_steps_177 (by decide) ?_
                        refine Z_callV C (ws' := mdW 0 Y) (st' := [.int (Y.2.1 1 i), .ref 6]) (rest := [.ref 6]) [0, 1, 2, 3, 4, 5, 6] (c_X3_st Y (nI i) 1 rfl (by omega) rfl (by first | decide | omega)) m_X3_st K3 g_659 dX3_steps_178 rfl rfl rfl (outR _ _ _) (NW := 7) rfl rfl rfl rfl rfl ⟨Nat.le_of_ble_eq_true rfl, Nat.le_of_ble_eq_true rfl⟩ ⟨Nat.le_of_ble_eq_true rfl, Nat.le_of_ble_eq_true rfl⟩ (Nat.le_of_ble_eq_true rfl) rfl ?_
                        refine Z_st (st := [.int (nI b1), .ref 6]) (by rw [hwX, qb]) ?_
                        refine Z_iaN C (v := Y.2.2.1 3 b1) dX3_steps_181 rfl (by omega) (by decide) rfl ?_
                        refine Z_iload_n C dX3_steps_182 rfl rfl ?_
                        refine Z_icmp_ne C 217 dX3_steps_183 (by decide) (fun c16 => ?_) (fun c16 => ?_)
                        · refine Z_iinc C (L' := [(4, .int (nI (i + 1))), (3, .int (nI d)), (0, .ref 0), (1, .int (nI a)), (2, .int (nI b))]) (v := nI (i + 1)) dX3_steps_217 rfl (nI_inc _) (by decide) rfl ?_
                          refine Z_goto C 100 dX3_steps_220 (by decide) ?_
                          rw [show (mst1 d) i T2 = Y from by simp [mst1, mstB, c1, ea, c2, eb, c3, c4, c5, c7, c8, c10, c11, ea1, eb1, c12, c15, hA, ea9, eb9, c16]] at kk
                          exact Z_sub (by simp [bI_t, bI_f]) kk
                        · refine Z_aload_n C dX3_steps_186 rfl rfl ?_
                          refine Z_get C K3 (v := .ref 6) 8 dX3_steps_187 rfl (by decide) g_580 rfl rfl ?_
                          refine Z_aload_n C dX3_steps_190 rfl rfl ?_
                          refine Z_iload C dX3_steps_191 rfl ?_
                          refine Z_iconst C (v := 0) dX3_steps_193 (by decide) ?_
                          refine Z_callV C (ws' := mdW 0 Y) (st' := [.int (Y.2.1 0 i), .ref 6]) (rest := [.ref 6]) [0, 1, 2, 3, 4, 5, 6] (c_X3_st Y (nI i) 0 rfl (by omega) rfl (by first | decide | omega)) m_X3_st K3 g_659 dX3_steps_194 rfl rfl rfl (outR _ _ _) (NW := 7) rfl rfl rfl rfl rfl ⟨Nat.le_of_ble_eq_true rfl, Nat.le_of_ble_eq_true rfl⟩ ⟨Nat.le_of_ble_eq_true rfl, Nat.le_of_ble_eq_true rfl⟩ (Nat.le_of_ble_eq_true rfl) rfl ?_
                          refine Z_st (st := [.int (nI a1), .ref 6]) (by rw [hwX, qa]) ?_
                          refine Z_iaN C (v := Y.2.2.1 3 a1) dX3_steps_197 rfl (by omega) (by decide) rfl ?_
                          refine Z_iconst C (v := (-1)) dX3_steps_198 (by decide) ?_
                          refine Z_icmp_ne C 217 dX3_steps_199 (by decide) (fun c17 => ?_) (fun c17 => ?_)
                          · refine Z_iinc C (L' := [(4, .int (nI (i + 1))), (3, .int (nI d)), (0, .ref 0), (1, .int (nI a)), (2, .int (nI b))]) (v := nI (i + 1)) dX3_steps_217 rfl (nI_inc _) (by decide) rfl ?_
                            refine Z_goto C 100 dX3_steps_220 (by decide) ?_
                            rw [show (mst1 d) i T2 = Y from by simp [mst1, mstB, c1, ea, c2, eb, c3, c4, c5, c7, c8, c10, c11, ea1, eb1, c12, c15, hA, ea9, eb9, c16, c17]] at kk
                            exact Z_sub (by simp [bI_t, bI_f]) kk
                          · refine Z_aload_n C dX3_steps_202 rfl rfl ?_
                            refine Z_get C K3 (v := .ref 6) 8 dX3_steps_203 rfl (by decide) g_580 rfl rfl ?_
                            refine Z_aload_n C dX3_steps_206 rfl rfl ?_
                            refine Z_iload C dX3_steps_207 rfl ?_
                            refine Z_iconst C (v := 0) dX3_steps_209 (by decide) ?_
                            refine Z_callV C (ws' := mdW 0 Y) (st' := [.int (Y.2.1 0 i), .ref 6]) (rest := [.ref 6]) [0, 1, 2, 3, 4, 5, 6] (c_X3_st Y (nI i) 0 rfl (by omega) rfl (by first | decide | omega)) m_X3_st K3 g_659 dX3_steps_210 rfl rfl rfl (outR _ _ _) (NW := 7) rfl rfl rfl rfl rfl ⟨Nat.le_of_ble_eq_true rfl, Nat.le_of_ble_eq_true rfl⟩ ⟨Nat.le_of_ble_eq_true rfl, Nat.le_of_ble_eq_true rfl⟩ (Nat.le_of_ble_eq_true rfl) rfl ?_
                            refine Z_st (st := [.int (nI a1), .ref 6]) (by rw [hwX, qa]) ?_
                            refine Z_iload_n C dX3_steps_213 rfl rfl ?_
                            refine Z_iconst C (v := 1) dX3_steps_214 (by decide) ?_
                            refine Z_iadd C (v := nI (d + 1)) dX3_steps_215 (nI_1 d) ?_
                            refine Z_isN C (ws' := mdW 0 (aA Y 3 a1 (nI (d + 1)))) dX3_steps_216 rfl (by omega) (by decide) rfl ?_
                            refine Z_iinc C (L' := [(4, .int (nI (i + 1))), (3, .int (nI d)), (0, .ref 0), (1, .int (nI a)), (2, .int (nI b))]) (v := nI (i + 1)) dX3_steps_217 rfl (nI_inc _) (by decide) rfl ?_
                            refine Z_goto C 100 dX3_steps_220 (by decide) ?_
                            rw [show (mst1 d) i T2 = (aA Y 3 a1 (nI (d + 1))) from by simp [mst1, mstB, c1, ea, c2, eb, c3, c4, c5, c7, c8, c10, c11, ea1, eb1, c12, c15, hA, ea9, eb9, c16, c17]] at kk
                            exact Z_sub (by simp [bI_t, bI_f]) kk
                      · refine Z_aload_n C dX3_steps_155 rfl rfl ?_
                        refine Z_get C K3 (v := .ref 6) 8 dX3_steps_156 rfl (by decide) g_580 rfl rfl ?_
                        refine Z_aload_n C dX3_steps_159 rfl rfl ?_
                        refine Z_iload C dX3_steps_160 rfl ?_
                        refine Z_iconst C (v := 1) dX3_steps_162 (by decide) ?_
                        refine Z_callV C (ws' := mdW 0 T2) (st' := [.int (T2.2.1 1 i), .ref 6]) (rest := [.ref 6]) [0, 1, 2, 3, 4, 5, 6] (c_X3_st T2 (nI i) 1 rfl (by omega) rfl (by first | decide | omega)) m_X3_st K3 g_659 dX3_steps_163 rfl rfl rfl (outR _ _ _) (NW := 7) rfl rfl rfl rfl rfl ⟨Nat.le_of_ble_eq_true rfl, Nat.le_of_ble_eq_true rfl⟩ ⟨Nat.le_of_ble_eq_true rfl, Nat.le_of_ble_eq_true rfl⟩ (Nat.le_of_ble_eq_true rfl) rfl ?_
                        refine Z_st (st := [.int (nI b1), .ref 6]) (by rw [qb]) ?_
                        refine Z_iload_n C dX3_steps_166 rfl rfl ?_
                        refine Z_iconst C (v := 1) dX3_steps_167 (by decide) ?_
                        refine Z_iadd C (v := nI (d + 1)) dX3_steps_168 (nI_1 d) ?_
                        refine Z_isN C (ws' := mdW 0 (aA T2 3 b1 (nI (d + 1)))) dX3_steps_169 rfl (by omega) (by decide) rfl ?_
                        refine Z_ws (fun Y => mdW 0 Y) (aA T2 3 b1 (nI (d + 1))) (fun Y eY => ?_)
                        have hA : mstA d i T2 = Y := by rw [eY]; simp [mstA, c1, ea, c2, eb, c3, c4, c5, c7, c8, c10, c11, ea1, eb1, c12, c15]
                        have hwX : Y.2.1 = T2.2.1 := by rw [eY]
                        have ea9 : ix (Y.2.1 0 i) = a1 := by rw [hwX]; exact ea1
                        have eb9 : ix (Y.2.1 1 i) = b1 := by rw [hwX]; exact eb1
                        refine Z_aload_n C dX3_steps_170 rfl rfl ?_
                        refine Z_get C K3 (v := .ref 6) 8 dX3_steps_171 rfl (by decide) g_580 rfl rfl ?_
                        refine Z_aload_n C dX3_steps_174 rfl rfl ?_
                        refine Z_iload C dX3_steps_175 rfl ?_
                        refine Z_iconst C (v := 1) dX3_steps_177 (by decide) ?_
                        refine Z_callV C (ws' := mdW 0 Y) (st' := [.int (Y.2.1 1 i), .ref 6]) (rest := [.ref 6]) [0, 1, 2, 3, 4, 5, 6] (c_X3_st Y (nI i) 1 rfl (by omega) rfl (by first | decide | omega)) m_X3_st K3 g_659 dX3_steps_178 rfl rfl rfl (outR _ _ _) (NW := 7) rfl rfl rfl rfl rfl ⟨Nat.le_of_ble_eq_true rfl, Nat.le_of_ble_eq_true rfl⟩ ⟨Nat.le_of_ble_eq_true rfl, Nat.le_of_ble_eq_true rfl⟩ (Nat.le_of_ble_eq_true rfl) rfl ?_
                        refine Z_st (st := [.int (nI b1), .ref 6]) (by rw [hwX, qb]) ?_
                        refine Z_iaN C (v := Y.2.2.1 3 b1) dX3_steps_181 rfl (by omega) (by decide) rfl ?_
                        refine Z_iload_n C dX3_steps_182 rfl rfl ?_
                        refine Z_icmp_ne C 217 dX3_steps_183 (by decide) (fun c18 => ?_) (fun c18 => ?_)
                        · refine Z_iinc C (L' := [(4, .int (nI (i + 1))), (3, .int (nI d)), (0, .ref 0), (1, .int (nI a)), (2, .int (nI b))]) (v := nI (i + 1)) dX3_steps_217 rfl (nI_inc _) (by decide) rfl ?_
                          refine Z_goto C 100 dX3_steps_220 (by decide) ?_
                          rw [show (mst1 d) i T2 = Y from by simp [mst1, mstB, c1, ea, c2, eb, c3, c4, c5, c7, c8, c10, c11, ea1, eb1, c12, c15, hA, ea9, eb9, c18]] at kk
                          exact Z_sub (by simp [bI_t, bI_f]) kk
                        · refine Z_aload_n C dX3_steps_186 rfl rfl ?_
                          refine Z_get C K3 (v := .ref 6) 8 dX3_steps_187 rfl (by decide) g_580 rfl rfl ?_
                          refine Z_aload_n C dX3_steps_190 rfl rfl ?_
                          refine Z_iload C dX3_steps_191 rfl ?_
                          refine Z_iconst C (v := 0) dX3_steps_193 (by decide) ?_
                          refine Z_callV C (ws' := mdW 0 Y) (st' := [.int (Y.2.1 0 i), .ref 6]) (rest := [.ref 6]) [0, 1, 2, 3, 4, 5, 6] (c_X3_st Y (nI i) 0 rfl (by omega) rfl (by first | decide | omega)) m_X3_st K3 g_659 dX3_steps_194 rfl rfl rfl (outR _ _ _) (NW := 7) rfl rfl rfl rfl rfl ⟨Nat.le_of_ble_eq_true rfl, Nat.le_of_ble_eq_true rfl⟩ ⟨Nat.le_of_ble_eq_true rfl, Nat.le_of_ble_eq_true rfl⟩ (Nat.le_of_ble_eq_true rfl) rfl ?_
                          refine Z_st (st := [.int (nI a1), .ref 6]) (by rw [hwX, qa]) ?_
                          refine Z_iaN C (v := Y.2.2.1 3 a1) dX3_steps_197 rfl (by omega) (by decide) rfl ?_
                          refine Z_iconst C (v := (-1)) dX3_steps_198 (by decide) ?_
                          refine Z_icmp_ne C 217 dX3_steps_199 (by decide) (fun c19 => ?_) (fun c19 => ?_)
                          · refine Z_iinc C (L' := [(4, .int (nI (i + 1))), (3, .int (nI d)), (0, .ref 0), (1, .int (nI a)), (2, .int (nI b))]) (v := nI (i + 1)) dX3_steps_217 rfl (nI_inc _) (by decide) rfl ?_
                            refine Z_goto C 100 dX3_steps_220 (by decide) ?_
                            rw [show (mst1 d) i T2 = Y from by simp [mst1, mstB, c1, ea, c2, eb, c3, c4, c5, c7, c8, c10, c11, ea1, eb1, c12, c15, hA, ea9, eb9, c18, c19]] at kk
                            exact Z_sub (by simp [bI_t, bI_f]) kk
                          · refine Z_aload_n C dX3_steps_202 rfl rfl ?_
                            refine Z_get C K3 (v := .ref 6) 8 dX3_steps_203 rfl (by decide) g_580 rfl rfl ?_
                            refine Z_aload_n C dX3_steps_206 rfl rfl ?_
                            refine Z_iload C dX3_steps_207 rfl ?_
                            refine Z_iconst C (v := 0) dX3_steps_209 (by decide) ?_
                            refine Z_callV C (ws' := mdW 0 Y) (st' := [.int (Y.2.1 0 i), .ref 6]) (rest := [.ref 6]) [0, 1, 2, 3, 4, 5, 6] (c_X3_st Y (nI i) 0 rfl (by omega) rfl (by first | decide | omega)) m_X3_st K3 g_659 dX3_steps_210 rfl rfl rfl (outR _ _ _) (NW := 7) rfl rfl rfl rfl rfl ⟨Nat.le_of_ble_eq_true rfl, Nat.le_of_ble_eq_true rfl⟩ ⟨Nat.le_of_ble_eq_true rfl, Nat.le_of_ble_eq_true rfl⟩ (Nat.le_of_ble_eq_true rfl) rfl ?_
                            refine Z_st (st := [.int (nI a1), .ref 6]) (by rw [hwX, qa]) ?_
                            refine Z_iload_n C dX3_steps_213 rfl rfl ?_
                            refine Z_iconst C (v := 1) dX3_steps_214 (by decide) ?_
                            refine Z_iadd C (v := nI (d + 1)) dX3_steps_215 (nI_1 d) ?_
                            refine Z_isN C (ws' := mdW 0 (aA Y 3 a1 (nI (d + 1)))) dX3_steps_216 rfl (by omega) (by decide) rfl ?_
                            refine Z_iinc C (L' := [(4, .int (nI (i + 1))), (3, .int (nI d)), (0, .ref 0), (1, .int (nI a)), (2, .int (nI b))]) (v := nI (i + 1)) dX3_steps_217 rfl (nI_inc _) (by decide) rfl ?_
                            refine Z_goto C 100 dX3_steps_220 (by decide) ?_
                            rw [show (mst1 d) i T2 = (aA Y 3 a1 (nI (d + 1))) from by simp [mst1, mstB, c1, ea, c2, eb, c3, c4, c5, c7, c8, c10, c11, ea1, eb1, c12, c15, hA, ea9, eb9, c18, c19]] at kk
                            exact Z_sub (by simp [bI_t, bI_f]) kk
                  · refine Z_goto C 217 dX3_steps_120 (by decide) ?_
                    refine Z_iinc C (L' := [(4, .int (nI (i + 1))), (3, .int (nI d)), (0, .ref 0), (1, .int (nI a)), (2, .int (nI b))]) (v := nI (i + 1)) dX3_steps_217 rfl (nI_inc _) (by decide) rfl ?_
                    refine Z_goto C 100 dX3_steps_220 (by decide) ?_
                    rw [show (mst1 d) i T2 = T2 from by simp [mst1, mstB, c1, ea, c2, eb, c3, c4, c5, c7, c8, c10, c11]] at kk
                    exact Z_sub (by simp [bI_t, bI_f]) kk
          · refine Z_iload_n C dX3_steps_47 rfl rfl ?_
            refine Z_aload_n C dX3_steps_48 rfl rfl ?_
            refine Z_get C K3 (v := .int (T1.2.2.2 1)) 1 dX3_steps_49 rfl (by decide) g_573 rfl rfl ?_
            refine Z_icmp_ge C 77 dX3_steps_52 (by decide) (fun c20 => absurd c20 (ge_no hT1.1 h40 hi)) (fun c20 => ?_)
            refine Z_aload_n C dX3_steps_55 rfl rfl ?_
            refine Z_get C K3 (v := .ref 6) 8 dX3_steps_56 rfl (by decide) g_580 rfl rfl ?_
            refine Z_iload_n C dX3_steps_59 rfl rfl ?_
            refine Z_iload_n C dX3_steps_60 rfl rfl ?_
            refine Z_iload_n C dX3_steps_61 rfl rfl ?_
            refine Z_icmp_ne C 69 dX3_steps_62 (by decide) (fun c21 => ?_) (fun c21 => ?_)
            · refine Z_iconst C (v := (-1)) dX3_steps_69 (by decide) ?_
              refine Z_isN C (ws' := mdW 0 (aA T1 3 i (-1))) dX3_steps_70 rfl (by omega) (by decide) rfl ?_
              refine Z_iinc C (L' := [(3, .int (nI (i + 1))), (0, .ref 0), (1, .int (nI a)), (2, .int (nI b))]) (v := nI (i + 1)) dX3_steps_71 rfl (nI_inc _) (by decide) rfl ?_
              refine Z_goto C 47 dX3_steps_74 (by decide) ?_
              rw [show (maw0 a) i T1 = (aA T1 3 i (-1)) from by simp [maw0, c1, ea, c2, eb, c3, c4, c20, c21]] at kk
              exact Z_sub (by simp [bI_t, bI_f]) kk
            · refine Z_iconst C (v := 0) dX3_steps_65 (by decide) ?_
              refine Z_goto C 70 dX3_steps_66 (by decide) ?_
              refine Z_isN C (ws' := mdW 0 (aA T1 3 i 0)) dX3_steps_70 rfl (by omega) (by decide) rfl ?_
              refine Z_iinc C (L' := [(3, .int (nI (i + 1))), (0, .ref 0), (1, .int (nI a)), (2, .int (nI b))]) (v := nI (i + 1)) dX3_steps_71 rfl (nI_inc _) (by decide) rfl ?_
              refine Z_goto C 47 dX3_steps_74 (by decide) ?_
              rw [show (maw0 a) i T1 = (aA T1 3 i 0) from by simp [maw0, c1, ea, c2, eb, c3, c4, c20, c21]] at kk
              exact Z_sub (by simp [bI_t, bI_f]) kk
        · have c4 := bI_0.mp c4
          refine Z_iconst C (v := (-1)) dX3_steps_43 (by decide) ?_
          exact Z_iret C hr hlk dX3_steps_44 (congrArg (fun z => some (Value.int z)) (show ((mSteps M (nI a) (nI b)).2) = (-1) from by simp [mSteps, c1, ea, c2, eb, c3, c4, eN, eR])) (by rw [show ((mSteps M (nI a) (nI b)).1) = (mI M 0 0) from by simp [mSteps, c1, ea, c2, eb, c3, c4, eN, eR]])
    · have c2 := bI_0.mp c2
      refine Z_aload_n C dX3_steps_21 rfl rfl ?_
      refine Z_iconst C (v := 1) dX3_steps_22 (by decide) ?_
      refine Z_callV C (ws' := mdW 0 (mI (mI M 0 0) 0 1)) (st' := [.int 0]) (rest := []) [0, 1, 2, 3, 4, 5, 6] (c_X3_fail (mI M 0 0) 1) m_X3_fail K3 g_611 dX3_steps_23 rfl rfl rfl (outL 7 rfl rfl rfl) (NW := 7) rfl rfl rfl rfl rfl ⟨Nat.le_of_ble_eq_true rfl, Nat.le_of_ble_eq_true rfl⟩ ⟨Nat.le_of_ble_eq_true rfl, Nat.le_of_ble_eq_true rfl⟩ (Nat.le_of_ble_eq_true rfl) rfl ?_
      exact Z_iret C hr hlk dX3_steps_26 (congrArg (fun z => some (Value.int z)) (show ((mSteps M (nI a) y).2) = 0 from by simp [mSteps, c1, ea, c2, eN, eR])) (by rw [show ((mSteps M (nI a) y).1) = (mI (mI M 0 0) 0 1) from by simp [mSteps, c1, ea, c2, eN, eR]])
