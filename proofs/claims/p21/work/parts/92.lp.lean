/-! the law's thirty steps -/
set_option maxHeartbeats 1000000 in
set_option maxRecDepth 20000 in
theorem law_loop {p : Program} {l : Launch} {e : Env} {s : State} {m : MethodId} {args : Array Value} {below : List Frame} {meth : Method} {c : Code} {G : gG} {A : Nat → Prop} {Q : State → Prop} {b N : Nat} {xs : Nat → Int32} (C : Cx p s m args c cL_law 23 RL G A) (S : Cs l s A b N xs) (hN : N < 2 ^ 31)
    (hend : ∀ (hv : Nat → Nat) (k n : Nat) (w : WF) (L : List (Nat × Value)), k ≤ 600104 → n ≤ 7301314 → Y p l e room_1 s m args below meth c 23 G A hv Q k n w 999 L [.int 1]) :
    ∀ (j i : Nat), i + j = 30 → ∀ (hv : Nat → Nat) (n r : Nat) (B : Sr) (K D : St) (M : Md), hv 1000 = b → LI n r B K M → 1 ≤ n → M.2.2.1 0 0 = nI i → Df r M → Y p l e room_1 s m args below meth c 23 G A hv Q (15000 + 5000 * i) (400000 + 60000 * i) (gW (xW K D B) n r M (fun _ => none)) 22 [(0, .ref 1000), (1, .ref 0), (2, .ref 100), (3, .int (nI i))] [] := by
  intro j
  induction j with
  | zero =>
    intro i hi hv n r B K D M hh I hn1 hday hdf
    obtain rfl : i = 30 := by omega
    refine Y_iload_n C dL_law_22 rfl rfl ?_
    refine Y_bipush C (v := 30) dL_law_23 (by decide) ?_
    refine Y_icmp_ge C 994 dL_law_25 (by decide) (fun c1 => ?_) (fun c1 => absurd (by decide) c1)
    refine Y_aload_n C dL_law_994 rfl rfl ?_
    refine Y_aload_n C dL_law_995 rfl rfl ?_
    refine Y_sub (L' := []) (by simp) ?_
    refine Y_callM C S (c_X3_isSame (T := fun _ => none) I) m_X3_isSame K3 g_399 dL_law_996 gW_100 rfl rfl ⟨Nat.le_of_ble_eq_true rfl, Nat.le_of_ble_eq_true rfl⟩ ⟨Nat.le_of_ble_eq_true rfl, Nat.le_of_ble_eq_true rfl⟩ (Nat.le_of_ble_eq_true rfl) (L := []) trivial trivial (fun h1 r1 w1 ag1 F1 => ?_)
    subst F1
    exact hend _ _ _ _ _ (by decide) (by decide)
  | succ j ih =>
    intro i hi hv n r B K D M hh I hn1 hday hdf
    refine Y_iload_n C dL_law_22 rfl rfl ?_
    refine Y_bipush C (v := 30) dL_law_23 (by decide) ?_
    refine Y_icmp_ge C 994 dL_law_25 (by decide) (fun c1 => absurd c1 (nI_ge (b := 30) (by omega) (by decide))) (fun c1 => ?_)
    refine law_a (k0 := 15000 + 5000 * i) (n0 := 400000 + 60000 * i) C S I hh hN (by omega) (by omega) (by omega) (fun h1 x ag1 => ?_)
    refine law_b C S I (by omega) (by omega) (by omega) (fun h2 n2 r2 B2 Ka D2 M2 ag2 a2 a4 a5 I2 => ?_)
    refine law_c C S I2 (by omega) (by omega) (by omega) a2 (a4.trans hday) (fun h3 wh Kb D3 ag3 hwh I3 => ?_)
    have hd9 : (mDy M2).2.2.1 0 0 = nI (i + 1) := by rw [(LI_dy I2).2.2.2.2, a4, hday, nI_1]
    have hf9 : Df r2 (mDy M2) := Df_dy I2 (a5 hdf)
    generalize mDy M2 = Z at I3 hd9 hf9 ⊢
    refine law_d C S I3 (by omega) hwh (by omega) (by omega) (fun h4 D4 ag4 => ?_)
    refine law_e C S I3 (by omega) hwh hf9 (by omega) (by omega) (fun h5 B5 ag5 I5 => ?_)
    refine Y_iinc C (L' := [(3, .int (nI (i + 1))), (0, .ref 1000), (1, .ref 0), (2, .ref 100)]) (v := nI (i + 1)) dL_law_988 rfl (nI_inc _) (by decide) rfl ?_
    refine Y_goto C 22 dL_law_991 (by decide) ?_
    refine Y_widen (k' := 15000 + 5000 * (i + 1)) (n' := 400000 + 60000 * (i + 1)) (by omega) (by omega) ?_
    have k1000 : kpA 1000 := Or.inr (Or.inr (by decide))
    exact Y_sub (by simp) (ih (i + 1) (by omega) h5 n2 r2 B5 Kb D4 Z ((ag5 1000 k1000).trans ((ag4 1000 ⟨k1000, by decide⟩).trans ((ag3 1000 k1000).trans ((ag2 1000 k1000).trans ((ag1 1000 (by decide)).trans hh))))) I5 a2 hd9 hf9)
