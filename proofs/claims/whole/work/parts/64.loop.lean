/-! the law's loop -/
section ZM
variable {p : Program} {l : Launch} {e : Env} {s : State} {m : MethodId} {args : Array Value} {below : List Frame} {meth : Method} {c : Code} {G : gG} {A : Nat → Prop} {h : Nat → Nat} {Q : State → Prop} {k n b N : Nat} {xs : Nat → Int32}
set_option maxHeartbeats 4000000 in
set_option maxRecDepth 20000 in
theorem B_mean (C : Cx p s m args c cL_law 9 RL G A) (hst : l.stackTraces = false) (hY : gY A s s.heap) (hX : va_X b N xs s s.heap) (hbl : b < s.heap.size) (hbA : ¬ A b) (hh : h 1000 = b) (hN : N ≤ 2560) {i : Nat} (hi : i + 5 ≤ N) {K D : St} {B : Sr} {M : Md} {f : Nat → Int64} {n0 r : Nat} (hS : Si n0 r B K M) (hcs : k + 5 ≤ room_1.cells ∧ n + 380 ≤ room_1.slots) (kk : ∀ (n' r' : Nat) (K' D' : St) (B' : Sr) (M' : Md) (f' : Nat → Int64), Si n' r' B' K' M' → Z p l e room_1 s m args below meth c 9 G A h Q (k + 5) (n + 380) (lW K' D' B' M' f') 1250 (Lc i) []) : Z p l e room_1 s m args below meth c 9 G A h Q k n (lW K D B M f) 1195 (Lc i) [] := by
  have hn := hS.1.1.1.kn
  have h40 := hS.1.1.1.h40
  have hb := hS.1.1.1.br
  have h30 := hS.1.1.1.h30
  have hmn := hS.1.1.1.mn
  have hmr := hS.1.1.1.mr
  obtain ⟨q1, q2, q3, q4⟩ := mean_q hS
  have hc := c_X2_mean K D B hn h40 q3
  have hm := c_X3_mean M hmn h40 hmr h30 (Si_ok hS) q4
  rw [q1] at hm
  clear q3 q4
  generalize cMn K = X at hc hm
  generalize mRk (mI M 0 0) = V at hm q2
  refine Z_aload_n C dL_law_1195 rfl rfl ?_
  refine Z_callV C (ws' := lW K D B M f) (st' := [.double X]) (rest := []) [0, 1, 2, 3, 4, 5, 6, 7, 8, 9, 10, 11, 12, 13, 14, 15, 16, 17, 18, 19, 20, 21, 22, 23, 24] hc m_X2_mean K2 g_141 dL_law_1196 rfl rfl rfl (outR _ _ _) (NW := 33) rfl rfl rfl rfl rfl ⟨Nat.le_of_ble_eq_true rfl, Nat.le_of_ble_eq_true rfl⟩ ⟨by omega, by omega⟩ (Nat.le_of_ble_eq_true rfl) rfl ?_
  refine Z_dstore C (L' := [(5, .double X), (4, .int (nI i)), (3, .ref 32), (2, .ref 25), (1, .ref 0), (0, .ref 1000)]) dL_law_1199 (by decide) rfl ?_
  refine Z_aload_n C dL_law_1201 rfl rfl ?_
  refine Z_callV C (ws' := lW K D B V f) (st' := [.double X]) (rest := []) [25, 26, 27, 28, 29, 30, 31] hm m_X3_mean K3 g_772 dL_law_1202 rfl rfl rfl (outS 25 rfl (outI 7 rfl rfl rfl (outR _ _ _))) (NW := 33) rfl rfl rfl rfl rfl ⟨Nat.le_of_ble_eq_true rfl, Nat.le_of_ble_eq_true rfl⟩ ⟨by omega, by omega⟩ (Nat.le_of_ble_eq_true rfl) rfl ?_
  refine Z_dstore C (L' := [(7, .double X), (5, .double X), (4, .int (nI i)), (3, .ref 32), (2, .ref 25), (1, .ref 0), (0, .ref 1000)]) dL_law_1205 (by decide) rfl ?_
  refine Z_dload C dL_law_1207 rfl ?_
  refine Z_dload C dL_law_1209 rfl ?_
  obtain ⟨v, hv⟩ : ∃ v, Op.cmpValue (FP.dcmp X X) .l = v := ⟨_, rfl⟩
  refine Z_dcmp C dL_law_1211 hv ?_
  refine Z_if_eq C 1233 dL_law_1212 (by decide) (fun c1 => ?_) (fun c1 => ?_)
  · skip
    refine Z_goto C 1250 dL_law_1233 (by decide) ?_
    refine Z_widen (k' := k + 5) (n' := n + 380) (by omega) (by omega) ?_
    exact Z_sub (by simp) (kk n0 r K D B V f q2)
  · refine Z_dload C dL_law_1215 rfl ?_
    refine Z_dload C dL_law_1217 rfl ?_
    refine Z_dcmp C dL_law_1219 hv ?_
    refine Z_if_eq C 1231 dL_law_1220 (by decide) (fun c2 => absurd c2 c1) (fun c2 => ?_)
    refine Z_dload C dL_law_1223 rfl ?_
    refine Z_dload C dL_law_1225 rfl ?_
    refine Z_dcmp C dL_law_1227 hv ?_
    refine Z_if_ne C 1233 dL_law_1228 (by decide) (fun c3 => ?_) (fun c3 => absurd c3 c1)
    refine Z_goto C 1250 dL_law_1233 (by decide) ?_
    refine Z_widen (k' := k + 5) (n' := n + 380) (by omega) (by omega) ?_
    exact Z_sub (by simp) (kk n0 r K D B V f q2)
set_option maxHeartbeats 4000000 in
set_option maxRecDepth 20000 in
theorem B_digest (C : Cx p s m args c cL_law 9 RL G A) (hst : l.stackTraces = false) (hY : gY A s s.heap) (hX : va_X b N xs s s.heap) (hbl : b < s.heap.size) (hbA : ¬ A b) (hh : h 1000 = b) (hN : N ≤ 2560) {i : Nat} (hi : i + 5 ≤ N) {K D : St} {B : Sr} {M : Md} {f : Nat → Int64} {n0 r : Nat} (hS : Si n0 r B K M) (hcs : k + 5 ≤ room_1.cells ∧ n + 380 ≤ room_1.slots) (kk : ∀ (n' r' : Nat) (K' D' : St) (B' : Sr) (M' : Md) (f' : Nat → Int64), Si n' r' B' K' M' → Z p l e room_1 s m args below meth c 9 G A h Q (k + 5) (n + 380) (lW K' D' B' M' f') 1250 (Lc i) []) : Z p l e room_1 s m args below meth c 9 G A h Q k n (lW K D B M f) 1236 (Lc i) [] := by
  have hn := hS.1.1.1.kn
  have h40 := hS.1.1.1.h40
  have hb := hS.1.1.1.br
  have h30 := hS.1.1.1.h30
  have hmn := hS.1.1.1.mn
  have hmr := hS.1.1.1.mr
  obtain ⟨q1, q2⟩ := digest_q hS
  have hc := c_X2_digest K D B hn h40 hb h30
  have hm := c_X3_digest M hmn h40 hmr h30 (Si_ok hS)
  rw [q1] at hm
  generalize cDg K B = X at hc hm
  generalize mRk (mI M 0 0) = V at hm q2
  refine Z_aload_n C dL_law_1236 rfl rfl ?_
  refine Z_callV C (ws' := lW K D B M f) (st' := [.long X]) (rest := []) [0, 1, 2, 3, 4, 5, 6, 7, 8, 9, 10, 11, 12, 13, 14, 15, 16, 17, 18, 19, 20, 21, 22, 23, 24] hc m_X2_digest K2 g_149 dL_law_1237 rfl rfl rfl (outR _ _ _) (NW := 33) rfl rfl rfl rfl rfl ⟨Nat.le_of_ble_eq_true rfl, Nat.le_of_ble_eq_true rfl⟩ ⟨by omega, by omega⟩ (Nat.le_of_ble_eq_true rfl) rfl ?_
  refine Z_aload_n C dL_law_1240 rfl rfl ?_
  refine Z_callV C (ws' := lW K D B V f) (st' := [.long X, .long X]) (rest := [.long X]) [25, 26, 27, 28, 29, 30, 31] hm m_X3_digest K3 g_776 dL_law_1241 rfl rfl rfl (outS 25 rfl (outI 7 rfl rfl rfl (outR _ _ _))) (NW := 33) rfl rfl rfl rfl rfl ⟨Nat.le_of_ble_eq_true rfl, Nat.le_of_ble_eq_true rfl⟩ ⟨by omega, by omega⟩ (Nat.le_of_ble_eq_true rfl) rfl ?_
  refine Z_lcmp C (v := 0) dL_law_1244 (lg_self X) ?_
  refine Z_if_eq C 1250 dL_law_1245 (by decide) (fun _ => ?_) (fun c4 => absurd rfl c4)
  refine Z_widen (k' := k + 5) (n' := n + 380) (by omega) (by omega) ?_
  exact kk n0 r K D B V f q2
theorem and31 (x : Int32) : ∃ j : Nat, j ≤ 31 ∧ x &&& 31 = nI j := by
  refine ⟨(x.toBitVec &&& 31#32).toNat, ?_, ?_⟩
  · rw [BitVec.toNat_and]
    exact Nat.and_le_right
  · apply Int32.toBitVec_inj.mp
    rw [Int32.toBitVec_and]
    show _ = BitVec.ofNat 32 _
    rw [BitVec.ofNat_toNat]
    simp
theorem more5 {N i : Nat} (hN : N ≤ 2560) (hi : i ≤ 2560) (h : ¬ nI N - 5 < nI i) : i + 5 ≤ N := by
  rcases Nat.lt_or_ge N 5 with z | z
  · exfalso
    have h1 : nI N - 5 < 0 := by
      rcases (show N = 0 ∨ N = 1 ∨ N = 2 ∨ N = 3 ∨ N = 4 by omega) with rfl | rfl | rfl | rfl | rfl <;> decide
    exact h (Int32.lt_of_lt_of_le h1 (nI_le (a := 0) (b := i) (by omega) (by omega)))
  · obtain ⟨q, rfl⟩ : ∃ q, N = q + 5 := ⟨N - 5, by omega⟩
    have e : nI (q + 5) - 5 = nI q := by rw [show nI (q + 5) = nI q + 5 from (nI_add q 5).symm, Int32.add_sub_cancel]
    rw [e] at h
    rcases Nat.lt_or_ge q i with y | y
    · exact absurd (nI_lt y (by omega)) h
    · omega
set_option maxHeartbeats 4000000 in
set_option maxRecDepth 20000 in
theorem L_one (C : Cx p s m args c cL_law 9 RL G A) (hst : l.stackTraces = false) (hY : gY A s s.heap) (hX : va_X b N xs s s.heap) (hbl : b < s.heap.size) (hbA : ¬ A b) (hh : h 1000 = b) (hN : N ≤ 2560) {i : Nat} (hi : i + 5 ≤ N) {K D : St} {B : Sr} {M : Md} {f : Nat → Int64} {n0 r : Nat} (hS : Si n0 r B K M) (hcs : k + 5 ≤ room_1.cells ∧ n + 380 ≤ room_1.slots) (kk : ∀ (n' r' : Nat) (K' D' : St) (B' : Sr) (M' : Md) (f' : Nat → Int64), Si n' r' B' K' M' → Z p l e room_1 s m args below meth c 9 G A h Q (k + 5) (n + 380) (lW K' D' B' M' f') 1250 (Lc i) []) : Z p l e room_1 s m args below meth c 9 G A h Q k n (lW K D B M f) 32 (Lc i) [] := by
  refine Z_aload_n C dL_law_32 rfl rfl ?_
  refine Z_iload C dL_law_33 rfl ?_
  refine Z_sld C hX hbl hbA hh (v := xs i) dL_law_35 (vp_in_nI (by omega) (by omega)) (by rw [nI_clamp (by omega)]) ?_
  refine Z_bipush C (v := 31) dL_law_36 (by decide) ?_
  obtain ⟨j, hj, ej⟩ := and31 (xs i)
  refine Z_iand C (v := nI j) dL_law_38 ej ?_
  rcases (show j = 0 ∨ j = 1 ∨ j = 2 ∨ j = 3 ∨ j = 4 ∨ j = 5 ∨ j = 6 ∨ j = 7 ∨ j = 8 ∨ j = 9 ∨ j = 10 ∨ j = 11 ∨ j = 12 ∨ j = 13 ∨ j = 14 ∨ j = 15 ∨ j = 16 ∨ j = 17 ∨ 18 ≤ j by omega) with rfl | rfl | rfl | rfl | rfl | rfl | rfl | rfl | rfl | rfl | rfl | rfl | rfl | rfl | rfl | rfl | rfl | rfl | hj2
  · refine Z_tIn C 0 124 dL_law_39 (by decide) (by decide) (by decide) rfl (by decide) ?_
    exact B_conjure C hst hY hX hbl hbA hh hN hi hS hcs kk
  · refine Z_tIn C 1 204 dL_law_39 (by decide) (by decide) (by decide) rfl (by decide) ?_
    exact B_hang C hst hY hX hbl hbA hh hN hi hS hcs kk
  · refine Z_tIn C 2 296 dL_law_39 (by decide) (by decide) (by decide) rfl (by decide) ?_
    exact B_prop C hst hY hX hbl hbA hh hN hi hS hcs kk
  · refine Z_tIn C 3 364 dL_law_39 (by decide) (by decide) (by decide) rfl (by decide) ?_
    exact B_renew C hst hY hX hbl hbA hh hN hi hS hcs kk
  · refine Z_tIn C 4 432 dL_law_39 (by decide) (by decide) (by decide) rfl (by decide) ?_
    exact B_stair C hst hY hX hbl hbA hh hN hi hS hcs kk
  · refine Z_tIn C 5 500 dL_law_39 (by decide) (by decide) (by decide) rfl (by decide) ?_
    exact B_swap C hst hY hX hbl hbA hh hN hi hS hcs kk
  · refine Z_tIn C 6 575 dL_law_39 (by decide) (by decide) (by decide) rfl (by decide) ?_
    exact B_joins C hst hY hX hbl hbA hh hN hi hS hcs kk
  · refine Z_tIn C 7 643 dL_law_39 (by decide) (by decide) (by decide) rfl (by decide) ?_
    exact B_steps C hst hY hX hbl hbA hh hN hi hS hcs kk
  · refine Z_tIn C 8 711 dL_law_39 (by decide) (by decide) (by decide) rfl (by decide) ?_
    exact B_stone C hst hY hX hbl hbA hh hN hi hS hcs kk
  · refine Z_tIn C 9 779 dL_law_39 (by decide) (by decide) (by decide) rfl (by decide) ?_
    exact B_first C hst hY hX hbl hbA hh hN hi hS hcs kk
  · refine Z_tIn C 10 835 dL_law_39 (by decide) (by decide) (by decide) rfl (by decide) ?_
    exact B_count C hst hY hX hbl hbA hh hN hi hS hcs kk
  · refine Z_tIn C 11 891 dL_law_39 (by decide) (by decide) (by decide) rfl (by decide) ?_
    exact B_pass C hst hY hX hbl hbA hh hN hi hS hcs kk
  · refine Z_tIn C 12 947 dL_law_39 (by decide) (by decide) (by decide) rfl (by decide) ?_
    exact B_without C hst hY hX hbl hbA hh hN hi hS hcs kk
  · refine Z_tIn C 13 1003 dL_law_39 (by decide) (by decide) (by decide) rfl (by decide) ?_
    exact B_lasts C hst hY hX hbl hbA hh hN hi hS hcs kk
  · refine Z_tIn C 14 1059 dL_law_39 (by decide) (by decide) (by decide) rfl (by decide) ?_
    exact B_foresee C hst hY hX hbl hbA hh hN hi hS hcs kk
  · refine Z_tIn C 15 1127 dL_law_39 (by decide) (by decide) (by decide) rfl (by decide) ?_
    exact B_advise C hst hY hX hbl hbA hh hN hi hS hcs kk
  · refine Z_tIn C 16 1195 dL_law_39 (by decide) (by decide) (by decide) rfl (by decide) ?_
    exact B_mean C hst hY hX hbl hbA hh hN hi hS hcs kk
  · refine Z_tIn C 17 1236 dL_law_39 (by decide) (by decide) (by decide) rfl (by decide) ?_
    exact B_digest C hst hY hX hbl hbA hh hN hi hS hcs kk
  · refine Z_tOut C 1250 dL_law_39 (Or.inr (by rw [nI_toInt (by omega)]; omega)) (by decide) ?_
    refine Z_widen (k' := k + 5) (n' := n + 380) (by omega) (by omega) ?_
    exact kk n0 r K D B M f hS
theorem L_loop (C : Cx p s m args c cL_law 9 RL G A) (hst : l.stackTraces = false) (hY : gY A s s.heap) (hX : va_X b N xs s s.heap) (hbl : b < s.heap.size) (hbA : ¬ A b) (hh : h 1000 = b) (hN : N ≤ 2560) (hend : ∀ (k n : Nat) (ws : List va_E) (L : List (Nat × Value)), k ≤ 601024 → n ≤ 7293034 → Z p l e room_1 s m args below meth c 9 G A h Q k n ws 1257 L [.int 1]) : ∀ (fu t : Nat) (K D : St) (B : Sr) (M : Md) (f : Nat → Int64) (n0 r : Nat), fu + t = 513 → 5 * t ≤ N → Si n0 r B K M → Z p l e room_1 s m args below meth c 9 G A h Q (100 + 5 * t) (3000 + 380 * t) (lW K D B M f) 23 (Lc (5 * t)) []
  | 0, t, _, _, _, _, _, _, _, h1, h2, _ => absurd h2 (by omega)
  | fu + 1, t, K, D, B, M, f, n0, r, h1, h2, hS => by
    have hr1 : room_1.cells = 601024 := rfl
    have hr2 : room_1.slots = 7293034 := rfl
    refine Z_iload C dL_law_23 rfl ?_
    refine Z_aload_n C dL_law_25 rfl rfl ?_
    refine Z_slen C hX hbl hbA hh (v := nI N) dL_law_26 rfl ?_
    refine Z_iconst C (v := 5) dL_law_27 (by decide) ?_
    refine Z_isub C (v := nI N - 5) dL_law_28 rfl ?_
    refine Z_icmp_gt C 1256 dL_law_29 (by decide) (fun c1 => ?_) (fun c1 => ?_)
    · refine Z_iconst C (v := 1) dL_law_1256 (by decide) ?_
      exact hend _ _ _ _ (by omega) (by omega)
    · have hi := more5 hN (by omega) c1
      refine L_one C hst hY hX hbl hbA hh hN hi hS ⟨by omega, by omega⟩ (fun n' r' K' D' B' M' f' hS' => ?_)
      refine Z_iinc C (L' := Lc (5 * (t + 1))) (v := nI (5 * (t + 1))) dL_law_1250 rfl (show nI (5 * t) + Int32.ofInt 5 = nI (5 * (t + 1)) from (nI_add (5 * t) 5).trans (by rw [Nat.mul_add])) (by decide) rfl ?_
      refine Z_goto C 23 dL_law_1253 (by decide) ?_
      refine Z_widen (k' := 100 + 5 * (t + 1)) (n' := 3000 + 380 * (t + 1)) (by omega) (by omega) ?_
      exact L_loop C hst hY hX hbl hbA hh hN hend fu (t + 1) K' D' B' M' f' n' r' (by omega) (by omega) hS'
end ZM
