/-! the law's blocks: one call of the class and of the reference each -/
abbrev lW (K D : St) (B : Sr) (M : Md) (f : Nat → Int64) : List va_E := xW K D B ++ (mdW 25 M ++ [oA f])
abbrev Lc (i : Nat) : List (Nat × Value) := [(4, .int (nI i)), (3, .ref 32), (2, .ref 25), (1, .ref 0), (0, .ref 1000)]
theorem kc_0 {a b : String} {o : Option String} (h : kc a b o = 0) : o = none := by
  cases o with
  | none => rfl
  | some x =>
    exfalso
    unfold kc at h
    simp only at h
    split at h
    · exact absurd h (by decide)
    · split at h
      · exact absurd h (by decide)
      · exact absurd h (by decide)
theorem oF_0 (v : Int64) (f : Nat → Int64) : oF none v f (nI 0).toNatClampNeg = v := by
  rw [nI_clamp (by decide)]
  show vp_updL f 0 v 0 = v
  unfold vp_updL
  simp
theorem lg_self (x : Int64) : lg_cmp x x = 0 := by
  unfold lg_cmp
  rw [if_neg (Int64.lt_irrefl), if_pos rfl]
section ZB
variable {p : Program} {l : Launch} {e : Env} {s : State} {m : MethodId} {args : Array Value} {below : List Frame} {meth : Method} {c : Code} {G : gG} {A : Nat → Prop} {h : Nat → Nat} {Q : State → Prop} {k n b N : Nat} {xs : Nat → Int32}
set_option maxHeartbeats 4000000 in
set_option maxRecDepth 20000 in
theorem B_conjure (C : Cx p s m args c cL_law 9 RL G A) (hst : l.stackTraces = false) (hY : gY A s s.heap) (hX : va_X b N xs s s.heap) (hbl : b < s.heap.size) (hbA : ¬ A b) (hh : h 1000 = b) (hN : N ≤ 2560) {i : Nat} (hi : i + 5 ≤ N) {K D : St} {B : Sr} {M : Md} {f : Nat → Int64} {n0 r : Nat} (hS : Si n0 r B K M) (hcs : k + 5 ≤ room_1.cells ∧ n + 380 ≤ room_1.slots) (kk : ∀ (n' r' : Nat) (K' D' : St) (B' : Sr) (M' : Md) (f' : Nat → Int64), Si n' r' B' K' M' → Z p l e room_1 s m args below meth c 9 G A h Q (k + 5) (n + 380) (lW K' D' B' M' f') 1250 (Lc i) []) : Z p l e room_1 s m args below meth c 9 G A h Q k n (lW K D B M f) 124 (Lc i) [] := by
  have hn := hS.1.1.1.kn
  have h40 := hS.1.1.1.h40
  have hb := hS.1.1.1.br
  have h30 := hS.1.1.1.h30
  have hmn := hS.1.1.1.mn
  have hmr := hS.1.1.1.mr
  have hc := c_L_conjure K D B (xs (i + 1)) (xs (i + 2)) (xs (i + 3)) f hn h40 hb h30
  have hm := c_X3_conjure M (xs (i + 1)) (xs (i + 2)) (xs (i + 3)) hmn h40 hmr h30 (Si_ok hS)
  obtain ⟨q1, q2, n2, q3⟩ := conj_q hS (xs (i + 1)) (xs (i + 2)) (xs (i + 3))
  generalize cConj K (xs (i + 1)) (xs (i + 2)) (xs (i + 3)) = Y at hc q1 q2 q3
  generalize mConj M (xs (i + 1)) (xs (i + 2)) (xs (i + 3)) = V at hm q1 q2 q3
  refine Z_aload_n C dL_law_124 rfl rfl ?_
  refine Z_arg C hX hbl hbA hh (i := i) (j := 1) (z := 1) rfl (by omega) (by omega) rfl rfl dL_law_125 dL_law_126 dL_law_128 dL_law_129 dL_law_130 ?_
  refine Z_arg C hX hbl hbA hh (i := i) (j := 2) (z := 2) rfl (by omega) (by omega) rfl rfl dL_law_131 dL_law_132 dL_law_134 dL_law_135 dL_law_136 ?_
  refine Z_arg C hX hbl hbA hh (i := i) (j := 3) (z := 3) rfl (by omega) (by omega) rfl rfl dL_law_137 dL_law_138 dL_law_140 dL_law_141 dL_law_142 ?_
  refine Z_aload_n C dL_law_143 rfl rfl ?_
  refine Z_callH C hst hY (ws' := lW Y.2.2 D B M (oF Y.1 (Y.2.1.toInt64) f)) (st' := [.int (kc eA eS Y.1)]) (rest := []) [0, 1, 2, 3, 4, 5, 6, 7, 8, 9, 10, 11, 12, 13, 14, 15, 16, 17, 18, 19, 20, 21, 22, 23, 24, 32] hc m_L_conjure g_207 dL_law_144 rfl rfl rfl (outI 25 rfl rfl rfl (outS 7 rfl (outL 1 rfl rfl rfl))) (NW := 33) rfl rfl rfl rfl ⟨Nat.le_of_ble_eq_true rfl, Nat.le_of_ble_eq_true rfl⟩ ⟨by omega, by omega⟩ (Nat.le_of_ble_eq_true rfl) rfl ?_
  refine Z_istore C (L' := [(5, .int (kc eA eS Y.1)), (4, .int (nI i)), (3, .ref 32), (2, .ref 25), (1, .ref 0), (0, .ref 1000)]) dL_law_147 (by decide) rfl ?_
  refine Z_aload_n C dL_law_149 rfl rfl ?_
  refine Z_arg C hX hbl hbA hh (i := i) (j := 1) (z := 1) rfl (by omega) (by omega) rfl rfl dL_law_150 dL_law_151 dL_law_153 dL_law_154 dL_law_155 ?_
  refine Z_arg C hX hbl hbA hh (i := i) (j := 2) (z := 2) rfl (by omega) (by omega) rfl rfl dL_law_156 dL_law_157 dL_law_159 dL_law_160 dL_law_161 ?_
  refine Z_arg C hX hbl hbA hh (i := i) (j := 3) (z := 3) rfl (by omega) (by omega) rfl rfl dL_law_162 dL_law_163 dL_law_165 dL_law_166 dL_law_167 ?_
  refine Z_callV C (ws' := lW Y.2.2 D B V.1 (oF Y.1 (Y.2.1.toInt64) f)) (st' := [.int V.2]) (rest := []) [25, 26, 27, 28, 29, 30, 31] hm m_X3_conjure K3 g_604 dL_law_168 rfl rfl rfl (outS 25 rfl (outI 7 rfl rfl rfl (outR _ _ _))) (NW := 33) rfl rfl rfl rfl rfl ⟨Nat.le_of_ble_eq_true rfl, Nat.le_of_ble_eq_true rfl⟩ ⟨by omega, by omega⟩ (Nat.le_of_ble_eq_true rfl) rfl ?_
  refine Z_istore C (L' := [(6, .int V.2), (5, .int (kc eA eS Y.1)), (4, .int (nI i)), (3, .ref 32), (2, .ref 25), (1, .ref 0), (0, .ref 1000)]) dL_law_171 (by decide) rfl ?_
  refine Z_aload_n C dL_law_173 rfl rfl ?_
  refine Z_callV C (ws' := lW Y.2.2 D B V.1 (oF Y.1 (Y.2.1.toInt64) f)) (st' := [.int (V.1.2.2.2 0)]) (rest := []) [25, 26, 27, 28, 29, 30, 31] (c_X3_thrown V.1) m_X3_thrown K3 g_600 dL_law_174 rfl rfl rfl (outR _ _ _) (NW := 33) rfl rfl rfl rfl rfl ⟨Nat.le_of_ble_eq_true rfl, Nat.le_of_ble_eq_true rfl⟩ ⟨by omega, by omega⟩ (Nat.le_of_ble_eq_true rfl) rfl ?_
  refine Z_iload C dL_law_177 rfl ?_
  refine Z_icmp_eq C 184 dL_law_179 (by decide) (fun c1 => ?_) (fun c1 => absurd q1 c1)
  refine Z_iload C dL_law_184 rfl ?_
  refine Z_if_ne C 201 dL_law_186 (by decide) (fun c2 => ?_) (fun c2 => ?_)
  · skip
    refine Z_goto C 1250 dL_law_201 (by decide) ?_
    refine Z_widen (k' := k + 5) (n' := n + 380) (by omega) (by omega) ?_
    exact Z_sub (by simp) (kk n2 r Y.2.2 D B V.1 _ q3)
  · have hE : Y.1 = none := kc_0 c2
    refine Z_aload_n C dL_law_189 rfl rfl ?_
    refine Z_iconst C (v := nI 0) dL_law_190 (by decide) ?_
    refine Z_lald C (v := (Y.2.1.toInt64)) dL_law_191 rfl (vp_in_nI (by decide) (by decide)) (by rw [hE]; exact oF_0 _ _) ?_
    refine Z_iload C dL_law_192 rfl ?_
    refine Z_i2l C (v := V.2.toInt64) dL_law_194 rfl ?_
    refine Z_lcmp C (v := 0) dL_law_195 (by rw [q2 hE]; exact lg_self _) ?_
    refine Z_if_eq C 201 dL_law_196 (by decide) (fun _ => ?_) (fun c4 => absurd rfl c4)
    refine Z_goto C 1250 dL_law_201 (by decide) ?_
    refine Z_widen (k' := k + 5) (n' := n + 380) (by omega) (by omega) ?_
    exact Z_sub (by simp) (kk n2 r Y.2.2 D B V.1 _ q3)
set_option maxHeartbeats 4000000 in
set_option maxRecDepth 20000 in
theorem B_hang (C : Cx p s m args c cL_law 9 RL G A) (hst : l.stackTraces = false) (hY : gY A s s.heap) (hX : va_X b N xs s s.heap) (hbl : b < s.heap.size) (hbA : ¬ A b) (hh : h 1000 = b) (hN : N ≤ 2560) {i : Nat} (hi : i + 5 ≤ N) {K D : St} {B : Sr} {M : Md} {f : Nat → Int64} {n0 r : Nat} (hS : Si n0 r B K M) (hcs : k + 5 ≤ room_1.cells ∧ n + 380 ≤ room_1.slots) (kk : ∀ (n' r' : Nat) (K' D' : St) (B' : Sr) (M' : Md) (f' : Nat → Int64), Si n' r' B' K' M' → Z p l e room_1 s m args below meth c 9 G A h Q (k + 5) (n + 380) (lW K' D' B' M' f') 1250 (Lc i) []) : Z p l e room_1 s m args below meth c 9 G A h Q k n (lW K D B M f) 204 (Lc i) [] := by
  have hn := hS.1.1.1.kn
  have h40 := hS.1.1.1.h40
  have hb := hS.1.1.1.br
  have h30 := hS.1.1.1.h30
  have hmn := hS.1.1.1.mn
  have hmr := hS.1.1.1.mr
  have hc := c_L_hang K D B (xs (i + 1)) (xs (i + 2)) (xs (i + 3)) (xs (i + 4)) f hn h40 hb h30
  have hm := c_X3_hang M (xs (i + 1)) (xs (i + 2)) (xs (i + 3)) (xs (i + 4)) hmn h40 hmr h30 (Si_ok hS)
  obtain ⟨q1, q2, n2, q3⟩ := hang_q hS (xs (i + 1)) (xs (i + 2)) (xs (i + 3)) (xs (i + 4))
  generalize cHang K (xs (i + 1)) (xs (i + 2)) (xs (i + 3)) (xs (i + 4)) = Y at hc q1 q2 q3
  generalize mHang M (xs (i + 1)) (xs (i + 2)) (xs (i + 3)) (xs (i + 4)) = V at hm q1 q2 q3
  refine Z_aload_n C dL_law_204 rfl rfl ?_
  refine Z_arg C hX hbl hbA hh (i := i) (j := 1) (z := 1) rfl (by omega) (by omega) rfl rfl dL_law_205 dL_law_206 dL_law_208 dL_law_209 dL_law_210 ?_
  refine Z_arg C hX hbl hbA hh (i := i) (j := 2) (z := 2) rfl (by omega) (by omega) rfl rfl dL_law_211 dL_law_212 dL_law_214 dL_law_215 dL_law_216 ?_
  refine Z_arg C hX hbl hbA hh (i := i) (j := 3) (z := 3) rfl (by omega) (by omega) rfl rfl dL_law_217 dL_law_218 dL_law_220 dL_law_221 dL_law_222 ?_
  refine Z_arg C hX hbl hbA hh (i := i) (j := 4) (z := 4) rfl (by omega) (by omega) rfl rfl dL_law_223 dL_law_224 dL_law_226 dL_law_227 dL_law_228 ?_
  refine Z_aload_n C dL_law_229 rfl rfl ?_
  refine Z_callH C hst hY (ws' := lW Y.2.2 D B M (oF Y.1 (Y.2.1.toInt64) f)) (st' := [.int (kc eA eI Y.1)]) (rest := []) [0, 1, 2, 3, 4, 5, 6, 7, 8, 9, 10, 11, 12, 13, 14, 15, 16, 17, 18, 19, 20, 21, 22, 23, 24, 32] hc m_L_hang g_354 dL_law_230 rfl rfl rfl (outI 25 rfl rfl rfl (outS 7 rfl (outL 1 rfl rfl rfl))) (NW := 33) rfl rfl rfl rfl ⟨Nat.le_of_ble_eq_true rfl, Nat.le_of_ble_eq_true rfl⟩ ⟨by omega, by omega⟩ (Nat.le_of_ble_eq_true rfl) rfl ?_
  refine Z_istore C (L' := [(5, .int (kc eA eI Y.1)), (4, .int (nI i)), (3, .ref 32), (2, .ref 25), (1, .ref 0), (0, .ref 1000)]) dL_law_233 (by decide) rfl ?_
  refine Z_aload_n C dL_law_235 rfl rfl ?_
  refine Z_arg C hX hbl hbA hh (i := i) (j := 1) (z := 1) rfl (by omega) (by omega) rfl rfl dL_law_236 dL_law_237 dL_law_239 dL_law_240 dL_law_241 ?_
  refine Z_arg C hX hbl hbA hh (i := i) (j := 2) (z := 2) rfl (by omega) (by omega) rfl rfl dL_law_242 dL_law_243 dL_law_245 dL_law_246 dL_law_247 ?_
  refine Z_arg C hX hbl hbA hh (i := i) (j := 3) (z := 3) rfl (by omega) (by omega) rfl rfl dL_law_248 dL_law_249 dL_law_251 dL_law_252 dL_law_253 ?_
  refine Z_arg C hX hbl hbA hh (i := i) (j := 4) (z := 4) rfl (by omega) (by omega) rfl rfl dL_law_254 dL_law_255 dL_law_257 dL_law_258 dL_law_259 ?_
  refine Z_callV C (ws' := lW Y.2.2 D B V.1 (oF Y.1 (Y.2.1.toInt64) f)) (st' := [.int V.2]) (rest := []) [25, 26, 27, 28, 29, 30, 31] hm m_X3_hang K3 g_663 dL_law_260 rfl rfl rfl (outS 25 rfl (outI 7 rfl rfl rfl (outR _ _ _))) (NW := 33) rfl rfl rfl rfl rfl ⟨Nat.le_of_ble_eq_true rfl, Nat.le_of_ble_eq_true rfl⟩ ⟨by omega, by omega⟩ (Nat.le_of_ble_eq_true rfl) rfl ?_
  refine Z_istore C (L' := [(6, .int V.2), (5, .int (kc eA eI Y.1)), (4, .int (nI i)), (3, .ref 32), (2, .ref 25), (1, .ref 0), (0, .ref 1000)]) dL_law_263 (by decide) rfl ?_
  refine Z_aload_n C dL_law_265 rfl rfl ?_
  refine Z_callV C (ws' := lW Y.2.2 D B V.1 (oF Y.1 (Y.2.1.toInt64) f)) (st' := [.int (V.1.2.2.2 0)]) (rest := []) [25, 26, 27, 28, 29, 30, 31] (c_X3_thrown V.1) m_X3_thrown K3 g_600 dL_law_266 rfl rfl rfl (outR _ _ _) (NW := 33) rfl rfl rfl rfl rfl ⟨Nat.le_of_ble_eq_true rfl, Nat.le_of_ble_eq_true rfl⟩ ⟨by omega, by omega⟩ (Nat.le_of_ble_eq_true rfl) rfl ?_
  refine Z_iload C dL_law_269 rfl ?_
  refine Z_icmp_eq C 276 dL_law_271 (by decide) (fun c1 => ?_) (fun c1 => absurd q1 c1)
  refine Z_iload C dL_law_276 rfl ?_
  refine Z_if_ne C 293 dL_law_278 (by decide) (fun c2 => ?_) (fun c2 => ?_)
  · skip
    refine Z_goto C 1250 dL_law_293 (by decide) ?_
    refine Z_widen (k' := k + 5) (n' := n + 380) (by omega) (by omega) ?_
    exact Z_sub (by simp) (kk n2 r Y.2.2 D B V.1 _ q3)
  · have hE : Y.1 = none := kc_0 c2
    refine Z_aload_n C dL_law_281 rfl rfl ?_
    refine Z_iconst C (v := nI 0) dL_law_282 (by decide) ?_
    refine Z_lald C (v := (Y.2.1.toInt64)) dL_law_283 rfl (vp_in_nI (by decide) (by decide)) (by rw [hE]; exact oF_0 _ _) ?_
    refine Z_iload C dL_law_284 rfl ?_
    refine Z_i2l C (v := V.2.toInt64) dL_law_286 rfl ?_
    refine Z_lcmp C (v := 0) dL_law_287 (by rw [q2 hE]; exact lg_self _) ?_
    refine Z_if_eq C 293 dL_law_288 (by decide) (fun _ => ?_) (fun c4 => absurd rfl c4)
    refine Z_goto C 1250 dL_law_293 (by decide) ?_
    refine Z_widen (k' := k + 5) (n' := n + 380) (by omega) (by omega) ?_
    exact Z_sub (by simp) (kk n2 r Y.2.2 D B V.1 _ q3)
set_option maxHeartbeats 4000000 in
set_option maxRecDepth 20000 in
theorem B_prop (C : Cx p s m args c cL_law 9 RL G A) (hst : l.stackTraces = false) (hY : gY A s s.heap) (hX : va_X b N xs s s.heap) (hbl : b < s.heap.size) (hbA : ¬ A b) (hh : h 1000 = b) (hN : N ≤ 2560) {i : Nat} (hi : i + 5 ≤ N) {K D : St} {B : Sr} {M : Md} {f : Nat → Int64} {n0 r : Nat} (hS : Si n0 r B K M) (hcs : k + 5 ≤ room_1.cells ∧ n + 380 ≤ room_1.slots) (kk : ∀ (n' r' : Nat) (K' D' : St) (B' : Sr) (M' : Md) (f' : Nat → Int64), Si n' r' B' K' M' → Z p l e room_1 s m args below meth c 9 G A h Q (k + 5) (n + 380) (lW K' D' B' M' f') 1250 (Lc i) []) : Z p l e room_1 s m args below meth c 9 G A h Q k n (lW K D B M f) 296 (Lc i) [] := by
  have hn := hS.1.1.1.kn
  have h40 := hS.1.1.1.h40
  have hb := hS.1.1.1.br
  have h30 := hS.1.1.1.h30
  have hmn := hS.1.1.1.mn
  have hmr := hS.1.1.1.mr
  have hc := c_L_prop K D B (xs (i + 1)) (xs (i + 2)) f hn h40 hb h30
  have hm := c_X3_prop M (xs (i + 1)) (xs (i + 2)) hmn h40 hmr h30 (Si_ok hS)
  obtain ⟨q1, q2, q3⟩ := prop_q hS (xs (i + 1)) (xs (i + 2))
  generalize cProp K (xs (i + 1)) (xs (i + 2)) = Y at hc q1 q2 q3
  generalize mProp M (xs (i + 1)) (xs (i + 2)) = V at hm q1 q2 q3
  refine Z_aload_n C dL_law_296 rfl rfl ?_
  refine Z_arg C hX hbl hbA hh (i := i) (j := 1) (z := 1) rfl (by omega) (by omega) rfl rfl dL_law_297 dL_law_298 dL_law_300 dL_law_301 dL_law_302 ?_
  refine Z_arg C hX hbl hbA hh (i := i) (j := 2) (z := 2) rfl (by omega) (by omega) rfl rfl dL_law_303 dL_law_304 dL_law_306 dL_law_307 dL_law_308 ?_
  refine Z_aload_n C dL_law_309 rfl rfl ?_
  refine Z_callH C hst hY (ws' := lW Y.2.2 D B M (oF Y.1 (Y.2.1.toInt64) f)) (st' := [.int (kc eI eA Y.1)]) (rest := []) [0, 1, 2, 3, 4, 5, 6, 7, 8, 9, 10, 11, 12, 13, 14, 15, 16, 17, 18, 19, 20, 21, 22, 23, 24, 32] hc m_L_prop g_383 dL_law_310 rfl rfl rfl (outI 25 rfl rfl rfl (outS 7 rfl (outL 1 rfl rfl rfl))) (NW := 33) rfl rfl rfl rfl ⟨Nat.le_of_ble_eq_true rfl, Nat.le_of_ble_eq_true rfl⟩ ⟨by omega, by omega⟩ (Nat.le_of_ble_eq_true rfl) rfl ?_
  refine Z_istore C (L' := [(5, .int (kc eI eA Y.1)), (4, .int (nI i)), (3, .ref 32), (2, .ref 25), (1, .ref 0), (0, .ref 1000)]) dL_law_313 (by decide) rfl ?_
  refine Z_aload_n C dL_law_315 rfl rfl ?_
  refine Z_arg C hX hbl hbA hh (i := i) (j := 1) (z := 1) rfl (by omega) (by omega) rfl rfl dL_law_316 dL_law_317 dL_law_319 dL_law_320 dL_law_321 ?_
  refine Z_arg C hX hbl hbA hh (i := i) (j := 2) (z := 2) rfl (by omega) (by omega) rfl rfl dL_law_322 dL_law_323 dL_law_325 dL_law_326 dL_law_327 ?_
  refine Z_callV C (ws' := lW Y.2.2 D B V.1 (oF Y.1 (Y.2.1.toInt64) f)) (st' := [.int V.2]) (rest := []) [25, 26, 27, 28, 29, 30, 31] hm m_X3_prop K3 g_671 dL_law_328 rfl rfl rfl (outS 25 rfl (outI 7 rfl rfl rfl (outR _ _ _))) (NW := 33) rfl rfl rfl rfl rfl ⟨Nat.le_of_ble_eq_true rfl, Nat.le_of_ble_eq_true rfl⟩ ⟨by omega, by omega⟩ (Nat.le_of_ble_eq_true rfl) rfl ?_
  refine Z_istore C (L' := [(6, .int V.2), (5, .int (kc eI eA Y.1)), (4, .int (nI i)), (3, .ref 32), (2, .ref 25), (1, .ref 0), (0, .ref 1000)]) dL_law_331 (by decide) rfl ?_
  refine Z_aload_n C dL_law_333 rfl rfl ?_
  refine Z_callV C (ws' := lW Y.2.2 D B V.1 (oF Y.1 (Y.2.1.toInt64) f)) (st' := [.int (V.1.2.2.2 0)]) (rest := []) [25, 26, 27, 28, 29, 30, 31] (c_X3_thrown V.1) m_X3_thrown K3 g_600 dL_law_334 rfl rfl rfl (outR _ _ _) (NW := 33) rfl rfl rfl rfl rfl ⟨Nat.le_of_ble_eq_true rfl, Nat.le_of_ble_eq_true rfl⟩ ⟨by omega, by omega⟩ (Nat.le_of_ble_eq_true rfl) rfl ?_
  refine Z_iload C dL_law_337 rfl ?_
  refine Z_icmp_eq C 344 dL_law_339 (by decide) (fun c1 => ?_) (fun c1 => absurd q1 c1)
  refine Z_iload C dL_law_344 rfl ?_
  refine Z_if_ne C 361 dL_law_346 (by decide) (fun c2 => ?_) (fun c2 => ?_)
  · skip
    refine Z_goto C 1250 dL_law_361 (by decide) ?_
    refine Z_widen (k' := k + 5) (n' := n + 380) (by omega) (by omega) ?_
    exact Z_sub (by simp) (kk n0 r Y.2.2 D B V.1 _ q3)
  · have hE : Y.1 = none := kc_0 c2
    refine Z_aload_n C dL_law_349 rfl rfl ?_
    refine Z_iconst C (v := nI 0) dL_law_350 (by decide) ?_
    refine Z_lald C (v := (Y.2.1.toInt64)) dL_law_351 rfl (vp_in_nI (by decide) (by decide)) (by rw [hE]; exact oF_0 _ _) ?_
    refine Z_iload C dL_law_352 rfl ?_
    refine Z_i2l C (v := V.2.toInt64) dL_law_354 rfl ?_
    refine Z_lcmp C (v := 0) dL_law_355 (by rw [q2 hE]; exact lg_self _) ?_
    refine Z_if_eq C 361 dL_law_356 (by decide) (fun _ => ?_) (fun c4 => absurd rfl c4)
    refine Z_goto C 1250 dL_law_361 (by decide) ?_
    refine Z_widen (k' := k + 5) (n' := n + 380) (by omega) (by omega) ?_
    exact Z_sub (by simp) (kk n0 r Y.2.2 D B V.1 _ q3)
set_option maxHeartbeats 4000000 in
set_option maxRecDepth 20000 in
theorem B_renew (C : Cx p s m args c cL_law 9 RL G A) (hst : l.stackTraces = false) (hY : gY A s s.heap) (hX : va_X b N xs s s.heap) (hbl : b < s.heap.size) (hbA : ¬ A b) (hh : h 1000 = b) (hN : N ≤ 2560) {i : Nat} (hi : i + 5 ≤ N) {K D : St} {B : Sr} {M : Md} {f : Nat → Int64} {n0 r : Nat} (hS : Si n0 r B K M) (hcs : k + 5 ≤ room_1.cells ∧ n + 380 ≤ room_1.slots) (kk : ∀ (n' r' : Nat) (K' D' : St) (B' : Sr) (M' : Md) (f' : Nat → Int64), Si n' r' B' K' M' → Z p l e room_1 s m args below meth c 9 G A h Q (k + 5) (n + 380) (lW K' D' B' M' f') 1250 (Lc i) []) : Z p l e room_1 s m args below meth c 9 G A h Q k n (lW K D B M f) 364 (Lc i) [] := by
  have hn := hS.1.1.1.kn
  have h40 := hS.1.1.1.h40
  have hb := hS.1.1.1.br
  have h30 := hS.1.1.1.h30
  have hmn := hS.1.1.1.mn
  have hmr := hS.1.1.1.mr
  have hc := c_L_renew K D B (xs (i + 1)) (xs (i + 2)) f hn h40 hb h30
  have hm := c_X3_renew M (xs (i + 1)) (xs (i + 2)) hmn h40 hmr h30 (Si_ok hS)
  obtain ⟨q1, q2, q3⟩ := renew_q hS (xs (i + 1)) (xs (i + 2))
  generalize cRenew K (xs (i + 1)) (xs (i + 2)) = Y at hc q1 q2 q3
  generalize mRenew M (xs (i + 1)) (xs (i + 2)) = V at hm q1 q2 q3
  refine Z_aload_n C dL_law_364 rfl rfl ?_
  refine Z_arg C hX hbl hbA hh (i := i) (j := 1) (z := 1) rfl (by omega) (by omega) rfl rfl dL_law_365 dL_law_366 dL_law_368 dL_law_369 dL_law_370 ?_
  refine Z_arg C hX hbl hbA hh (i := i) (j := 2) (z := 2) rfl (by omega) (by omega) rfl rfl dL_law_371 dL_law_372 dL_law_374 dL_law_375 dL_law_376 ?_
  refine Z_aload_n C dL_law_377 rfl rfl ?_
  refine Z_callH C hst hY (ws' := lW Y.2.2 D B M (oF Y.1 (Y.2.1.toInt64) f)) (st' := [.int (kc eI eA Y.1)]) (rest := []) [0, 1, 2, 3, 4, 5, 6, 7, 8, 9, 10, 11, 12, 13, 14, 15, 16, 17, 18, 19, 20, 21, 22, 23, 24, 32] hc m_L_renew g_396 dL_law_378 rfl rfl rfl (outI 25 rfl rfl rfl (outS 7 rfl (outL 1 rfl rfl rfl))) (NW := 33) rfl rfl rfl rfl ⟨Nat.le_of_ble_eq_true rfl, Nat.le_of_ble_eq_true rfl⟩ ⟨by omega, by omega⟩ (Nat.le_of_ble_eq_true rfl) rfl ?_
  refine Z_istore C (L' := [(5, .int (kc eI eA Y.1)), (4, .int (nI i)), (3, .ref 32), (2, .ref 25), (1, .ref 0), (0, .ref 1000)]) dL_law_381 (by decide) rfl ?_
  refine Z_aload_n C dL_law_383 rfl rfl ?_
  refine Z_arg C hX hbl hbA hh (i := i) (j := 1) (z := 1) rfl (by omega) (by omega) rfl rfl dL_law_384 dL_law_385 dL_law_387 dL_law_388 dL_law_389 ?_
  refine Z_arg C hX hbl hbA hh (i := i) (j := 2) (z := 2) rfl (by omega) (by omega) rfl rfl dL_law_390 dL_law_391 dL_law_393 dL_law_394 dL_law_395 ?_
  refine Z_callV C (ws' := lW Y.2.2 D B V.1 (oF Y.1 (Y.2.1.toInt64) f)) (st' := [.int V.2]) (rest := []) [25, 26, 27, 28, 29, 30, 31] hm m_X3_renew K3 g_679 dL_law_396 rfl rfl rfl (outS 25 rfl (outI 7 rfl rfl rfl (outR _ _ _))) (NW := 33) rfl rfl rfl rfl rfl ⟨Nat.le_of_ble_eq_true rfl, Nat.le_of_ble_eq_true rfl⟩ ⟨by omega, by omega⟩ (Nat.le_of_ble_eq_true rfl) rfl ?_
  refine Z_istore C (L' := [(6, .int V.2), (5, .int (kc eI eA Y.1)), (4, .int (nI i)), (3, .ref 32), (2, .ref 25), (1, .ref 0), (0, .ref 1000)]) dL_law_399 (by decide) rfl ?_
  refine Z_aload_n C dL_law_401 rfl rfl ?_
  refine Z_callV C (ws' := lW Y.2.2 D B V.1 (oF Y.1 (Y.2.1.toInt64) f)) (st' := [.int (V.1.2.2.2 0)]) (rest := []) [25, 26, 27, 28, 29, 30, 31] (c_X3_thrown V.1) m_X3_thrown K3 g_600 dL_law_402 rfl rfl rfl (outR _ _ _) (NW := 33) rfl rfl rfl rfl rfl ⟨Nat.le_of_ble_eq_true rfl, Nat.le_of_ble_eq_true rfl⟩ ⟨by omega, by omega⟩ (Nat.le_of_ble_eq_true rfl) rfl ?_
  refine Z_iload C dL_law_405 rfl ?_
  refine Z_icmp_eq C 412 dL_law_407 (by decide) (fun c1 => ?_) (fun c1 => absurd q1 c1)
  refine Z_iload C dL_law_412 rfl ?_
  refine Z_if_ne C 429 dL_law_414 (by decide) (fun c2 => ?_) (fun c2 => ?_)
  · skip
    refine Z_goto C 1250 dL_law_429 (by decide) ?_
    refine Z_widen (k' := k + 5) (n' := n + 380) (by omega) (by omega) ?_
    exact Z_sub (by simp) (kk n0 r Y.2.2 D B V.1 _ q3)
  · have hE : Y.1 = none := kc_0 c2
    refine Z_aload_n C dL_law_417 rfl rfl ?_
    refine Z_iconst C (v := nI 0) dL_law_418 (by decide) ?_
    refine Z_lald C (v := (Y.2.1.toInt64)) dL_law_419 rfl (vp_in_nI (by decide) (by decide)) (by rw [hE]; exact oF_0 _ _) ?_
    refine Z_iload C dL_law_420 rfl ?_
    refine Z_i2l C (v := V.2.toInt64) dL_law_422 rfl ?_
    refine Z_lcmp C (v := 0) dL_law_423 (by rw [q2 hE]; exact lg_self _) ?_
    refine Z_if_eq C 429 dL_law_424 (by decide) (fun _ => ?_) (fun c4 => absurd rfl c4)
    refine Z_goto C 1250 dL_law_429 (by decide) ?_
    refine Z_widen (k' := k + 5) (n' := n + 380) (by omega) (by omega) ?_
    exact Z_sub (by simp) (kk n0 r Y.2.2 D B V.1 _ q3)
set_option maxHeartbeats 4000000 in
set_option maxRecDepth 20000 in
theorem B_stair (C : Cx p s m args c cL_law 9 RL G A) (hst : l.stackTraces = false) (hY : gY A s s.heap) (hX : va_X b N xs s s.heap) (hbl : b < s.heap.size) (hbA : ¬ A b) (hh : h 1000 = b) (hN : N ≤ 2560) {i : Nat} (hi : i + 5 ≤ N) {K D : St} {B : Sr} {M : Md} {f : Nat → Int64} {n0 r : Nat} (hS : Si n0 r B K M) (hcs : k + 5 ≤ room_1.cells ∧ n + 380 ≤ room_1.slots) (kk : ∀ (n' r' : Nat) (K' D' : St) (B' : Sr) (M' : Md) (f' : Nat → Int64), Si n' r' B' K' M' → Z p l e room_1 s m args below meth c 9 G A h Q (k + 5) (n + 380) (lW K' D' B' M' f') 1250 (Lc i) []) : Z p l e room_1 s m args below meth c 9 G A h Q k n (lW K D B M f) 432 (Lc i) [] := by
  have hn := hS.1.1.1.kn
  have h40 := hS.1.1.1.h40
  have hb := hS.1.1.1.br
  have h30 := hS.1.1.1.h30
  have hmn := hS.1.1.1.mn
  have hmr := hS.1.1.1.mr
  have hc := c_L_stair K D B (xs (i + 1)) (xs (i + 2)) f hn h40 hb h30
  have hm := c_X3_stair M (xs (i + 1)) (xs (i + 2)) hmn h40 hmr h30 (Si_ok hS)
  obtain ⟨q1, q2, n2, q3⟩ := stair_q hS (xs (i + 1)) (xs (i + 2))
  generalize cStair K B (xs (i + 1)) (xs (i + 2)) = Y at hc q1 q2 q3
  generalize mStair M (xs (i + 1)) (xs (i + 2)) = V at hm q1 q2 q3
  refine Z_aload_n C dL_law_432 rfl rfl ?_
  refine Z_arg C hX hbl hbA hh (i := i) (j := 1) (z := 1) rfl (by omega) (by omega) rfl rfl dL_law_433 dL_law_434 dL_law_436 dL_law_437 dL_law_438 ?_
  refine Z_arg C hX hbl hbA hh (i := i) (j := 2) (z := 2) rfl (by omega) (by omega) rfl rfl dL_law_439 dL_law_440 dL_law_442 dL_law_443 dL_law_444 ?_
  refine Z_aload_n C dL_law_445 rfl rfl ?_
  refine Z_callH C hst hY (ws' := lW K D Y.2.2 M (oF Y.1 (Y.2.1.toInt64) f)) (st' := [.int (kc eI eA Y.1)]) (rest := []) [0, 1, 2, 3, 4, 5, 6, 7, 8, 9, 10, 11, 12, 13, 14, 15, 16, 17, 18, 19, 20, 21, 22, 23, 24, 32] hc m_L_stair g_409 dL_law_446 rfl rfl rfl (outI 25 rfl rfl rfl (outS 7 rfl (outL 1 rfl rfl rfl))) (NW := 33) rfl rfl rfl rfl ⟨Nat.le_of_ble_eq_true rfl, Nat.le_of_ble_eq_true rfl⟩ ⟨by omega, by omega⟩ (Nat.le_of_ble_eq_true rfl) rfl ?_
  refine Z_istore C (L' := [(5, .int (kc eI eA Y.1)), (4, .int (nI i)), (3, .ref 32), (2, .ref 25), (1, .ref 0), (0, .ref 1000)]) dL_law_449 (by decide) rfl ?_
  refine Z_aload_n C dL_law_451 rfl rfl ?_
  refine Z_arg C hX hbl hbA hh (i := i) (j := 1) (z := 1) rfl (by omega) (by omega) rfl rfl dL_law_452 dL_law_453 dL_law_455 dL_law_456 dL_law_457 ?_
  refine Z_arg C hX hbl hbA hh (i := i) (j := 2) (z := 2) rfl (by omega) (by omega) rfl rfl dL_law_458 dL_law_459 dL_law_461 dL_law_462 dL_law_463 ?_
  refine Z_callV C (ws' := lW K D Y.2.2 V.1 (oF Y.1 (Y.2.1.toInt64) f)) (st' := [.int V.2]) (rest := []) [25, 26, 27, 28, 29, 30, 31] hm m_X3_stair K3 g_683 dL_law_464 rfl rfl rfl (outS 25 rfl (outI 7 rfl rfl rfl (outR _ _ _))) (NW := 33) rfl rfl rfl rfl rfl ⟨Nat.le_of_ble_eq_true rfl, Nat.le_of_ble_eq_true rfl⟩ ⟨by omega, by omega⟩ (Nat.le_of_ble_eq_true rfl) rfl ?_
  refine Z_istore C (L' := [(6, .int V.2), (5, .int (kc eI eA Y.1)), (4, .int (nI i)), (3, .ref 32), (2, .ref 25), (1, .ref 0), (0, .ref 1000)]) dL_law_467 (by decide) rfl ?_
  refine Z_aload_n C dL_law_469 rfl rfl ?_
  refine Z_callV C (ws' := lW K D Y.2.2 V.1 (oF Y.1 (Y.2.1.toInt64) f)) (st' := [.int (V.1.2.2.2 0)]) (rest := []) [25, 26, 27, 28, 29, 30, 31] (c_X3_thrown V.1) m_X3_thrown K3 g_600 dL_law_470 rfl rfl rfl (outR _ _ _) (NW := 33) rfl rfl rfl rfl rfl ⟨Nat.le_of_ble_eq_true rfl, Nat.le_of_ble_eq_true rfl⟩ ⟨by omega, by omega⟩ (Nat.le_of_ble_eq_true rfl) rfl ?_
  refine Z_iload C dL_law_473 rfl ?_
  refine Z_icmp_eq C 480 dL_law_475 (by decide) (fun c1 => ?_) (fun c1 => absurd q1 c1)
  refine Z_iload C dL_law_480 rfl ?_
  refine Z_if_ne C 497 dL_law_482 (by decide) (fun c2 => ?_) (fun c2 => ?_)
  · skip
    refine Z_goto C 1250 dL_law_497 (by decide) ?_
    refine Z_widen (k' := k + 5) (n' := n + 380) (by omega) (by omega) ?_
    exact Z_sub (by simp) (kk n0 n2 K D Y.2.2 V.1 _ q3)
  · have hE : Y.1 = none := kc_0 c2
    refine Z_aload_n C dL_law_485 rfl rfl ?_
    refine Z_iconst C (v := nI 0) dL_law_486 (by decide) ?_
    refine Z_lald C (v := (Y.2.1.toInt64)) dL_law_487 rfl (vp_in_nI (by decide) (by decide)) (by rw [hE]; exact oF_0 _ _) ?_
    refine Z_iload C dL_law_488 rfl ?_
    refine Z_i2l C (v := V.2.toInt64) dL_law_490 rfl ?_
    refine Z_lcmp C (v := 0) dL_law_491 (by rw [q2 hE]; exact lg_self _) ?_
    refine Z_if_eq C 497 dL_law_492 (by decide) (fun _ => ?_) (fun c4 => absurd rfl c4)
    refine Z_goto C 1250 dL_law_497 (by decide) ?_
    refine Z_widen (k' := k + 5) (n' := n + 380) (by omega) (by omega) ?_
    exact Z_sub (by simp) (kk n0 n2 K D Y.2.2 V.1 _ q3)
set_option maxHeartbeats 4000000 in
set_option maxRecDepth 20000 in
theorem B_swap (C : Cx p s m args c cL_law 9 RL G A) (hst : l.stackTraces = false) (hY : gY A s s.heap) (hX : va_X b N xs s s.heap) (hbl : b < s.heap.size) (hbA : ¬ A b) (hh : h 1000 = b) (hN : N ≤ 2560) {i : Nat} (hi : i + 5 ≤ N) {K D : St} {B : Sr} {M : Md} {f : Nat → Int64} {n0 r : Nat} (hS : Si n0 r B K M) (hcs : k + 5 ≤ room_1.cells ∧ n + 380 ≤ room_1.slots) (kk : ∀ (n' r' : Nat) (K' D' : St) (B' : Sr) (M' : Md) (f' : Nat → Int64), Si n' r' B' K' M' → Z p l e room_1 s m args below meth c 9 G A h Q (k + 5) (n + 380) (lW K' D' B' M' f') 1250 (Lc i) []) : Z p l e room_1 s m args below meth c 9 G A h Q k n (lW K D B M f) 500 (Lc i) [] := by
  have hn := hS.1.1.1.kn
  have h40 := hS.1.1.1.h40
  have hb := hS.1.1.1.br
  have h30 := hS.1.1.1.h30
  have hmn := hS.1.1.1.mn
  have hmr := hS.1.1.1.mr
  have hc := c_L_swap K D B (xs (i + 1)) (xs (i + 2)) f hn h40 hb h30
  have hm := c_X3_swap M (xs (i + 1)) (xs (i + 2)) hmn h40 hmr h30 (Si_ok hS)
  obtain ⟨q1, q2, q3⟩ := swap_q hS (xs (i + 1)) (xs (i + 2))
  generalize cSwap K B (xs (i + 1)) (xs (i + 2)) = Y at hc q1 q2 q3
  generalize mSwap M (xs (i + 1)) (xs (i + 2)) = V at hm q1 q2 q3
  refine Z_aload_n C dL_law_500 rfl rfl ?_
  refine Z_arg C hX hbl hbA hh (i := i) (j := 1) (z := 1) rfl (by omega) (by omega) rfl rfl dL_law_501 dL_law_502 dL_law_504 dL_law_505 dL_law_506 ?_
  refine Z_arg C hX hbl hbA hh (i := i) (j := 2) (z := 2) rfl (by omega) (by omega) rfl rfl dL_law_507 dL_law_508 dL_law_510 dL_law_511 dL_law_512 ?_
  refine Z_aload_n C dL_law_513 rfl rfl ?_
  refine Z_callH C hst hY (ws' := lW K D Y.2.2 M (oF Y.1 (bL Y.2.1) f)) (st' := [.int (kc eI eA Y.1)]) (rest := []) [0, 1, 2, 3, 4, 5, 6, 7, 8, 9, 10, 11, 12, 13, 14, 15, 16, 17, 18, 19, 20, 21, 22, 23, 24, 32] hc m_L_swap g_427 dL_law_514 rfl rfl rfl (outI 25 rfl rfl rfl (outS 7 rfl (outL 1 rfl rfl rfl))) (NW := 33) rfl rfl rfl rfl ⟨Nat.le_of_ble_eq_true rfl, Nat.le_of_ble_eq_true rfl⟩ ⟨by omega, by omega⟩ (Nat.le_of_ble_eq_true rfl) rfl ?_
  refine Z_istore C (L' := [(5, .int (kc eI eA Y.1)), (4, .int (nI i)), (3, .ref 32), (2, .ref 25), (1, .ref 0), (0, .ref 1000)]) dL_law_517 (by decide) rfl ?_
  refine Z_aload_n C dL_law_519 rfl rfl ?_
  refine Z_arg C hX hbl hbA hh (i := i) (j := 1) (z := 1) rfl (by omega) (by omega) rfl rfl dL_law_520 dL_law_521 dL_law_523 dL_law_524 dL_law_525 ?_
  refine Z_arg C hX hbl hbA hh (i := i) (j := 2) (z := 2) rfl (by omega) (by omega) rfl rfl dL_law_526 dL_law_527 dL_law_529 dL_law_530 dL_law_531 ?_
  refine Z_callV C (ws' := lW K D Y.2.2 V.1 (oF Y.1 (bL Y.2.1) f)) (st' := [.int (bI V.2)]) (rest := []) [25, 26, 27, 28, 29, 30, 31] hm m_X3_swap K3 g_687 dL_law_532 rfl rfl rfl (outS 25 rfl (outI 7 rfl rfl rfl (outR _ _ _))) (NW := 33) rfl rfl rfl rfl rfl ⟨Nat.le_of_ble_eq_true rfl, Nat.le_of_ble_eq_true rfl⟩ ⟨by omega, by omega⟩ (Nat.le_of_ble_eq_true rfl) rfl ?_
  refine Z_istore C (L' := [(6, .int (bI V.2)), (5, .int (kc eI eA Y.1)), (4, .int (nI i)), (3, .ref 32), (2, .ref 25), (1, .ref 0), (0, .ref 1000)]) dL_law_535 (by decide) rfl ?_
  refine Z_aload_n C dL_law_537 rfl rfl ?_
  refine Z_callV C (ws' := lW K D Y.2.2 V.1 (oF Y.1 (bL Y.2.1) f)) (st' := [.int (V.1.2.2.2 0)]) (rest := []) [25, 26, 27, 28, 29, 30, 31] (c_X3_thrown V.1) m_X3_thrown K3 g_600 dL_law_538 rfl rfl rfl (outR _ _ _) (NW := 33) rfl rfl rfl rfl rfl ⟨Nat.le_of_ble_eq_true rfl, Nat.le_of_ble_eq_true rfl⟩ ⟨by omega, by omega⟩ (Nat.le_of_ble_eq_true rfl) rfl ?_
  refine Z_iload C dL_law_541 rfl ?_
  refine Z_icmp_eq C 548 dL_law_543 (by decide) (fun c1 => ?_) (fun c1 => absurd q1 c1)
  refine Z_iload C dL_law_548 rfl ?_
  refine Z_if_ne C 572 dL_law_550 (by decide) (fun c2 => ?_) (fun c2 => ?_)
  · skip
    refine Z_goto C 1250 dL_law_572 (by decide) ?_
    refine Z_widen (k' := k + 5) (n' := n + 380) (by omega) (by omega) ?_
    exact Z_sub (by simp) (kk n0 r K D Y.2.2 V.1 _ q3)
  · have hE : Y.1 = none := kc_0 c2
    refine Z_aload_n C dL_law_553 rfl rfl ?_
    refine Z_iconst C (v := nI 0) dL_law_554 (by decide) ?_
    refine Z_lald C (v := (bL Y.2.1)) dL_law_555 rfl (vp_in_nI (by decide) (by decide)) (by rw [hE]; exact oF_0 _ _) ?_
    refine Z_iload C dL_law_556 rfl ?_
    have q4 := q2 hE
    refine Z_if_eq C 565 dL_law_558 (by decide) (fun c3 => ?_) (fun c3 => ?_)
    · have q5 : V.2 = false := bI_0.mp c3
      refine Z_lconst C (v := 0) dL_law_565 (by decide) ?_
      refine Z_lcmp C (v := 0) dL_law_566 (by rw [← q4, q5]; decide) ?_
      refine Z_if_eq C 572 dL_law_567 (by decide) (fun _ => ?_) (fun c4 => absurd rfl c4)
      refine Z_goto C 1250 dL_law_572 (by decide) ?_
      refine Z_widen (k' := k + 5) (n' := n + 380) (by omega) (by omega) ?_
      exact Z_sub (by simp) (kk n0 r K D Y.2.2 V.1 _ q3)
    · have q5 : V.2 = true := bI_n0.mp c3
      refine Z_lconst C (v := 1) dL_law_561 (by decide) ?_
      refine Z_goto C 566 dL_law_562 (by decide) ?_
      refine Z_lcmp C (v := 0) dL_law_566 (by rw [← q4, q5]; decide) ?_
      refine Z_if_eq C 572 dL_law_567 (by decide) (fun _ => ?_) (fun c4 => absurd rfl c4)
      refine Z_goto C 1250 dL_law_572 (by decide) ?_
      refine Z_widen (k' := k + 5) (n' := n + 380) (by omega) (by omega) ?_
      exact Z_sub (by simp) (kk n0 r K D Y.2.2 V.1 _ q3)
set_option maxHeartbeats 4000000 in
set_option maxRecDepth 20000 in
theorem B_joins (C : Cx p s m args c cL_law 9 RL G A) (hst : l.stackTraces = false) (hY : gY A s s.heap) (hX : va_X b N xs s s.heap) (hbl : b < s.heap.size) (hbA : ¬ A b) (hh : h 1000 = b) (hN : N ≤ 2560) {i : Nat} (hi : i + 5 ≤ N) {K D : St} {B : Sr} {M : Md} {f : Nat → Int64} {n0 r : Nat} (hS : Si n0 r B K M) (hcs : k + 5 ≤ room_1.cells ∧ n + 380 ≤ room_1.slots) (kk : ∀ (n' r' : Nat) (K' D' : St) (B' : Sr) (M' : Md) (f' : Nat → Int64), Si n' r' B' K' M' → Z p l e room_1 s m args below meth c 9 G A h Q (k + 5) (n + 380) (lW K' D' B' M' f') 1250 (Lc i) []) : Z p l e room_1 s m args below meth c 9 G A h Q k n (lW K D B M f) 575 (Lc i) [] := by
  have hn := hS.1.1.1.kn
  have h40 := hS.1.1.1.h40
  have hb := hS.1.1.1.br
  have h30 := hS.1.1.1.h30
  have hmn := hS.1.1.1.mn
  have hmr := hS.1.1.1.mr
  have hc := c_L_joins K D B (xs (i + 1)) (xs (i + 2)) f hn h40 hb h30
  have hm := c_X3_joins M (xs (i + 1)) (xs (i + 2)) hmn h40 hmr h30 (Si_ok hS)
  obtain ⟨q1, q2, q3⟩ := joins_q hS (xs (i + 1)) (xs (i + 2))
  generalize cJoins K B (xs (i + 1)) (xs (i + 2)) = Y at hc q1 q2 q3
  generalize mJoins M (xs (i + 1)) (xs (i + 2)) = V at hm q1 q2 q3
  refine Z_aload_n C dL_law_575 rfl rfl ?_
  refine Z_arg C hX hbl hbA hh (i := i) (j := 1) (z := 1) rfl (by omega) (by omega) rfl rfl dL_law_576 dL_law_577 dL_law_579 dL_law_580 dL_law_581 ?_
  refine Z_arg C hX hbl hbA hh (i := i) (j := 2) (z := 2) rfl (by omega) (by omega) rfl rfl dL_law_582 dL_law_583 dL_law_585 dL_law_586 dL_law_587 ?_
  refine Z_aload_n C dL_law_588 rfl rfl ?_
  refine Z_callH C hst hY (ws' := lW K D B M (oF Y.1 (Y.2.toInt64) f)) (st' := [.int (kc eI eA Y.1)]) (rest := []) [0, 1, 2, 3, 4, 5, 6, 7, 8, 9, 10, 11, 12, 13, 14, 15, 16, 17, 18, 19, 20, 21, 22, 23, 24, 32] hc m_L_joins g_442 dL_law_589 rfl rfl rfl (outI 25 rfl rfl rfl (outS 7 rfl (outL 1 rfl rfl rfl))) (NW := 33) rfl rfl rfl rfl ⟨Nat.le_of_ble_eq_true rfl, Nat.le_of_ble_eq_true rfl⟩ ⟨by omega, by omega⟩ (Nat.le_of_ble_eq_true rfl) rfl ?_
  refine Z_istore C (L' := [(5, .int (kc eI eA Y.1)), (4, .int (nI i)), (3, .ref 32), (2, .ref 25), (1, .ref 0), (0, .ref 1000)]) dL_law_592 (by decide) rfl ?_
  refine Z_aload_n C dL_law_594 rfl rfl ?_
  refine Z_arg C hX hbl hbA hh (i := i) (j := 1) (z := 1) rfl (by omega) (by omega) rfl rfl dL_law_595 dL_law_596 dL_law_598 dL_law_599 dL_law_600 ?_
  refine Z_arg C hX hbl hbA hh (i := i) (j := 2) (z := 2) rfl (by omega) (by omega) rfl rfl dL_law_601 dL_law_602 dL_law_604 dL_law_605 dL_law_606 ?_
  refine Z_callV C (ws' := lW K D B V.1 (oF Y.1 (Y.2.toInt64) f)) (st' := [.int V.2]) (rest := []) [25, 26, 27, 28, 29, 30, 31] hm m_X3_joins K3 g_695 dL_law_607 rfl rfl rfl (outS 25 rfl (outI 7 rfl rfl rfl (outR _ _ _))) (NW := 33) rfl rfl rfl rfl rfl ⟨Nat.le_of_ble_eq_true rfl, Nat.le_of_ble_eq_true rfl⟩ ⟨by omega, by omega⟩ (Nat.le_of_ble_eq_true rfl) rfl ?_
  refine Z_istore C (L' := [(6, .int V.2), (5, .int (kc eI eA Y.1)), (4, .int (nI i)), (3, .ref 32), (2, .ref 25), (1, .ref 0), (0, .ref 1000)]) dL_law_610 (by decide) rfl ?_
  refine Z_aload_n C dL_law_612 rfl rfl ?_
  refine Z_callV C (ws' := lW K D B V.1 (oF Y.1 (Y.2.toInt64) f)) (st' := [.int (V.1.2.2.2 0)]) (rest := []) [25, 26, 27, 28, 29, 30, 31] (c_X3_thrown V.1) m_X3_thrown K3 g_600 dL_law_613 rfl rfl rfl (outR _ _ _) (NW := 33) rfl rfl rfl rfl rfl ⟨Nat.le_of_ble_eq_true rfl, Nat.le_of_ble_eq_true rfl⟩ ⟨by omega, by omega⟩ (Nat.le_of_ble_eq_true rfl) rfl ?_
  refine Z_iload C dL_law_616 rfl ?_
  refine Z_icmp_eq C 623 dL_law_618 (by decide) (fun c1 => ?_) (fun c1 => absurd q1 c1)
  refine Z_iload C dL_law_623 rfl ?_
  refine Z_if_ne C 640 dL_law_625 (by decide) (fun c2 => ?_) (fun c2 => ?_)
  · skip
    refine Z_goto C 1250 dL_law_640 (by decide) ?_
    refine Z_widen (k' := k + 5) (n' := n + 380) (by omega) (by omega) ?_
    exact Z_sub (by simp) (kk n0 r K D B V.1 _ q3)
  · have hE : Y.1 = none := kc_0 c2
    refine Z_aload_n C dL_law_628 rfl rfl ?_
    refine Z_iconst C (v := nI 0) dL_law_629 (by decide) ?_
    refine Z_lald C (v := (Y.2.toInt64)) dL_law_630 rfl (vp_in_nI (by decide) (by decide)) (by rw [hE]; exact oF_0 _ _) ?_
    refine Z_iload C dL_law_631 rfl ?_
    refine Z_i2l C (v := V.2.toInt64) dL_law_633 rfl ?_
    refine Z_lcmp C (v := 0) dL_law_634 (by rw [q2 hE]; exact lg_self _) ?_
    refine Z_if_eq C 640 dL_law_635 (by decide) (fun _ => ?_) (fun c4 => absurd rfl c4)
    refine Z_goto C 1250 dL_law_640 (by decide) ?_
    refine Z_widen (k' := k + 5) (n' := n + 380) (by omega) (by omega) ?_
    exact Z_sub (by simp) (kk n0 r K D B V.1 _ q3)
set_option maxHeartbeats 4000000 in
set_option maxRecDepth 20000 in
theorem B_steps (C : Cx p s m args c cL_law 9 RL G A) (hst : l.stackTraces = false) (hY : gY A s s.heap) (hX : va_X b N xs s s.heap) (hbl : b < s.heap.size) (hbA : ¬ A b) (hh : h 1000 = b) (hN : N ≤ 2560) {i : Nat} (hi : i + 5 ≤ N) {K D : St} {B : Sr} {M : Md} {f : Nat → Int64} {n0 r : Nat} (hS : Si n0 r B K M) (hcs : k + 5 ≤ room_1.cells ∧ n + 380 ≤ room_1.slots) (kk : ∀ (n' r' : Nat) (K' D' : St) (B' : Sr) (M' : Md) (f' : Nat → Int64), Si n' r' B' K' M' → Z p l e room_1 s m args below meth c 9 G A h Q (k + 5) (n + 380) (lW K' D' B' M' f') 1250 (Lc i) []) : Z p l e room_1 s m args below meth c 9 G A h Q k n (lW K D B M f) 643 (Lc i) [] := by
  have hn := hS.1.1.1.kn
  have h40 := hS.1.1.1.h40
  have hb := hS.1.1.1.br
  have h30 := hS.1.1.1.h30
  have hmn := hS.1.1.1.mn
  have hmr := hS.1.1.1.mr
  have hc := c_L_steps K D B (xs (i + 1)) (xs (i + 2)) f hn h40 hb h30
  have hm := c_X3_steps M (xs (i + 1)) (xs (i + 2)) hmn h40 hmr h30 (Si_ok hS) (Si_okW hS)
  obtain ⟨q1, q2, q3⟩ := steps_q hS (xs (i + 1)) (xs (i + 2))
  generalize cSteps K B (xs (i + 1)) (xs (i + 2)) = Y at hc q1 q2 q3
  generalize mSteps M (xs (i + 1)) (xs (i + 2)) = V at hm q1 q2 q3
  refine Z_aload_n C dL_law_643 rfl rfl ?_
  refine Z_arg C hX hbl hbA hh (i := i) (j := 1) (z := 1) rfl (by omega) (by omega) rfl rfl dL_law_644 dL_law_645 dL_law_647 dL_law_648 dL_law_649 ?_
  refine Z_arg C hX hbl hbA hh (i := i) (j := 2) (z := 2) rfl (by omega) (by omega) rfl rfl dL_law_650 dL_law_651 dL_law_653 dL_law_654 dL_law_655 ?_
  refine Z_aload_n C dL_law_656 rfl rfl ?_
  refine Z_callH C hst hY (ws' := lW K D Y.2.2 M (oF Y.1 (Y.2.1.toInt64) f)) (st' := [.int (kc eI eA Y.1)]) (rest := []) [0, 1, 2, 3, 4, 5, 6, 7, 8, 9, 10, 11, 12, 13, 14, 15, 16, 17, 18, 19, 20, 21, 22, 23, 24, 32] hc m_L_steps g_450 dL_law_657 rfl rfl rfl (outI 25 rfl rfl rfl (outS 7 rfl (outL 1 rfl rfl rfl))) (NW := 33) rfl rfl rfl rfl ⟨Nat.le_of_ble_eq_true rfl, Nat.le_of_ble_eq_true rfl⟩ ⟨by omega, by omega⟩ (Nat.le_of_ble_eq_true rfl) rfl ?_
  refine Z_istore C (L' := [(5, .int (kc eI eA Y.1)), (4, .int (nI i)), (3, .ref 32), (2, .ref 25), (1, .ref 0), (0, .ref 1000)]) dL_law_660 (by decide) rfl ?_
  refine Z_aload_n C dL_law_662 rfl rfl ?_
  refine Z_arg C hX hbl hbA hh (i := i) (j := 1) (z := 1) rfl (by omega) (by omega) rfl rfl dL_law_663 dL_law_664 dL_law_666 dL_law_667 dL_law_668 ?_
  refine Z_arg C hX hbl hbA hh (i := i) (j := 2) (z := 2) rfl (by omega) (by omega) rfl rfl dL_law_669 dL_law_670 dL_law_672 dL_law_673 dL_law_674 ?_
  refine Z_callV C (ws' := lW K D Y.2.2 V.1 (oF Y.1 (Y.2.1.toInt64) f)) (st' := [.int V.2]) (rest := []) [25, 26, 27, 28, 29, 30, 31] hm m_X3_steps K3 g_699 dL_law_675 rfl rfl rfl (outS 25 rfl (outI 7 rfl rfl rfl (outR _ _ _))) (NW := 33) rfl rfl rfl rfl rfl ⟨Nat.le_of_ble_eq_true rfl, Nat.le_of_ble_eq_true rfl⟩ ⟨by omega, by omega⟩ (Nat.le_of_ble_eq_true rfl) rfl ?_
  refine Z_istore C (L' := [(6, .int V.2), (5, .int (kc eI eA Y.1)), (4, .int (nI i)), (3, .ref 32), (2, .ref 25), (1, .ref 0), (0, .ref 1000)]) dL_law_678 (by decide) rfl ?_
  refine Z_aload_n C dL_law_680 rfl rfl ?_
  refine Z_callV C (ws' := lW K D Y.2.2 V.1 (oF Y.1 (Y.2.1.toInt64) f)) (st' := [.int (V.1.2.2.2 0)]) (rest := []) [25, 26, 27, 28, 29, 30, 31] (c_X3_thrown V.1) m_X3_thrown K3 g_600 dL_law_681 rfl rfl rfl (outR _ _ _) (NW := 33) rfl rfl rfl rfl rfl ⟨Nat.le_of_ble_eq_true rfl, Nat.le_of_ble_eq_true rfl⟩ ⟨by omega, by omega⟩ (Nat.le_of_ble_eq_true rfl) rfl ?_
  refine Z_iload C dL_law_684 rfl ?_
  refine Z_icmp_eq C 691 dL_law_686 (by decide) (fun c1 => ?_) (fun c1 => absurd q1 c1)
  refine Z_iload C dL_law_691 rfl ?_
  refine Z_if_ne C 708 dL_law_693 (by decide) (fun c2 => ?_) (fun c2 => ?_)
  · skip
    refine Z_goto C 1250 dL_law_708 (by decide) ?_
    refine Z_widen (k' := k + 5) (n' := n + 380) (by omega) (by omega) ?_
    exact Z_sub (by simp) (kk n0 r K D Y.2.2 V.1 _ q3)
  · have hE : Y.1 = none := kc_0 c2
    refine Z_aload_n C dL_law_696 rfl rfl ?_
    refine Z_iconst C (v := nI 0) dL_law_697 (by decide) ?_
    refine Z_lald C (v := (Y.2.1.toInt64)) dL_law_698 rfl (vp_in_nI (by decide) (by decide)) (by rw [hE]; exact oF_0 _ _) ?_
    refine Z_iload C dL_law_699 rfl ?_
    refine Z_i2l C (v := V.2.toInt64) dL_law_701 rfl ?_
    refine Z_lcmp C (v := 0) dL_law_702 (by rw [q2 hE]; exact lg_self _) ?_
    refine Z_if_eq C 708 dL_law_703 (by decide) (fun _ => ?_) (fun c4 => absurd rfl c4)
    refine Z_goto C 1250 dL_law_708 (by decide) ?_
    refine Z_widen (k' := k + 5) (n' := n + 380) (by omega) (by omega) ?_
    exact Z_sub (by simp) (kk n0 r K D Y.2.2 V.1 _ q3)
set_option maxHeartbeats 4000000 in
set_option maxRecDepth 20000 in
theorem B_stone (C : Cx p s m args c cL_law 9 RL G A) (hst : l.stackTraces = false) (hY : gY A s s.heap) (hX : va_X b N xs s s.heap) (hbl : b < s.heap.size) (hbA : ¬ A b) (hh : h 1000 = b) (hN : N ≤ 2560) {i : Nat} (hi : i + 5 ≤ N) {K D : St} {B : Sr} {M : Md} {f : Nat → Int64} {n0 r : Nat} (hS : Si n0 r B K M) (hcs : k + 5 ≤ room_1.cells ∧ n + 380 ≤ room_1.slots) (kk : ∀ (n' r' : Nat) (K' D' : St) (B' : Sr) (M' : Md) (f' : Nat → Int64), Si n' r' B' K' M' → Z p l e room_1 s m args below meth c 9 G A h Q (k + 5) (n + 380) (lW K' D' B' M' f') 1250 (Lc i) []) : Z p l e room_1 s m args below meth c 9 G A h Q k n (lW K D B M f) 711 (Lc i) [] := by
  have hn := hS.1.1.1.kn
  have h40 := hS.1.1.1.h40
  have hb := hS.1.1.1.br
  have h30 := hS.1.1.1.h30
  have hmn := hS.1.1.1.mn
  have hmr := hS.1.1.1.mr
  have hc := c_L_stone K D B (xs (i + 1)) (xs (i + 2)) f hn h40 hb h30
  have hm := c_X3_stone_ M (xs (i + 1)) (xs (i + 2)) hmn h40 hmr h30 (Si_ok hS)
  obtain ⟨q1, q2, q3⟩ := stone_q hS (xs (i + 1)) (xs (i + 2))
  generalize cStone K (xs (i + 1)) (xs (i + 2)) = Y at hc q1 q2 q3
  generalize mStn M (xs (i + 1)) (xs (i + 2)) = V at hm q1 q2 q3
  refine Z_aload_n C dL_law_711 rfl rfl ?_
  refine Z_arg C hX hbl hbA hh (i := i) (j := 1) (z := 1) rfl (by omega) (by omega) rfl rfl dL_law_712 dL_law_713 dL_law_715 dL_law_716 dL_law_717 ?_
  refine Z_arg C hX hbl hbA hh (i := i) (j := 2) (z := 2) rfl (by omega) (by omega) rfl rfl dL_law_718 dL_law_719 dL_law_721 dL_law_722 dL_law_723 ?_
  refine Z_aload_n C dL_law_724 rfl rfl ?_
  refine Z_callH C hst hY (ws' := lW K D B M (oF Y.1 (Y.2.toInt64) f)) (st' := [.int (kc eI eA Y.1)]) (rest := []) [0, 1, 2, 3, 4, 5, 6, 7, 8, 9, 10, 11, 12, 13, 14, 15, 16, 17, 18, 19, 20, 21, 22, 23, 24, 32] hc m_L_stone g_473 dL_law_725 rfl rfl rfl (outI 25 rfl rfl rfl (outS 7 rfl (outL 1 rfl rfl rfl))) (NW := 33) rfl rfl rfl rfl ⟨Nat.le_of_ble_eq_true rfl, Nat.le_of_ble_eq_true rfl⟩ ⟨by omega, by omega⟩ (Nat.le_of_ble_eq_true rfl) rfl ?_
  refine Z_istore C (L' := [(5, .int (kc eI eA Y.1)), (4, .int (nI i)), (3, .ref 32), (2, .ref 25), (1, .ref 0), (0, .ref 1000)]) dL_law_728 (by decide) rfl ?_
  refine Z_aload_n C dL_law_730 rfl rfl ?_
  refine Z_arg C hX hbl hbA hh (i := i) (j := 1) (z := 1) rfl (by omega) (by omega) rfl rfl dL_law_731 dL_law_732 dL_law_734 dL_law_735 dL_law_736 ?_
  refine Z_arg C hX hbl hbA hh (i := i) (j := 2) (z := 2) rfl (by omega) (by omega) rfl rfl dL_law_737 dL_law_738 dL_law_740 dL_law_741 dL_law_742 ?_
  refine Z_callV C (ws' := lW K D B V.1 (oF Y.1 (Y.2.toInt64) f)) (st' := [.int V.2]) (rest := []) [25, 26, 27, 28, 29, 30, 31] hm m_X3_stone_ K3 g_703 dL_law_743 rfl rfl rfl (outS 25 rfl (outI 7 rfl rfl rfl (outR _ _ _))) (NW := 33) rfl rfl rfl rfl rfl ⟨Nat.le_of_ble_eq_true rfl, Nat.le_of_ble_eq_true rfl⟩ ⟨by omega, by omega⟩ (Nat.le_of_ble_eq_true rfl) rfl ?_
  refine Z_istore C (L' := [(6, .int V.2), (5, .int (kc eI eA Y.1)), (4, .int (nI i)), (3, .ref 32), (2, .ref 25), (1, .ref 0), (0, .ref 1000)]) dL_law_746 (by decide) rfl ?_
  refine Z_aload_n C dL_law_748 rfl rfl ?_
  refine Z_callV C (ws' := lW K D B V.1 (oF Y.1 (Y.2.toInt64) f)) (st' := [.int (V.1.2.2.2 0)]) (rest := []) [25, 26, 27, 28, 29, 30, 31] (c_X3_thrown V.1) m_X3_thrown K3 g_600 dL_law_749 rfl rfl rfl (outR _ _ _) (NW := 33) rfl rfl rfl rfl rfl ⟨Nat.le_of_ble_eq_true rfl, Nat.le_of_ble_eq_true rfl⟩ ⟨by omega, by omega⟩ (Nat.le_of_ble_eq_true rfl) rfl ?_
  refine Z_iload C dL_law_752 rfl ?_
  refine Z_icmp_eq C 759 dL_law_754 (by decide) (fun c1 => ?_) (fun c1 => absurd q1 c1)
  refine Z_iload C dL_law_759 rfl ?_
  refine Z_if_ne C 776 dL_law_761 (by decide) (fun c2 => ?_) (fun c2 => ?_)
  · skip
    refine Z_goto C 1250 dL_law_776 (by decide) ?_
    refine Z_widen (k' := k + 5) (n' := n + 380) (by omega) (by omega) ?_
    exact Z_sub (by simp) (kk n0 r K D B V.1 _ q3)
  · have hE : Y.1 = none := kc_0 c2
    refine Z_aload_n C dL_law_764 rfl rfl ?_
    refine Z_iconst C (v := nI 0) dL_law_765 (by decide) ?_
    refine Z_lald C (v := (Y.2.toInt64)) dL_law_766 rfl (vp_in_nI (by decide) (by decide)) (by rw [hE]; exact oF_0 _ _) ?_
    refine Z_iload C dL_law_767 rfl ?_
    refine Z_i2l C (v := V.2.toInt64) dL_law_769 rfl ?_
    refine Z_lcmp C (v := 0) dL_law_770 (by rw [q2 hE]; exact lg_self _) ?_
    refine Z_if_eq C 776 dL_law_771 (by decide) (fun _ => ?_) (fun c4 => absurd rfl c4)
    refine Z_goto C 1250 dL_law_776 (by decide) ?_
    refine Z_widen (k' := k + 5) (n' := n + 380) (by omega) (by omega) ?_
    exact Z_sub (by simp) (kk n0 r K D B V.1 _ q3)
set_option maxHeartbeats 4000000 in
set_option maxRecDepth 20000 in
theorem B_first (C : Cx p s m args c cL_law 9 RL G A) (hst : l.stackTraces = false) (hY : gY A s s.heap) (hX : va_X b N xs s s.heap) (hbl : b < s.heap.size) (hbA : ¬ A b) (hh : h 1000 = b) (hN : N ≤ 2560) {i : Nat} (hi : i + 5 ≤ N) {K D : St} {B : Sr} {M : Md} {f : Nat → Int64} {n0 r : Nat} (hS : Si n0 r B K M) (hcs : k + 5 ≤ room_1.cells ∧ n + 380 ≤ room_1.slots) (kk : ∀ (n' r' : Nat) (K' D' : St) (B' : Sr) (M' : Md) (f' : Nat → Int64), Si n' r' B' K' M' → Z p l e room_1 s m args below meth c 9 G A h Q (k + 5) (n + 380) (lW K' D' B' M' f') 1250 (Lc i) []) : Z p l e room_1 s m args below meth c 9 G A h Q k n (lW K D B M f) 779 (Lc i) [] := by
  have hn := hS.1.1.1.kn
  have h40 := hS.1.1.1.h40
  have hb := hS.1.1.1.br
  have h30 := hS.1.1.1.h30
  have hmn := hS.1.1.1.mn
  have hmr := hS.1.1.1.mr
  have hc := c_L_first K D B (xs (i + 1)) f hn h40 hb h30
  have hm := c_X3_first M (xs (i + 1)) hmn h40 hmr h30 (Si_ok hS)
  obtain ⟨q1, q2, q3⟩ := first_q hS (xs (i + 1))
  generalize cFirst K (xs (i + 1)) = Y at hc q1 q2 q3
  generalize mFirst M (xs (i + 1)) = V at hm q1 q2 q3
  refine Z_aload_n C dL_law_779 rfl rfl ?_
  refine Z_arg C hX hbl hbA hh (i := i) (j := 1) (z := 1) rfl (by omega) (by omega) rfl rfl dL_law_780 dL_law_781 dL_law_783 dL_law_784 dL_law_785 ?_
  refine Z_aload_n C dL_law_786 rfl rfl ?_
  refine Z_callH C hst hY (ws' := lW K D B M (oF Y.1 (Y.2.toInt64) f)) (st' := [.int (kc eI eA Y.1)]) (rest := []) [0, 1, 2, 3, 4, 5, 6, 7, 8, 9, 10, 11, 12, 13, 14, 15, 16, 17, 18, 19, 20, 21, 22, 23, 24, 32] hc m_L_first g_481 dL_law_787 rfl rfl rfl (outI 25 rfl rfl rfl (outS 7 rfl (outL 1 rfl rfl rfl))) (NW := 33) rfl rfl rfl rfl ⟨Nat.le_of_ble_eq_true rfl, Nat.le_of_ble_eq_true rfl⟩ ⟨by omega, by omega⟩ (Nat.le_of_ble_eq_true rfl) rfl ?_
  refine Z_istore C (L' := [(5, .int (kc eI eA Y.1)), (4, .int (nI i)), (3, .ref 32), (2, .ref 25), (1, .ref 0), (0, .ref 1000)]) dL_law_790 (by decide) rfl ?_
  refine Z_aload_n C dL_law_792 rfl rfl ?_
  refine Z_arg C hX hbl hbA hh (i := i) (j := 1) (z := 1) rfl (by omega) (by omega) rfl rfl dL_law_793 dL_law_794 dL_law_796 dL_law_797 dL_law_798 ?_
  refine Z_callV C (ws' := lW K D B V.1 (oF Y.1 (Y.2.toInt64) f)) (st' := [.int V.2]) (rest := []) [25, 26, 27, 28, 29, 30, 31] hm m_X3_first K3 g_715 dL_law_799 rfl rfl rfl (outS 25 rfl (outI 7 rfl rfl rfl (outR _ _ _))) (NW := 33) rfl rfl rfl rfl rfl ⟨Nat.le_of_ble_eq_true rfl, Nat.le_of_ble_eq_true rfl⟩ ⟨by omega, by omega⟩ (Nat.le_of_ble_eq_true rfl) rfl ?_
  refine Z_istore C (L' := [(6, .int V.2), (5, .int (kc eI eA Y.1)), (4, .int (nI i)), (3, .ref 32), (2, .ref 25), (1, .ref 0), (0, .ref 1000)]) dL_law_802 (by decide) rfl ?_
  refine Z_aload_n C dL_law_804 rfl rfl ?_
  refine Z_callV C (ws' := lW K D B V.1 (oF Y.1 (Y.2.toInt64) f)) (st' := [.int (V.1.2.2.2 0)]) (rest := []) [25, 26, 27, 28, 29, 30, 31] (c_X3_thrown V.1) m_X3_thrown K3 g_600 dL_law_805 rfl rfl rfl (outR _ _ _) (NW := 33) rfl rfl rfl rfl rfl ⟨Nat.le_of_ble_eq_true rfl, Nat.le_of_ble_eq_true rfl⟩ ⟨by omega, by omega⟩ (Nat.le_of_ble_eq_true rfl) rfl ?_
  refine Z_iload C dL_law_808 rfl ?_
  refine Z_icmp_eq C 815 dL_law_810 (by decide) (fun c1 => ?_) (fun c1 => absurd q1 c1)
  refine Z_iload C dL_law_815 rfl ?_
  refine Z_if_ne C 832 dL_law_817 (by decide) (fun c2 => ?_) (fun c2 => ?_)
  · skip
    refine Z_goto C 1250 dL_law_832 (by decide) ?_
    refine Z_widen (k' := k + 5) (n' := n + 380) (by omega) (by omega) ?_
    exact Z_sub (by simp) (kk n0 r K D B V.1 _ q3)
  · have hE : Y.1 = none := kc_0 c2
    refine Z_aload_n C dL_law_820 rfl rfl ?_
    refine Z_iconst C (v := nI 0) dL_law_821 (by decide) ?_
    refine Z_lald C (v := (Y.2.toInt64)) dL_law_822 rfl (vp_in_nI (by decide) (by decide)) (by rw [hE]; exact oF_0 _ _) ?_
    refine Z_iload C dL_law_823 rfl ?_
    refine Z_i2l C (v := V.2.toInt64) dL_law_825 rfl ?_
    refine Z_lcmp C (v := 0) dL_law_826 (by rw [q2 hE]; exact lg_self _) ?_
    refine Z_if_eq C 832 dL_law_827 (by decide) (fun _ => ?_) (fun c4 => absurd rfl c4)
    refine Z_goto C 1250 dL_law_832 (by decide) ?_
    refine Z_widen (k' := k + 5) (n' := n + 380) (by omega) (by omega) ?_
    exact Z_sub (by simp) (kk n0 r K D B V.1 _ q3)
set_option maxHeartbeats 4000000 in
set_option maxRecDepth 20000 in
theorem B_count (C : Cx p s m args c cL_law 9 RL G A) (hst : l.stackTraces = false) (hY : gY A s s.heap) (hX : va_X b N xs s s.heap) (hbl : b < s.heap.size) (hbA : ¬ A b) (hh : h 1000 = b) (hN : N ≤ 2560) {i : Nat} (hi : i + 5 ≤ N) {K D : St} {B : Sr} {M : Md} {f : Nat → Int64} {n0 r : Nat} (hS : Si n0 r B K M) (hcs : k + 5 ≤ room_1.cells ∧ n + 380 ≤ room_1.slots) (kk : ∀ (n' r' : Nat) (K' D' : St) (B' : Sr) (M' : Md) (f' : Nat → Int64), Si n' r' B' K' M' → Z p l e room_1 s m args below meth c 9 G A h Q (k + 5) (n + 380) (lW K' D' B' M' f') 1250 (Lc i) []) : Z p l e room_1 s m args below meth c 9 G A h Q k n (lW K D B M f) 835 (Lc i) [] := by
  have hn := hS.1.1.1.kn
  have h40 := hS.1.1.1.h40
  have hb := hS.1.1.1.br
  have h30 := hS.1.1.1.h30
  have hmn := hS.1.1.1.mn
  have hmr := hS.1.1.1.mr
  have hc := c_L_count K D B (xs (i + 1)) f hn h40 hb h30
  have hm := c_X3_count M (xs (i + 1)) hmn h40 hmr h30 (Si_ok hS)
  obtain ⟨q1, q2, q3⟩ := count_q hS (xs (i + 1))
  generalize cCount K B (xs (i + 1)) = Y at hc q1 q2 q3
  generalize mCount M (xs (i + 1)) = V at hm q1 q2 q3
  refine Z_aload_n C dL_law_835 rfl rfl ?_
  refine Z_arg C hX hbl hbA hh (i := i) (j := 1) (z := 1) rfl (by omega) (by omega) rfl rfl dL_law_836 dL_law_837 dL_law_839 dL_law_840 dL_law_841 ?_
  refine Z_aload_n C dL_law_842 rfl rfl ?_
  refine Z_callH C hst hY (ws' := lW K D B M (oF Y.1 (Y.2.toInt64) f)) (st' := [.int (kc eI eA Y.1)]) (rest := []) [0, 1, 2, 3, 4, 5, 6, 7, 8, 9, 10, 11, 12, 13, 14, 15, 16, 17, 18, 19, 20, 21, 22, 23, 24, 32] hc m_L_count g_492 dL_law_843 rfl rfl rfl (outI 25 rfl rfl rfl (outS 7 rfl (outL 1 rfl rfl rfl))) (NW := 33) rfl rfl rfl rfl ⟨Nat.le_of_ble_eq_true rfl, Nat.le_of_ble_eq_true rfl⟩ ⟨by omega, by omega⟩ (Nat.le_of_ble_eq_true rfl) rfl ?_
  refine Z_istore C (L' := [(5, .int (kc eI eA Y.1)), (4, .int (nI i)), (3, .ref 32), (2, .ref 25), (1, .ref 0), (0, .ref 1000)]) dL_law_846 (by decide) rfl ?_
  refine Z_aload_n C dL_law_848 rfl rfl ?_
  refine Z_arg C hX hbl hbA hh (i := i) (j := 1) (z := 1) rfl (by omega) (by omega) rfl rfl dL_law_849 dL_law_850 dL_law_852 dL_law_853 dL_law_854 ?_
  refine Z_callV C (ws' := lW K D B V.1 (oF Y.1 (Y.2.toInt64) f)) (st' := [.int V.2]) (rest := []) [25, 26, 27, 28, 29, 30, 31] hm m_X3_count K3 g_719 dL_law_855 rfl rfl rfl (outS 25 rfl (outI 7 rfl rfl rfl (outR _ _ _))) (NW := 33) rfl rfl rfl rfl rfl ⟨Nat.le_of_ble_eq_true rfl, Nat.le_of_ble_eq_true rfl⟩ ⟨by omega, by omega⟩ (Nat.le_of_ble_eq_true rfl) rfl ?_
  refine Z_istore C (L' := [(6, .int V.2), (5, .int (kc eI eA Y.1)), (4, .int (nI i)), (3, .ref 32), (2, .ref 25), (1, .ref 0), (0, .ref 1000)]) dL_law_858 (by decide) rfl ?_
  refine Z_aload_n C dL_law_860 rfl rfl ?_
  refine Z_callV C (ws' := lW K D B V.1 (oF Y.1 (Y.2.toInt64) f)) (st' := [.int (V.1.2.2.2 0)]) (rest := []) [25, 26, 27, 28, 29, 30, 31] (c_X3_thrown V.1) m_X3_thrown K3 g_600 dL_law_861 rfl rfl rfl (outR _ _ _) (NW := 33) rfl rfl rfl rfl rfl ⟨Nat.le_of_ble_eq_true rfl, Nat.le_of_ble_eq_true rfl⟩ ⟨by omega, by omega⟩ (Nat.le_of_ble_eq_true rfl) rfl ?_
  refine Z_iload C dL_law_864 rfl ?_
  refine Z_icmp_eq C 871 dL_law_866 (by decide) (fun c1 => ?_) (fun c1 => absurd q1 c1)
  refine Z_iload C dL_law_871 rfl ?_
  refine Z_if_ne C 888 dL_law_873 (by decide) (fun c2 => ?_) (fun c2 => ?_)
  · skip
    refine Z_goto C 1250 dL_law_888 (by decide) ?_
    refine Z_widen (k' := k + 5) (n' := n + 380) (by omega) (by omega) ?_
    exact Z_sub (by simp) (kk n0 r K D B V.1 _ q3)
  · have hE : Y.1 = none := kc_0 c2
    refine Z_aload_n C dL_law_876 rfl rfl ?_
    refine Z_iconst C (v := nI 0) dL_law_877 (by decide) ?_
    refine Z_lald C (v := (Y.2.toInt64)) dL_law_878 rfl (vp_in_nI (by decide) (by decide)) (by rw [hE]; exact oF_0 _ _) ?_
    refine Z_iload C dL_law_879 rfl ?_
    refine Z_i2l C (v := V.2.toInt64) dL_law_881 rfl ?_
    refine Z_lcmp C (v := 0) dL_law_882 (by rw [q2 hE]; exact lg_self _) ?_
    refine Z_if_eq C 888 dL_law_883 (by decide) (fun _ => ?_) (fun c4 => absurd rfl c4)
    refine Z_goto C 1250 dL_law_888 (by decide) ?_
    refine Z_widen (k' := k + 5) (n' := n + 380) (by omega) (by omega) ?_
    exact Z_sub (by simp) (kk n0 r K D B V.1 _ q3)
set_option maxHeartbeats 4000000 in
set_option maxRecDepth 20000 in
theorem B_pass (C : Cx p s m args c cL_law 9 RL G A) (hst : l.stackTraces = false) (hY : gY A s s.heap) (hX : va_X b N xs s s.heap) (hbl : b < s.heap.size) (hbA : ¬ A b) (hh : h 1000 = b) (hN : N ≤ 2560) {i : Nat} (hi : i + 5 ≤ N) {K D : St} {B : Sr} {M : Md} {f : Nat → Int64} {n0 r : Nat} (hS : Si n0 r B K M) (hcs : k + 5 ≤ room_1.cells ∧ n + 380 ≤ room_1.slots) (kk : ∀ (n' r' : Nat) (K' D' : St) (B' : Sr) (M' : Md) (f' : Nat → Int64), Si n' r' B' K' M' → Z p l e room_1 s m args below meth c 9 G A h Q (k + 5) (n + 380) (lW K' D' B' M' f') 1250 (Lc i) []) : Z p l e room_1 s m args below meth c 9 G A h Q k n (lW K D B M f) 891 (Lc i) [] := by
  have hn := hS.1.1.1.kn
  have h40 := hS.1.1.1.h40
  have hb := hS.1.1.1.br
  have h30 := hS.1.1.1.h30
  have hmn := hS.1.1.1.mn
  have hmr := hS.1.1.1.mr
  have hc := c_L_pass K D B (xs (i + 1)) f hn h40 hb h30
  have hm := c_X3_pass M (xs (i + 1)) hmn h40 hmr h30 (Si_ok hS)
  obtain ⟨q1, q2, q3⟩ := pass_q hS (xs (i + 1))
  generalize cPass K (xs (i + 1)) = Y at hc q1 q2 q3
  generalize mPass M (xs (i + 1)) = V at hm q1 q2 q3
  refine Z_aload_n C dL_law_891 rfl rfl ?_
  refine Z_arg C hX hbl hbA hh (i := i) (j := 1) (z := 1) rfl (by omega) (by omega) rfl rfl dL_law_892 dL_law_893 dL_law_895 dL_law_896 dL_law_897 ?_
  refine Z_aload_n C dL_law_898 rfl rfl ?_
  refine Z_callH C hst hY (ws' := lW Y.2.2 D B M (oF Y.1 (Y.2.1.toInt64) f)) (st' := [.int (kc eA eI Y.1)]) (rest := []) [0, 1, 2, 3, 4, 5, 6, 7, 8, 9, 10, 11, 12, 13, 14, 15, 16, 17, 18, 19, 20, 21, 22, 23, 24, 32] hc m_L_pass g_500 dL_law_899 rfl rfl rfl (outI 25 rfl rfl rfl (outS 7 rfl (outL 1 rfl rfl rfl))) (NW := 33) rfl rfl rfl rfl ⟨Nat.le_of_ble_eq_true rfl, Nat.le_of_ble_eq_true rfl⟩ ⟨by omega, by omega⟩ (Nat.le_of_ble_eq_true rfl) rfl ?_
  refine Z_istore C (L' := [(5, .int (kc eA eI Y.1)), (4, .int (nI i)), (3, .ref 32), (2, .ref 25), (1, .ref 0), (0, .ref 1000)]) dL_law_902 (by decide) rfl ?_
  refine Z_aload_n C dL_law_904 rfl rfl ?_
  refine Z_arg C hX hbl hbA hh (i := i) (j := 1) (z := 1) rfl (by omega) (by omega) rfl rfl dL_law_905 dL_law_906 dL_law_908 dL_law_909 dL_law_910 ?_
  refine Z_callV C (ws' := lW Y.2.2 D B V.1 (oF Y.1 (Y.2.1.toInt64) f)) (st' := [.int V.2]) (rest := []) [25, 26, 27, 28, 29, 30, 31] hm m_X3_pass K3 g_727 dL_law_911 rfl rfl rfl (outS 25 rfl (outI 7 rfl rfl rfl (outR _ _ _))) (NW := 33) rfl rfl rfl rfl rfl ⟨Nat.le_of_ble_eq_true rfl, Nat.le_of_ble_eq_true rfl⟩ ⟨by omega, by omega⟩ (Nat.le_of_ble_eq_true rfl) rfl ?_
  refine Z_istore C (L' := [(6, .int V.2), (5, .int (kc eA eI Y.1)), (4, .int (nI i)), (3, .ref 32), (2, .ref 25), (1, .ref 0), (0, .ref 1000)]) dL_law_914 (by decide) rfl ?_
  refine Z_aload_n C dL_law_916 rfl rfl ?_
  refine Z_callV C (ws' := lW Y.2.2 D B V.1 (oF Y.1 (Y.2.1.toInt64) f)) (st' := [.int (V.1.2.2.2 0)]) (rest := []) [25, 26, 27, 28, 29, 30, 31] (c_X3_thrown V.1) m_X3_thrown K3 g_600 dL_law_917 rfl rfl rfl (outR _ _ _) (NW := 33) rfl rfl rfl rfl rfl ⟨Nat.le_of_ble_eq_true rfl, Nat.le_of_ble_eq_true rfl⟩ ⟨by omega, by omega⟩ (Nat.le_of_ble_eq_true rfl) rfl ?_
  refine Z_iload C dL_law_920 rfl ?_
  refine Z_icmp_eq C 927 dL_law_922 (by decide) (fun c1 => ?_) (fun c1 => absurd q1 c1)
  refine Z_iload C dL_law_927 rfl ?_
  refine Z_if_ne C 944 dL_law_929 (by decide) (fun c2 => ?_) (fun c2 => ?_)
  · skip
    refine Z_goto C 1250 dL_law_944 (by decide) ?_
    refine Z_widen (k' := k + 5) (n' := n + 380) (by omega) (by omega) ?_
    exact Z_sub (by simp) (kk n0 r Y.2.2 D B V.1 _ q3)
  · have hE : Y.1 = none := kc_0 c2
    refine Z_aload_n C dL_law_932 rfl rfl ?_
    refine Z_iconst C (v := nI 0) dL_law_933 (by decide) ?_
    refine Z_lald C (v := (Y.2.1.toInt64)) dL_law_934 rfl (vp_in_nI (by decide) (by decide)) (by rw [hE]; exact oF_0 _ _) ?_
    refine Z_iload C dL_law_935 rfl ?_
    refine Z_i2l C (v := V.2.toInt64) dL_law_937 rfl ?_
    refine Z_lcmp C (v := 0) dL_law_938 (by rw [q2 hE]; exact lg_self _) ?_
    refine Z_if_eq C 944 dL_law_939 (by decide) (fun _ => ?_) (fun c4 => absurd rfl c4)
    refine Z_goto C 1250 dL_law_944 (by decide) ?_
    refine Z_widen (k' := k + 5) (n' := n + 380) (by omega) (by omega) ?_
    exact Z_sub (by simp) (kk n0 r Y.2.2 D B V.1 _ q3)
set_option maxHeartbeats 4000000 in
set_option maxRecDepth 20000 in
theorem B_without (C : Cx p s m args c cL_law 9 RL G A) (hst : l.stackTraces = false) (hY : gY A s s.heap) (hX : va_X b N xs s s.heap) (hbl : b < s.heap.size) (hbA : ¬ A b) (hh : h 1000 = b) (hN : N ≤ 2560) {i : Nat} (hi : i + 5 ≤ N) {K D : St} {B : Sr} {M : Md} {f : Nat → Int64} {n0 r : Nat} (hS : Si n0 r B K M) (hcs : k + 5 ≤ room_1.cells ∧ n + 380 ≤ room_1.slots) (kk : ∀ (n' r' : Nat) (K' D' : St) (B' : Sr) (M' : Md) (f' : Nat → Int64), Si n' r' B' K' M' → Z p l e room_1 s m args below meth c 9 G A h Q (k + 5) (n + 380) (lW K' D' B' M' f') 1250 (Lc i) []) : Z p l e room_1 s m args below meth c 9 G A h Q k n (lW K D B M f) 947 (Lc i) [] := by
  have hn := hS.1.1.1.kn
  have h40 := hS.1.1.1.h40
  have hb := hS.1.1.1.br
  have h30 := hS.1.1.1.h30
  have hmn := hS.1.1.1.mn
  have hmr := hS.1.1.1.mr
  have hc := c_L_without K D B (xs (i + 1)) f hn h40 hb h30
  have hm := c_X3_without M (xs (i + 1)) hmn h40 hmr h30 (Si_ok hS)
  obtain ⟨q1, q2, q3⟩ := wo_q D hS (xs (i + 1))
  generalize cWo K D (xs (i + 1)) = Y at hc q1 q2 q3
  generalize mWo M (xs (i + 1)) = V at hm q1 q2 q3
  refine Z_aload_n C dL_law_947 rfl rfl ?_
  refine Z_arg C hX hbl hbA hh (i := i) (j := 1) (z := 1) rfl (by omega) (by omega) rfl rfl dL_law_948 dL_law_949 dL_law_951 dL_law_952 dL_law_953 ?_
  refine Z_aload_n C dL_law_954 rfl rfl ?_
  refine Z_callH C hst hY (ws' := lW K Y.2.2 B M (oF Y.1 (Y.2.1.toInt64) f)) (st' := [.int (kc eI eA Y.1)]) (rest := []) [0, 1, 2, 3, 4, 5, 6, 7, 8, 9, 10, 11, 12, 13, 14, 15, 16, 17, 18, 19, 20, 21, 22, 23, 24, 32] hc m_L_without g_521 dL_law_955 rfl rfl rfl (outI 25 rfl rfl rfl (outS 7 rfl (outL 1 rfl rfl rfl))) (NW := 33) rfl rfl rfl rfl ⟨Nat.le_of_ble_eq_true rfl, Nat.le_of_ble_eq_true rfl⟩ ⟨by omega, by omega⟩ (Nat.le_of_ble_eq_true rfl) rfl ?_
  refine Z_istore C (L' := [(5, .int (kc eI eA Y.1)), (4, .int (nI i)), (3, .ref 32), (2, .ref 25), (1, .ref 0), (0, .ref 1000)]) dL_law_958 (by decide) rfl ?_
  refine Z_aload_n C dL_law_960 rfl rfl ?_
  refine Z_arg C hX hbl hbA hh (i := i) (j := 1) (z := 1) rfl (by omega) (by omega) rfl rfl dL_law_961 dL_law_962 dL_law_964 dL_law_965 dL_law_966 ?_
  refine Z_callV C (ws' := lW K Y.2.2 B V.1 (oF Y.1 (Y.2.1.toInt64) f)) (st' := [.int V.2]) (rest := []) [25, 26, 27, 28, 29, 30, 31] hm m_X3_without K3 g_739 dL_law_967 rfl rfl rfl (outS 25 rfl (outI 7 rfl rfl rfl (outR _ _ _))) (NW := 33) rfl rfl rfl rfl rfl ⟨Nat.le_of_ble_eq_true rfl, Nat.le_of_ble_eq_true rfl⟩ ⟨by omega, by omega⟩ (Nat.le_of_ble_eq_true rfl) rfl ?_
  refine Z_istore C (L' := [(6, .int V.2), (5, .int (kc eI eA Y.1)), (4, .int (nI i)), (3, .ref 32), (2, .ref 25), (1, .ref 0), (0, .ref 1000)]) dL_law_970 (by decide) rfl ?_
  refine Z_aload_n C dL_law_972 rfl rfl ?_
  refine Z_callV C (ws' := lW K Y.2.2 B V.1 (oF Y.1 (Y.2.1.toInt64) f)) (st' := [.int (V.1.2.2.2 0)]) (rest := []) [25, 26, 27, 28, 29, 30, 31] (c_X3_thrown V.1) m_X3_thrown K3 g_600 dL_law_973 rfl rfl rfl (outR _ _ _) (NW := 33) rfl rfl rfl rfl rfl ⟨Nat.le_of_ble_eq_true rfl, Nat.le_of_ble_eq_true rfl⟩ ⟨by omega, by omega⟩ (Nat.le_of_ble_eq_true rfl) rfl ?_
  refine Z_iload C dL_law_976 rfl ?_
  refine Z_icmp_eq C 983 dL_law_978 (by decide) (fun c1 => ?_) (fun c1 => absurd q1 c1)
  refine Z_iload C dL_law_983 rfl ?_
  refine Z_if_ne C 1000 dL_law_985 (by decide) (fun c2 => ?_) (fun c2 => ?_)
  · skip
    refine Z_goto C 1250 dL_law_1000 (by decide) ?_
    refine Z_widen (k' := k + 5) (n' := n + 380) (by omega) (by omega) ?_
    exact Z_sub (by simp) (kk n0 r K Y.2.2 B V.1 _ q3)
  · have hE : Y.1 = none := kc_0 c2
    refine Z_aload_n C dL_law_988 rfl rfl ?_
    refine Z_iconst C (v := nI 0) dL_law_989 (by decide) ?_
    refine Z_lald C (v := (Y.2.1.toInt64)) dL_law_990 rfl (vp_in_nI (by decide) (by decide)) (by rw [hE]; exact oF_0 _ _) ?_
    refine Z_iload C dL_law_991 rfl ?_
    refine Z_i2l C (v := V.2.toInt64) dL_law_993 rfl ?_
    refine Z_lcmp C (v := 0) dL_law_994 (by rw [q2 hE]; exact lg_self _) ?_
    refine Z_if_eq C 1000 dL_law_995 (by decide) (fun _ => ?_) (fun c4 => absurd rfl c4)
    refine Z_goto C 1250 dL_law_1000 (by decide) ?_
    refine Z_widen (k' := k + 5) (n' := n + 380) (by omega) (by omega) ?_
    exact Z_sub (by simp) (kk n0 r K Y.2.2 B V.1 _ q3)
set_option maxHeartbeats 4000000 in
set_option maxRecDepth 20000 in
theorem B_lasts (C : Cx p s m args c cL_law 9 RL G A) (hst : l.stackTraces = false) (hY : gY A s s.heap) (hX : va_X b N xs s s.heap) (hbl : b < s.heap.size) (hbA : ¬ A b) (hh : h 1000 = b) (hN : N ≤ 2560) {i : Nat} (hi : i + 5 ≤ N) {K D : St} {B : Sr} {M : Md} {f : Nat → Int64} {n0 r : Nat} (hS : Si n0 r B K M) (hcs : k + 5 ≤ room_1.cells ∧ n + 380 ≤ room_1.slots) (kk : ∀ (n' r' : Nat) (K' D' : St) (B' : Sr) (M' : Md) (f' : Nat → Int64), Si n' r' B' K' M' → Z p l e room_1 s m args below meth c 9 G A h Q (k + 5) (n + 380) (lW K' D' B' M' f') 1250 (Lc i) []) : Z p l e room_1 s m args below meth c 9 G A h Q k n (lW K D B M f) 1003 (Lc i) [] := by
  have hn := hS.1.1.1.kn
  have h40 := hS.1.1.1.h40
  have hb := hS.1.1.1.br
  have h30 := hS.1.1.1.h30
  have hmn := hS.1.1.1.mn
  have hmr := hS.1.1.1.mr
  have hc := c_L_lasts K D B (xs (i + 1)) f hn h40 hb h30
  have hm := c_X3_lasts M (xs (i + 1)) hmn h40 hmr h30 (Si_ok hS)
  obtain ⟨q1, q2, q3⟩ := lasts_q D hS (xs (i + 1))
  generalize cLs K D (xs (i + 1)) = Y at hc q1 q2 q3
  generalize mLs M (xs (i + 1)) = V at hm q1 q2 q3
  refine Z_aload_n C dL_law_1003 rfl rfl ?_
  refine Z_arg C hX hbl hbA hh (i := i) (j := 1) (z := 1) rfl (by omega) (by omega) rfl rfl dL_law_1004 dL_law_1005 dL_law_1007 dL_law_1008 dL_law_1009 ?_
  refine Z_aload_n C dL_law_1010 rfl rfl ?_
  refine Z_callH C hst hY (ws' := lW K Y.2.2 B M (oF Y.1 (Y.2.1.toInt64) f)) (st' := [.int (kc eI eA Y.1)]) (rest := []) [0, 1, 2, 3, 4, 5, 6, 7, 8, 9, 10, 11, 12, 13, 14, 15, 16, 17, 18, 19, 20, 21, 22, 23, 24, 32] hc m_L_lasts g_536 dL_law_1011 rfl rfl rfl (outI 25 rfl rfl rfl (outS 7 rfl (outL 1 rfl rfl rfl))) (NW := 33) rfl rfl rfl rfl ⟨Nat.le_of_ble_eq_true rfl, Nat.le_of_ble_eq_true rfl⟩ ⟨by omega, by omega⟩ (Nat.le_of_ble_eq_true rfl) rfl ?_
  refine Z_istore C (L' := [(5, .int (kc eI eA Y.1)), (4, .int (nI i)), (3, .ref 32), (2, .ref 25), (1, .ref 0), (0, .ref 1000)]) dL_law_1014 (by decide) rfl ?_
  refine Z_aload_n C dL_law_1016 rfl rfl ?_
  refine Z_arg C hX hbl hbA hh (i := i) (j := 1) (z := 1) rfl (by omega) (by omega) rfl rfl dL_law_1017 dL_law_1018 dL_law_1020 dL_law_1021 dL_law_1022 ?_
  refine Z_callV C (ws' := lW K Y.2.2 B V.1 (oF Y.1 (Y.2.1.toInt64) f)) (st' := [.int V.2]) (rest := []) [25, 26, 27, 28, 29, 30, 31] hm m_X3_lasts K3 g_759 dL_law_1023 rfl rfl rfl (outS 25 rfl (outI 7 rfl rfl rfl (outR _ _ _))) (NW := 33) rfl rfl rfl rfl rfl ⟨Nat.le_of_ble_eq_true rfl, Nat.le_of_ble_eq_true rfl⟩ ⟨by omega, by omega⟩ (Nat.le_of_ble_eq_true rfl) rfl ?_
  refine Z_istore C (L' := [(6, .int V.2), (5, .int (kc eI eA Y.1)), (4, .int (nI i)), (3, .ref 32), (2, .ref 25), (1, .ref 0), (0, .ref 1000)]) dL_law_1026 (by decide) rfl ?_
  refine Z_aload_n C dL_law_1028 rfl rfl ?_
  refine Z_callV C (ws' := lW K Y.2.2 B V.1 (oF Y.1 (Y.2.1.toInt64) f)) (st' := [.int (V.1.2.2.2 0)]) (rest := []) [25, 26, 27, 28, 29, 30, 31] (c_X3_thrown V.1) m_X3_thrown K3 g_600 dL_law_1029 rfl rfl rfl (outR _ _ _) (NW := 33) rfl rfl rfl rfl rfl ⟨Nat.le_of_ble_eq_true rfl, Nat.le_of_ble_eq_true rfl⟩ ⟨by omega, by omega⟩ (Nat.le_of_ble_eq_true rfl) rfl ?_
  refine Z_iload C dL_law_1032 rfl ?_
  refine Z_icmp_eq C 1039 dL_law_1034 (by decide) (fun c1 => ?_) (fun c1 => absurd q1 c1)
  refine Z_iload C dL_law_1039 rfl ?_
  refine Z_if_ne C 1056 dL_law_1041 (by decide) (fun c2 => ?_) (fun c2 => ?_)
  · skip
    refine Z_goto C 1250 dL_law_1056 (by decide) ?_
    refine Z_widen (k' := k + 5) (n' := n + 380) (by omega) (by omega) ?_
    exact Z_sub (by simp) (kk n0 r K Y.2.2 B V.1 _ q3)
  · have hE : Y.1 = none := kc_0 c2
    refine Z_aload_n C dL_law_1044 rfl rfl ?_
    refine Z_iconst C (v := nI 0) dL_law_1045 (by decide) ?_
    refine Z_lald C (v := (Y.2.1.toInt64)) dL_law_1046 rfl (vp_in_nI (by decide) (by decide)) (by rw [hE]; exact oF_0 _ _) ?_
    refine Z_iload C dL_law_1047 rfl ?_
    refine Z_i2l C (v := V.2.toInt64) dL_law_1049 rfl ?_
    refine Z_lcmp C (v := 0) dL_law_1050 (by rw [q2 hE]; exact lg_self _) ?_
    refine Z_if_eq C 1056 dL_law_1051 (by decide) (fun _ => ?_) (fun c4 => absurd rfl c4)
    refine Z_goto C 1250 dL_law_1056 (by decide) ?_
    refine Z_widen (k' := k + 5) (n' := n + 380) (by omega) (by omega) ?_
    exact Z_sub (by simp) (kk n0 r K Y.2.2 B V.1 _ q3)
set_option maxHeartbeats 4000000 in
set_option maxRecDepth 20000 in
theorem B_foresee (C : Cx p s m args c cL_law 9 RL G A) (hst : l.stackTraces = false) (hY : gY A s s.heap) (hX : va_X b N xs s s.heap) (hbl : b < s.heap.size) (hbA : ¬ A b) (hh : h 1000 = b) (hN : N ≤ 2560) {i : Nat} (hi : i + 5 ≤ N) {K D : St} {B : Sr} {M : Md} {f : Nat → Int64} {n0 r : Nat} (hS : Si n0 r B K M) (hcs : k + 5 ≤ room_1.cells ∧ n + 380 ≤ room_1.slots) (kk : ∀ (n' r' : Nat) (K' D' : St) (B' : Sr) (M' : Md) (f' : Nat → Int64), Si n' r' B' K' M' → Z p l e room_1 s m args below meth c 9 G A h Q (k + 5) (n + 380) (lW K' D' B' M' f') 1250 (Lc i) []) : Z p l e room_1 s m args below meth c 9 G A h Q k n (lW K D B M f) 1059 (Lc i) [] := by
  have hn := hS.1.1.1.kn
  have h40 := hS.1.1.1.h40
  have hb := hS.1.1.1.br
  have h30 := hS.1.1.1.h30
  have hmn := hS.1.1.1.mn
  have hmr := hS.1.1.1.mr
  have hc := c_L_foresee K D B (xs (i + 1)) (xs (i + 2)) f hn h40 hb h30
  have hm := c_X3_foresee M (xs (i + 1)) (xs (i + 2)) hmn h40 hmr h30 (Si_ok hS)
  obtain ⟨q1, q2, q3⟩ := foresee_q D hS (xs (i + 1)) (xs (i + 2))
  generalize cFo K D B (xs (i + 1)) (xs (i + 2)) = Y at hc q1 q2 q3
  generalize mFo M (xs (i + 1)) (xs (i + 2)) = V at hm q1 q2 q3
  refine Z_aload_n C dL_law_1059 rfl rfl ?_
  refine Z_arg C hX hbl hbA hh (i := i) (j := 1) (z := 1) rfl (by omega) (by omega) rfl rfl dL_law_1060 dL_law_1061 dL_law_1063 dL_law_1064 dL_law_1065 ?_
  refine Z_arg C hX hbl hbA hh (i := i) (j := 2) (z := 2) rfl (by omega) (by omega) rfl rfl dL_law_1066 dL_law_1067 dL_law_1069 dL_law_1070 dL_law_1071 ?_
  refine Z_aload_n C dL_law_1072 rfl rfl ?_
  refine Z_callH C hst hY (ws' := lW K Y.2.2 B M (oF Y.1 (Y.2.1.toInt64) f)) (st' := [.int (kc eA eI Y.1)]) (rest := []) [0, 1, 2, 3, 4, 5, 6, 7, 8, 9, 10, 11, 12, 13, 14, 15, 16, 17, 18, 19, 20, 21, 22, 23, 24, 32] hc m_L_foresee g_544 dL_law_1073 rfl rfl rfl (outI 25 rfl rfl rfl (outS 7 rfl (outL 1 rfl rfl rfl))) (NW := 33) rfl rfl rfl rfl ⟨Nat.le_of_ble_eq_true rfl, Nat.le_of_ble_eq_true rfl⟩ ⟨by omega, by omega⟩ (Nat.le_of_ble_eq_true rfl) rfl ?_
  refine Z_istore C (L' := [(5, .int (kc eA eI Y.1)), (4, .int (nI i)), (3, .ref 32), (2, .ref 25), (1, .ref 0), (0, .ref 1000)]) dL_law_1076 (by decide) rfl ?_
  refine Z_aload_n C dL_law_1078 rfl rfl ?_
  refine Z_arg C hX hbl hbA hh (i := i) (j := 1) (z := 1) rfl (by omega) (by omega) rfl rfl dL_law_1079 dL_law_1080 dL_law_1082 dL_law_1083 dL_law_1084 ?_
  refine Z_arg C hX hbl hbA hh (i := i) (j := 2) (z := 2) rfl (by omega) (by omega) rfl rfl dL_law_1085 dL_law_1086 dL_law_1088 dL_law_1089 dL_law_1090 ?_
  refine Z_callV C (ws' := lW K Y.2.2 B V.1 (oF Y.1 (Y.2.1.toInt64) f)) (st' := [.int V.2]) (rest := []) [25, 26, 27, 28, 29, 30, 31] hm m_X3_foresee K3 g_763 dL_law_1091 rfl rfl rfl (outS 25 rfl (outI 7 rfl rfl rfl (outR _ _ _))) (NW := 33) rfl rfl rfl rfl rfl ⟨Nat.le_of_ble_eq_true rfl, Nat.le_of_ble_eq_true rfl⟩ ⟨by omega, by omega⟩ (Nat.le_of_ble_eq_true rfl) rfl ?_
  refine Z_istore C (L' := [(6, .int V.2), (5, .int (kc eA eI Y.1)), (4, .int (nI i)), (3, .ref 32), (2, .ref 25), (1, .ref 0), (0, .ref 1000)]) dL_law_1094 (by decide) rfl ?_
  refine Z_aload_n C dL_law_1096 rfl rfl ?_
  refine Z_callV C (ws' := lW K Y.2.2 B V.1 (oF Y.1 (Y.2.1.toInt64) f)) (st' := [.int (V.1.2.2.2 0)]) (rest := []) [25, 26, 27, 28, 29, 30, 31] (c_X3_thrown V.1) m_X3_thrown K3 g_600 dL_law_1097 rfl rfl rfl (outR _ _ _) (NW := 33) rfl rfl rfl rfl rfl ⟨Nat.le_of_ble_eq_true rfl, Nat.le_of_ble_eq_true rfl⟩ ⟨by omega, by omega⟩ (Nat.le_of_ble_eq_true rfl) rfl ?_
  refine Z_iload C dL_law_1100 rfl ?_
  refine Z_icmp_eq C 1107 dL_law_1102 (by decide) (fun c1 => ?_) (fun c1 => absurd q1 c1)
  refine Z_iload C dL_law_1107 rfl ?_
  refine Z_if_ne C 1124 dL_law_1109 (by decide) (fun c2 => ?_) (fun c2 => ?_)
  · skip
    refine Z_goto C 1250 dL_law_1124 (by decide) ?_
    refine Z_widen (k' := k + 5) (n' := n + 380) (by omega) (by omega) ?_
    exact Z_sub (by simp) (kk n0 r K Y.2.2 B V.1 _ q3)
  · have hE : Y.1 = none := kc_0 c2
    refine Z_aload_n C dL_law_1112 rfl rfl ?_
    refine Z_iconst C (v := nI 0) dL_law_1113 (by decide) ?_
    refine Z_lald C (v := (Y.2.1.toInt64)) dL_law_1114 rfl (vp_in_nI (by decide) (by decide)) (by rw [hE]; exact oF_0 _ _) ?_
    refine Z_iload C dL_law_1115 rfl ?_
    refine Z_i2l C (v := V.2.toInt64) dL_law_1117 rfl ?_
    refine Z_lcmp C (v := 0) dL_law_1118 (by rw [q2 hE]; exact lg_self _) ?_
    refine Z_if_eq C 1124 dL_law_1119 (by decide) (fun _ => ?_) (fun c4 => absurd rfl c4)
    refine Z_goto C 1250 dL_law_1124 (by decide) ?_
    refine Z_widen (k' := k + 5) (n' := n + 380) (by omega) (by omega) ?_
    exact Z_sub (by simp) (kk n0 r K Y.2.2 B V.1 _ q3)
set_option maxHeartbeats 4000000 in
set_option maxRecDepth 20000 in
theorem B_advise (C : Cx p s m args c cL_law 9 RL G A) (hst : l.stackTraces = false) (hY : gY A s s.heap) (hX : va_X b N xs s s.heap) (hbl : b < s.heap.size) (hbA : ¬ A b) (hh : h 1000 = b) (hN : N ≤ 2560) {i : Nat} (hi : i + 5 ≤ N) {K D : St} {B : Sr} {M : Md} {f : Nat → Int64} {n0 r : Nat} (hS : Si n0 r B K M) (hcs : k + 5 ≤ room_1.cells ∧ n + 380 ≤ room_1.slots) (kk : ∀ (n' r' : Nat) (K' D' : St) (B' : Sr) (M' : Md) (f' : Nat → Int64), Si n' r' B' K' M' → Z p l e room_1 s m args below meth c 9 G A h Q (k + 5) (n + 380) (lW K' D' B' M' f') 1250 (Lc i) []) : Z p l e room_1 s m args below meth c 9 G A h Q k n (lW K D B M f) 1127 (Lc i) [] := by
  have hn := hS.1.1.1.kn
  have h40 := hS.1.1.1.h40
  have hb := hS.1.1.1.br
  have h30 := hS.1.1.1.h30
  have hmn := hS.1.1.1.mn
  have hmr := hS.1.1.1.mr
  have hc := c_L_advise K D B (xs (i + 1)) (xs (i + 2)) f hn h40 hb h30
  have hm := c_X3_advise M (xs (i + 1)) (xs (i + 2)) hmn h40 hmr h30 (Si_ok hS)
  obtain ⟨q1, q2, q3⟩ := advise_q D hS (xs (i + 1)) (xs (i + 2))
  generalize cAd K D (xs (i + 1)) (xs (i + 2)) = Y at hc q1 q2 q3
  generalize mAd M (xs (i + 1)) (xs (i + 2)) = V at hm q1 q2 q3
  refine Z_aload_n C dL_law_1127 rfl rfl ?_
  refine Z_arg C hX hbl hbA hh (i := i) (j := 1) (z := 1) rfl (by omega) (by omega) rfl rfl dL_law_1128 dL_law_1129 dL_law_1131 dL_law_1132 dL_law_1133 ?_
  refine Z_arg C hX hbl hbA hh (i := i) (j := 2) (z := 2) rfl (by omega) (by omega) rfl rfl dL_law_1134 dL_law_1135 dL_law_1137 dL_law_1138 dL_law_1139 ?_
  refine Z_aload_n C dL_law_1140 rfl rfl ?_
  refine Z_callH C hst hY (ws' := lW K Y.2.2 B M (oF Y.1 (Y.2.1.toInt64) f)) (st' := [.int (kc eA eI Y.1)]) (rest := []) [0, 1, 2, 3, 4, 5, 6, 7, 8, 9, 10, 11, 12, 13, 14, 15, 16, 17, 18, 19, 20, 21, 22, 23, 24, 32] hc m_L_advise g_551 dL_law_1141 rfl rfl rfl (outI 25 rfl rfl rfl (outS 7 rfl (outL 1 rfl rfl rfl))) (NW := 33) rfl rfl rfl rfl ⟨Nat.le_of_ble_eq_true rfl, Nat.le_of_ble_eq_true rfl⟩ ⟨by omega, by omega⟩ (Nat.le_of_ble_eq_true rfl) rfl ?_
  refine Z_istore C (L' := [(5, .int (kc eA eI Y.1)), (4, .int (nI i)), (3, .ref 32), (2, .ref 25), (1, .ref 0), (0, .ref 1000)]) dL_law_1144 (by decide) rfl ?_
  refine Z_aload_n C dL_law_1146 rfl rfl ?_
  refine Z_arg C hX hbl hbA hh (i := i) (j := 1) (z := 1) rfl (by omega) (by omega) rfl rfl dL_law_1147 dL_law_1148 dL_law_1150 dL_law_1151 dL_law_1152 ?_
  refine Z_arg C hX hbl hbA hh (i := i) (j := 2) (z := 2) rfl (by omega) (by omega) rfl rfl dL_law_1153 dL_law_1154 dL_law_1156 dL_law_1157 dL_law_1158 ?_
  refine Z_callV C (ws' := lW K Y.2.2 B V.1 (oF Y.1 (Y.2.1.toInt64) f)) (st' := [.int V.2]) (rest := []) [25, 26, 27, 28, 29, 30, 31] hm m_X3_advise K3 g_767 dL_law_1159 rfl rfl rfl (outS 25 rfl (outI 7 rfl rfl rfl (outR _ _ _))) (NW := 33) rfl rfl rfl rfl rfl ⟨Nat.le_of_ble_eq_true rfl, Nat.le_of_ble_eq_true rfl⟩ ⟨by omega, by omega⟩ (Nat.le_of_ble_eq_true rfl) rfl ?_
  refine Z_istore C (L' := [(6, .int V.2), (5, .int (kc eA eI Y.1)), (4, .int (nI i)), (3, .ref 32), (2, .ref 25), (1, .ref 0), (0, .ref 1000)]) dL_law_1162 (by decide) rfl ?_
  refine Z_aload_n C dL_law_1164 rfl rfl ?_
  refine Z_callV C (ws' := lW K Y.2.2 B V.1 (oF Y.1 (Y.2.1.toInt64) f)) (st' := [.int (V.1.2.2.2 0)]) (rest := []) [25, 26, 27, 28, 29, 30, 31] (c_X3_thrown V.1) m_X3_thrown K3 g_600 dL_law_1165 rfl rfl rfl (outR _ _ _) (NW := 33) rfl rfl rfl rfl rfl ⟨Nat.le_of_ble_eq_true rfl, Nat.le_of_ble_eq_true rfl⟩ ⟨by omega, by omega⟩ (Nat.le_of_ble_eq_true rfl) rfl ?_
  refine Z_iload C dL_law_1168 rfl ?_
  refine Z_icmp_eq C 1175 dL_law_1170 (by decide) (fun c1 => ?_) (fun c1 => absurd q1 c1)
  refine Z_iload C dL_law_1175 rfl ?_
  refine Z_if_ne C 1192 dL_law_1177 (by decide) (fun c2 => ?_) (fun c2 => ?_)
  · skip
    refine Z_goto C 1250 dL_law_1192 (by decide) ?_
    refine Z_widen (k' := k + 5) (n' := n + 380) (by omega) (by omega) ?_
    exact Z_sub (by simp) (kk n0 r K Y.2.2 B V.1 _ q3)
  · have hE : Y.1 = none := kc_0 c2
    refine Z_aload_n C dL_law_1180 rfl rfl ?_
    refine Z_iconst C (v := nI 0) dL_law_1181 (by decide) ?_
    refine Z_lald C (v := (Y.2.1.toInt64)) dL_law_1182 rfl (vp_in_nI (by decide) (by decide)) (by rw [hE]; exact oF_0 _ _) ?_
    refine Z_iload C dL_law_1183 rfl ?_
    refine Z_i2l C (v := V.2.toInt64) dL_law_1185 rfl ?_
    refine Z_lcmp C (v := 0) dL_law_1186 (by rw [q2 hE]; exact lg_self _) ?_
    refine Z_if_eq C 1192 dL_law_1187 (by decide) (fun _ => ?_) (fun c4 => absurd rfl c4)
    refine Z_goto C 1250 dL_law_1192 (by decide) ?_
    refine Z_widen (k' := k + 5) (n' := n + 380) (by omega) (by omega) ?_
    exact Z_sub (by simp) (kk n0 r K Y.2.2 B V.1 _ q3)
end ZB
