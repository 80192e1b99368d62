section
-- ===== PART A: goes FIRST, ahead of the names: the tables' words, and 'selects' of the private methods out of them =====
/-- a private method of a class that the tables say can be made, by its rows of tables_1 -/
def lw_okq (q : MethodName × Nat) : Prop := (q.1.cls ≠ "java/lang/invoke/MethodHandle" ∧ q.1.cls ≠ "java/lang/invoke/VarHandle") ∧ Cond.instantiable q.1.cls q.2 ∈ tables_1 ∧ Cond.privateMethod q.1 ∈ tables_1 ∧ Cond.instanceMethod q.1 ∈ tables_1
theorem lw_p0 : lw_okq (⟨"TowerDown", "tellSky", "(I)I"⟩, 3) := ⟨⟨by decide +kernel, by decide +kernel⟩, List.mem_of_getElem? (i := 14) (by decide +kernel), List.mem_of_getElem? (i := 120) (by decide +kernel), List.mem_of_getElem? (i := 121) (by decide +kernel)⟩
theorem lw_p1 : lw_okq (⟨"TowerDown$Stones", "countHeldBy", "(I)I"⟩, 13) := ⟨⟨by decide +kernel, by decide +kernel⟩, List.mem_of_getElem? (i := 22) (by decide +kernel), List.mem_of_getElem? (i := 164) (by decide +kernel), List.mem_of_getElem? (i := 165) (by decide +kernel)⟩
theorem lw_p2 : lw_okq (⟨"java/lang/Throwable", "fillInStackTrace", "(I)Ljava/lang/Throwable;"⟩, 6) := ⟨⟨by decide +kernel, by decide +kernel⟩, List.mem_of_getElem? (i := 225) (by decide +kernel), List.mem_of_getElem? (i := 223) (by decide +kernel), List.mem_of_getElem? (i := 224) (by decide +kernel)⟩
theorem lw_p3 : lw_okq (⟨"TowerDown$Stones", "measure", "()V"⟩, 13) := ⟨⟨by decide +kernel, by decide +kernel⟩, List.mem_of_getElem? (i := 22) (by decide +kernel), List.mem_of_getElem? (i := 288) (by decide +kernel), List.mem_of_getElem? (i := 289) (by decide +kernel)⟩
theorem lw_p4 : lw_okq (⟨"TowerDown$Stones", "bear", "(II)V"⟩, 13) := ⟨⟨by decide +kernel, by decide +kernel⟩, List.mem_of_getElem? (i := 22) (by decide +kernel), List.mem_of_getElem? (i := 295) (by decide +kernel), List.mem_of_getElem? (i := 296) (by decide +kernel)⟩
theorem lw_p5 : lw_okq (⟨"TowerDown$Stones", "tearOverpulled", "()V"⟩, 13) := ⟨⟨by decide +kernel, by decide +kernel⟩, List.mem_of_getElem? (i := 22) (by decide +kernel), List.mem_of_getElem? (i := 299) (by decide +kernel), List.mem_of_getElem? (i := 300) (by decide +kernel)⟩
theorem lw_p6 : lw_okq (⟨"TowerDown$Stones", "tearHoldsFrom", "(I)V"⟩, 13) := ⟨⟨by decide +kernel, by decide +kernel⟩, List.mem_of_getElem? (i := 22) (by decide +kernel), List.mem_of_getElem? (i := 303) (by decide +kernel), List.mem_of_getElem? (i := 304) (by decide +kernel)⟩
theorem lw_p7 : lw_okq (⟨"TowerDown$Stones", "endOverloaded", "()V"⟩, 13) := ⟨⟨by decide +kernel, by decide +kernel⟩, List.mem_of_getElem? (i := 22) (by decide +kernel), List.mem_of_getElem? (i := 307) (by decide +kernel), List.mem_of_getElem? (i := 308) (by decide +kernel)⟩
theorem lw_p8 : lw_okq (⟨"TowerDown$Stones", "endSpell", "(I)V"⟩, 13) := ⟨⟨by decide +kernel, by decide +kernel⟩, List.mem_of_getElem? (i := 22) (by decide +kernel), List.mem_of_getElem? (i := 311) (by decide +kernel), List.mem_of_getElem? (i := 312) (by decide +kernel)⟩
theorem lw_p9 : lw_okq (⟨"TowerDown$Stones", "dropLoose", "()V"⟩, 13) := ⟨⟨by decide +kernel, by decide +kernel⟩, List.mem_of_getElem? (i := 22) (by decide +kernel), List.mem_of_getElem? (i := 315) (by decide +kernel), List.mem_of_getElem? (i := 316) (by decide +kernel)⟩
theorem lw_p10 : lw_okq (⟨"TowerDown$Stairs", "reachFrom", "(ILTowerDown$Stones;)Z"⟩, 4) := ⟨⟨by decide +kernel, by decide +kernel⟩, List.mem_of_getElem? (i := 76) (by decide +kernel), List.mem_of_getElem? (i := 427) (by decide +kernel), List.mem_of_getElem? (i := 428) (by decide +kernel)⟩
theorem lw_p11 : lw_okq (⟨"TowerDown$Stairs", "stepOver", "(III)Z"⟩, 4) := ⟨⟨by decide +kernel, by decide +kernel⟩, List.mem_of_getElem? (i := 76) (by decide +kernel), List.mem_of_getElem? (i := 431) (by decide +kernel), List.mem_of_getElem? (i := 432) (by decide +kernel)⟩
theorem lw_p12 : lw_okq (⟨"TowerDown$Stones", "fade", "()V"⟩, 13) := ⟨⟨by decide +kernel, by decide +kernel⟩, List.mem_of_getElem? (i := 22) (by decide +kernel), List.mem_of_getElem? (i := 481) (by decide +kernel), List.mem_of_getElem? (i := 482) (by decide +kernel)⟩
theorem lw_p13 : lw_okq (⟨"TowerDown", "leftWithMore", "(III)I"⟩, 3) := ⟨⟨by decide +kernel, by decide +kernel⟩, List.mem_of_getElem? (i := 14) (by decide +kernel), List.mem_of_getElem? (i := 524) (by decide +kernel), List.mem_of_getElem? (i := 525) (by decide +kernel)⟩
theorem lw_p14 : lw_okq (⟨"TowerDownModel", "fail", "(I)I"⟩, 9) := ⟨⟨by decide +kernel, by decide +kernel⟩, List.mem_of_getElem? (i := 531) (by decide +kernel), List.mem_of_getElem? (i := 576) (by decide +kernel), List.mem_of_getElem? (i := 577) (by decide +kernel)⟩
theorem lw_p15 : lw_okq (⟨"TowerDownModel", "stone", "(IIIII)I"⟩, 9) := ⟨⟨by decide +kernel, by decide +kernel⟩, List.mem_of_getElem? (i := 531) (by decide +kernel), List.mem_of_getElem? (i := 580) (by decide +kernel), List.mem_of_getElem? (i := 581) (by decide +kernel)⟩
def lw_privs_1 : List (MethodName × Nat) := [(⟨"TowerDown", "tellSky", "(I)I"⟩, 3), (⟨"TowerDown$Stones", "countHeldBy", "(I)I"⟩, 13), (⟨"java/lang/Throwable", "fillInStackTrace", "(I)Ljava/lang/Throwable;"⟩, 6), (⟨"TowerDown$Stones", "measure", "()V"⟩, 13), (⟨"TowerDown$Stones", "bear", "(II)V"⟩, 13), (⟨"TowerDown$Stones", "tearOverpulled", "()V"⟩, 13), (⟨"TowerDown$Stones", "tearHoldsFrom", "(I)V"⟩, 13), (⟨"TowerDown$Stones", "endOverloaded", "()V"⟩, 13), (⟨"TowerDown$Stones", "endSpell", "(I)V"⟩, 13), (⟨"TowerDown$Stones", "dropLoose", "()V"⟩, 13), (⟨"TowerDown$Stairs", "reachFrom", "(ILTowerDown$Stones;)Z"⟩, 4), (⟨"TowerDown$Stairs", "stepOver", "(III)Z"⟩, 4), (⟨"TowerDown$Stones", "fade", "()V"⟩, 13), (⟨"TowerDown", "leftWithMore", "(III)I"⟩, 3), (⟨"TowerDownModel", "fail", "(I)I"⟩, 9), (⟨"TowerDownModel", "stone", "(IIIII)I"⟩, 9)]
theorem lw_r1 : ∀ q ∈ lw_privs_1, lw_okq q := List.forall_mem_cons.mpr ⟨lw_p0, List.forall_mem_cons.mpr ⟨lw_p1, List.forall_mem_cons.mpr ⟨lw_p2, List.forall_mem_cons.mpr ⟨lw_p3, List.forall_mem_cons.mpr ⟨lw_p4, List.forall_mem_cons.mpr ⟨lw_p5, List.forall_mem_cons.mpr ⟨lw_p6, List.forall_mem_cons.mpr ⟨lw_p7, List.forall_mem_cons.mpr ⟨lw_p8, List.forall_mem_cons.mpr ⟨lw_p9, List.forall_mem_cons.mpr ⟨lw_p10, List.forall_mem_cons.mpr ⟨lw_p11, List.forall_mem_cons.mpr ⟨lw_p12, List.forall_mem_cons.mpr ⟨lw_p13, List.forall_mem_cons.mpr ⟨lw_p14, List.forall_mem_cons.mpr ⟨lw_p15, fun _ h => absurd h List.not_mem_nil⟩⟩⟩⟩⟩⟩⟩⟩⟩⟩⟩⟩⟩⟩⟩⟩
theorem lw_p16 : lw_okq (⟨"TowerDownModel", "giveWay", "()V"⟩, 9) := ⟨⟨by decide +kernel, by decide +kernel⟩, List.mem_of_getElem? (i := 531) (by decide +kernel), List.mem_of_getElem? (i := 587) (by decide +kernel), List.mem_of_getElem? (i := 588) (by decide +kernel)⟩
theorem lw_p17 : lw_okq (⟨"TowerDownModel", "reckon", "()V"⟩, 9) := ⟨⟨by decide +kernel, by decide +kernel⟩, List.mem_of_getElem? (i := 531) (by decide +kernel), List.mem_of_getElem? (i := 591) (by decide +kernel), List.mem_of_getElem? (i := 592) (by decide +kernel)⟩
theorem lw_p18 : lw_okq (⟨"TowerDownModel", "hangs", "(I)Z"⟩, 9) := ⟨⟨by decide +kernel, by decide +kernel⟩, List.mem_of_getElem? (i := 531) (by decide +kernel), List.mem_of_getElem? (i := 595) (by decide +kernel), List.mem_of_getElem? (i := 596) (by decide +kernel)⟩
theorem lw_p19 : lw_okq (⟨"TowerDownModel", "to", "(II)I"⟩, 9) := ⟨⟨by decide +kernel, by decide +kernel⟩, List.mem_of_getElem? (i := 531) (by decide +kernel), List.mem_of_getElem? (i := 599) (by decide +kernel), List.mem_of_getElem? (i := 600) (by decide +kernel)⟩
theorem lw_p20 : lw_okq (⟨"TowerDownModel", "tear", "(I)Z"⟩, 9) := ⟨⟨by decide +kernel, by decide +kernel⟩, List.mem_of_getElem? (i := 531) (by decide +kernel), List.mem_of_getElem? (i := 604) (by decide +kernel), List.mem_of_getElem? (i := 605) (by decide +kernel)⟩
theorem lw_p21 : lw_okq (⟨"TowerDownModel", "isHeldBy", "(II)Z"⟩, 9) := ⟨⟨by decide +kernel, by decide +kernel⟩, List.mem_of_getElem? (i := 531) (by decide +kernel), List.mem_of_getElem? (i := 608) (by decide +kernel), List.mem_of_getElem? (i := 609) (by decide +kernel)⟩
theorem lw_p22 : lw_okq (⟨"TowerDownModel", "put", "(III)V"⟩, 9) := ⟨⟨by decide +kernel, by decide +kernel⟩, List.mem_of_getElem? (i := 531) (by decide +kernel), List.mem_of_getElem? (i := 612) (by decide +kernel), List.mem_of_getElem? (i := 613) (by decide +kernel)⟩
theorem lw_p23 : lw_okq (⟨"TowerDownModel", "drop", "()V"⟩, 9) := ⟨⟨by decide +kernel, by decide +kernel⟩, List.mem_of_getElem? (i := 531) (by decide +kernel), List.mem_of_getElem? (i := 616) (by decide +kernel), List.mem_of_getElem? (i := 617) (by decide +kernel)⟩
theorem lw_p24 : lw_okq (⟨"TowerDownModel", "fall", "(I)V"⟩, 9) := ⟨⟨by decide +kernel, by decide +kernel⟩, List.mem_of_getElem? (i := 531) (by decide +kernel), List.mem_of_getElem? (i := 620) (by decide +kernel), List.mem_of_getElem? (i := 621) (by decide +kernel)⟩
theorem lw_p25 : lw_okq (⟨"TowerDownModel", "st", "(II)I"⟩, 9) := ⟨⟨by decide +kernel, by decide +kernel⟩, List.mem_of_getElem? (i := 531) (by decide +kernel), List.mem_of_getElem? (i := 624) (by decide +kernel), List.mem_of_getElem? (i := 625) (by decide +kernel)⟩
theorem lw_p26 : lw_okq (⟨"TowerDownModel", "isStone", "(I)Z"⟩, 9) := ⟨⟨by decide +kernel, by decide +kernel⟩, List.mem_of_getElem? (i := 531) (by decide +kernel), List.mem_of_getElem? (i := 632) (by decide +kernel), List.mem_of_getElem? (i := 633) (by decide +kernel)⟩
theorem lw_p27 : lw_okq (⟨"TowerDownModel", "hanging", "()I"⟩, 9) := ⟨⟨by decide +kernel, by decide +kernel⟩, List.mem_of_getElem? (i := 531) (by decide +kernel), List.mem_of_getElem? (i := 640) (by decide +kernel), List.mem_of_getElem? (i := 641) (by decide +kernel)⟩
theorem lw_p28 : lw_okq (⟨"TowerDownModel", "isStair", "(I)Z"⟩, 9) := ⟨⟨by decide +kernel, by decide +kernel⟩, List.mem_of_getElem? (i := 531) (by decide +kernel), List.mem_of_getElem? (i := 656) (by decide +kernel), List.mem_of_getElem? (i := 657) (by decide +kernel)⟩
theorem lw_p29 : lw_okq (⟨"TowerDownModel", "stoneTold", "(II)I"⟩, 9) := ⟨⟨by decide +kernel, by decide +kernel⟩, List.mem_of_getElem? (i := 531) (by decide +kernel), List.mem_of_getElem? (i := 672) (by decide +kernel), List.mem_of_getElem? (i := 673) (by decide +kernel)⟩
theorem lw_p30 : lw_okq (⟨"TowerDownModel", "holdsFrom", "(I)I"⟩, 9) := ⟨⟨by decide +kernel, by decide +kernel⟩, List.mem_of_getElem? (i := 531) (by decide +kernel), List.mem_of_getElem? (i := 676) (by decide +kernel), List.mem_of_getElem? (i := 677) (by decide +kernel)⟩
theorem lw_p31 : lw_okq (⟨"TowerDownModel", "counted", "(I)I"⟩, 9) := ⟨⟨by decide +kernel, by decide +kernel⟩, List.mem_of_getElem? (i := 531) (by decide +kernel), List.mem_of_getElem? (i := 688) (by decide +kernel), List.mem_of_getElem? (i := 689) (by decide +kernel)⟩
def lw_privs_2 : List (MethodName × Nat) := [(⟨"TowerDownModel", "giveWay", "()V"⟩, 9), (⟨"TowerDownModel", "reckon", "()V"⟩, 9), (⟨"TowerDownModel", "hangs", "(I)Z"⟩, 9), (⟨"TowerDownModel", "to", "(II)I"⟩, 9), (⟨"TowerDownModel", "tear", "(I)Z"⟩, 9), (⟨"TowerDownModel", "isHeldBy", "(II)Z"⟩, 9), (⟨"TowerDownModel", "put", "(III)V"⟩, 9), (⟨"TowerDownModel", "drop", "()V"⟩, 9), (⟨"TowerDownModel", "fall", "(I)V"⟩, 9), (⟨"TowerDownModel", "st", "(II)I"⟩, 9), (⟨"TowerDownModel", "isStone", "(I)Z"⟩, 9), (⟨"TowerDownModel", "hanging", "()I"⟩, 9), (⟨"TowerDownModel", "isStair", "(I)Z"⟩, 9), (⟨"TowerDownModel", "stoneTold", "(II)I"⟩, 9), (⟨"TowerDownModel", "holdsFrom", "(I)I"⟩, 9), (⟨"TowerDownModel", "counted", "(I)I"⟩, 9)]
theorem lw_r2 : ∀ q ∈ lw_privs_2, lw_okq q := List.forall_mem_cons.mpr ⟨lw_p16, List.forall_mem_cons.mpr ⟨lw_p17, List.forall_mem_cons.mpr ⟨lw_p18, List.forall_mem_cons.mpr ⟨lw_p19, List.forall_mem_cons.mpr ⟨lw_p20, List.forall_mem_cons.mpr ⟨lw_p21, List.forall_mem_cons.mpr ⟨lw_p22, List.forall_mem_cons.mpr ⟨lw_p23, List.forall_mem_cons.mpr ⟨lw_p24, List.forall_mem_cons.mpr ⟨lw_p25, List.forall_mem_cons.mpr ⟨lw_p26, List.forall_mem_cons.mpr ⟨lw_p27, List.forall_mem_cons.mpr ⟨lw_p28, List.forall_mem_cons.mpr ⟨lw_p29, List.forall_mem_cons.mpr ⟨lw_p30, List.forall_mem_cons.mpr ⟨lw_p31, fun _ h => absurd h List.not_mem_nil⟩⟩⟩⟩⟩⟩⟩⟩⟩⟩⟩⟩⟩⟩⟩⟩
theorem lw_p32 : lw_okq (⟨"TowerDownModel", "daysOn", "(I)V"⟩, 9) := ⟨⟨by decide +kernel, by decide +kernel⟩, List.mem_of_getElem? (i := 531) (by decide +kernel), List.mem_of_getElem? (i := 696) (by decide +kernel), List.mem_of_getElem? (i := 697) (by decide +kernel)⟩
theorem lw_p33 : lw_okq (⟨"TowerDownModel", "dayOn", "()V"⟩, 9) := ⟨⟨by decide +kernel, by decide +kernel⟩, List.mem_of_getElem? (i := 531) (by decide +kernel), List.mem_of_getElem? (i := 700) (by decide +kernel), List.mem_of_getElem? (i := 701) (by decide +kernel)⟩
theorem lw_p34 : lw_okq (⟨"TowerDownModel", "kept", "()[[I"⟩, 9) := ⟨⟨by decide +kernel, by decide +kernel⟩, List.mem_of_getElem? (i := 531) (by decide +kernel), List.mem_of_getElem? (i := 708) (by decide +kernel), List.mem_of_getElem? (i := 709) (by decide +kernel)⟩
theorem lw_p35 : lw_okq (⟨"TowerDownModel", "bringBack", "([[I)V"⟩, 9) := ⟨⟨by decide +kernel, by decide +kernel⟩, List.mem_of_getElem? (i := 531) (by decide +kernel), List.mem_of_getElem? (i := 720) (by decide +kernel), List.mem_of_getElem? (i := 721) (by decide +kernel)⟩
def lw_privs_3 : List (MethodName × Nat) := [(⟨"TowerDownModel", "daysOn", "(I)V"⟩, 9), (⟨"TowerDownModel", "dayOn", "()V"⟩, 9), (⟨"TowerDownModel", "kept", "()[[I"⟩, 9), (⟨"TowerDownModel", "bringBack", "([[I)V"⟩, 9)]
theorem lw_r3 : ∀ q ∈ lw_privs_3, lw_okq q := List.forall_mem_cons.mpr ⟨lw_p32, List.forall_mem_cons.mpr ⟨lw_p33, List.forall_mem_cons.mpr ⟨lw_p34, List.forall_mem_cons.mpr ⟨lw_p35, fun _ h => absurd h List.not_mem_nil⟩⟩⟩⟩
def lw_privs : List (MethodName × Nat) := lw_privs_1 ++ (lw_privs_2 ++ (lw_privs_3))
def lw_tbl : List Cond := k2_sels lw_privs ++ tables_1
theorem lw_privs_ok : ∀ q ∈ lw_privs, lw_okq q := by
  show ∀ q ∈ lw_privs_1 ++ (lw_privs_2 ++ (lw_privs_3)), lw_okq q
  exact List.forall_mem_append.mpr ⟨lw_r1, List.forall_mem_append.mpr ⟨lw_r2, lw_r3⟩⟩
/-- the streams that the claim lets the run draw from -/
abbrev lw_cs : List Choice := [Jvm.Choice.named "NaN.bits"]
theorem lw_bits : nanBits ∈ lw_cs := by first | decide | exact List.mem_cons_self | simp [lw_cs, nanBits]

/-! ===== BEGIN words of one list among another's, by their places ===== -/
theorem goodIn_r {big : List Cond} (ws : List Cond) (ps : List Nat) (hp : ws = ps.filterMap (fun i => big[i]?)) (h : ws.all goodWord = true) : GoodIn big ws := by
  intro w hw
  have h1 := List.all_eq_true.mp h w hw
  rw [hp] at hw
  obtain ⟨i, -, hi⟩ := List.mem_filterMap.mp hw
  have hm : w ∈ big := by first | exact List.mem_of_getElem? hi | exact List.getElem?_mem hi
  exact ⟨hm, good_of_word h1⟩
theorem goodIn_app {big a b : List Cond} (ha : GoodIn big a) (hb : GoodIn big b) : GoodIn big (a ++ b) := fun w h => (List.mem_append.mp h).elim (ha w) (hb w)
theorem goodIn_ca {big a b : List Cond} {c : Cond} (ha : GoodIn big (c :: a)) (hb : GoodIn big b) : GoodIn big (c :: (a ++ b)) := fun w h => (List.mem_cons.mp h).elim (fun e => ha w (List.mem_cons.mpr (Or.inl e))) (fun h => (List.mem_append.mp h).elim (fun h => ha w (List.mem_cons.mpr (Or.inr h))) (hb w))
theorem goodIn_sub {big ws : List Cond} (hm : ∀ w ∈ ws, w ∈ big) (h : ws.all goodWord = true) : GoodIn big ws := fun w hw => ⟨hm w hw, good_of_word (List.all_eq_true.mp h w hw)⟩
/-! ===== END ===== -/

/-! ===== BEGIN exceptions that leave a method, and their catching by the caller (launches without stack traces) ===== -/
section VXA
/-! The laws vx_back, vx_callV, vx_callS, vx_callSW, vx_throw0, vx_throwS follow proofs of the library, with one case more: JvmDerived/Free/Laws.lean (Back.of_free), Shelf42/LK1.lean (callV, callS), Shelf/KitTraced.lean (throwNew0V, throwNewS). -/
/-- where a method has thrown q: the class by its name, the cell, what was written, the world -/
def vx_T (XC : String → State → State → Prop) (st : State) (q : Addr) (t : State) (mc ms : Nat) (free : Addr → Prop) : Prop :=
  ∃ (E : String) (ce : Cell) (L : List Loc), XC E st t ∧ t.heap[q]? = some ce ∧ ce.vm = .none ∧ st.vm.findClass E = some ce.cls ∧ st.WarmedH t.vm ∧ st.sameButNew ({ t with vm := st.vm } : State) L mc ms ∧ ∀ z ∈ L, free z.base
def vx_Q (Qc : Array Value → State → Outcome → State → Prop) (XC : String → State → State → Prop) (mc ms : Nat) (free : Addr → Prop) : Array Value → State → Outcome → State → Prop := fun a st o t =>
  (Qc a st o t ∧ ∃ L, FrameEnd st o t L mc ms ∧ ∀ q ∈ L, free q.base) ∨ ∃ q, o = .threw q ∧ vx_T XC st q t mc ms free
/-- a callee that returns or throws -/
def vx_Met (l : Launch) (y : MethodName) (ws : List Cond) (rm : Room) (Pc : Array Value → State → Prop) (Qc : Array Value → State → Outcome → State → Prop) (XC : String → State → State → Prop) (mc ms : Nat) (free : Addr → Prop) : Prop :=
  MetFree l y (headSpec ws rm) Pc (fun _ _ _ _ _ => True) (vx_Q Qc XC mc ms free)
def vx_Post (XC : String → State → State → Prop) (mc ms : Nat) (free : Addr → Prop) : Pt → Array Value → Addr → Pt → Prop := fun A a q B =>
  ∃ (g : JFrame) (mk : MethodId) (t : State) (L : List Loc) (E : String) (ce : Cell), B.U.heap = t.heap ∧ B.U.vm = t.vm ∧ XC E (A.U.calling g mk a) t ∧ t.heap[q]? = some ce ∧ ce.vm = .none ∧ A.U.vm.findClass E = some ce.cls ∧ B.locs = A.locs ++ L ∧ (∀ z ∈ L, free z.base) ∧ B.cells = A.cells + mc ∧ B.slots = A.slots + ms
def vx_Back (l : Launch) (R : Room) (p : Program) (e : Env) (below : List Frame) (s : State) (sargs : Array Value) (y : MethodName) (len W9 : Nat)
    (Pre : Pt → Array Value → Prop) (Post : Pt → Array Value → Option Value → Pt → Prop) (PostX : Pt → Array Value → Addr → Pt → Prop) : Prop :=
  ∀ (m : MethodId) (meth : Method) (c : Code) (A : Pt) (g : JFrame) (ig : Instr) (mk : MethodId) (a : Array Value),
    Stand p l e R s m sargs below meth c A.U A.locs A.cells A.slots → g.method = m → g.locals.size = c.maxLocals → decode c.code g.pc = .ok (ig, len) →
    2 * g.monitorRoom + (g.stack.map fun v => v.category).sum ≤ W9 → A.U.methodNamed? y = some mk → Pre A a →
    (∃ (v : Option Value) (B : Pt), Stand p l e R s m sargs below meth c B.U B.locs B.cells B.slots ∧ Post A a v B ∧
      Steps p.tables e below (doInvoke e (A.U.setTop g) [] mk a).1 (B.U.setTop { g with pc := g.pc + len, stack := v.toList ++ g.stack })) ∨
    (∃ (q : Addr) (B : Pt), Stand p l e R s m sargs below meth c B.U B.locs B.cells B.slots ∧ PostX A a q B ∧
      Steps p.tables e below (doInvoke e (A.U.setTop g) [] mk a).1 ((B.U.setTop g).pushFrame (.throwing q)))
section Payer
variable {l : Launch} {R : Room} {p : Program} {e : Env} {below : List Frame} {s : State} {sargs : Array Value} {y : MethodName} {len W9 : Nat}
theorem vx_back {ws : List Cond} {rm : Room} {Pc : Array Value → State → Prop} {Qc : Array Value → State → Outcome → State → Prop} {XC : String → State → State → Prop} {mc ms : Nat} {free : Addr → Prop} {bytes : ByteArray} {maxL : Nat} {ret : Option FieldType}
    (hM : vx_Met l y ws rm Pc Qc XC mc ms free) (hblind : FrameBlind Pc) (hrc : rm.cells = mc) (hrs : rm.slots = ms)
    (hframes : rm.frames + 1 ≤ R.frames) (hlocals : W9 + (maxL + 11) + rm.locals ≤ R.locals)
    (hws : ∀ w ∈ ws, ∀ a' U, s.WarmedH U.vm → w.before a' U = true) (hcode : Cond.code y bytes maxL ret ∈ ws) (hinit : ∀ a' U, s.WarmedH U.vm → (Cond.initialized y.cls).before a' U = true) :
    vx_Back l R p e below s sargs y len W9 (PreOf R mc ms Pc) (PostOf Qc mc ms free) (vx_Post XC mc ms free) := by
  intro m meth c A g ig mk a X hg hsize hdg hW hn hp
  have h1 : (headSpec ws rm).pre.before a A.U = true := atoms_intro fun w hw => hws w hw _ _ X.warmed
  have h2 : (Cond.code y bytes maxL ret).before a A.U = true := hws _ hcode _ _ X.warmed
  have h3 : (Cond.initialized y.cls).before a A.U = true := hinit _ _ X.warmed
  have h4 : A.cells + (headSpec ws rm).room.cells ≤ R.cells := by rw [show (headSpec ws rm).room.cells = mc from hrc]; exact hp.1
  have h5 : A.slots + (headSpec ws rm).room.slots ≤ R.slots := by rw [show (headSpec ws rm).room.slots = ms from hrs]; exact hp.2.1
  have hPc : Pc a (A.U.calling g mk a) := hblind _ _ _ _ hp.2.2
  obtain ⟨U, Ls, c0, s0⟩ := A
  dsimp only [Pt.U, Pt.locs, Pt.cells, Pt.slots] at h1 h2 h3 h4 h5 X hn hPc ⊢
  obtain ⟨methY, cY, hmY, hcY, -, hlY, -, -, -, -⟩ := Cond.code_spec hn h2
  obtain ⟨kY, hkY, -⟩ := className_of_methodNamed hn
  have hinitY : kY.init = .initialized := Cond.initialized_spec (findClass_of_methodNamed hn) hkY h3
  have h : At U g.method c below := by rw [hg]; exact X.here
  have hlocals9 : W9 + (maxL + 11) + (headSpec ws rm).room.locals ≤ R.locals := hlocals
  have happ : (headSpec ws rm).appliesLoose y e.platform (U.calling g mk a) = true :=
    Spec.appliesLoose_calling (g := g) h hdg hn hkY hinitY
      (X.room_calling (g := g) (R' := (headSpec ws rm).room) hsize hmY hcY hframes (by rw [hlY]; omega) h4 h5) h1
  obtain ⟨mid, hmid⟩ := h.above
  have hfr : (U.setTop g).frames = (.java g :: mid) ++ below := by rw [State.frames_setTop' g h.top, hmid]; rfl
  obtain ⟨o, s₂, hsteps, -, hend, hq⟩ := Steps.callFree hM p X.admits X.cas X.clock (acts := []) hfr happ hPc trivial
  have hq' : vx_Q Qc XC mc ms free a (U.calling g mk a) o s₂ := hq
  rw [State.frames_setTop' g h.top] at hend
  obtain ⟨g₀, hg0⟩ := Option.isSome_iff_exists.mp h.top
  obtain ⟨r, hr⟩ := State.topJava?_eq_some.mp hg0
  have hr' : (({ U with heap := s₂.heap, slotsUsed := s₂.slotsUsed } : State).setVm s₂.vm).frames = .java g₀ :: r := hr
  rcases hq' with ⟨hqc, L, hfe, hL⟩ | ⟨q, rfl, E, ce, L, hx, hce, hcv, hcl, hW₂, hsm, hL⟩
  · obtain ⟨⟨v, rfl⟩, hW₂, e2, q2, q3, q4, q5, q6⟩ := id hfe
    have e3 : s₂ = ({ (U.calling g mk a).setFrames s₂.frames with heap := s₂.heap, slotsUsed := s₂.slotsUsed } : State).setVm s₂.vm := by
      have : s₂ = ({ s₂ with vm := (U.calling g mk a).vm } : State).setVm s₂.vm := rfl
      rw [e2] at this
      exact this
    obtain ⟨c₂, i₂, len₂, hc₂, hd₂, hf₂⟩ := hend
    have hW' : U.WarmedH s₂.vm := hW₂
    have hcc : c₂ = c := by
      have h1 : s₂.code? g.method = U.code? g.method := by
        rw [State.code?_eq, State.code?_eq, hW'.alike.method?]
      exact Option.some.inj (hc₂.symm.trans (h1.trans h.code))
    subst hcc
    have hlen : len₂ = len := by rw [hdg] at hd₂; cases hd₂; rfl
    subst hlen
    have hs₂ : s₂ = (({ U with heap := s₂.heap, slotsUsed := s₂.slotsUsed } : State).setVm s₂.vm).setTop { g with pc := g.pc + len₂, stack := v.toList ++ g.stack } := by
      refine e3.trans ?_
      rw [hf₂, State.calling_eq h.top, State.setFrames_setFrames, State.setTop_of_frames _ hr', hr]
      rfl
    have hsame : U.sameButNew ({ U with heap := s₂.heap, slotsUsed := s₂.slotsUsed } : State) L mc ms := by
      refine ⟨?_, q2, q3, q4, q5, q6⟩
      obtain ⟨t, ht, -⟩ := State.frames_cons hr
      show ({ U with heap := s₂.heap, slotsUsed := s₂.slotsUsed } : State) = { U.setFrames U.frames with heap := s₂.heap, slotsUsed := s₂.slotsUsed }
      rw [State.setFrames_self ht]
    subst hg
    refine Or.inl ⟨v, ⟨(({ U with heap := s₂.heap, slotsUsed := s₂.slotsUsed } : State).setVm s₂.vm), Ls ++ L, c0 + mc, s0 + ms⟩,
      ⟨X.admits, X.cas, X.clock, X.frames, X.room, X.hears, X.method, X.code, (X.here.setHeapUsed s₂.heap s₂.slotsUsed).setVm hW'.alike, X.tail, State.WarmedH.trans X.warmed hW', X.limits, X.bytes, X.same.trans (hsame.setVm s.vm)⟩,
      ⟨g, mk, s₂, L, rfl, rfl, hqc, rfl, hL, rfl, rfl⟩, ?_⟩
    show Steps p.tables e below _ ((({ U with heap := s₂.heap, slotsUsed := s₂.slotsUsed } : State).setVm s₂.vm).setTop { g with pc := g.pc + len₂, stack := v.toList ++ g.stack })
    rw [← hs₂]
    exact hsteps
  · obtain ⟨e2, q2, q3, q4, q5, q6⟩ := id hsm
    have e3 : s₂ = ({ (U.calling g mk a).setFrames s₂.frames with heap := s₂.heap, slotsUsed := s₂.slotsUsed } : State).setVm s₂.vm := by
      have : s₂ = ({ s₂ with vm := (U.calling g mk a).vm } : State).setVm s₂.vm := rfl
      rw [e2] at this
      exact this
    have hf₂ : s₂.frames = .throwing q :: .java g :: U.frames.tail := hend
    have hW' : U.WarmedH s₂.vm := hW₂
    have hs₂ : s₂ = ((({ U with heap := s₂.heap, slotsUsed := s₂.slotsUsed } : State).setVm s₂.vm).setTop g).pushFrame (.throwing q) := by
      refine e3.trans ?_
      rw [hf₂, State.calling_eq h.top, State.setFrames_setFrames, State.pushFrame, State.frames_setTop _ hr', State.setTop_of_frames _ hr', State.setFrames_setFrames, hr]
      rfl
    have hsame : U.sameButNew ({ U with heap := s₂.heap, slotsUsed := s₂.slotsUsed } : State) L mc ms := by
      refine ⟨?_, q2, q3, q4, q5, q6⟩
      obtain ⟨t, ht, -⟩ := State.frames_cons hr
      show ({ U with heap := s₂.heap, slotsUsed := s₂.slotsUsed } : State) = { U.setFrames U.frames with heap := s₂.heap, slotsUsed := s₂.slotsUsed }
      rw [State.setFrames_self ht]
    subst hg
    refine Or.inr ⟨q, ⟨(({ U with heap := s₂.heap, slotsUsed := s₂.slotsUsed } : State).setVm s₂.vm), Ls ++ L, c0 + mc, s0 + ms⟩,
      ⟨X.admits, X.cas, X.clock, X.frames, X.room, X.hears, X.method, X.code, (X.here.setHeapUsed s₂.heap s₂.slotsUsed).setVm hW'.alike, X.tail, State.WarmedH.trans X.warmed hW', X.limits, X.bytes, X.same.trans (hsame.setVm s.vm)⟩,
      ⟨g, mk, s₂, L, E, ce, rfl, rfl, hx, hce, hcv, hcl, rfl, hL, rfl, rfl⟩, ?_⟩
    show Steps p.tables e below _ (((({ U with heap := s₂.heap, slotsUsed := s₂.slotsUsed } : State).setVm s₂.vm).setTop g).pushFrame (.throwing q))
    rw [← hs₂]
    exact hsteps
end Payer
section Calls
variable {p : Program} {l : Launch} {e : Env} {R : Room} {s : State} {m : MethodId} {args : Array Value} {below : List Frame} {meth : Method} {c : Code} {T : State} {locs : List Loc} {cells slots : Nat}
theorem vx_callV (X : Stand p l e R s m args below meth c T locs cells slots) (hexec : p.tables.exec = Jvm.exec) {own C : String} {index : Nat} {y : MethodName} {bytes : ByteArray} {maxL : Nat} {ret : Option FieldType}
    (hown : s.vm.findClass own = some m.cls) (hlink : (Cond.methodLink own index y).before args s = true) (hinst : (Cond.instanceMethod y).before args s = true) (hsel : (Cond.selects C y y).before args s = true)
    (hcode : (Cond.code y bytes maxL ret).before args s = true) (hy : y.cls ≠ "java/lang/invoke/MethodHandle" ∧ y.cls ≠ "java/lang/invoke/VarHandle")
    {W9 : Nat} {Pre : Pt → Array Value → Prop} {Post : Pt → Array Value → Option Value → Pt → Prop} {PostX : Pt → Array Value → Addr → Pt → Prop} (hK : vx_Back l R p e below s args y 3 W9 Pre Post PostX)
    {b : Addr} {cellB : Cell} (hcell : T.heap[b]? = some cellB) (hobj : cellB.vm.isStatics = false) (hcls : s.vm.findClass C = some cellB.cls)
    {g : JFrame} (hg : g.method = m) (hsize : g.locals.size = c.maxLocals) {argsL rest : List Value} (hlen : ∀ sig, parseMethodDescriptor y.desc = some sig → argsL.length = sig.parameters.length)
    (hstack : g.stack = argsL.reverse ++ .ref b :: rest) (hW : 2 * g.monitorRoom + (rest.map fun v => v.category).sum ≤ W9) (hdg : decode c.code g.pc = .ok (.invokevirtual index, 3))
    (hpre : ∀ vm₁, s.WarmedH vm₁ → Pre ⟨T.setVm vm₁, locs, cells, slots⟩ (Value.ref b :: argsL).toArray) :
    (∃ (v : Option Value) (vm₁ : Vm) (B : Pt), s.WarmedH vm₁ ∧ Stand p l e R s m args below meth c B.U B.locs B.cells B.slots ∧ Post ⟨T.setVm vm₁, locs, cells, slots⟩ (Value.ref b :: argsL).toArray v B ∧
      ∀ target, Steps p.tables e below (B.U.setTop { g with pc := g.pc + 3, stack := v.toList ++ rest }) target → Steps p.tables e below (T.setTop g) target) ∨
    (∃ (q : Addr) (vm₁ : Vm) (B : Pt), s.WarmedH vm₁ ∧ Stand p l e R s m args below meth c B.U B.locs B.cells B.slots ∧ PostX ⟨T.setVm vm₁, locs, cells, slots⟩ (Value.ref b :: argsL).toArray q B ∧
      Steps p.tables e below (T.setTop g) ((B.U.setTop { g with stack := rest }).pushFrame (.throwing q))) := by
  obtain ⟨mk, methM, hnamed, hmethM, hstM, habM⟩ := Cond.instanceMethod_spec hinst
  obtain ⟨methM', cM, hmethM', -, -, -, -, -, -, hsigM⟩ := Cond.code_spec hnamed hcode
  cases hmethM.symm.trans hmethM'
  obtain ⟨c2, r2, m2, q1, q2, q3, q4, kP, hkP, hkPi⟩ := Cond.selects_spec hsel
  cases hcls.symm.trans q1
  cases (State.methodFound?_of_named hnamed hy).symm.trans q2
  cases hnamed.symm.trans q3
  have hselP : selectMethod e.platform s.vm cellB.cls mk = .method mk := by rw [Launch.admits_selectMethod X.admits]; exact q4
  obtain ⟨vm₁, X₁, hstep₁⟩ := X.invokevirtual hexec hown hlink hnamed hmethM hstM hkP hkPi hy (a := b) (cell := cellB) hcell
    (fun z h => by rw [h] at hobj; cases hobj) hselP hmethM habM hkP hkPi (g := g) hg (argsL := argsL) (rest := rest) (hlen _ hsigM) hstack hdg
  rcases hK m meth c ⟨T.setVm vm₁, locs, cells, slots⟩ { g with stack := rest } (.invokevirtual index) mk (Value.ref b :: argsL).toArray X₁ hg hsize hdg hW (X₁.named hnamed) (hpre vm₁ X₁.warmed) with ⟨v, B, X', hpost, hsteps⟩ | ⟨q, B, X', hpost, hsteps⟩
  · exact Or.inl ⟨v, vm₁, B, X₁.warmed, X', hpost, fun target h => hstep₁ _ fun acts => by rw [doInvoke_state]; exact hsteps.trans h⟩
  · exact Or.inr ⟨q, vm₁, B, X₁.warmed, X', hpost, hstep₁ _ fun acts => by rw [doInvoke_state]; exact hsteps⟩
theorem vx_callS (X : Stand p l e R s m args below meth c T locs cells slots) (hexec : p.tables.exec = Jvm.exec) {own : String} {index : Nat} {y : MethodName} {bytes : ByteArray} {maxL : Nat} {ret : Option FieldType}
    (hown : s.vm.findClass own = some m.cls) (hlink : (Cond.methodLink own index y).before args s = true) (hstat : (Cond.static y).before args s = true) (hinit : (Cond.initialized y.cls).before args s = true)
    (hcode : (Cond.code y bytes maxL ret).before args s = true) (hy : y.cls ≠ "java/lang/invoke/MethodHandle" ∧ y.cls ≠ "java/lang/invoke/VarHandle")
    {W9 : Nat} {Pre : Pt → Array Value → Prop} {Post : Pt → Array Value → Option Value → Pt → Prop} {PostX : Pt → Array Value → Addr → Pt → Prop} (hK : vx_Back l R p e below s args y 3 W9 Pre Post PostX)
    {g : JFrame} (hg : g.method = m) (hsize : g.locals.size = c.maxLocals) {argsL rest : List Value} (hlen : ∀ sig, parseMethodDescriptor y.desc = some sig → argsL.length = sig.parameters.length)
    (hstack : g.stack = argsL.reverse ++ rest) (hW : 2 * g.monitorRoom + (rest.map fun v => v.category).sum ≤ W9) (hdg : decode c.code g.pc = .ok (.invokestatic index, 3))
    (hpre : ∀ vm₁, s.WarmedH vm₁ → Pre ⟨T.setVm vm₁, locs, cells, slots⟩ argsL.toArray) :
    (∃ (v : Option Value) (vm₁ : Vm) (B : Pt), s.WarmedH vm₁ ∧ Stand p l e R s m args below meth c B.U B.locs B.cells B.slots ∧ Post ⟨T.setVm vm₁, locs, cells, slots⟩ argsL.toArray v B ∧
      ∀ target, Steps p.tables e below (B.U.setTop { g with pc := g.pc + 3, stack := v.toList ++ rest }) target → Steps p.tables e below (T.setTop g) target) ∨
    (∃ (q : Addr) (vm₁ : Vm) (B : Pt), s.WarmedH vm₁ ∧ Stand p l e R s m args below meth c B.U B.locs B.cells B.slots ∧ PostX ⟨T.setVm vm₁, locs, cells, slots⟩ argsL.toArray q B ∧
      Steps p.tables e below (T.setTop g) ((B.U.setTop { g with stack := rest }).pushFrame (.throwing q))) := by
  obtain ⟨mk, hnamed⟩ := Cond.code_named hcode
  obtain ⟨methM, cM, hmethM, -, -, -, -, -, -, hsigM⟩ := Cond.code_spec hnamed hcode
  have hstatic : methM.isStatic = true := Cond.static_spec hnamed hmethM hstat
  obtain ⟨kP, hkP, -⟩ := className_of_methodNamed hnamed
  have hinitP : kP.init = .initialized := Cond.initialized_spec (findClass_of_methodNamed hnamed) hkP hinit
  obtain ⟨vm₁, X₁, hstep₁⟩ := X.invokestatic hexec hown hlink hnamed hmethM hstatic hkP hinitP hy (g := g) hg (argsL := argsL) (rest := rest) (hlen _ hsigM) hstack hdg
  rcases hK m meth c ⟨T.setVm vm₁, locs, cells, slots⟩ { g with stack := rest } (.invokestatic index) mk argsL.toArray X₁ hg hsize hdg hW (X₁.named hnamed) (hpre vm₁ X₁.warmed) with ⟨v, B, X', hpost, hsteps⟩ | ⟨q, B, X', hpost, hsteps⟩
  · exact Or.inl ⟨v, vm₁, B, X₁.warmed, X', hpost, fun target h => hstep₁ _ fun acts => by rw [doInvoke_state]; exact hsteps.trans h⟩
  · exact Or.inr ⟨q, vm₁, B, X₁.warmed, X', hpost, hstep₁ _ fun acts => by rw [doInvoke_state]; exact hsteps⟩
end Calls
theorem vx_cls {s : State} {T : State} {vm₁ : Vm} {E : String} {k : ClassId} (hW : s.WarmedH vm₁) (h : (T.setVm vm₁).vm.findClass E = some k) : s.vm.findClass E = some k := by
  have h1 : vm₁.findClass E = some k := h
  rw [hW.alike.findClass] at h1
  exact h1
/-- the method's frame g, with q thrown over it -/
def vx_W (p : Program) (l : Launch) (e : Env) (R : Room) (s : State) (m : MethodId) (args : Array Value) (below : List Frame) (meth : Method) (c : Code) (H : Heap) (locs : List Loc) (cells slots : Nat) (Q : State → Prop) (g : JFrame) (q : Addr) : Prop :=
  ∀ T : State, T.heap = H → Stand p l e R s m args below meth c T locs cells slots → ∃ t, Steps p.tables e below ((T.setTop g).pushFrame (.throwing q)) t ∧ Q t
def vx_Run (p : Program) (l : Launch) (e : Env) (R : Room) (s : State) (m : MethodId) (args : Array Value) (below : List Frame) (meth : Method) (c : Code) (H : Heap) (locs : List Loc) (cells slots mc ms : Nat) (g : JFrame) (rest : List Value) (Qa : State → Outcome → State → Prop) (XC : String → State → State → Prop) (free : Addr → Prop) : Prop :=
  ∀ T : State, T.heap = H → Stand p l e R s m args below meth c T locs cells slots →
    (∃ (v : Option Value) (st₀ t T' : State) (L : List Loc), st₀.heap = H ∧ Stand p l e R s m args below meth c T' (locs ++ L) (cells + mc) (slots + ms) ∧ (∀ q ∈ L, free q.base) ∧ T'.heap = t.heap ∧ T'.vm = t.vm ∧ Qa st₀ (.returned v) t ∧
      Goes p e below T g T' { g with pc := g.pc + 3, stack := v.toList ++ rest }) ∨
    (∃ (q : Addr) (st₀ t T' : State) (L : List Loc) (E : String) (ce : Cell), st₀.heap = H ∧ Stand p l e R s m args below meth c T' (locs ++ L) (cells + mc) (slots + ms) ∧ (∀ z ∈ L, free z.base) ∧ T'.heap = t.heap ∧ T'.vm = t.vm ∧ XC E st₀ t ∧ t.heap[q]? = some ce ∧ ce.vm = .none ∧ s.vm.findClass E = some ce.cls ∧
      Steps p.tables e below (T.setTop g) ((T'.setTop { g with stack := rest }).pushFrame (.throwing q)))
def vx_X {S : Type} (px : S → Prop) (B : String → S → State → Prop) (A : Nat → Prop) : String → State → State → Prop := fun E st t => ∃ u : S, px u ∧ B E u t ∧ va_F A st t
section Runs
variable {p : Program} {l : Launch} {e : Env} {R : Room} {s : State} {m : MethodId} {args : Array Value} {below : List Frame} {meth : Method} {c : Code} {H : Heap} {locs : List Loc} {cells slots : Nat}
variable {y : MethodName} {bytes cc : ByteArray} {maxL nL mc ms n index : Nat} {ret : Option FieldType} {ws : List Cond} {rm : Room} {Pc : Array Value → State → Prop} {Qc : Array Value → State → Outcome → State → Prop} {XC : String → State → State → Prop} {free : Addr → Prop} {Ts : List Cond} {own C : String} {b : Addr} {As rest : List Value} {g : JFrame}
theorem vx_callBack (cb : CallB R s args own index y bytes maxL ret ws rm mc ms n) (hM : vx_Met l y ws rm Pc Qc XC mc ms free) (hbl : FrameBlind Pc) : vx_Back l R p e below s args y 3 8 (PreOf R mc ms Pc) (PostOf Qc mc ms free) (vx_Post XC mc ms free) := by
  obtain ⟨hrc, hrs, hfr, hlo, hws, hcw, -, hini, -⟩ := cb
  exact vx_back (bytes := bytes) (maxL := maxL) (ret := ret) hM hbl hrc hrs hfr hlo hws hcw (fun a' U hW => word_at hW (Or.inl (by first | rfl | simp [Cond.onTables, Cond.keeps, Cond.steady])) hini)
theorem vx_runV (S : CallFix p m c cc nL s args Ts own) (hM : vx_Met l y ws rm Pc Qc XC mc ms free) (cw : CallW R s args own C index y bytes maxL ret ws rm mc ms n) (hp : PreV s H C b Pc As)
    (hg : g.method = m) (hn : As.length = n) (hsize : g.locals.size = nL) (hstack : g.stack = As.reverse ++ .ref b :: rest) (hW : 2 * g.monitorRoom + (rest.map fun v => v.category).sum ≤ 8) (hdg : decode cc g.pc = .ok (.invokevirtual index, 3)) (hf : cells + mc ≤ R.cells ∧ slots + ms ≤ R.slots) :
    vx_Run p l e R s m args below meth c H locs cells slots mc ms g rest (Qc (Value.ref b :: As).toArray) XC free := by
  have hK : vx_Back l R p e below s args y 3 8 (PreOf R mc ms Pc) (PostOf Qc mc ms free) (vx_Post XC mc ms free) := vx_callBack cw.1 hM hp.1
  obtain ⟨⟨-, -, -, -, -, -, hcode, -, hy, hlen, hl⟩, hin, hse⟩ := cw
  obtain ⟨hx, hb, hml, ho, -⟩ := S
  obtain ⟨-, ⟨cellB, hcB, hoB, hclB⟩, hPc⟩ := hp
  intro T hT X
  rcases vx_callV X hx (C := C) (bytes := bytes) (maxL := maxL) (ret := ret) ho hl hin hse hcode hy hK (by rw [hT]; exact hcB) hoB hclB hg (hsize.trans hml.symm) (argsL := As) (rest := rest) (fun sig h => hn.trans (hlen sig h)) hstack hW (by rw [hb]; exact hdg)
    (fun vm₁ hW₁ => ⟨hf.1, hf.2, hPc (T.setVm vm₁) hT hW₁⟩) with ⟨v, vm₁, ⟨U', l2, c2, s2⟩, hW₁, X', ⟨g', mk, t, L, e1, e2, hq, h1, hL, h2, h3⟩, st⟩ | ⟨q, vm₁, ⟨U', l2, c2, s2⟩, hW₁, X', ⟨g', mk, t, L, E, ce, e1, e2, hq, hce, hcv, hcl, h1, hL, h2, h3⟩, st⟩
  · dsimp only [Pt.U, Pt.locs, Pt.cells, Pt.slots] at X' e1 e2 h1 h2 h3 st
    subst h1; subst h2; subst h3
    exact Or.inl ⟨v, (T.setVm vm₁).calling g' mk (Value.ref b :: As).toArray, t, U', L, hT, X', hL, e1, e2, hq, st⟩
  · dsimp only [Pt.U, Pt.locs, Pt.cells, Pt.slots] at X' e1 e2 h1 h2 h3 st hcl
    subst h1; subst h2; subst h3
    exact Or.inr ⟨q, (T.setVm vm₁).calling g' mk (Value.ref b :: As).toArray, t, U', L, E, ce, hT, X', hL, e1, e2, hq, hce, hcv, vx_cls hW₁ hcl, st⟩
theorem vx_runS (S : CallFix p m c cc nL s args Ts own) (hM : vx_Met l y ws rm Pc Qc XC mc ms free) (cw : CallB R s args own index y bytes maxL ret ws rm mc ms n ∧ (Cond.static y).before args s = true) (hp : PreS s H Pc As)
    (hg : g.method = m) (hn : As.length = n) (hsize : g.locals.size = nL) (hstack : g.stack = As.reverse ++ rest) (hW : 2 * g.monitorRoom + (rest.map fun v => v.category).sum ≤ 8) (hdg : decode cc g.pc = .ok (.invokestatic index, 3)) (hf : cells + mc ≤ R.cells ∧ slots + ms ≤ R.slots) :
    vx_Run p l e R s m args below meth c H locs cells slots mc ms g rest (Qc As.toArray) XC free := by
  have hK : vx_Back l R p e below s args y 3 8 (PreOf R mc ms Pc) (PostOf Qc mc ms free) (vx_Post XC mc ms free) := vx_callBack cw.1 hM hp.1
  obtain ⟨⟨-, -, -, -, -, -, hcode, hini, hy, hlen, hl⟩, hstt⟩ := cw
  obtain ⟨hx, hb, hml, ho, -⟩ := S
  intro T hT X
  rcases vx_callS X hx (bytes := bytes) (maxL := maxL) (ret := ret) ho hl hstt hini hcode hy hK hg (hsize.trans hml.symm) (argsL := As) (rest := rest) (fun sig h => hn.trans (hlen sig h)) hstack hW (by rw [hb]; exact hdg)
    (fun vm₁ hW₁ => ⟨hf.1, hf.2, hp.2 (T.setVm vm₁) hT hW₁⟩) with ⟨v, vm₁, ⟨U', l2, c2, s2⟩, hW₁, X', ⟨g', mk, t, L, e1, e2, hq, h1, hL, h2, h3⟩, st⟩ | ⟨q, vm₁, ⟨U', l2, c2, s2⟩, hW₁, X', ⟨g', mk, t, L, E, ce, e1, e2, hq, hce, hcv, hcl, h1, hL, h2, h3⟩, st⟩
  · dsimp only [Pt.U, Pt.locs, Pt.cells, Pt.slots] at X' e1 e2 h1 h2 h3 st
    subst h1; subst h2; subst h3
    exact Or.inl ⟨v, (T.setVm vm₁).calling g' mk As.toArray, t, U', L, hT, X', hL, e1, e2, hq, st⟩
  · dsimp only [Pt.U, Pt.locs, Pt.cells, Pt.slots] at X' e1 e2 h1 h2 h3 st hcl
    subst h1; subst h2; subst h3
    exact Or.inr ⟨q, (T.setVm vm₁).calling g' mk As.toArray, t, U', L, E, ce, hT, X', hL, e1, e2, hq, hce, hcv, vx_cls hW₁ hcl, st⟩
end Runs
section Rows
variable {p : Program} {l : Launch} {e : Env} {R : Room} {s : State} {m : MethodId} {args : Array Value} {below : List Frame} {meth : Method} {c : Code} {H : Heap} {locs : List Loc} {cells slots : Nat} {Q : State → Prop}
variable {mc ms : Nat} {free : Addr → Prop} {A0 A1 : Nat → Prop} {H0 : Heap} {a : Array Value} {pc : Nat} {ls : Array Slot} {st0 rest : List Value}
theorem vx_keep {st₀ t T' : State} {L : List Loc} (h0 : st₀.heap = H) (e1 : T'.heap = t.heap) (hS : va_S A0 H0 H locs) (hA : ∀ q, q < H.size → A1 q → A0 q) (hf : ∀ q, free q → A0 q) (hL : ∀ q ∈ L, free q.base) (hF : va_F A1 st₀ t) :
    H.size ≤ T'.heap.size ∧ (∀ q : Nat, q < H.size → ¬ A1 q → T'.heap[q]? = H[q]?) ∧ va_S A0 H0 T'.heap (locs ++ L) := by
  obtain ⟨hz, hk⟩ := hF
  rw [h0] at hz hk
  exact ⟨by rw [e1]; exact hz, fun q h1 h2 => by rw [e1]; exact hk q h1 h2,
    ⟨Nat.le_trans hS.1 (by rw [e1]; exact hz), fun q h1 h2 => by rw [e1, hk q (Nat.lt_of_lt_of_le h1 hS.1) (fun z => h2 (hA q (Nat.lt_of_lt_of_le h1 hS.1) z))]; exact hS.2.1 q h1 h2, fun q hq => by
      rcases List.mem_append.mp hq with h | h
      · exact hS.2.2 q h
      · exact hf _ (hL q h)⟩⟩
theorem vx_calli {S SX : Type} {post : Int32 → S → Prop} {px : SX → Prop} {B : S → State → Prop} {BX : String → SX → State → Prop} {AX : Nat → Prop} (hr : vx_Run p l e R s m args below meth c H locs cells slots mc ms (F0 m pc ls st0) rest (va_Qi post B A1 a) (vx_X px BX AX) free) (hS : va_S A0 H0 H locs) (hA : ∀ q, q < H.size → A1 q → A0 q) (hf : ∀ q, free q → A0 q) (hAX : ∀ q, q < H.size → AX q → A0 q)
    (kx : ∀ (E : String) (ce : Cell) (q9 : Addr) (u : SX) (t : State) (H1 : Heap) (locs1 : List Loc), t.heap = H1 → s.vm.Alike t.vm → px u → BX E u t → H.size ≤ H1.size → (∀ q : Nat, q < H.size → ¬ AX q → H1[q]? = H[q]?) → va_S A0 H0 H1 locs1 → H1[q9]? = some ce → ce.vm = .none → s.vm.findClass E = some ce.cls → vx_W p l e R s m args below meth c H1 locs1 (cells + mc) (slots + ms) Q (F0 m pc ls rest) q9)
    (kk : ∀ (r : Int32) (u : S) (t : State) (H1 : Heap) (locs1 : List Loc), t.heap = H1 → s.vm.Alike t.vm → post r u → B u t → H.size ≤ H1.size → (∀ q : Nat, q < H.size → ¬ A1 q → H1[q]? = H[q]?) → va_S A0 H0 H1 locs1 → W p l e R s m args below meth c H1 locs1 (cells + mc) (slots + ms) Q (F0 m (pc + 3) ls (.int r :: rest))) : W p l e R s m args below meth c H locs cells slots Q (F0 m pc ls st0) := by
  intro T hT X
  rcases hr T hT X with ⟨v, st₀, t, T', L, h0, X', hL, e1, e2, ⟨⟨r, u, hv, hp, hb⟩, hF⟩, st⟩ | ⟨q, st₀, t, T', L, E, ce, h0, X', hL, e1, e2, ⟨u, hp, hb, hF⟩, hce, hcv, hcl, st⟩
  · cases hv
    obtain ⟨k1, k2, k3⟩ := vx_keep h0 e1 hS hA hf hL hF
    obtain ⟨t2, a1, b1⟩ := kk r u t T'.heap (locs ++ L) e1.symm (by rw [← e2]; exact X'.warmed.alike) hp hb k1 k2 k3 T' rfl X'
    exact ⟨t2, st t2 a1, b1⟩
  · obtain ⟨k1, k2, k3⟩ := vx_keep h0 e1 hS hAX hf hL hF
    obtain ⟨t2, a1, b1⟩ := kx E ce q u t T'.heap (locs ++ L) e1.symm (by rw [← e2]; exact X'.warmed.alike) hp hb k1 k2 k3 (by rw [e1]; exact hce) hcv hcl T' rfl X'
    exact ⟨t2, st.trans a1, b1⟩
theorem vx_calll {S SX : Type} {post : Int64 → S → Prop} {px : SX → Prop} {B : S → State → Prop} {BX : String → SX → State → Prop} {AX : Nat → Prop} (hr : vx_Run p l e R s m args below meth c H locs cells slots mc ms (F0 m pc ls st0) rest (va_Ql post B A1 a) (vx_X px BX AX) free) (hS : va_S A0 H0 H locs) (hA : ∀ q, q < H.size → A1 q → A0 q) (hf : ∀ q, free q → A0 q) (hAX : ∀ q, q < H.size → AX q → A0 q)
    (kx : ∀ (E : String) (ce : Cell) (q9 : Addr) (u : SX) (t : State) (H1 : Heap) (locs1 : List Loc), t.heap = H1 → s.vm.Alike t.vm → px u → BX E u t → H.size ≤ H1.size → (∀ q : Nat, q < H.size → ¬ AX q → H1[q]? = H[q]?) → va_S A0 H0 H1 locs1 → H1[q9]? = some ce → ce.vm = .none → s.vm.findClass E = some ce.cls → vx_W p l e R s m args below meth c H1 locs1 (cells + mc) (slots + ms) Q (F0 m pc ls rest) q9)
    (kk : ∀ (r : Int64) (u : S) (t : State) (H1 : Heap) (locs1 : List Loc), t.heap = H1 → s.vm.Alike t.vm → post r u → B u t → H.size ≤ H1.size → (∀ q : Nat, q < H.size → ¬ A1 q → H1[q]? = H[q]?) → va_S A0 H0 H1 locs1 → W p l e R s m args below meth c H1 locs1 (cells + mc) (slots + ms) Q (F0 m (pc + 3) ls (.long r :: rest))) : W p l e R s m args below meth c H locs cells slots Q (F0 m pc ls st0) := by
  intro T hT X
  rcases hr T hT X with ⟨v, st₀, t, T', L, h0, X', hL, e1, e2, ⟨⟨r, u, hv, hp, hb⟩, hF⟩, st⟩ | ⟨q, st₀, t, T', L, E, ce, h0, X', hL, e1, e2, ⟨u, hp, hb, hF⟩, hce, hcv, hcl, st⟩
  · cases hv
    obtain ⟨k1, k2, k3⟩ := vx_keep h0 e1 hS hA hf hL hF
    obtain ⟨t2, a1, b1⟩ := kk r u t T'.heap (locs ++ L) e1.symm (by rw [← e2]; exact X'.warmed.alike) hp hb k1 k2 k3 T' rfl X'
    exact ⟨t2, st t2 a1, b1⟩
  · obtain ⟨k1, k2, k3⟩ := vx_keep h0 e1 hS hAX hf hL hF
    obtain ⟨t2, a1, b1⟩ := kx E ce q u t T'.heap (locs ++ L) e1.symm (by rw [← e2]; exact X'.warmed.alike) hp hb k1 k2 k3 (by rw [e1]; exact hce) hcv hcl T' rfl X'
    exact ⟨t2, st.trans a1, b1⟩
theorem vx_callf {S SX : Type} {post : UInt32 → S → Prop} {px : SX → Prop} {B : S → State → Prop} {BX : String → SX → State → Prop} {AX : Nat → Prop} (hr : vx_Run p l e R s m args below meth c H locs cells slots mc ms (F0 m pc ls st0) rest (va_Qf post B A1 a) (vx_X px BX AX) free) (hS : va_S A0 H0 H locs) (hA : ∀ q, q < H.size → A1 q → A0 q) (hf : ∀ q, free q → A0 q) (hAX : ∀ q, q < H.size → AX q → A0 q)
    (kx : ∀ (E : String) (ce : Cell) (q9 : Addr) (u : SX) (t : State) (H1 : Heap) (locs1 : List Loc), t.heap = H1 → s.vm.Alike t.vm → px u → BX E u t → H.size ≤ H1.size → (∀ q : Nat, q < H.size → ¬ AX q → H1[q]? = H[q]?) → va_S A0 H0 H1 locs1 → H1[q9]? = some ce → ce.vm = .none → s.vm.findClass E = some ce.cls → vx_W p l e R s m args below meth c H1 locs1 (cells + mc) (slots + ms) Q (F0 m pc ls rest) q9)
    (kk : ∀ (r : UInt32) (u : S) (t : State) (H1 : Heap) (locs1 : List Loc), t.heap = H1 → s.vm.Alike t.vm → post r u → B u t → H.size ≤ H1.size → (∀ q : Nat, q < H.size → ¬ A1 q → H1[q]? = H[q]?) → va_S A0 H0 H1 locs1 → W p l e R s m args below meth c H1 locs1 (cells + mc) (slots + ms) Q (F0 m (pc + 3) ls (.float r :: rest))) : W p l e R s m args below meth c H locs cells slots Q (F0 m pc ls st0) := by
  intro T hT X
  rcases hr T hT X with ⟨v, st₀, t, T', L, h0, X', hL, e1, e2, ⟨⟨r, u, hv, hp, hb⟩, hF⟩, st⟩ | ⟨q, st₀, t, T', L, E, ce, h0, X', hL, e1, e2, ⟨u, hp, hb, hF⟩, hce, hcv, hcl, st⟩
  · cases hv
    obtain ⟨k1, k2, k3⟩ := vx_keep h0 e1 hS hA hf hL hF
    obtain ⟨t2, a1, b1⟩ := kk r u t T'.heap (locs ++ L) e1.symm (by rw [← e2]; exact X'.warmed.alike) hp hb k1 k2 k3 T' rfl X'
    exact ⟨t2, st t2 a1, b1⟩
  · obtain ⟨k1, k2, k3⟩ := vx_keep h0 e1 hS hAX hf hL hF
    obtain ⟨t2, a1, b1⟩ := kx E ce q u t T'.heap (locs ++ L) e1.symm (by rw [← e2]; exact X'.warmed.alike) hp hb k1 k2 k3 (by rw [e1]; exact hce) hcv hcl T' rfl X'
    exact ⟨t2, st.trans a1, b1⟩
theorem vx_calld {S SX : Type} {post : UInt64 → S → Prop} {px : SX → Prop} {B : S → State → Prop} {BX : String → SX → State → Prop} {AX : Nat → Prop} (hr : vx_Run p l e R s m args below meth c H locs cells slots mc ms (F0 m pc ls st0) rest (va_Qd post B A1 a) (vx_X px BX AX) free) (hS : va_S A0 H0 H locs) (hA : ∀ q, q < H.size → A1 q → A0 q) (hf : ∀ q, free q → A0 q) (hAX : ∀ q, q < H.size → AX q → A0 q)
    (kx : ∀ (E : String) (ce : Cell) (q9 : Addr) (u : SX) (t : State) (H1 : Heap) (locs1 : List Loc), t.heap = H1 → s.vm.Alike t.vm → px u → BX E u t → H.size ≤ H1.size → (∀ q : Nat, q < H.size → ¬ AX q → H1[q]? = H[q]?) → va_S A0 H0 H1 locs1 → H1[q9]? = some ce → ce.vm = .none → s.vm.findClass E = some ce.cls → vx_W p l e R s m args below meth c H1 locs1 (cells + mc) (slots + ms) Q (F0 m pc ls rest) q9)
    (kk : ∀ (r : UInt64) (u : S) (t : State) (H1 : Heap) (locs1 : List Loc), t.heap = H1 → s.vm.Alike t.vm → post r u → B u t → H.size ≤ H1.size → (∀ q : Nat, q < H.size → ¬ A1 q → H1[q]? = H[q]?) → va_S A0 H0 H1 locs1 → W p l e R s m args below meth c H1 locs1 (cells + mc) (slots + ms) Q (F0 m (pc + 3) ls (.double r :: rest))) : W p l e R s m args below meth c H locs cells slots Q (F0 m pc ls st0) := by
  intro T hT X
  rcases hr T hT X with ⟨v, st₀, t, T', L, h0, X', hL, e1, e2, ⟨⟨r, u, hv, hp, hb⟩, hF⟩, st⟩ | ⟨q, st₀, t, T', L, E, ce, h0, X', hL, e1, e2, ⟨u, hp, hb, hF⟩, hce, hcv, hcl, st⟩
  · cases hv
    obtain ⟨k1, k2, k3⟩ := vx_keep h0 e1 hS hA hf hL hF
    obtain ⟨t2, a1, b1⟩ := kk r u t T'.heap (locs ++ L) e1.symm (by rw [← e2]; exact X'.warmed.alike) hp hb k1 k2 k3 T' rfl X'
    exact ⟨t2, st t2 a1, b1⟩
  · obtain ⟨k1, k2, k3⟩ := vx_keep h0 e1 hS hAX hf hL hF
    obtain ⟨t2, a1, b1⟩ := kx E ce q u t T'.heap (locs ++ L) e1.symm (by rw [← e2]; exact X'.warmed.alike) hp hb k1 k2 k3 (by rw [e1]; exact hce) hcv hcl T' rfl X'
    exact ⟨t2, st.trans a1, b1⟩
theorem vx_callv {S SX : Type} {post : S → Prop} {px : SX → Prop} {B : S → State → Prop} {BX : String → SX → State → Prop} {AX : Nat → Prop} (hr : vx_Run p l e R s m args below meth c H locs cells slots mc ms (F0 m pc ls st0) rest (va_Qv post B A1 a) (vx_X px BX AX) free) (hS : va_S A0 H0 H locs) (hA : ∀ q, q < H.size → A1 q → A0 q) (hf : ∀ q, free q → A0 q) (hAX : ∀ q, q < H.size → AX q → A0 q)
    (kx : ∀ (E : String) (ce : Cell) (q9 : Addr) (u : SX) (t : State) (H1 : Heap) (locs1 : List Loc), t.heap = H1 → s.vm.Alike t.vm → px u → BX E u t → H.size ≤ H1.size → (∀ q : Nat, q < H.size → ¬ AX q → H1[q]? = H[q]?) → va_S A0 H0 H1 locs1 → H1[q9]? = some ce → ce.vm = .none → s.vm.findClass E = some ce.cls → vx_W p l e R s m args below meth c H1 locs1 (cells + mc) (slots + ms) Q (F0 m pc ls rest) q9)
    (kk : ∀ (u : S) (t : State) (H1 : Heap) (locs1 : List Loc), t.heap = H1 → s.vm.Alike t.vm → post u → B u t → H.size ≤ H1.size → (∀ q : Nat, q < H.size → ¬ A1 q → H1[q]? = H[q]?) → va_S A0 H0 H1 locs1 → W p l e R s m args below meth c H1 locs1 (cells + mc) (slots + ms) Q (F0 m (pc + 3) ls (rest))) : W p l e R s m args below meth c H locs cells slots Q (F0 m pc ls st0) := by
  intro T hT X
  rcases hr T hT X with ⟨v, st₀, t, T', L, h0, X', hL, e1, e2, ⟨⟨u, hv, hp, hb⟩, hF⟩, st⟩ | ⟨q, st₀, t, T', L, E, ce, h0, X', hL, e1, e2, ⟨u, hp, hb, hF⟩, hce, hcv, hcl, st⟩
  · cases hv
    obtain ⟨k1, k2, k3⟩ := vx_keep h0 e1 hS hA hf hL hF
    obtain ⟨t2, a1, b1⟩ := kk u t T'.heap (locs ++ L) e1.symm (by rw [← e2]; exact X'.warmed.alike) hp hb k1 k2 k3 T' rfl X'
    exact ⟨t2, st t2 a1, b1⟩
  · obtain ⟨k1, k2, k3⟩ := vx_keep h0 e1 hS hAX hf hL hF
    obtain ⟨t2, a1, b1⟩ := kx E ce q u t T'.heap (locs ++ L) e1.symm (by rw [← e2]; exact X'.warmed.alike) hp hb k1 k2 k3 (by rw [e1]; exact hce) hcv hcl T' rfl X'
    exact ⟨t2, st.trans a1, b1⟩
/-- caught by the row x of this method's table; the rows ahead don't take it -/
theorem vx_catch {own name : String} {E : String} {ce : Cell} {q : Addr} (hown : s.vm.findClass own = some m.cls) (pre : List ExceptionTableEntry) (x : ExceptionTableEntry) (suf : List ExceptionTableEntry) (hsplit : c.exceptionTable.toList = pre ++ x :: suf)
    (hpass : ∀ z ∈ pre, covers z pc = false ∨ (z.catchType ≠ 0 ∧ ∃ nm : String, (Cond.classLink own z.catchType nm).before args s = true ∧ va_Nc E nm s)) (hx : covers x pc = true) (h0 : x.catchType ≠ 0)
    (hlink : (Cond.classLink own x.catchType name).before args s = true) (hcast : (Cond.castable E name).before args s = true) (hcell : H[q]? = some ce) (hv : ce.vm = .none) (hcl : s.vm.findClass E = some ce.cls)
    (kk : W p l e R s m args below meth c H locs cells slots Q (F0 m x.handlerPc ls [.ref q])) : vx_W p l e R s m args below meth c H locs cells slots Q (F0 m pc ls rest) q := by
  intro T hT X
  have hpl : e.platform.magicAccessors = ({} : Platform).magicAccessors := by rw [X.admits.platform]
  obtain ⟨c3, c4, hc3, hc4, hasg⟩ := Cond.castable_spec hcast
  cases Option.some.inj (hc3.symm.trans hcl)
  obtain ⟨c5, hc5, hcl5⟩ := Cond.classLink_spec hown hlink e.platform hpl
  cases Option.some.inj (hc4.symm.trans hc5)
  obtain ⟨vm', X', st⟩ := X.thenCaughtThrough q (g := F0 m pc ls rest) rfl (Steps.refl _) (by rw [hT]; exact hcell) (by rw [hv]; rfl) (by obtain ⟨k9, h9, -⟩ := Vm.findClass_spec hcl; exact ⟨k9, h9⟩) pre x suf hsplit
    (fun z hz => by
      rcases hpass z hz with h | ⟨hz0, nm, hl1, hn1⟩
      · exact Or.inl h
      · obtain ⟨c6, hc6, hcl6⟩ := Cond.classLink_spec hown hl1 e.platform hpl
        obtain ⟨a8, b8, h1, h2, h3⟩ := hn1
        cases Option.some.inj (h1.symm.trans hcl)
        cases Option.some.inj (h2.symm.trans hc6)
        exact Or.inr ⟨hz0, _, hcl6, h3⟩) hx (Or.inr ⟨h0, c4, hcl5, hasg⟩)
  obtain ⟨t, a1, b1⟩ := kk (T.setVm vm') hT X'
  exact ⟨t, st.trans a1, b1⟩
end Rows
section Ends
variable {p : Program} {l : Launch} {e : Env} {R : Room} {s : State} {m : MethodId} {args : Array Value} {below : List Frame} {meth : Method} {c : Code} {H : Heap} {locs : List Loc} {cells slots : Nat} {Q : State → Prop}
variable {mc ms : Nat} {free : Addr → Prop} {A0 A1 : Nat → Prop} {H0 : Heap} {a : Array Value} {ls : Array Slot} {st0 rest : List Value}
variable {Qc : Array Value → State → Outcome → State → Prop} {XC : String → State → State → Prop}
/-- what a body that may throw owes at its end -/
def vx_MQ (below : List Frame) (Qc : Array Value → State → Outcome → State → Prop) (XC : String → State → State → Prop) (a : Array Value) (s : State) (mc ms : Nat) (free : Addr → Prop) : State → Prop := fun t =>
  ∃ o, t.status = .running ∧ Ended t below o ∧ vx_Q Qc XC mc ms free a s o t
theorem vx_ret {g : JFrame} {mc ms : Nat} (k : W p l e R s m args below meth c H locs cells slots (MQ below Qc args s mc ms free) g) : W p l e R s m args below meth c H locs cells slots (vx_MQ below Qc XC args s mc ms free) g := by
  intro T hT X
  obtain ⟨t, a1, o, b1, b2, b3, b4⟩ := k T hT X
  exact ⟨t, a1, o, b1, b2, Or.inl ⟨b3, b4⟩⟩
/-- not caught here: it goes on to the caller -/
theorem vx_widen {g : JFrame} {q : Addr} {k n : Nat} (h1 : cells ≤ k) (h2 : slots ≤ n) (kk : vx_W p l e R s m args below meth c H locs k n Q g q) : vx_W p l e R s m args below meth c H locs cells slots Q g q := fun T hT X => kk T hT (stand_widen X h1 h2)
theorem vx_out {pc : Nat} {E : String} {ce : Cell} {q : Addr} {mc ms : Nat} (hout : ∀ x ∈ c.exceptionTable.toList, covers x pc = false) (hlocks : meth.locks = false) (hcell : H[q]? = some ce) (hv : ce.vm = .none) (hcl : s.vm.findClass E = some ce.cls)
    (hx : ∀ t : State, t.heap = H → s.vm.Alike t.vm → XC E s t) (hf : ∀ z ∈ locs, free z.base) (hc : cells ≤ mc) (hs : slots ≤ ms) :
    vx_W p l e R s m args below meth c H locs cells slots (vx_MQ below Qc XC args s mc ms free) (F0 m pc ls rest) q := by
  intro T hT X
  obtain ⟨st1, hrun, hend, hW, hsm⟩ := X.leaveThrown q (g := F0 m pc ls rest) rfl rfl rfl hout hlocks
  have hcell9 : (T.setFrames (.throwing q :: below)).heap[q]? = some ce := by
    show T.heap[q]? = some ce
    rw [hT]; exact hcell
  exact ⟨_, st1, .threw q, hrun, hend, Or.inr ⟨q, rfl, E, ce, locs, hx _ hT hW.alike, hcell9, hv, hcl, hW, hsm.mono hc hs, hf⟩⟩
theorem vx_frame {U : State} {k n : Nat} (h : s.sameButNew ({ U with vm := s.vm } : State) locs k n) : s.heap.size ≤ U.heap.size ∧ ∀ q : Nat, q < s.heap.size → (∀ z ∈ locs, z.base ≠ q) → U.heap[q]? = s.heap[q]? := by
  obtain ⟨-, h2, -, -, -, h6⟩ := h
  refine ⟨h2, fun q hq hz => ?_⟩
  obtain ⟨c9, e1, e2, e3, e4⟩ := h6 q _ (Array.getElem?_eq_getElem hq)
  have hs : c9.slots = (s.heap[q]).slots := Array.ext_getElem? fun i => e4 i fun hm => hz _ hm rfl
  have h9 : c9 = s.heap[q] := by
    rw [hs] at e2
    exact e2
  have e5 : U.heap[q]? = some c9 := e1
  rw [e5, h9, Array.getElem?_eq_getElem hq]
/-- the words of a throw but the four that speak of the heap -/
def vx_no (w : Cond) : Bool := decide (w ≠ .isRef (.static Bundle.tN "UNASSIGNED_STACK" Bundle.steD)) && decide (w ≠ .isRef (.static Bundle.tN "SUPPRESSED_SENTINEL" Bundle.listD)) && decide (w ≠ .laysStatic Bundle.tN "UNASSIGNED_STACK" Bundle.steD) && decide (w ≠ .laysStatic Bundle.tN "SUPPRESSED_SENTINEL" Bundle.listD)
def vx_at0 (own : String) (ic : Nat) (X : String) (names : List String) : List Cond := (Bundle.ownAtoms0 own ic X names).filter vx_no
def vx_atS (own : String) (ic : Nat) (X : String) (names : List String) : List Cond := (Bundle.ownAtoms own ic X names).filter vx_no
/-- a word that the tables alone decide, or a good one -/
def vx_ot (w : Cond) : Bool := w.onTables || goodWord w
theorem vx_ot_at {args a' : Array Value} {s U : State} {w : Cond} (hW : s.WarmedH U.vm) (hvm : s.vm = U.vm) (hg : vx_ot w = true) (h : w.before args s = true) : w.before a' U = true := by
  simp only [vx_ot, Bool.or_eq_true] at hg
  rcases hg with hg | hg
  · exact va_tabs hg hvm h
  · exact word_at hW (good_of_word hg) h
/-- a list's words: the good ones out of the method's own list, the others by premises of their own -/
theorem vx_hat {args : Array Value} {s : State} {L B : List Cond} (h1 : ∀ w ∈ L.filter goodWord, w.before args s = true) (h2 : ∀ w ∈ L.filter (fun w => !goodWord w), w ∈ B) (h3 : ∀ w ∈ B, w.before args s = true) : ∀ w ∈ L, w.before args s = true := by
  intro w hw
  by_cases g : goodWord w = true
  · exact h1 w (List.mem_filter.mpr ⟨hw, g⟩)
  · refine h3 w (h2 w (List.mem_filter.mpr ⟨hw, ?_⟩))
    show (!goodWord w) = true
    cases hgw : goodWord w
    · rfl
    · exact absurd hgw g
theorem vx_c {args : Array Value} {s : State} {w : Cond} {B : List Cond} (h : w.before args s = true) (t : ∀ w ∈ B, w.before args s = true) : ∀ w' ∈ w :: B, w'.before args s = true := fun w' h' => (List.mem_cons.mp h').elim (fun e => by rw [e]; exact h) (t w')
theorem vx_n {args : Array Value} {s : State} : ∀ w ∈ ([] : List Cond), w.before args s = true := fun _ h => nomatch h
theorem vx_own {args : Array Value} {s : State} {L : List Cond} (h1 : ∀ w ∈ L.filter vx_no, w.before args s = true)
    (hU : (Cond.isRef (.static Bundle.tN "UNASSIGNED_STACK" Bundle.steD)).before args s = true) (hN : (Cond.isRef (.static Bundle.tN "SUPPRESSED_SENTINEL" Bundle.listD)).before args s = true)
    (lU : (Cond.laysStatic Bundle.tN "UNASSIGNED_STACK" Bundle.steD).before args s = true) (lN : (Cond.laysStatic Bundle.tN "SUPPRESSED_SENTINEL" Bundle.listD).before args s = true) : ∀ w ∈ L, w.before args s = true := by
  intro w hw
  by_cases e1 : w = .isRef (.static Bundle.tN "UNASSIGNED_STACK" Bundle.steD)
  · rw [e1]; exact hU
  · by_cases e2 : w = .isRef (.static Bundle.tN "SUPPRESSED_SENTINEL" Bundle.listD)
    · rw [e2]; exact hN
    · by_cases e3 : w = .laysStatic Bundle.tN "UNASSIGNED_STACK" Bundle.steD
      · rw [e3]; exact lU
      · by_cases e4 : w = .laysStatic Bundle.tN "SUPPRESSED_SENTINEL" Bundle.listD
        · rw [e4]; exact lN
        · exact h1 w (List.mem_filter.mpr ⟨hw, by unfold vx_no; rw [decide_eq_true e1, decide_eq_true e2, decide_eq_true e3, decide_eq_true e4]; rfl⟩)
/-- where a static field lies, its class's statics cell in H -/
def vx_L (C n d : String) (A : Nat → Prop) (U : State) (H : Heap) : Prop := ∃ (c : ClassId) (k : Class) (i : Nat) (f : Field) (a : Nat) (cell : Cell), U.vm.findClass C = some c ∧ U.fieldFound? C n d = some (c, k, i, f) ∧ f.isStatic = true ∧ k.statics = some a ∧ H[a]? = some cell ∧ cell.vm.isStatics = true ∧ cell.cls = c ∧ f.slot < cell.slots.size ∧ k.staticTypes[f.slot]? = some f.type ∧ ¬ A a
theorem vx_L.moved {C n d : String} {A : Nat → Prop} {u U : State} {H : Heap} (hvm : u.vm.Alike U.vm) (h : vx_L C n d A u H) : vx_L C n d A U H := by
  obtain ⟨c, k, i, f, a, cell, h1, h2, h3, h4, h5, h6, h7, h8, h9, h10⟩ := h
  obtain ⟨k', hi', he⟩ := State.fieldFound?_setVm hvm h2
  exact ⟨c, k', i, f, a, cell, by rw [hvm.findClass]; exact h1, hi', h3, by rw [he]; exact h4, h5, h6, h7, h8, by rw [he]; exact h9, h10⟩
theorem vx_L.kept {C n d : String} {A : Nat → Prop} {U : State} {H H1 : Heap} (h : vx_L C n d A U H) (hq : ∀ a : Nat, a < H.size → ¬ A a → H1[a]? = H[a]?) : vx_L C n d A U H1 := by
  obtain ⟨c, k, i, f, a, cell, h1, h2, h3, h4, h5, h6, h7, h8, h9, h10⟩ := h
  exact ⟨c, k, i, f, a, cell, h1, h2, h3, h4, by rw [hq a (Array.getElem?_eq_some_iff.mp h5).1 h10]; exact h5, h6, h7, h8, h9, h10⟩
theorem vx_L.narrow {C n d : String} {A B : Nat → Prop} {U : State} {H : Heap} (h : vx_L C n d A U H) (hAB : ∀ q, B q → A q) : vx_L C n d B U H := by
  obtain ⟨c, k, i, f, a, cell, h1, h2, h3, h4, h5, h6, h7, h8, h9, h10⟩ := h
  exact ⟨c, k, i, f, a, cell, h1, h2, h3, h4, h5, h6, h7, h8, h9, fun z => h10 (hAB _ z)⟩
theorem vx_L.word {C n d : String} {A : Nat → Prop} {s : State} {args : Array Value} (h : vx_L C n d A s s.heap) : (Cond.laysStatic C n d).before args s = true := by
  obtain ⟨c, k, i, f, a, cell, h1, h2, h3, h4, h5, h6, h7, h8, h9, -⟩ := h
  show (Cond.laysStatic C n d).holds args s none s [] = true
  exact Cond.laysStatic_of h1 h2 h3 h4 h5 h6 h7 h8 h9
/-- .. and what it holds: null or some reference -/
def vx_Zq (C n d : String) (A : Nat → Prop) (U : State) (H : Heap) : Prop := va_Zq C n d A U H ∧ vx_L C n d A U H
theorem vx_Zq.moved {C n d : String} {A : Nat → Prop} {u U : State} {H : Heap} (hvm : u.vm.Alike U.vm) (h : vx_Zq C n d A u H) : vx_Zq C n d A U H := ⟨va_Zq.moved hvm h.1, vx_L.moved hvm h.2⟩
theorem vx_Zq.kept {C n d : String} {A : Nat → Prop} {U : State} {H H1 : Heap} (h : vx_Zq C n d A U H) (hq : ∀ a : Nat, a < H.size → ¬ A a → H1[a]? = H[a]?) : vx_Zq C n d A U H1 := ⟨va_Zq.kept h.1 hq, vx_L.kept h.2 hq⟩
theorem vx_Zq.narrow {C n d : String} {A B : Nat → Prop} {U : State} {H : Heap} (h : vx_Zq C n d A U H) (hAB : ∀ q, B q → A q) : vx_Zq C n d B U H := ⟨va_Zq.narrow h.1 hAB, vx_L.narrow h.2 hAB⟩
theorem vx_Zqof {args : Array Value} {s : State} {C n d : String} {A : Nat → Prop} (hl : (Cond.laysStatic C n d).before args s = true) (hini : (Cond.initialized C).before args s = true) (h : (Cond.isRef (.static C n d)).before args s = true) (hA : ∀ a : Nat, a < s.heap.size → ¬ A a) : vx_Zq C n d A s s.heap := by
  refine ⟨va_Zqof hl hini h hA, ?_⟩
  obtain ⟨c, k, i, f, a, cell, h1, h2, h3, h4, h5, h6, h7, h8, h9⟩ := Cond.laysStatic_spec hl
  exact ⟨c, k, i, f, a, cell, h1, h2, h3, h4, h5, h6, h7, h8, h9, hA a (Array.getElem?_eq_some_iff.mp h5).1⟩
theorem vx_isRef {C n d : String} {v : Value} {A : Nat → Prop} {s : State} {args : Array Value} (h : va_Z C n d v A s s.heap) (hv : v.isRef = true) : (Cond.isRef (.static C n d)).before args s = true := by
  obtain ⟨cf, kf, fi, f, a, cell, h1, h2, h3, h4, h5, h6, h7, -⟩ := h
  have he : (Term.static C n d).eval args s none [] s = some v := by
    simp [Term.eval, State.fieldNamed?, h1, h2, h4, h5, h6, h7]
  simp only [Cond.before, Cond.holds, Cond.value, he]
  cases v <;> simp_all [Value.isRef]
theorem vx_isRefq {C n d : String} {A : Nat → Prop} {s : State} {args : Array Value} (h : va_Zq C n d A s s.heap) : (Cond.isRef (.static C n d)).before args s = true := by
  rcases h with h | ⟨t, h⟩
  · exact vx_isRef h rfl
  · exact vx_isRef h rfl
/-- the same frame, seen from here: as if the method were called anew in this heap -/
theorem vx_rebase {T : State} (X : Stand p l e R s m args below meth c T locs cells slots) {R' : Room} (hf : R'.frames ≤ R.frames) (hl : R'.locals ≤ R.locals) (hc : cells + R'.cells ≤ R.cells) (hs : slots + R'.slots ≤ R.slots) :
    Stand p l e R' ((T.setVm s.vm).setFrames (.invoking m args :: below)) m args below meth c T [] 0 0 := by
  have htop : (T.setVm s.vm).topJava?.isSome := X.here.top
  have hF : ((T.setVm s.vm).setFrames (.invoking m args :: below)).frames = .invoking m args :: below := State.frames_setFrames _ (State.cur_lt_of_top htop)
  obtain ⟨g₀, hg0⟩ := Option.isSome_iff_exists.mp htop
  obtain ⟨r, hr⟩ := State.topJava?_eq_some.mp hg0
  have hl9 : e.platform.stackLimits (T.setVm s.vm).me = e.platform.stackLimits s.me := X.limits
  have hb9 : (T.setVm s.vm).me.stackBytes = s.me.stackBytes := X.bytes
  refine ⟨X.admits, X.cas, X.clock, hF, ?_, X.hears, X.method, X.code, X.here, X.tail, X.warmed, ?_, ?_, ?_⟩
  · have h := X.room
    have hU : ((T.setVm s.vm).setFrames (.invoking m args :: below)).localsInUse = s.localsInUse := by
      rw [State.localsInUse_invoking hF (meth := meth) (c := c) X.method X.code, State.localsInUse_invoking X.frames X.method X.code]
    simp only [State.hasRoom, Bool.and_eq_true, decide_eq_true_eq] at h ⊢
    obtain ⟨⟨⟨⟨h1, h2, h3, h4, h5, h6⟩, h7⟩, h8⟩, h9⟩ := h
    rw [X.frames, List.length_cons] at h2 h3
    have q1 := X.heapSize
    have q2 := X.used
    simp only [hF, hU, List.length_cons, State.stackLimits_setFrames, State.stackBytes_setFrames, hl9, hb9]
    refine ⟨⟨⟨⟨by omega, by omega, by omega, by omega, by omega, h6⟩, ?_⟩, ?_⟩, X.book⟩
    · show T.heap.size + R'.cells ≤ e.platform.maxCells
      omega
    · show T.slotsUsed + R'.slots ≤ e.platform.maxSlots
      omega
  · rw [State.stackLimits_setFrames]; rfl
  · rw [State.stackBytes_setFrames]; rfl
  · refine ⟨?_, Nat.le_refl _, Nat.le_refl _, ?_, ?_, fun a c9 h9 => ⟨c9, h9, rfl, rfl, fun _ _ => rfl⟩⟩
    · obtain ⟨t, ht, -⟩ := State.frames_cons hr
      show T.setVm s.vm = { ((T.setVm s.vm).setFrames (.invoking m args :: below)).setFrames (T.setVm s.vm).frames with heap := T.heap, slotsUsed := T.slotsUsed }
      rw [State.setFrames_setFrames, State.setFrames_self ht]
      rfl
    · show T.slotsUsed = T.slotsUsed + ((T.heap.toList.drop T.heap.size).map (·.slots.size)).sum
      rw [List.drop_eq_nil_of_le (Nat.le_of_eq Array.length_toList)]
      rfl
    · show ((T.heap.toList.drop T.heap.size).map (·.slots.size)).sum ≤ 0
      rw [List.drop_eq_nil_of_le (Nat.le_of_eq Array.length_toList)]
      exact Nat.le_refl _
/-- 'throw new E()': new; dup; invokespecial; athrow -/
theorem vx_throw0 {cc : ByteArray} {pc : Nat} (hexec : p.tables.exec = Jvm.exec) (hb : c.code = cc) (hl : l.stackTraces = false) {own cls : String} {names : List String} {ik ic mc ms : Nat} {A : Nat → Prop}
    (hown : s.vm.findClass own = some m.cls) (hcls : Bundle.fit cls = true) (hnames : ∀ n ∈ names, Bundle.fit n = true)
    (hk : (Cond.classLink own ik cls).before args s = true) (hini : (Cond.initialized cls).before args s = true) (hat : ∀ w ∈ vx_at0 own ic cls names, w.before args s = true)
    (hgood : ∀ w ∈ Cond.classLink own ik cls :: Cond.initialized cls :: vx_at0 own ic cls names, vx_ot w = true)
    (hU : vx_Zq Bundle.tN "UNASSIGNED_STACK" Bundle.steD A s s.heap) (hN : vx_Zq Bundle.tN "SUPPRESSED_SENTINEL" Bundle.listD A s s.heap) (hS : va_S A s.heap H locs) (hsize : ls.size = c.maxLocals)
    (d0 : decode cc pc = .ok (.new ik, 3)) (d3 : decode cc (pc + 3) = .ok (.dup, 1)) (d4 : decode cc (pc + 4) = .ok (.invokespecial ic, 3)) (d7 : decode cc (pc + 7) = .ok (.athrow, 1))
    (hout : ∀ x ∈ c.exceptionTable.toList, covers x (pc + 7) = false)
    (hRframes : names.length + 3 < R.frames) (hRlocals : (rest.map fun v => v.category).sum + (13 * (names.length + 1) + 42) ≤ R.locals) (hRcells : cells + 1 ≤ R.cells) (hRslots : slots + 6 ≤ R.slots) (hlocks : meth.locks = false)
    (hx : ∀ t : State, s.vm.Alike t.vm → H.size ≤ t.heap.size → (∀ q : Nat, q < H.size → t.heap[q]? = H[q]?) → XC cls s t)
    (hf : ∀ z ∈ locs, free z.base) (hc : cells + 1 ≤ mc) (hs : slots + 6 ≤ ms) :
    W p l e R s m args below meth c H locs cells slots (vx_MQ below Qc XC args s mc ms free) (F0 m pc ls rest) := by
  intro T hT X
  have htr : e.platform.stackTraces = false := (show e.platform.stackTraces = l.stackTraces by rw [X.admits.platform]).trans hl
  have Y := vx_rebase X (R' := { frames := R.frames, locals := R.locals, cells := 1, slots := 6 }) (Nat.le_refl _) (Nat.le_refl _) hRcells hRslots
  obtain ⟨s', hA⟩ : ∃ z, z = (T.setVm s.vm).setFrames (.invoking m args :: below) := ⟨_, rfl⟩
  rw [← hA] at Y
  have hvm : s'.vm = s.vm := by rw [hA]; rfl
  have hhp : s'.heap = H := by rw [hA]; exact hT
  have hW0 : s.WarmedH s'.vm := by rw [hvm]; exact State.WarmedH.refl s
  have hat' : ∀ w ∈ vx_at0 own ic cls names, w.before args s' = true := fun w hw => vx_ot_at hW0 hvm.symm (hgood w (List.mem_cons_of_mem _ (List.mem_cons_of_mem _ hw))) (hat w hw)
  have hk' : (Cond.classLink own ik cls).before args s' = true := vx_ot_at hW0 hvm.symm (hgood _ List.mem_cons_self) hk
  have hini' : (Cond.initialized cls).before args s' = true := vx_ot_at hW0 hvm.symm (hgood _ (List.mem_cons_of_mem _ List.mem_cons_self)) hini
  have hU' : vx_Zq Bundle.tN "UNASSIGNED_STACK" Bundle.steD A s' s'.heap := by rw [hhp]; exact vx_Zq.moved hW0.alike (hU.kept hS.2.1)
  have hN' : vx_Zq Bundle.tN "SUPPRESSED_SENTINEL" Bundle.listD A s' s'.heap := by rw [hhp]; exact vx_Zq.moved hW0.alike (hN.kept hS.2.1)
  have h : ∀ w ∈ Bundle.ownAtoms0 own ic cls names, w.before args s' = true := vx_own hat' (vx_isRefq hU'.1) (vx_isRefq hN'.1) hU'.2.word hN'.2.word
  have hown' : s'.vm.findClass own = some m.cls := by rw [hvm]; exact hown
  have hins : (Cond.instantiable cls 6).before args s' = true := h _ (by simp [Bundle.ownAtoms0])
  obtain ⟨vm₁, cX, kX, hfX, hkX, -, -, X₁, st1⟩ := Y.newCold hexec (own := own) (C := cls) (index := ik) (n := 6) hown' hk' hins hini'
    (g := F0 m pc ls rest) rfl (by rw [hb]; exact d0) (Nat.le_refl _) (Nat.le_refl _)
  generalize hT1 : (T.setVm vm₁).pushCell { cls := cX, slots := kX.instanceTypes.map defaultValue, vm := .none } = T1 at X₁ st1
  have hcat : (Value.ref T.heap.size).category = 1 := rfl
  have hcellA : T1.heap[T.heap.size]? = some (freshCell cX kX) := by rw [← hT1]; exact State.heap_pushCell_size _ _
  have d3' : decode c.code (pc + 3) = .ok (.dup, 1) := by rw [hb]; exact d3
  obtain ⟨U, hsteps, hrun, hend, hW, hsame, ce, hce, hO⟩ := X₁.ctorThrow0 hexec htr (own := own) (cls := cls) (names := names) (ic := ic) hown' hcls hnames h (fun x hx => nomatch hx) hfX hkX hcellA (by rw [hhp, hT]; exact Nat.le_refl _)
    (g := { method := m, pc := pc + 4, locals := ls, stack := .ref T.heap.size :: .ref T.heap.size :: rest, locked := none }) rfl hsize rfl rfl (rest := rest) rfl
    (by rw [hb]; exact d4) (by rw [hb]; exact d7) hout hRframes (by simp only [List.map_cons, List.sum_cons, hcat]; omega) hlocks
  obtain ⟨f1, f2⟩ := vx_frame hsame
  rw [hhp] at f1 f2
  have hWs : s.WarmedH U.vm := State.WarmedH.trans hW0 hW
  have hcl : s.vm.findClass cls = some ce.cls := by
    have h9 := hO.cls
    rw [hvm] at h9
    exact h9
  have hall : s.sameButNew ({ U with vm := s.vm } : State) locs mc ms := by
    subst hA
    obtain ⟨e1, e2⟩ := hsame
    rw [State.setFrames_setFrames] at e1
    have h2 : (T.setVm s.vm).sameButNew ({ U with vm := s.vm } : State) [] (0 + 1) (0 + 6) := ⟨e1, e2⟩
    have h3 := X.same.trans h2
    rw [List.append_nil] at h3
    exact h3.mono hc hs
  refine ⟨U, ?_, .threw T.heap.size, hrun, hend, Or.inr ⟨T.heap.size, rfl, cls, ce, locs, hx U hWs.alike f1 (fun q hq => f2 q hq (fun z hz => nomatch hz)), hce, hO.vm, hcl, hWs, hall, hf⟩⟩
  refine st1 _ ?_
  show Steps p.tables e below (T1.setTop { method := m, pc := pc + 3, locals := ls, stack := .ref T.heap.size :: rest, locked := none }) _
  jvm_step X₁.here [X₁.here.top, hexec, d3', Value.category]
  exact hsteps
/-- 'throw new E("text")': new; dup; ldc; invokespecial; athrow -/
theorem vx_throwS {cc : ByteArray} {pc : Nat} (hexec : p.tables.exec = Jvm.exec) (hb : c.code = cc) (hl : l.stackTraces = false) {own cls text : String} {names : List String} {ik is ic mc ms sa : Nat} {A : Nat → Prop}
    (hown : s.vm.findClass own = some m.cls) (hcls : Bundle.fit cls = true) (hnames : ∀ n ∈ names, Bundle.fit n = true)
    (hk : (Cond.classLink own ik cls).before args s = true) (hini : (Cond.initialized cls).before args s = true) (hstr : vk_R own is text sa s) (hat : ∀ w ∈ vx_atS own ic cls names, w.before args s = true)
    (hgood : ∀ w ∈ Cond.classLink own ik cls :: Cond.initialized cls :: vx_atS own ic cls names, vx_ot w = true)
    (hU : vx_Zq Bundle.tN "UNASSIGNED_STACK" Bundle.steD A s s.heap) (hN : vx_Zq Bundle.tN "SUPPRESSED_SENTINEL" Bundle.listD A s s.heap) (hS : va_S A s.heap H locs) (hsize : ls.size = c.maxLocals)
    (d0 : decode cc pc = .ok (.new ik, 3)) (d3 : decode cc (pc + 3) = .ok (.dup, 1)) (d4 : decode cc (pc + 4) = .ok (.ldc is, 2)) (d6 : decode cc (pc + 6) = .ok (.invokespecial ic, 3)) (d9 : decode cc (pc + 9) = .ok (.athrow, 1))
    (hout : ∀ x ∈ c.exceptionTable.toList, covers x (pc + 9) = false)
    (hRframes : names.length + 3 < R.frames) (hRlocals : (rest.map fun v => v.category).sum + (13 * (names.length + 1) + 43) ≤ R.locals) (hRcells : cells + 1 ≤ R.cells) (hRslots : slots + 6 ≤ R.slots) (hlocks : meth.locks = false)
    (hx : ∀ t : State, s.vm.Alike t.vm → H.size ≤ t.heap.size → (∀ q : Nat, q < H.size → t.heap[q]? = H[q]?) → XC cls s t)
    (hf : ∀ z ∈ locs, free z.base) (hc : cells + 1 ≤ mc) (hs : slots + 6 ≤ ms) :
    W p l e R s m args below meth c H locs cells slots (vx_MQ below Qc XC args s mc ms free) (F0 m pc ls rest) := by
  intro T hT X
  have htr : e.platform.stackTraces = false := (show e.platform.stackTraces = l.stackTraces by rw [X.admits.platform]).trans hl
  have Y := vx_rebase X (R' := { frames := R.frames, locals := R.locals, cells := 1, slots := 6 }) (Nat.le_refl _) (Nat.le_refl _) hRcells hRslots
  obtain ⟨s', hA⟩ : ∃ z, z = (T.setVm s.vm).setFrames (.invoking m args :: below) := ⟨_, rfl⟩
  rw [← hA] at Y
  have hvm : s'.vm = s.vm := by rw [hA]; rfl
  have hhp : s'.heap = H := by rw [hA]; exact hT
  have hW0 : s.WarmedH s'.vm := by rw [hvm]; exact State.WarmedH.refl s
  have hat' : ∀ w ∈ vx_atS own ic cls names, w.before args s' = true := fun w hw => vx_ot_at hW0 hvm.symm (hgood w (List.mem_cons_of_mem _ (List.mem_cons_of_mem _ hw))) (hat w hw)
  have hk' : (Cond.classLink own ik cls).before args s' = true := vx_ot_at hW0 hvm.symm (hgood _ List.mem_cons_self) hk
  have hini' : (Cond.initialized cls).before args s' = true := vx_ot_at hW0 hvm.symm (hgood _ (List.mem_cons_of_mem _ List.mem_cons_self)) hini
  have hU' : vx_Zq Bundle.tN "UNASSIGNED_STACK" Bundle.steD A s' s'.heap := by rw [hhp]; exact vx_Zq.moved hW0.alike (hU.kept hS.2.1)
  have hN' : vx_Zq Bundle.tN "SUPPRESSED_SENTINEL" Bundle.listD A s' s'.heap := by rw [hhp]; exact vx_Zq.moved hW0.alike (hN.kept hS.2.1)
  have h : ∀ w ∈ Bundle.ownAtoms own ic cls names, w.before args s' = true := vx_own hat' (vx_isRefq hU'.1) (vx_isRefq hN'.1) hU'.2.word hN'.2.word
  have hown' : s'.vm.findClass own = some m.cls := by rw [hvm]; exact hown
  have hins : (Cond.instantiable cls 6).before args s' = true := h _ (by simp [Bundle.ownAtoms])
  obtain ⟨vm₁, cX, kX, hfX, hkX, -, -, X₁, st1⟩ := Y.newCold hexec (own := own) (C := cls) (index := ik) (n := 6) hown' hk' hins hini'
    (g := F0 m pc ls rest) rfl (by rw [hb]; exact d0) (Nat.le_refl _) (Nat.le_refl _)
  generalize hT1 : (T.setVm vm₁).pushCell { cls := cX, slots := kX.instanceTypes.map defaultValue, vm := .none } = T1 at X₁ st1
  have hcat : (Value.ref T.heap.size).category = 1 := rfl
  have hcellA : T1.heap[T.heap.size]? = some (freshCell cX kX) := by rw [← hT1]; exact State.heap_pushCell_size _ _
  have d3' : decode c.code (pc + 3) = .ok (.dup, 1) := by rw [hb]; exact d3
  have d4' : decode c.code (pc + 4) = .ok (.ldc is, 2) := by rw [hb]; exact d4
  have hstr' : vk_R own is text sa s' := vk_R.warm hW0 hstr
  obtain ⟨U, hsteps, hrun, hend, hW, hsame, ce, hce, hO⟩ := X₁.ctorThrowS hexec htr (own := own) (cls := cls) (names := names) (ic := ic) hown' hcls hnames h (fun x hx => nomatch hx) hfX hkX hcellA (by rw [hhp, hT]; exact Nat.le_refl _) (msg := .ref sa) rfl
    (g := { method := m, pc := pc + 6, locals := ls, stack := .ref sa :: .ref T.heap.size :: .ref T.heap.size :: rest, locked := none }) rfl hsize rfl rfl (rest := rest) rfl
    (by rw [hb]; exact d6) (by rw [hb]; exact d9) hout hRframes (by simp only [List.map_cons, List.sum_cons, hcat]; omega) hlocks
  obtain ⟨f1, f2⟩ := vx_frame hsame
  rw [hhp] at f1 f2
  have hWs : s.WarmedH U.vm := State.WarmedH.trans hW0 hW
  have hcl : s.vm.findClass cls = some ce.cls := by
    have h9 := hO.cls
    rw [hvm] at h9
    exact h9
  have hall : s.sameButNew ({ U with vm := s.vm } : State) locs mc ms := by
    subst hA
    obtain ⟨e1, e2⟩ := hsame
    rw [State.setFrames_setFrames] at e1
    have h2 : (T.setVm s.vm).sameButNew ({ U with vm := s.vm } : State) [] (0 + 1) (0 + 6) := ⟨e1, e2⟩
    have h3 := X.same.trans h2
    rw [List.append_nil] at h3
    exact h3.mono hc hs
  refine ⟨U, ?_, .threw T.heap.size, hrun, hend, Or.inr ⟨T.heap.size, rfl, cls, ce, locs, hx U hWs.alike f1 (fun q hq => f2 q hq (fun z hz => nomatch hz)), hce, hO.vm, hcl, hWs, hall, hf⟩⟩
  refine st1 _ ?_
  show Steps p.tables e below (T1.setTop { method := m, pc := pc + 3, locals := ls, stack := .ref T.heap.size :: rest, locked := none }) _
  jvm_step X₁.here [X₁.here.top, hexec, d3', Value.category]
  exact X₁.ldcString hexec (own := own) (text := text) (index := is) (a := sa) hown' hstr'.1 hstr'.2
    (g := { method := m, pc := pc + 4, locals := ls, stack := .ref T.heap.size :: .ref T.heap.size :: rest, locked := none }) rfl d4' _ hsteps
/-- 'throw new E("text")', the text by a wide index -/
theorem vx_throwSW {cc : ByteArray} {pc : Nat} (hexec : p.tables.exec = Jvm.exec) (hb : c.code = cc) (hl : l.stackTraces = false) {own cls text : String} {names : List String} {ik is ic mc ms sa : Nat} {A : Nat → Prop}
    (hown : s.vm.findClass own = some m.cls) (hcls : Bundle.fit cls = true) (hnames : ∀ n ∈ names, Bundle.fit n = true)
    (hk : (Cond.classLink own ik cls).before args s = true) (hini : (Cond.initialized cls).before args s = true) (hstr : vk_R own is text sa s) (hat : ∀ w ∈ vx_atS own ic cls names, w.before args s = true)
    (hgood : ∀ w ∈ Cond.classLink own ik cls :: Cond.initialized cls :: vx_atS own ic cls names, vx_ot w = true)
    (hU : vx_Zq Bundle.tN "UNASSIGNED_STACK" Bundle.steD A s s.heap) (hN : vx_Zq Bundle.tN "SUPPRESSED_SENTINEL" Bundle.listD A s s.heap) (hS : va_S A s.heap H locs) (hsize : ls.size = c.maxLocals)
    (d0 : decode cc pc = .ok (.new ik, 3)) (d3 : decode cc (pc + 3) = .ok (.dup, 1)) (d4 : decode cc (pc + 4) = .ok (.ldc_w is, 3)) (d7 : decode cc (pc + 7) = .ok (.invokespecial ic, 3)) (d10 : decode cc (pc + 10) = .ok (.athrow, 1))
    (hout : ∀ x ∈ c.exceptionTable.toList, covers x (pc + 10) = false)
    (hRframes : names.length + 3 < R.frames) (hRlocals : (rest.map fun v => v.category).sum + (13 * (names.length + 1) + 43) ≤ R.locals) (hRcells : cells + 1 ≤ R.cells) (hRslots : slots + 6 ≤ R.slots) (hlocks : meth.locks = false)
    (hx : ∀ t : State, s.vm.Alike t.vm → H.size ≤ t.heap.size → (∀ q : Nat, q < H.size → t.heap[q]? = H[q]?) → XC cls s t)
    (hf : ∀ z ∈ locs, free z.base) (hc : cells + 1 ≤ mc) (hs : slots + 6 ≤ ms) :
    W p l e R s m args below meth c H locs cells slots (vx_MQ below Qc XC args s mc ms free) (F0 m pc ls rest) := by
  intro T hT X
  have htr : e.platform.stackTraces = false := (show e.platform.stackTraces = l.stackTraces by rw [X.admits.platform]).trans hl
  have Y := vx_rebase X (R' := { frames := R.frames, locals := R.locals, cells := 1, slots := 6 }) (Nat.le_refl _) (Nat.le_refl _) hRcells hRslots
  obtain ⟨s', hA⟩ : ∃ z, z = (T.setVm s.vm).setFrames (.invoking m args :: below) := ⟨_, rfl⟩
  rw [← hA] at Y
  have hvm : s'.vm = s.vm := by rw [hA]; rfl
  have hhp : s'.heap = H := by rw [hA]; exact hT
  have hW0 : s.WarmedH s'.vm := by rw [hvm]; exact State.WarmedH.refl s
  have hat' : ∀ w ∈ vx_atS own ic cls names, w.before args s' = true := fun w hw => vx_ot_at hW0 hvm.symm (hgood w (List.mem_cons_of_mem _ (List.mem_cons_of_mem _ hw))) (hat w hw)
  have hk' : (Cond.classLink own ik cls).before args s' = true := vx_ot_at hW0 hvm.symm (hgood _ List.mem_cons_self) hk
  have hini' : (Cond.initialized cls).before args s' = true := vx_ot_at hW0 hvm.symm (hgood _ (List.mem_cons_of_mem _ List.mem_cons_self)) hini
  have hU' : vx_Zq Bundle.tN "UNASSIGNED_STACK" Bundle.steD A s' s'.heap := by rw [hhp]; exact vx_Zq.moved hW0.alike (hU.kept hS.2.1)
  have hN' : vx_Zq Bundle.tN "SUPPRESSED_SENTINEL" Bundle.listD A s' s'.heap := by rw [hhp]; exact vx_Zq.moved hW0.alike (hN.kept hS.2.1)
  have h : ∀ w ∈ Bundle.ownAtoms own ic cls names, w.before args s' = true := vx_own hat' (vx_isRefq hU'.1) (vx_isRefq hN'.1) hU'.2.word hN'.2.word
  have hown' : s'.vm.findClass own = some m.cls := by rw [hvm]; exact hown
  have hins : (Cond.instantiable cls 6).before args s' = true := h _ (by simp [Bundle.ownAtoms])
  obtain ⟨vm₁, cX, kX, hfX, hkX, -, -, X₁, st1⟩ := Y.newCold hexec (own := own) (C := cls) (index := ik) (n := 6) hown' hk' hins hini'
    (g := F0 m pc ls rest) rfl (by rw [hb]; exact d0) (Nat.le_refl _) (Nat.le_refl _)
  generalize hT1 : (T.setVm vm₁).pushCell { cls := cX, slots := kX.instanceTypes.map defaultValue, vm := .none } = T1 at X₁ st1
  have hcat : (Value.ref T.heap.size).category = 1 := rfl
  have hcellA : T1.heap[T.heap.size]? = some (freshCell cX kX) := by rw [← hT1]; exact State.heap_pushCell_size _ _
  have d3' : decode c.code (pc + 3) = .ok (.dup, 1) := by rw [hb]; exact d3
  have d4' : decode c.code (pc + 4) = .ok (.ldc_w is, 3) := by rw [hb]; exact d4
  have hstr' : vk_R own is text sa s' := vk_R.warm hW0 hstr
  obtain ⟨U, hsteps, hrun, hend, hW, hsame, ce, hce, hO⟩ := X₁.ctorThrowS hexec htr (own := own) (cls := cls) (names := names) (ic := ic) hown' hcls hnames h (fun x hx => nomatch hx) hfX hkX hcellA (by rw [hhp, hT]; exact Nat.le_refl _) (msg := .ref sa) rfl
    (g := { method := m, pc := pc + 7, locals := ls, stack := .ref sa :: .ref T.heap.size :: .ref T.heap.size :: rest, locked := none }) rfl hsize rfl rfl (rest := rest) rfl
    (by rw [hb]; exact d7) (by rw [hb]; exact d10) hout hRframes (by simp only [List.map_cons, List.sum_cons, hcat]; omega) hlocks
  obtain ⟨f1, f2⟩ := vx_frame hsame
  rw [hhp] at f1 f2
  have hWs : s.WarmedH U.vm := State.WarmedH.trans hW0 hW
  have hcl : s.vm.findClass cls = some ce.cls := by
    have h9 := hO.cls
    rw [hvm] at h9
    exact h9
  have hall : s.sameButNew ({ U with vm := s.vm } : State) locs mc ms := by
    subst hA
    obtain ⟨e1, e2⟩ := hsame
    rw [State.setFrames_setFrames] at e1
    have h2 : (T.setVm s.vm).sameButNew ({ U with vm := s.vm } : State) [] (0 + 1) (0 + 6) := ⟨e1, e2⟩
    have h3 := X.same.trans h2
    rw [List.append_nil] at h3
    exact h3.mono hc hs
  refine ⟨U, ?_, .threw T.heap.size, hrun, hend, Or.inr ⟨T.heap.size, rfl, cls, ce, locs, hx U hWs.alike f1 (fun q hq => f2 q hq (fun z hz => nomatch hz)), hce, hO.vm, hcl, hWs, hall, hf⟩⟩
  refine st1 _ ?_
  show Steps p.tables e below (T1.setTop { method := m, pc := pc + 3, locals := ls, stack := .ref T.heap.size :: rest, locked := none }) _
  jvm_step X₁.here [X₁.here.top, hexec, d3', Value.category]
  exact X₁.ldcStringW hexec (own := own) (text := text) (index := is) (a := sa) hown' hstr'.1 hstr'.2
    (g := { method := m, pc := pc + 4, locals := ls, stack := .ref T.heap.size :: .ref T.heap.size :: rest, locked := none }) rfl d4' _ hsteps
end Ends
section Bodies
variable {l : Launch}
theorem vx_ofW {y : MethodName} {ws ws' : List Cond} {rm : Room} {Pc : Array Value → State → Prop} {Qc : Array Value → State → Outcome → State → Prop} {XC : String → State → State → Prop} {mc ms : Nat} {free : Addr → Prop} {cc : ByteArray} {maxL : Nat} {ret : Option FieldType}
    (hy : plainName y.cls = true) (hw : ws = Cond.code y cc maxL ret :: ws')
    (body : ∀ p e s m args below meth c s₁, BodyLoose p l y (headSpec ws rm) cc maxL ret e s m args below meth c s₁ → c.maxLocals = maxL → (∀ x ∈ c.exceptionTable.toList, False) → Pc args s →
      W p l e (headSpec ws rm).room s m args below meth c s.heap [] 0 0 (vx_MQ below Qc XC args s mc ms free) (entryFrame m args maxL)) : vx_Met l y ws rm Pc Qc XC mc ms free := by
  refine MetFree.of_bodyS (code := cc) (maxLocals := maxL) (ret := ret) hy ?_ ?_
  · intro args s m h hn
    obtain ⟨meth, c, h1, h2, h3, h4, h5, h6, -, -⟩ := Cond.code_spec hn (atoms_spec (ws := ws) h _ (by rw [hw]; exact List.mem_cons_self))
    exact ⟨meth, c, h1, h2, h3, h4, h5, h6⟩
  · intro p e s m args below meth c s₁ B hml hP _
    have hh0 : s₁.heap = s.heap := by rw [B.state]; rfl
    have ht : ∀ x ∈ c.exceptionTable.toList, False := by
      obtain ⟨meth9, c9, h1, h2, -, -, -, -, h7, -⟩ := Cond.code_spec B.named (atoms_spec (ws := ws) B.pre _ (by rw [hw]; exact List.mem_cons_self))
      cases Option.some.inj (h1.symm.trans B.method)
      cases Option.some.inj (h2.symm.trans (Stand.of_body B).code)
      intro x hx
      rw [Array.isEmpty_iff.mp h7] at hx
      cases hx
    obtain ⟨t, a1, o, b1, b2, b3⟩ := body p e s m args below meth c s₁ B hml ht hP s₁ hh0 (Stand.of_body B)
    exact ⟨t, o, a1, b1, b2, b3⟩
/-- the table of a body with handlers -/
theorem vx_table {p : Program} {x y : MethodName} {S : Spec} {cc bytes : ByteArray} {maxL maxL' : Nat} {ret ret' : Option FieldType} {e : Env} {s s₁ : State} {m : MethodId} {args : Array Value} {below : List Frame} {meth : Method} {c : Code} {hh : List (Nat × Nat × Nat × Nat)}
    (B : BodyLoose p l y S cc maxL ret e s m args below meth c s₁) (h : (Cond.codeWith y bytes maxL' ret' hh).before args s = true) : c.exceptionTable.toList = tableOf hh := by
  obtain ⟨m9, meth9, c9, hn9, h1, h2, -, -, h6, -⟩ := Cond.codeWith_spec h
  cases Option.some.inj (hn9.symm.trans B.named)
  cases Option.some.inj (h1.symm.trans B.method)
  cases Option.some.inj (h2.symm.trans (Stand.of_body B).code)
  rw [← h6, table_eq]
end Bodies
end VXA
/-! ===== END ===== -/
/-! ===== BEGIN a static call of a method with an exception table ===== -/
section VXS
variable {p : Program} {l : Launch} {e : Env} {R : Room} {s : State} {m : MethodId} {args : Array Value} {below : List Frame} {meth : Method} {c : Code} {T : State} {H : Heap} {locs : List Loc} {cells slots : Nat}
abbrev vx_CSW (R : Room) (s : State) (args : Array Value) (own : String) (index : Nat) (y : MethodName) (bytes : ByteArray) (maxL : Nat) (ret : Option FieldType) (hh : List (Nat × Nat × Nat × Nat)) (ws : List Cond) (rm : Room) (mc ms n : Nat) : Prop :=
  (rm.cells = mc ∧ rm.slots = ms ∧ rm.frames + 1 ≤ R.frames ∧ 8 + (maxL + 11) + rm.locals ≤ R.locals ∧ (∀ w ∈ ws, ∀ (a' : Array Value) (U : State), s.WarmedH U.vm → w.before a' U = true) ∧ Cond.codeWith y bytes maxL ret hh ∈ ws) ∧
  (Cond.codeWith y bytes maxL ret hh).before args s = true ∧ (Cond.initialized y.cls).before args s = true ∧ (y.cls ≠ "java/lang/invoke/MethodHandle" ∧ y.cls ≠ "java/lang/invoke/VarHandle") ∧
  (∀ sig, parseMethodDescriptor y.desc = some sig → n = sig.parameters.length) ∧ (Cond.methodLink own index y).before args s = true ∧ (Cond.static y).before args s = true
theorem vx_cwSW {own : String} {index maxL mc ms : Nat} {y : MethodName} {bytes : ByteArray} {ret : Option FieldType} {hh : List (Nat × Nat × Nat × Nat)} {Ts ws ws' : List Cond} {rm : Room} (n : Nat) (ht : ∀ w ∈ Ts, w.before args s = true) (hT : GoodIn Ts (va_wsS own index y ws)) (hw : ws = Cond.codeWith y bytes maxL ret hh :: ws') (hrc : rm.cells = mc) (hrs : rm.slots = ms)
    (hd : y.cls ≠ "java/lang/invoke/MethodHandle" ∧ y.cls ≠ "java/lang/invoke/VarHandle" ∧ (parseMethodDescriptor y.desc).map (fun d => d.parameters.length) = some n) (hR : rm.frames + 1 ≤ R.frames ∧ 8 + (maxL + 11) + rm.locals ≤ R.locals) :
    vx_CSW R s args own index y bytes maxL ret hh ws rm mc ms n := by
  have ok : ∀ w ∈ va_wsS own index y ws, w.before args s = true := fun w h => ht w (hT w h).1
  have hG : GoodIn Ts ws := fun w h => hT w (by unfold va_wsS; exact List.mem_append_right _ h)
  have hc : Cond.codeWith y bytes maxL ret hh ∈ ws := by rw [hw]; exact List.mem_cons_self
  refine ⟨⟨hrc, hrs, hR.1, hR.2, pay_in ht hG, hc⟩, ht _ (hG _ hc).1, ok _ (by simp [va_wsS]), ⟨hd.1, hd.2.1⟩, fun sig h => ?_, ok _ (by simp [va_wsS]), ok _ (by simp [va_wsS])⟩
  have h2 := hd.2.2
  rw [h] at h2
  exact (Option.some.inj h2).symm
theorem vx_callSW (X : Stand p l e R s m args below meth c T locs cells slots) (hexec : p.tables.exec = Jvm.exec) {own : String} {index : Nat} {y : MethodName} {bytes : ByteArray} {maxL : Nat} {ret : Option FieldType} {hh : List (Nat × Nat × Nat × Nat)}
    (hown : s.vm.findClass own = some m.cls) (hlink : (Cond.methodLink own index y).before args s = true) (hstat : (Cond.static y).before args s = true) (hinit : (Cond.initialized y.cls).before args s = true)
    (hcode : (Cond.codeWith y bytes maxL ret hh).before args s = true) (hy : y.cls ≠ "java/lang/invoke/MethodHandle" ∧ y.cls ≠ "java/lang/invoke/VarHandle")
    {W9 : Nat} {Pre : Pt → Array Value → Prop} {Post : Pt → Array Value → Option Value → Pt → Prop} (hK : Back l R p e below s args y 3 W9 Pre Post)
    {g : JFrame} (hg : g.method = m) (hsize : g.locals.size = c.maxLocals) {argsL rest : List Value} (hlen : ∀ sig, parseMethodDescriptor y.desc = some sig → argsL.length = sig.parameters.length)
    (hstack : g.stack = argsL.reverse ++ rest) (hW : 2 * g.monitorRoom + (rest.map fun v => v.category).sum ≤ W9) (hdg : decode c.code g.pc = .ok (.invokestatic index, 3))
    (hpre : ∀ vm₁, s.WarmedH vm₁ → Pre ⟨T.setVm vm₁, locs, cells, slots⟩ argsL.toArray) :
    ∃ (v : Option Value) (vm₁ : Vm) (B : Pt), s.WarmedH vm₁ ∧ Stand p l e R s m args below meth c B.U B.locs B.cells B.slots ∧ Post ⟨T.setVm vm₁, locs, cells, slots⟩ argsL.toArray v B ∧
      ∀ target, Steps p.tables e below (B.U.setTop { g with pc := g.pc + 3, stack := v.toList ++ rest }) target → Steps p.tables e below (T.setTop g) target := by
  obtain ⟨mk, methM, cM, hnamed, hmethM, -, -, -, -, -, -, hsigM⟩ := Cond.codeWith_spec hcode
  have hstatic : methM.isStatic = true := Cond.static_spec hnamed hmethM hstat
  obtain ⟨kP, hkP, -⟩ := className_of_methodNamed hnamed
  have hinitP : kP.init = .initialized := Cond.initialized_spec (findClass_of_methodNamed hnamed) hkP hinit
  obtain ⟨vm₁, X₁, hstep₁⟩ := X.invokestatic hexec hown hlink hnamed hmethM hstatic hkP hinitP hy (g := g) hg (argsL := argsL) (rest := rest) (hlen _ hsigM) hstack hdg
  obtain ⟨v, B, X', hpost, hsteps⟩ := hK m meth c ⟨T.setVm vm₁, locs, cells, slots⟩ { g with stack := rest } (.invokestatic index) mk argsL.toArray X₁ hg hsize hdg hW (X₁.named hnamed) (hpre vm₁ X₁.warmed)
  exact ⟨v, vm₁, B, X₁.warmed, X', hpost, fun target h => hstep₁ _ fun acts => by rw [doInvoke_state]; exact hsteps.trans h⟩
theorem vx_runSW {y : MethodName} {bytes cc : ByteArray} {maxL nL mc ms n index : Nat} {ret : Option FieldType} {hh : List (Nat × Nat × Nat × Nat)} {ws : List Cond} {rm : Room} {Pc : Array Value → State → Prop} {Qc : Array Value → State → Outcome → State → Prop} {free : Addr → Prop} {Ts : List Cond} {own : String} {As rest : List Value} {g : JFrame}
    (S : CallFix p m c cc nL s args Ts own) (hM : Met l y ws rm Pc Qc mc ms free) (cw : vx_CSW R s args own index y bytes maxL ret hh ws rm mc ms n) (hp : PreS s H Pc As)
    (hg : g.method = m) (hn : As.length = n) (hsize : g.locals.size = nL) (hstack : g.stack = As.reverse ++ rest) (hW : 2 * g.monitorRoom + (rest.map fun v => v.category).sum ≤ 8) (hdg : decode cc g.pc = .ok (.invokestatic index, 3)) (hf : cells + mc ≤ R.cells ∧ slots + ms ≤ R.slots) :
    va_Run p l e R s m args below meth c H locs cells slots mc ms g rest (Qc As.toArray) (free) := by
  obtain ⟨⟨hrc, hrs, hfr, hlo, hws, hcw⟩, hcode, hini, hy, hlen, hl, hstt⟩ := cw
  have hK : Back l R p e below s args y 3 8 (PreOf R mc ms Pc) (PostOf Qc mc ms free) := va_backW (hh := hh) (bytes := bytes) (maxL := maxL) (ret := ret) hM hp.1 hrc hrs hfr hlo hws hcw (fun a' U hW => word_at hW (Or.inl (by first | rfl | simp [Cond.onTables, Cond.keeps, Cond.steady])) hini)
  obtain ⟨hx, hb, hml, ho, -⟩ := S
  intro T hT X
  obtain ⟨v, vm₁, ⟨U', l2, c2, s2⟩, hW₁, X', ⟨g', mk, t, L, e1, e2, hq, h1, hL, h2, h3⟩, st⟩ := vx_callSW X hx (hh := hh) (bytes := bytes) (maxL := maxL) (ret := ret) ho hl hstt hini hcode hy hK hg (hsize.trans hml.symm) (argsL := As) (rest := rest) (fun sig h => hn.trans (hlen sig h)) hstack hW (by rw [hb]; exact hdg)
    (fun vm₁ hW₁ => ⟨hf.1, hf.2, hp.2 (T.setVm vm₁) hT hW₁⟩)
  dsimp only [Pt.U, Pt.locs, Pt.cells, Pt.slots] at X' e1 e2 h1 h2 h3 st
  subst h1; subst h2; subst h3
  exact ⟨v, (T.setVm vm₁).calling g' mk As.toArray, t, U', L, hT, X', hL, e1, e2, hq, st⟩
/-- not caught here, past rows that name other classes: it goes on to the caller -/
theorem vx_outP {p : Program} {l : Launch} {e : Env} {R : Room} {s : State} {m : MethodId} {args : Array Value} {below : List Frame} {meth : Method} {c : Code} {H : Heap} {locs : List Loc} {cells slots : Nat} {free : Addr → Prop} {ls : Array Slot} {rest : List Value} {Qc : Array Value → State → Outcome → State → Prop} {XC : String → State → State → Prop}
    {pc : Nat} {own E : String} {ce : Cell} {q : Addr} {mc ms : Nat} (hown : s.vm.findClass own = some m.cls) (hlocks : meth.locks = false)
    (hpass : ∀ z ∈ c.exceptionTable.toList, covers z pc = false ∨ (z.catchType ≠ 0 ∧ ∃ nm : String, (Cond.classLink own z.catchType nm).before args s = true ∧ va_Nc E nm s)) (hcell : H[q]? = some ce) (hv : ce.vm = .none) (hcl : s.vm.findClass E = some ce.cls)
    (hx : ∀ t : State, t.heap = H → s.vm.Alike t.vm → XC E s t) (hf : ∀ z ∈ locs, free z.base) (hc : cells ≤ mc) (hs : slots ≤ ms) :
    vx_W p l e R s m args below meth c H locs cells slots (vx_MQ below Qc XC args s mc ms free) (F0 m pc ls rest) q := by
  intro T hT X
  have hpl : e.platform.magicAccessors = ({} : Platform).magicAccessors := by rw [X.admits.platform]
  obtain ⟨vm', hW', X', st⟩ := X.outThrough hlocks q (g := F0 m pc ls rest) rfl rfl rfl (cell := ce) (by rw [hT]; exact hcell) (by rw [hv]; rfl)
    (by obtain ⟨k9, h9, -⟩ := Vm.findClass_spec hcl; exact ⟨k9, h9⟩) (fun z hz => by
      rcases hpass z hz with h | ⟨hz0, nm, hl1, hn1⟩
      · exact Or.inl h
      · obtain ⟨c6, hc6, hcl6⟩ := Cond.classLink_spec hown hl1 e.platform hpl
        obtain ⟨a8, b8, h1, h2, h3⟩ := hn1
        cases Option.some.inj (h1.symm.trans hcl)
        cases Option.some.inj (h2.symm.trans hc6)
        exact Or.inr ⟨hz0, _, hcl6, h3⟩)
  obtain ⟨g₀, hfr⟩ := X'.frames_eq
  have hcell9 : ((T.setVm vm').setFrames (.throwing q :: below)).heap[q]? = some ce := by
    show T.heap[q]? = some ce
    rw [hT]; exact hcell
  have hend : Ended ((T.setVm vm').setFrames (.throwing q :: below)) below (.threw q) := State.frames_setFrames _ (State.cur_lt_of_frames hfr)
  refine ⟨(T.setVm vm').setFrames (.throwing q :: below), ?_, .threw q, X'.here.running, hend, Or.inr ⟨q, rfl, E, ce, locs, hx _ hT (X'.ends _).1.alike, hcell9, hv, hcl, (X'.ends _).1, (X'.ends _).2.mono hc hs, hf⟩⟩
  rw [X.pushThrowing_eq]
  exact st
/-- a thing of a world lies in the heap -/
theorem vx_lt {D : va_G} {cl : List vw_C} {ws : va_W} {H1 : Heap} (h : va_P D cl ws H1) {k : Nat} {q : Nat × va_E} (hk : ws[k]? = some q) : q.1 < H1.size := (h k q hk).lt
end VXS
/-! ===== END ===== -/
/-! ===== BEGIN methods with a table of their own: called by a name, returning or throwing ===== -/
section VXH
/-! vx_backW, vx_callVX, vx_callSX, vx_callVW, vx_runVW, vx_runVX, vx_runSX, vx_ofWH follow the same proofs as their sisters above (Free/Laws.lean, Shelf42/LK1.lean); vx_outP calls Shelf42/NT130.lean (outThrough). -/
section
variable {l : Launch} {R : Room} {p : Program} {e : Env} {below : List Frame} {s : State} {sargs : Array Value} {y : MethodName} {len W9 : Nat}
theorem vx_backW {ws : List Cond} {rm : Room} {Pc : Array Value → State → Prop} {Qc : Array Value → State → Outcome → State → Prop} {XC : String → State → State → Prop} {mc ms : Nat} {free : Addr → Prop} {bytes : ByteArray} {maxL : Nat} {ret : Option FieldType} {hh : List (Nat × Nat × Nat × Nat)}
    (hM : vx_Met l y ws rm Pc Qc XC mc ms free) (hblind : FrameBlind Pc) (hrc : rm.cells = mc) (hrs : rm.slots = ms)
    (hframes : rm.frames + 1 ≤ R.frames) (hlocals : W9 + (maxL + 11) + rm.locals ≤ R.locals)
    (hws : ∀ w ∈ ws, ∀ a' U, s.WarmedH U.vm → w.before a' U = true) (hcode : Cond.codeWith y bytes maxL ret hh ∈ ws) (hinit : ∀ a' U, s.WarmedH U.vm → (Cond.initialized y.cls).before a' U = true) :
    vx_Back l R p e below s sargs y len W9 (PreOf R mc ms Pc) (PostOf Qc mc ms free) (vx_Post XC mc ms free) := by
  intro m meth c A g ig mk a X hg hsize hdg hW hn hp
  have h1 : (headSpec ws rm).pre.before a A.U = true := atoms_intro fun w hw => hws w hw _ _ X.warmed
  have h2 : (Cond.codeWith y bytes maxL ret hh).before a A.U = true := hws _ hcode _ _ X.warmed
  have h3 : (Cond.initialized y.cls).before a A.U = true := hinit _ _ X.warmed
  have h4 : A.cells + (headSpec ws rm).room.cells ≤ R.cells := by rw [show (headSpec ws rm).room.cells = mc from hrc]; exact hp.1
  have h5 : A.slots + (headSpec ws rm).room.slots ≤ R.slots := by rw [show (headSpec ws rm).room.slots = ms from hrs]; exact hp.2.1
  have hPc : Pc a (A.U.calling g mk a) := hblind _ _ _ _ hp.2.2
  obtain ⟨U, Ls, c0, s0⟩ := A
  dsimp only [Pt.U, Pt.locs, Pt.cells, Pt.slots] at h1 h2 h3 h4 h5 X hn hPc ⊢
  obtain ⟨m9, methY, cY, hn9, hmY, hcY, -, hlY, -⟩ := Cond.codeWith_spec h2
  cases Option.some.inj (hn9.symm.trans hn)
  obtain ⟨kY, hkY, -⟩ := className_of_methodNamed hn
  have hinitY : kY.init = .initialized := Cond.initialized_spec (findClass_of_methodNamed hn) hkY h3
  have h : At U g.method c below := by rw [hg]; exact X.here
  have hlocals9 : W9 + (maxL + 11) + (headSpec ws rm).room.locals ≤ R.locals := hlocals
  have happ : (headSpec ws rm).appliesLoose y e.platform (U.calling g mk a) = true :=
    Spec.appliesLoose_calling (g := g) h hdg hn hkY hinitY
      (X.room_calling (g := g) (R' := (headSpec ws rm).room) hsize hmY hcY hframes (by rw [hlY]; omega) h4 h5) h1
  obtain ⟨mid, hmid⟩ := h.above
  have hfr : (U.setTop g).frames = (.java g :: mid) ++ below := by rw [State.frames_setTop' g h.top, hmid]; rfl
  obtain ⟨o, s₂, hsteps, -, hend, hq⟩ := Steps.callFree hM p X.admits X.cas X.clock (acts := []) hfr happ hPc trivial
  have hq' : vx_Q Qc XC mc ms free a (U.calling g mk a) o s₂ := hq
  rw [State.frames_setTop' g h.top] at hend
  obtain ⟨g₀, hg0⟩ := Option.isSome_iff_exists.mp h.top
  obtain ⟨r, hr⟩ := State.topJava?_eq_some.mp hg0
  have hr' : (({ U with heap := s₂.heap, slotsUsed := s₂.slotsUsed } : State).setVm s₂.vm).frames = .java g₀ :: r := hr
  rcases hq' with ⟨hqc, L, hfe, hL⟩ | ⟨q, rfl, E, ce, L, hx, hce, hcv, hcl, hW₂, hsm, hL⟩
  · obtain ⟨⟨v, rfl⟩, hW₂, e2, q2, q3, q4, q5, q6⟩ := id hfe
    have e3 : s₂ = ({ (U.calling g mk a).setFrames s₂.frames with heap := s₂.heap, slotsUsed := s₂.slotsUsed } : State).setVm s₂.vm := by
      have : s₂ = ({ s₂ with vm := (U.calling g mk a).vm } : State).setVm s₂.vm := rfl
      rw [e2] at this
      exact this
    obtain ⟨c₂, i₂, len₂, hc₂, hd₂, hf₂⟩ := hend
    have hW' : U.WarmedH s₂.vm := hW₂
    have hcc : c₂ = c := by
      have h1 : s₂.code? g.method = U.code? g.method := by
        rw [State.code?_eq, State.code?_eq, hW'.alike.method?]
      exact Option.some.inj (hc₂.symm.trans (h1.trans h.code))
    subst hcc
    have hlen : len₂ = len := by rw [hdg] at hd₂; cases hd₂; rfl
    subst hlen
    have hs₂ : s₂ = (({ U with heap := s₂.heap, slotsUsed := s₂.slotsUsed } : State).setVm s₂.vm).setTop { g with pc := g.pc + len₂, stack := v.toList ++ g.stack } := by
      refine e3.trans ?_
      rw [hf₂, State.calling_eq h.top, State.setFrames_setFrames, State.setTop_of_frames _ hr', hr]
      rfl
    have hsame : U.sameButNew ({ U with heap := s₂.heap, slotsUsed := s₂.slotsUsed } : State) L mc ms := by
      refine ⟨?_, q2, q3, q4, q5, q6⟩
      obtain ⟨t, ht, -⟩ := State.frames_cons hr
      show ({ U with heap := s₂.heap, slotsUsed := s₂.slotsUsed } : State) = { U.setFrames U.frames with heap := s₂.heap, slotsUsed := s₂.slotsUsed }
      rw [State.setFrames_self ht]
    subst hg
    refine Or.inl ⟨v, ⟨(({ U with heap := s₂.heap, slotsUsed := s₂.slotsUsed } : State).setVm s₂.vm), Ls ++ L, c0 + mc, s0 + ms⟩,
      ⟨X.admits, X.cas, X.clock, X.frames, X.room, X.hears, X.method, X.code, (X.here.setHeapUsed s₂.heap s₂.slotsUsed).setVm hW'.alike, X.tail, State.WarmedH.trans X.warmed hW', X.limits, X.bytes, X.same.trans (hsame.setVm s.vm)⟩,
      ⟨g, mk, s₂, L, rfl, rfl, hqc, rfl, hL, rfl, rfl⟩, ?_⟩
    show Steps p.tables e below _ ((({ U with heap := s₂.heap, slotsUsed := s₂.slotsUsed } : State).setVm s₂.vm).setTop { g with pc := g.pc + len₂, stack := v.toList ++ g.stack })
    rw [← hs₂]
    exact hsteps
  · obtain ⟨e2, q2, q3, q4, q5, q6⟩ := id hsm
    have e3 : s₂ = ({ (U.calling g mk a).setFrames s₂.frames with heap := s₂.heap, slotsUsed := s₂.slotsUsed } : State).setVm s₂.vm := by
      have : s₂ = ({ s₂ with vm := (U.calling g mk a).vm } : State).setVm s₂.vm := rfl
      rw [e2] at this
      exact this
    have hf₂ : s₂.frames = .throwing q :: .java g :: U.frames.tail := hend
    have hW' : U.WarmedH s₂.vm := hW₂
    have hs₂ : s₂ = ((({ U with heap := s₂.heap, slotsUsed := s₂.slotsUsed } : State).setVm s₂.vm).setTop g).pushFrame (.throwing q) := by
      refine e3.trans ?_
      rw [hf₂, State.calling_eq h.top, State.setFrames_setFrames, State.pushFrame, State.frames_setTop _ hr', State.setTop_of_frames _ hr', State.setFrames_setFrames, hr]
      rfl
    have hsame : U.sameButNew ({ U with heap := s₂.heap, slotsUsed := s₂.slotsUsed } : State) L mc ms := by
      refine ⟨?_, q2, q3, q4, q5, q6⟩
      obtain ⟨t, ht, -⟩ := State.frames_cons hr
      show ({ U with heap := s₂.heap, slotsUsed := s₂.slotsUsed } : State) = { U.setFrames U.frames with heap := s₂.heap, slotsUsed := s₂.slotsUsed }
      rw [State.setFrames_self ht]
    subst hg
    refine Or.inr ⟨q, ⟨(({ U with heap := s₂.heap, slotsUsed := s₂.slotsUsed } : State).setVm s₂.vm), Ls ++ L, c0 + mc, s0 + ms⟩,
      ⟨X.admits, X.cas, X.clock, X.frames, X.room, X.hears, X.method, X.code, (X.here.setHeapUsed s₂.heap s₂.slotsUsed).setVm hW'.alike, X.tail, State.WarmedH.trans X.warmed hW', X.limits, X.bytes, X.same.trans (hsame.setVm s.vm)⟩,
      ⟨g, mk, s₂, L, E, ce, rfl, rfl, hx, hce, hcv, hcl, rfl, hL, rfl, rfl⟩, ?_⟩
    show Steps p.tables e below _ (((({ U with heap := s₂.heap, slotsUsed := s₂.slotsUsed } : State).setVm s₂.vm).setTop g).pushFrame (.throwing q))
    rw [← hs₂]
    exact hsteps
end
variable {p : Program} {l : Launch} {e : Env} {R : Room} {s : State} {m : MethodId} {args : Array Value} {below : List Frame} {meth : Method} {c : Code} {T : State} {H : Heap} {locs : List Loc} {cells slots : Nat}
theorem vx_callVX (X : Stand p l e R s m args below meth c T locs cells slots) (hexec : p.tables.exec = Jvm.exec) {own C : String} {index : Nat} {y : MethodName} {bytes : ByteArray} {maxL : Nat} {ret : Option FieldType} {hh : List (Nat × Nat × Nat × Nat)}
    (hown : s.vm.findClass own = some m.cls) (hlink : (Cond.methodLink own index y).before args s = true) (hinst : (Cond.instanceMethod y).before args s = true) (hsel : (Cond.selects C y y).before args s = true)
    (hcode : (Cond.codeWith y bytes maxL ret hh).before args s = true) (hy : y.cls ≠ "java/lang/invoke/MethodHandle" ∧ y.cls ≠ "java/lang/invoke/VarHandle")
    {W9 : Nat} {Pre : Pt → Array Value → Prop} {Post : Pt → Array Value → Option Value → Pt → Prop} {PostX : Pt → Array Value → Addr → Pt → Prop} (hK : vx_Back l R p e below s args y 3 W9 Pre Post PostX)
    {b : Addr} {cellB : Cell} (hcell : T.heap[b]? = some cellB) (hobj : cellB.vm.isStatics = false) (hcls : s.vm.findClass C = some cellB.cls)
    {g : JFrame} (hg : g.method = m) (hsize : g.locals.size = c.maxLocals) {argsL rest : List Value} (hlen : ∀ sig, parseMethodDescriptor y.desc = some sig → argsL.length = sig.parameters.length)
    (hstack : g.stack = argsL.reverse ++ .ref b :: rest) (hW : 2 * g.monitorRoom + (rest.map fun v => v.category).sum ≤ W9) (hdg : decode c.code g.pc = .ok (.invokevirtual index, 3))
    (hpre : ∀ vm₁, s.WarmedH vm₁ → Pre ⟨T.setVm vm₁, locs, cells, slots⟩ (Value.ref b :: argsL).toArray) :
    (∃ (v : Option Value) (vm₁ : Vm) (B : Pt), s.WarmedH vm₁ ∧ Stand p l e R s m args below meth c B.U B.locs B.cells B.slots ∧ Post ⟨T.setVm vm₁, locs, cells, slots⟩ (Value.ref b :: argsL).toArray v B ∧
      ∀ target, Steps p.tables e below (B.U.setTop { g with pc := g.pc + 3, stack := v.toList ++ rest }) target → Steps p.tables e below (T.setTop g) target) ∨
    (∃ (q : Addr) (vm₁ : Vm) (B : Pt), s.WarmedH vm₁ ∧ Stand p l e R s m args below meth c B.U B.locs B.cells B.slots ∧ PostX ⟨T.setVm vm₁, locs, cells, slots⟩ (Value.ref b :: argsL).toArray q B ∧
      Steps p.tables e below (T.setTop g) ((B.U.setTop { g with stack := rest }).pushFrame (.throwing q))) := by
  obtain ⟨mk, methM, hnamed, hmethM, hstM, habM⟩ := Cond.instanceMethod_spec hinst
  obtain ⟨m8, methM', cM, hn8, hmethM', -, -, -, -, -, -, hsigM⟩ := Cond.codeWith_spec hcode
  cases Option.some.inj (hn8.symm.trans hnamed)
  cases hmethM.symm.trans hmethM'
  obtain ⟨c2, r2, m2, q1, q2, q3, q4, kP, hkP, hkPi⟩ := Cond.selects_spec hsel
  cases hcls.symm.trans q1
  cases (State.methodFound?_of_named hnamed hy).symm.trans q2
  cases hnamed.symm.trans q3
  have hselP : selectMethod e.platform s.vm cellB.cls mk = .method mk := by rw [Launch.admits_selectMethod X.admits]; exact q4
  obtain ⟨vm₁, X₁, hstep₁⟩ := X.invokevirtual hexec hown hlink hnamed hmethM hstM hkP hkPi hy (a := b) (cell := cellB) hcell
    (fun z h => by rw [h] at hobj; cases hobj) hselP hmethM habM hkP hkPi (g := g) hg (argsL := argsL) (rest := rest) (hlen _ hsigM) hstack hdg
  rcases hK m meth c ⟨T.setVm vm₁, locs, cells, slots⟩ { g with stack := rest } (.invokevirtual index) mk (Value.ref b :: argsL).toArray X₁ hg hsize hdg hW (X₁.named hnamed) (hpre vm₁ X₁.warmed) with ⟨v, B, X', hpost, hsteps⟩ | ⟨q, B, X', hpost, hsteps⟩
  · exact Or.inl ⟨v, vm₁, B, X₁.warmed, X', hpost, fun target h => hstep₁ _ fun acts => by rw [doInvoke_state]; exact hsteps.trans h⟩
  · exact Or.inr ⟨q, vm₁, B, X₁.warmed, X', hpost, hstep₁ _ fun acts => by rw [doInvoke_state]; exact hsteps⟩
theorem vx_callSX (X : Stand p l e R s m args below meth c T locs cells slots) (hexec : p.tables.exec = Jvm.exec) {own : String} {index : Nat} {y : MethodName} {bytes : ByteArray} {maxL : Nat} {ret : Option FieldType} {hh : List (Nat × Nat × Nat × Nat)}
    (hown : s.vm.findClass own = some m.cls) (hlink : (Cond.methodLink own index y).before args s = true) (hstat : (Cond.static y).before args s = true) (hinit : (Cond.initialized y.cls).before args s = true)
    (hcode : (Cond.codeWith y bytes maxL ret hh).before args s = true) (hy : y.cls ≠ "java/lang/invoke/MethodHandle" ∧ y.cls ≠ "java/lang/invoke/VarHandle")
    {W9 : Nat} {Pre : Pt → Array Value → Prop} {Post : Pt → Array Value → Option Value → Pt → Prop} {PostX : Pt → Array Value → Addr → Pt → Prop} (hK : vx_Back l R p e below s args y 3 W9 Pre Post PostX)
    {g : JFrame} (hg : g.method = m) (hsize : g.locals.size = c.maxLocals) {argsL rest : List Value} (hlen : ∀ sig, parseMethodDescriptor y.desc = some sig → argsL.length = sig.parameters.length)
    (hstack : g.stack = argsL.reverse ++ rest) (hW : 2 * g.monitorRoom + (rest.map fun v => v.category).sum ≤ W9) (hdg : decode c.code g.pc = .ok (.invokestatic index, 3))
    (hpre : ∀ vm₁, s.WarmedH vm₁ → Pre ⟨T.setVm vm₁, locs, cells, slots⟩ argsL.toArray) :
    (∃ (v : Option Value) (vm₁ : Vm) (B : Pt), s.WarmedH vm₁ ∧ Stand p l e R s m args below meth c B.U B.locs B.cells B.slots ∧ Post ⟨T.setVm vm₁, locs, cells, slots⟩ argsL.toArray v B ∧
      ∀ target, Steps p.tables e below (B.U.setTop { g with pc := g.pc + 3, stack := v.toList ++ rest }) target → Steps p.tables e below (T.setTop g) target) ∨
    (∃ (q : Addr) (vm₁ : Vm) (B : Pt), s.WarmedH vm₁ ∧ Stand p l e R s m args below meth c B.U B.locs B.cells B.slots ∧ PostX ⟨T.setVm vm₁, locs, cells, slots⟩ argsL.toArray q B ∧
      Steps p.tables e below (T.setTop g) ((B.U.setTop { g with stack := rest }).pushFrame (.throwing q))) := by
  obtain ⟨mk, methM, cM, hnamed, hmethM, -, -, -, -, -, -, hsigM⟩ := Cond.codeWith_spec hcode
  have hstatic : methM.isStatic = true := Cond.static_spec hnamed hmethM hstat
  obtain ⟨kP, hkP, -⟩ := className_of_methodNamed hnamed
  have hinitP : kP.init = .initialized := Cond.initialized_spec (findClass_of_methodNamed hnamed) hkP hinit
  obtain ⟨vm₁, X₁, hstep₁⟩ := X.invokestatic hexec hown hlink hnamed hmethM hstatic hkP hinitP hy (g := g) hg (argsL := argsL) (rest := rest) (hlen _ hsigM) hstack hdg
  rcases hK m meth c ⟨T.setVm vm₁, locs, cells, slots⟩ { g with stack := rest } (.invokestatic index) mk argsL.toArray X₁ hg hsize hdg hW (X₁.named hnamed) (hpre vm₁ X₁.warmed) with ⟨v, B, X', hpost, hsteps⟩ | ⟨q, B, X', hpost, hsteps⟩
  · exact Or.inl ⟨v, vm₁, B, X₁.warmed, X', hpost, fun target h => hstep₁ _ fun acts => by rw [doInvoke_state]; exact hsteps.trans h⟩
  · exact Or.inr ⟨q, vm₁, B, X₁.warmed, X', hpost, hstep₁ _ fun acts => by rw [doInvoke_state]; exact hsteps⟩
theorem vx_callVW (X : Stand p l e R s m args below meth c T locs cells slots) (hexec : p.tables.exec = Jvm.exec) {own C : String} {index : Nat} {y : MethodName} {bytes : ByteArray} {maxL : Nat} {ret : Option FieldType} {hh : List (Nat × Nat × Nat × Nat)}
    (hown : s.vm.findClass own = some m.cls) (hlink : (Cond.methodLink own index y).before args s = true) (hinst : (Cond.instanceMethod y).before args s = true) (hsel : (Cond.selects C y y).before args s = true)
    (hcode : (Cond.codeWith y bytes maxL ret hh).before args s = true) (hy : y.cls ≠ "java/lang/invoke/MethodHandle" ∧ y.cls ≠ "java/lang/invoke/VarHandle")
    {W9 : Nat} {Pre : Pt → Array Value → Prop} {Post : Pt → Array Value → Option Value → Pt → Prop} (hK : Back l R p e below s args y 3 W9 Pre Post)
    {b : Addr} {cellB : Cell} (hcell : T.heap[b]? = some cellB) (hobj : cellB.vm.isStatics = false) (hcls : s.vm.findClass C = some cellB.cls)
    {g : JFrame} (hg : g.method = m) (hsize : g.locals.size = c.maxLocals) {argsL rest : List Value} (hlen : ∀ sig, parseMethodDescriptor y.desc = some sig → argsL.length = sig.parameters.length)
    (hstack : g.stack = argsL.reverse ++ .ref b :: rest) (hW : 2 * g.monitorRoom + (rest.map fun v => v.category).sum ≤ W9) (hdg : decode c.code g.pc = .ok (.invokevirtual index, 3))
    (hpre : ∀ vm₁, s.WarmedH vm₁ → Pre ⟨T.setVm vm₁, locs, cells, slots⟩ (Value.ref b :: argsL).toArray) :
    ∃ (v : Option Value) (vm₁ : Vm) (B : Pt), s.WarmedH vm₁ ∧ Stand p l e R s m args below meth c B.U B.locs B.cells B.slots ∧ Post ⟨T.setVm vm₁, locs, cells, slots⟩ (Value.ref b :: argsL).toArray v B ∧
      ∀ target, Steps p.tables e below (B.U.setTop { g with pc := g.pc + 3, stack := v.toList ++ rest }) target → Steps p.tables e below (T.setTop g) target := by
  obtain ⟨mk, methM, hnamed, hmethM, hstM, habM⟩ := Cond.instanceMethod_spec hinst
  obtain ⟨m8, methM', cM, hn8, hmethM', -, -, -, -, -, -, hsigM⟩ := Cond.codeWith_spec hcode
  cases Option.some.inj (hn8.symm.trans hnamed)
  cases hmethM.symm.trans hmethM'
  obtain ⟨c2, r2, m2, q1, q2, q3, q4, kP, hkP, hkPi⟩ := Cond.selects_spec hsel
  cases hcls.symm.trans q1
  cases (State.methodFound?_of_named hnamed hy).symm.trans q2
  cases hnamed.symm.trans q3
  have hselP : selectMethod e.platform s.vm cellB.cls mk = .method mk := by rw [Launch.admits_selectMethod X.admits]; exact q4
  obtain ⟨vm₁, X₁, hstep₁⟩ := X.invokevirtual hexec hown hlink hnamed hmethM hstM hkP hkPi hy (a := b) (cell := cellB) hcell
    (fun z h => by rw [h] at hobj; cases hobj) hselP hmethM habM hkP hkPi (g := g) hg (argsL := argsL) (rest := rest) (hlen _ hsigM) hstack hdg
  obtain ⟨v, B, X', hpost, hsteps⟩ := hK m meth c ⟨T.setVm vm₁, locs, cells, slots⟩ { g with stack := rest } (.invokevirtual index) mk (Value.ref b :: argsL).toArray X₁ hg hsize hdg hW (X₁.named hnamed) (hpre vm₁ X₁.warmed)
  exact ⟨v, vm₁, B, X₁.warmed, X', hpost, fun target h => hstep₁ _ fun acts => by rw [doInvoke_state]; exact hsteps.trans h⟩
abbrev vx_CVW (R : Room) (s : State) (args : Array Value) (own C : String) (index : Nat) (y : MethodName) (bytes : ByteArray) (maxL : Nat) (ret : Option FieldType) (hh : List (Nat × Nat × Nat × Nat)) (ws : List Cond) (rm : Room) (mc ms n : Nat) : Prop :=
  (rm.cells = mc ∧ rm.slots = ms ∧ rm.frames + 1 ≤ R.frames ∧ 8 + (maxL + 11) + rm.locals ≤ R.locals ∧ (∀ w ∈ ws, ∀ (a' : Array Value) (U : State), s.WarmedH U.vm → w.before a' U = true) ∧ Cond.codeWith y bytes maxL ret hh ∈ ws) ∧
  (Cond.codeWith y bytes maxL ret hh).before args s = true ∧ (Cond.initialized y.cls).before args s = true ∧ (y.cls ≠ "java/lang/invoke/MethodHandle" ∧ y.cls ≠ "java/lang/invoke/VarHandle") ∧
  (∀ sig, parseMethodDescriptor y.desc = some sig → n = sig.parameters.length) ∧ (Cond.methodLink own index y).before args s = true ∧ (Cond.instanceMethod y).before args s = true ∧ (Cond.selects C y y).before args s = true
theorem vx_cwVW {own C : String} {index maxL mc ms : Nat} {y : MethodName} {bytes : ByteArray} {ret : Option FieldType} {hh : List (Nat × Nat × Nat × Nat)} {Ts ws ws' : List Cond} {rm : Room} (n : Nat) (ht : ∀ w ∈ Ts, w.before args s = true) (hT : GoodIn Ts (wsV own index C y ws)) (hw : ws = Cond.codeWith y bytes maxL ret hh :: ws') (hrc : rm.cells = mc) (hrs : rm.slots = ms)
    (hd : y.cls = C ∧ y.cls ≠ "java/lang/invoke/MethodHandle" ∧ y.cls ≠ "java/lang/invoke/VarHandle" ∧ (parseMethodDescriptor y.desc).map (fun d => d.parameters.length) = some n) (hR : rm.frames + 1 ≤ R.frames ∧ 8 + (maxL + 11) + rm.locals ≤ R.locals) :
    vx_CVW R s args own C index y bytes maxL ret hh ws rm mc ms n := by
  obtain ⟨hC, hd⟩ := hd
  subst hC
  have ok : ∀ w ∈ wsV own index y.cls y ws, w.before args s = true := fun w h => ht w (hT w h).1
  have hG : GoodIn Ts ws := fun w h => hT w (by unfold wsV; exact List.mem_append_right _ h)
  have hc : Cond.codeWith y bytes maxL ret hh ∈ ws := by rw [hw]; exact List.mem_cons_self
  refine ⟨⟨hrc, hrs, hR.1, hR.2, pay_in ht hG, hc⟩, ht _ (hG _ hc).1, ok _ (by simp [wsV]), ⟨hd.1, hd.2.1⟩, fun sig h => ?_, ok _ (by simp [wsV]), ok _ (by simp [wsV]), ok _ (by simp [wsV])⟩
  have h2 := hd.2.2
  rw [h] at h2
  exact (Option.some.inj h2).symm
theorem vx_runVW {y : MethodName} {bytes cc : ByteArray} {maxL nL mc ms n index : Nat} {ret : Option FieldType} {hh : List (Nat × Nat × Nat × Nat)} {ws : List Cond} {rm : Room} {Pc : Array Value → State → Prop} {Qc : Array Value → State → Outcome → State → Prop} {free : Addr → Prop} {Ts : List Cond} {own C : String} {b : Addr} {As rest : List Value} {g : JFrame}
    (S : CallFix p m c cc nL s args Ts own) (hM : Met l y ws rm Pc Qc mc ms free) (cw : vx_CVW R s args own C index y bytes maxL ret hh ws rm mc ms n) (hp : PreV s H C b Pc As)
    (hg : g.method = m) (hn : As.length = n) (hsize : g.locals.size = nL) (hstack : g.stack = As.reverse ++ .ref b :: rest) (hW : 2 * g.monitorRoom + (rest.map fun v => v.category).sum ≤ 8) (hdg : decode cc g.pc = .ok (.invokevirtual index, 3)) (hf : cells + mc ≤ R.cells ∧ slots + ms ≤ R.slots) :
    va_Run p l e R s m args below meth c H locs cells slots mc ms g rest (Qc (Value.ref b :: As).toArray) free := by
  obtain ⟨⟨hrc, hrs, hfr, hlo, hws, hcw⟩, hcode, hini, hy, hlen, hl, hin, hse⟩ := cw
  have hK : Back l R p e below s args y 3 8 (PreOf R mc ms Pc) (PostOf Qc mc ms free) := va_backW (hh := hh) (bytes := bytes) (maxL := maxL) (ret := ret) hM hp.1 hrc hrs hfr hlo hws hcw (fun a' U hW => word_at hW (Or.inl (by first | rfl | simp [Cond.onTables, Cond.keeps, Cond.steady])) hini)
  obtain ⟨hx, hb, hml, ho, -⟩ := S
  obtain ⟨-, ⟨cellB, hcB, hoB, hclB⟩, hPc⟩ := hp
  intro T hT X
  obtain ⟨v, vm₁, ⟨U', l2, c2, s2⟩, hW₁, X', ⟨g', mk, t, L, e1, e2, hq, h1, hL, h2, h3⟩, st⟩ := vx_callVW X hx (C := C) (hh := hh) (bytes := bytes) (maxL := maxL) (ret := ret) ho hl hin hse hcode hy hK (by rw [hT]; exact hcB) hoB hclB hg (hsize.trans hml.symm) (argsL := As) (rest := rest) (fun sig h => hn.trans (hlen sig h)) hstack hW (by rw [hb]; exact hdg)
    (fun vm₁ hW₁ => ⟨hf.1, hf.2, hPc (T.setVm vm₁) hT hW₁⟩)
  dsimp only [Pt.U, Pt.locs, Pt.cells, Pt.slots] at X' e1 e2 h1 h2 h3 st
  subst h1; subst h2; subst h3
  exact ⟨v, (T.setVm vm₁).calling g' mk (Value.ref b :: As).toArray, t, U', L, hT, X', hL, e1, e2, hq, st⟩
section
variable {y : MethodName} {bytes cc : ByteArray} {maxL nL mc ms n index : Nat} {ret : Option FieldType} {ws : List Cond} {rm : Room} {Pc : Array Value → State → Prop} {Qc : Array Value → State → Outcome → State → Prop} {XC : String → State → State → Prop} {free : Addr → Prop} {Ts : List Cond} {own C : String} {b : Addr} {As rest : List Value} {g : JFrame}
theorem vx_runVX {hh : List (Nat × Nat × Nat × Nat)} (S : CallFix p m c cc nL s args Ts own) (hM : vx_Met l y ws rm Pc Qc XC mc ms free) (cw : vx_CVW R s args own C index y bytes maxL ret hh ws rm mc ms n) (hp : PreV s H C b Pc As)
    (hg : g.method = m) (hn : As.length = n) (hsize : g.locals.size = nL) (hstack : g.stack = As.reverse ++ .ref b :: rest) (hW : 2 * g.monitorRoom + (rest.map fun v => v.category).sum ≤ 8) (hdg : decode cc g.pc = .ok (.invokevirtual index, 3)) (hf : cells + mc ≤ R.cells ∧ slots + ms ≤ R.slots) :
    vx_Run p l e R s m args below meth c H locs cells slots mc ms g rest (Qc (Value.ref b :: As).toArray) XC free := by
  obtain ⟨⟨hrc, hrs, hfr, hlo, hws, hcw⟩, hcode, hini, hy, hlen, hl, hin, hse⟩ := cw
  have hK : vx_Back l R p e below s args y 3 8 (PreOf R mc ms Pc) (PostOf Qc mc ms free) (vx_Post XC mc ms free) := vx_backW (hh := hh) (bytes := bytes) (maxL := maxL) (ret := ret) hM hp.1 hrc hrs hfr hlo hws hcw (fun a' U hW => word_at hW (Or.inl (by first | rfl | simp [Cond.onTables, Cond.keeps, Cond.steady])) hini)
  obtain ⟨hx, hb, hml, ho, -⟩ := S
  obtain ⟨-, ⟨cellB, hcB, hoB, hclB⟩, hPc⟩ := hp
  intro T hT X
  rcases vx_callVX X hx (C := C) (hh := hh) (bytes := bytes) (maxL := maxL) (ret := ret) ho hl hin hse hcode hy hK (by rw [hT]; exact hcB) hoB hclB hg (hsize.trans hml.symm) (argsL := As) (rest := rest) (fun sig h => hn.trans (hlen sig h)) hstack hW (by rw [hb]; exact hdg)
    (fun vm₁ hW₁ => ⟨hf.1, hf.2, hPc (T.setVm vm₁) hT hW₁⟩) with ⟨v, vm₁, ⟨U', l2, c2, s2⟩, hW₁, X', ⟨g', mk, t, L, e1, e2, hq, h1, hL, h2, h3⟩, st⟩ | ⟨q, vm₁, ⟨U', l2, c2, s2⟩, hW₁, X', ⟨g', mk, t, L, E, ce, e1, e2, hq, hce, hcv, hcl, h1, hL, h2, h3⟩, st⟩
  · dsimp only [Pt.U, Pt.locs, Pt.cells, Pt.slots] at X' e1 e2 h1 h2 h3 st
    subst h1; subst h2; subst h3
    exact Or.inl ⟨v, (T.setVm vm₁).calling g' mk (Value.ref b :: As).toArray, t, U', L, hT, X', hL, e1, e2, hq, st⟩
  · dsimp only [Pt.U, Pt.locs, Pt.cells, Pt.slots] at X' e1 e2 h1 h2 h3 st hcl
    subst h1; subst h2; subst h3
    exact Or.inr ⟨q, (T.setVm vm₁).calling g' mk (Value.ref b :: As).toArray, t, U', L, E, ce, hT, X', hL, e1, e2, hq, hce, hcv, vx_cls hW₁ hcl, st⟩
theorem vx_runSX {hh : List (Nat × Nat × Nat × Nat)} (S : CallFix p m c cc nL s args Ts own) (hM : vx_Met l y ws rm Pc Qc XC mc ms free) (cw : vx_CSW R s args own index y bytes maxL ret hh ws rm mc ms n) (hp : PreS s H Pc As)
    (hg : g.method = m) (hn : As.length = n) (hsize : g.locals.size = nL) (hstack : g.stack = As.reverse ++ rest) (hW : 2 * g.monitorRoom + (rest.map fun v => v.category).sum ≤ 8) (hdg : decode cc g.pc = .ok (.invokestatic index, 3)) (hf : cells + mc ≤ R.cells ∧ slots + ms ≤ R.slots) :
    vx_Run p l e R s m args below meth c H locs cells slots mc ms g rest (Qc As.toArray) XC free := by
  obtain ⟨⟨hrc, hrs, hfr, hlo, hws, hcw⟩, hcode, hini, hy, hlen, hl, hstt⟩ := cw
  have hK : vx_Back l R p e below s args y 3 8 (PreOf R mc ms Pc) (PostOf Qc mc ms free) (vx_Post XC mc ms free) := vx_backW (hh := hh) (bytes := bytes) (maxL := maxL) (ret := ret) hM hp.1 hrc hrs hfr hlo hws hcw (fun a' U hW => word_at hW (Or.inl (by first | rfl | simp [Cond.onTables, Cond.keeps, Cond.steady])) hini)
  obtain ⟨hx, hb, hml, ho, -⟩ := S
  intro T hT X
  rcases vx_callSX X hx (hh := hh) (bytes := bytes) (maxL := maxL) (ret := ret) ho hl hstt hini hcode hy hK hg (hsize.trans hml.symm) (argsL := As) (rest := rest) (fun sig h => hn.trans (hlen sig h)) hstack hW (by rw [hb]; exact hdg)
    (fun vm₁ hW₁ => ⟨hf.1, hf.2, hp.2 (T.setVm vm₁) hT hW₁⟩) with ⟨v, vm₁, ⟨U', l2, c2, s2⟩, hW₁, X', ⟨g', mk, t, L, e1, e2, hq, h1, hL, h2, h3⟩, st⟩ | ⟨q, vm₁, ⟨U', l2, c2, s2⟩, hW₁, X', ⟨g', mk, t, L, E, ce, e1, e2, hq, hce, hcv, hcl, h1, hL, h2, h3⟩, st⟩
  · dsimp only [Pt.U, Pt.locs, Pt.cells, Pt.slots] at X' e1 e2 h1 h2 h3 st
    subst h1; subst h2; subst h3
    exact Or.inl ⟨v, (T.setVm vm₁).calling g' mk As.toArray, t, U', L, hT, X', hL, e1, e2, hq, st⟩
  · dsimp only [Pt.U, Pt.locs, Pt.cells, Pt.slots] at X' e1 e2 h1 h2 h3 st hcl
    subst h1; subst h2; subst h3
    exact Or.inr ⟨q, (T.setVm vm₁).calling g' mk As.toArray, t, U', L, E, ce, hT, X', hL, e1, e2, hq, hce, hcv, vx_cls hW₁ hcl, st⟩
end
end VXH
theorem vx_ofWH {l : Launch} {y : MethodName} {ws ws' : List Cond} {rm : Room} {Pc : Array Value → State → Prop} {Qc : Array Value → State → Outcome → State → Prop} {XC : String → State → State → Prop} {mc ms : Nat} {free : Addr → Prop} {cc : ByteArray} {maxL : Nat} {ret : Option FieldType} {hh : List (Nat × Nat × Nat × Nat)}
    (hy : plainName y.cls = true) (hw : ws = Cond.codeWith y cc maxL ret hh :: ws')
    (body : ∀ p e s m args below meth c s₁, BodyLoose p l y (headSpec ws rm) cc maxL ret e s m args below meth c s₁ → c.maxLocals = maxL → Pc args s →
      W p l e (headSpec ws rm).room s m args below meth c s.heap [] 0 0 (vx_MQ below Qc XC args s mc ms free) (entryFrame m args maxL)) : vx_Met l y ws rm Pc Qc XC mc ms free := by
  refine MetFree.of_bodyS (code := cc) (maxLocals := maxL) (ret := ret) hy ?_ ?_
  · intro args s m h hn
    obtain ⟨m9, meth, c, hn9, h1, h2, h3, h4, -, h5, h6, -⟩ := Cond.codeWith_spec (atoms_spec (ws := ws) h _ (by rw [hw]; exact List.mem_cons_self))
    cases hn.symm.trans hn9
    exact ⟨meth, c, h1, h2, h3, h4, h5, h6⟩
  · intro p e s m args below meth c s₁ B hml hP _
    have hh0 : s₁.heap = s.heap := by rw [B.state]; rfl
    obtain ⟨t, a1, o, b1, b2, b3⟩ := body p e s m args below meth c s₁ B hml hP s₁ hh0 (Stand.of_body B)
    exact ⟨t, o, a1, b1, b2, b3⟩
/-! ===== END ===== -/
end
section
def RX0 : String := "TowerDown$Stairs"
def TX0 : u_T := fun k => match k with
  | 0 => ("TowerDown$Stairs", "firstEnd", "[I", true)
  | 1 => ("TowerDown$Stairs", "secondEnd", "[I", true)
  | 2 => ("TowerDown$Stairs", "distance", "[I", true)
  | _ => ("TowerDown$Stairs", "built", "I", false)
def tyX0 : Nat → FieldType := fun k => match k with
  | 0 => .array .int
  | 1 => .array .int
  | 2 => .array .int
  | _ => .int
abbrev wsX00 : List Cond := u_ws RX0 TX0 4
theorem nmX0 : ∀ a, a < 4 → ∀ b, b < 4 → a ≠ b → (TX0 a).2.1 ≠ (TX0 b).2.1 := by decide +kernel
theorem tyX0_ok : ∀ k, k < 4 → parseFieldDescriptor (TX0 k).2.2.1 = some (tyX0 k) := by decide +kernel
abbrev cX0_init : ByteArray := prog_2_method_1_code
def yX0_init : MethodName := ⟨RX0, "<init>", "()V"⟩
abbrev cX0_has : ByteArray := prog_2_method_2_code
def yX0_has : MethodName := ⟨RX0, "has", "(I)Z"⟩
abbrev cX0_isFull : ByteArray := prog_2_method_3_code
def yX0_isFull : MethodName := ⟨RX0, "isFull", "()Z"⟩
abbrev cX0_isGone : ByteArray := prog_2_method_4_code
def yX0_isGone : MethodName := ⟨RX0, "isGone", "(ILTowerDown$Stones;)Z"⟩
abbrev cX0_add : ByteArray := prog_2_method_5_code
def yX0_add : MethodName := ⟨RX0, "add", "(II)I"⟩
abbrev cX0_exchangeEnds : ByteArray := prog_2_method_6_code
def yX0_exchangeEnds : MethodName := ⟨RX0, "exchangeEnds", "(II)Z"⟩
abbrev cX0_tell : ByteArray := prog_2_method_7_code
def yX0_tell : MethodName := ⟨RX0, "tell", "(IILTowerDown$Stones;)I"⟩
abbrev cX0_countLeft : ByteArray := prog_2_method_8_code
def yX0_countLeft : MethodName := ⟨RX0, "countLeft", "(LTowerDown$Stones;)I"⟩
abbrev cX0_fewestSteps : ByteArray := prog_2_method_9_code
def yX0_fewestSteps : MethodName := ⟨RX0, "fewestSteps", "(IILTowerDown$Stones;)I"⟩
abbrev cX0_reachFrom : ByteArray := prog_2_method_10_code
def yX0_reachFrom : MethodName := ⟨RX0, "reachFrom", "(ILTowerDown$Stones;)Z"⟩
abbrev cX0_stepOver : ByteArray := prog_2_method_11_code
def yX0_stepOver : MethodName := ⟨RX0, "stepOver", "(III)Z"⟩
abbrev cX0_isPlace : ByteArray := prog_2_method_12_code
def yX0_isPlace : MethodName := ⟨RX0, "isPlace", "(I)Z"⟩
def RX1 : String := "TowerDown$Stones"
def TX1 : u_T := fun k => match k with
  | 0 => ("TowerDown$Stones", "weight", "[I", true)
  | 1 => ("TowerDown$Stones", "strength", "[I", true)
  | 2 => ("TowerDown$Stones", "prop", "[I", true)
  | 3 => ("TowerDown$Stones", "power", "[I", true)
  | 4 => ("TowerDown$Stones", "firstHold", "[I", true)
  | 5 => ("TowerDown$Stones", "secondHold", "[I", true)
  | 6 => ("TowerDown$Stones", "hangs", "[Z", true)
  | 7 => ("TowerDown$Stones", "load", "[I", true)
  | 8 => ("TowerDown$Stones", "pull", "[I", true)
  | 9 => ("TowerDown$Stones", "hung", "I", false)
  | 10 => ("TowerDown$Stones", "hanging", "I", false)
  | 11 => ("TowerDown$Stones", "day", "I", false)
  | _ => ("TowerDown$Stones", "stale", "Z", false)
def tyX1 : Nat → FieldType := fun k => match k with
  | 0 => .array .int
  | 1 => .array .int
  | 2 => .array .int
  | 3 => .array .int
  | 4 => .array .int
  | 5 => .array .int
  | 6 => .array .boolean
  | 7 => .array .int
  | 8 => .array .int
  | 9 => .int
  | 10 => .int
  | 11 => .int
  | _ => .boolean
abbrev wsX10 : List Cond := u_ws RX1 TX1 13
theorem nmX1 : ∀ a, a < 13 → ∀ b, b < 13 → a ≠ b → (TX1 a).2.1 ≠ (TX1 b).2.1 := by decide +kernel
theorem tyX1_ok : ∀ k, k < 13 → parseFieldDescriptor (TX1 k).2.2.1 = some (tyX1 k) := by decide +kernel
abbrev cX1_init : ByteArray := prog_3_method_1_code
def yX1_init : MethodName := ⟨RX1, "<init>", "()V"⟩
abbrev cX1_has : ByteArray := prog_3_method_2_code
def yX1_has : MethodName := ⟨RX1, "has", "(I)Z"⟩
abbrev cX1_isFull : ByteArray := prog_3_method_3_code
def yX1_isFull : MethodName := ⟨RX1, "isFull", "()Z"⟩
abbrev cX1_isHanging : ByteArray := prog_3_method_4_code
def yX1_isHanging : MethodName := ⟨RX1, "isHanging", "(I)Z"⟩
abbrev cX1_hasSpell : ByteArray := prog_3_method_5_code
def yX1_hasSpell : MethodName := ⟨RX1, "hasSpell", "(I)Z"⟩
abbrev cX1_addBySpell : ByteArray := prog_3_method_6_code
def yX1_addBySpell : MethodName := ⟨RX1, "addBySpell", "(III)I"⟩
abbrev cX1_addByHolds : ByteArray := prog_3_method_7_code
def yX1_addByHolds : MethodName := ⟨RX1, "addByHolds", "(IIII)I"⟩
abbrev cX1_setProp : ByteArray := prog_3_method_8_code
def yX1_setProp : MethodName := ⟨RX1, "setProp", "(II)V"⟩
abbrev cX1_copyFrom : ByteArray := prog_3_method_9_code
def yX1_copyFrom : MethodName := ⟨RX1, "copyFrom", "(LTowerDown$Stones;)V"⟩
abbrev cX1_giveWay : ByteArray := prog_3_method_10_code
def yX1_giveWay : MethodName := ⟨RX1, "giveWay", "()V"⟩
abbrev cX1_measure : ByteArray := prog_3_method_11_code
def yX1_measure : MethodName := ⟨RX1, "measure", "()V"⟩
abbrev cX1_bear : ByteArray := prog_3_method_12_code
def yX1_bear : MethodName := ⟨RX1, "bear", "(II)V"⟩
abbrev cX1_tearOverpulled : ByteArray := prog_3_method_13_code
def yX1_tearOverpulled : MethodName := ⟨RX1, "tearOverpulled", "()V"⟩
abbrev cX1_endOverloaded : ByteArray := prog_3_method_14_code
def yX1_endOverloaded : MethodName := ⟨RX1, "endOverloaded", "()V"⟩
abbrev cX1_endSpell : ByteArray := prog_3_method_15_code
def yX1_endSpell : MethodName := ⟨RX1, "endSpell", "(I)V"⟩
abbrev cX1_tearHoldsFrom : ByteArray := prog_3_method_16_code
def yX1_tearHoldsFrom : MethodName := ⟨RX1, "tearHoldsFrom", "(I)V"⟩
abbrev cX1_dropLoose : ByteArray := prog_3_method_17_code
def yX1_dropLoose : MethodName := ⟨RX1, "dropLoose", "()V"⟩
abbrev cX1_cutLoose : ByteArray := prog_3_method_18_code
def yX1_cutLoose : MethodName := ⟨RX1, "cutLoose", "(I)V"⟩
abbrev cX1_liveDays : ByteArray := prog_3_method_19_code
def yX1_liveDays : MethodName := ⟨RX1, "liveDays", "(I)V"⟩
abbrev cX1_liveDay : ByteArray := prog_3_method_20_code
def yX1_liveDay : MethodName := ⟨RX1, "liveDay", "()V"⟩
abbrev cX1_fade : ByteArray := prog_3_method_21_code
def yX1_fade : MethodName := ⟨RX1, "fade", "()V"⟩
abbrev cX1_tell : ByteArray := prog_3_method_22_code
def yX1_tell : MethodName := ⟨RX1, "tell", "(II)I"⟩
abbrev cX1_countHeldBy : ByteArray := prog_3_method_23_code
def yX1_countHeldBy : MethodName := ⟨RX1, "countHeldBy", "(I)I"⟩
abbrev cX1_topOf : ByteArray := prog_3_method_24_code
def yX1_topOf : MethodName := ⟨RX1, "topOf", "(I)I"⟩
abbrev cX1_countSpells : ByteArray := prog_3_method_25_code
def yX1_countSpells : MethodName := ⟨RX1, "countSpells", "()I"⟩
abbrev cX1_sumOfPowers : ByteArray := prog_3_method_26_code
def yX1_sumOfPowers : MethodName := ⟨RX1, "sumOfPowers", "()I"⟩
abbrev cX1_sumOfProps : ByteArray := prog_3_method_27_code
def yX1_sumOfProps : MethodName := ⟨RX1, "sumOfProps", "()I"⟩
abbrev cX1_sumOfLoads : ByteArray := prog_3_method_28_code
def yX1_sumOfLoads : MethodName := ⟨RX1, "sumOfLoads", "()I"⟩
abbrev cX1_sumOfSpelledLoads : ByteArray := prog_3_method_29_code
def yX1_sumOfSpelledLoads : MethodName := ⟨RX1, "sumOfSpelledLoads", "()I"⟩
def RX2 : String := "TowerDown"
def TX2 : u_T := fun k => match k with
  | 0 => ("TowerDown", "sky", "LTowerDown$Stones;", true)
  | 1 => ("TowerDown", "trial", "LTowerDown$Stones;", true)
  | _ => ("TowerDown", "stairs", "LTowerDown$Stairs;", true)
def tyX2 : Nat → FieldType := fun k => match k with
  | 0 => .object "TowerDown$Stones"
  | 1 => .object "TowerDown$Stones"
  | _ => .object "TowerDown$Stairs"
abbrev wsX20 : List Cond := u_ws RX2 TX2 3
theorem nmX2 : ∀ a, a < 3 → ∀ b, b < 3 → a ≠ b → (TX2 a).2.1 ≠ (TX2 b).2.1 := by decide +kernel
theorem tyX2_ok : ∀ k, k < 3 → parseFieldDescriptor (TX2 k).2.2.1 = some (tyX2 k) := by decide +kernel
abbrev cX2_init : ByteArray := prog_1_method_1_code
def yX2_init : MethodName := ⟨RX2, "<init>", "()V"⟩
abbrev cX2_conjure : ByteArray := prog_1_method_2_code
def yX2_conjure : MethodName := ⟨RX2, "conjure", "(III)I"⟩
abbrev cX2_hang : ByteArray := prog_1_method_3_code
def yX2_hang : MethodName := ⟨RX2, "hang", "(IIII)I"⟩
abbrev cX2_prop : ByteArray := prog_1_method_4_code
def yX2_prop : MethodName := ⟨RX2, "prop", "(II)I"⟩
abbrev cX2_renew : ByteArray := prog_1_method_5_code
def yX2_renew : MethodName := ⟨RX2, "renew", "(II)I"⟩
abbrev cX2_stair : ByteArray := prog_1_method_6_code
def yX2_stair : MethodName := ⟨RX2, "stair", "(II)I"⟩
abbrev cX2_swap : ByteArray := prog_1_method_7_code
def yX2_swap : MethodName := ⟨RX2, "swap", "(II)Z"⟩
abbrev cX2_joins : ByteArray := prog_1_method_8_code
def yX2_joins : MethodName := ⟨RX2, "joins", "(II)I"⟩
abbrev cX2_steps : ByteArray := prog_1_method_9_code
def yX2_steps : MethodName := ⟨RX2, "steps", "(II)I"⟩
abbrev cX2_stone : ByteArray := prog_1_method_10_code
def yX2_stone : MethodName := ⟨RX2, "stone", "(II)I"⟩
abbrev cX2_first : ByteArray := prog_1_method_11_code
def yX2_first : MethodName := ⟨RX2, "first", "(I)I"⟩
abbrev cX2_count : ByteArray := prog_1_method_12_code
def yX2_count : MethodName := ⟨RX2, "count", "(I)I"⟩
abbrev cX2_pass : ByteArray := prog_1_method_13_code
def yX2_pass : MethodName := ⟨RX2, "pass", "(I)I"⟩
abbrev cX2_without : ByteArray := prog_1_method_14_code
def yX2_without : MethodName := ⟨RX2, "without", "(I)I"⟩
abbrev cX2_lasts : ByteArray := prog_1_method_15_code
def yX2_lasts : MethodName := ⟨RX2, "lasts", "(I)I"⟩
abbrev cX2_foresee : ByteArray := prog_1_method_16_code
def yX2_foresee : MethodName := ⟨RX2, "foresee", "(II)I"⟩
abbrev cX2_advise : ByteArray := prog_1_method_17_code
def yX2_advise : MethodName := ⟨RX2, "advise", "(II)I"⟩
abbrev cX2_mean : ByteArray := prog_1_method_18_code
def yX2_mean : MethodName := ⟨RX2, "mean", "()D"⟩
abbrev cX2_digest : ByteArray := prog_1_method_19_code
def yX2_digest : MethodName := ⟨RX2, "digest", "()J"⟩
abbrev cX2_isWithin : ByteArray := prog_1_method_20_code
def yX2_isWithin : MethodName := ⟨RX2, "isWithin", "(III)Z"⟩
abbrev cX2_isBody : ByteArray := prog_1_method_21_code
def yX2_isBody : MethodName := ⟨RX2, "isBody", "(II)Z"⟩
abbrev cX2_tellSky : ByteArray := prog_1_method_22_code
def yX2_tellSky : MethodName := ⟨RX2, "tellSky", "(I)I"⟩
abbrev cX2_leftWithMore : ByteArray := prog_1_method_23_code
def yX2_leftWithMore : MethodName := ⟨RX2, "leftWithMore", "(III)I"⟩
def RX3 : String := "TowerDownModel"
def TX3 : u_T := fun k => match k with
  | 0 => ("TowerDownModel", "thrown", "I", false)
  | 1 => ("TowerDownModel", "stones", "I", false)
  | 2 => ("TowerDownModel", "stairs", "I", false)
  | 3 => ("TowerDownModel", "tower", "[I", true)
  | 4 => ("TowerDownModel", "ways", "[I", true)
  | 5 => ("TowerDownModel", "day", "[I", true)
  | 6 => ("TowerDownModel", "loads", "[I", true)
  | 7 => ("TowerDownModel", "pulls", "[I", true)
  | _ => ("TowerDownModel", "away", "[I", true)
def tyX3 : Nat → FieldType := fun k => match k with
  | 0 => .int
  | 1 => .int
  | 2 => .int
  | 3 => .array .int
  | 4 => .array .int
  | 5 => .array .int
  | 6 => .array .int
  | 7 => .array .int
  | _ => .array .int
abbrev wsX30 : List Cond := u_ws RX3 TX3 9
theorem nmX3 : ∀ a, a < 9 → ∀ b, b < 9 → a ≠ b → (TX3 a).2.1 ≠ (TX3 b).2.1 := by decide +kernel
theorem tyX3_ok : ∀ k, k < 9 → parseFieldDescriptor (TX3 k).2.2.1 = some (tyX3 k) := by decide +kernel
abbrev cX3_init : ByteArray := prog_5_method_1_code
def yX3_init : MethodName := ⟨RX3, "<init>", "()V"⟩
abbrev cX3_thrown : ByteArray := prog_5_method_2_code
def yX3_thrown : MethodName := ⟨RX3, "thrown", "()I"⟩
abbrev cX3_fail : ByteArray := prog_5_method_3_code
def yX3_fail : MethodName := ⟨RX3, "fail", "(I)I"⟩
abbrev cX3_isIn : ByteArray := prog_5_method_4_code
def yX3_isIn : MethodName := ⟨RX3, "isIn", "(III)Z"⟩
abbrev cX3_isStone : ByteArray := prog_5_method_5_code
def yX3_isStone : MethodName := ⟨RX3, "isStone", "(I)Z"⟩
abbrev cX3_to : ByteArray := prog_5_method_6_code
def yX3_to : MethodName := ⟨RX3, "to", "(II)I"⟩
abbrev cX3_put : ByteArray := prog_5_method_7_code
def yX3_put : MethodName := ⟨RX3, "put", "(III)V"⟩
abbrev cX3_hangs : ByteArray := prog_5_method_8_code
def yX3_hangs : MethodName := ⟨RX3, "hangs", "(I)Z"⟩
abbrev cX3_st : ByteArray := prog_5_method_9_code
def yX3_st : MethodName := ⟨RX3, "st", "(II)I"⟩
abbrev cX3_reckon : ByteArray := prog_5_method_10_code
def yX3_reckon : MethodName := ⟨RX3, "reckon", "()V"⟩
abbrev cX3_isHeldBy : ByteArray := prog_5_method_11_code
def yX3_isHeldBy : MethodName := ⟨RX3, "isHeldBy", "(II)Z"⟩
abbrev cX3_tear : ByteArray := prog_5_method_12_code
def yX3_tear : MethodName := ⟨RX3, "tear", "(I)Z"⟩
abbrev cX3_fall : ByteArray := prog_5_method_13_code
def yX3_fall : MethodName := ⟨RX3, "fall", "(I)V"⟩
abbrev cX3_drop : ByteArray := prog_5_method_14_code
def yX3_drop : MethodName := ⟨RX3, "drop", "()V"⟩
abbrev cX3_giveWay : ByteArray := prog_5_method_15_code
def yX3_giveWay : MethodName := ⟨RX3, "giveWay", "()V"⟩
abbrev cX3_hanging : ByteArray := prog_5_method_16_code
def yX3_hanging : MethodName := ⟨RX3, "hanging", "()I"⟩
abbrev cX3_stone : ByteArray := prog_5_method_17_code
def yX3_stone : MethodName := ⟨RX3, "stone", "(IIIII)I"⟩
abbrev cX3_conjure : ByteArray := prog_5_method_18_code
def yX3_conjure : MethodName := ⟨RX3, "conjure", "(III)I"⟩
abbrev cX3_hang : ByteArray := prog_5_method_19_code
def yX3_hang : MethodName := ⟨RX3, "hang", "(IIII)I"⟩
abbrev cX3_prop : ByteArray := prog_5_method_20_code
def yX3_prop : MethodName := ⟨RX3, "prop", "(II)I"⟩
abbrev cX3_renew : ByteArray := prog_5_method_21_code
def yX3_renew : MethodName := ⟨RX3, "renew", "(II)I"⟩
abbrev cX3_stair : ByteArray := prog_5_method_22_code
def yX3_stair : MethodName := ⟨RX3, "stair", "(II)I"⟩
abbrev cX3_isStair : ByteArray := prog_5_method_23_code
def yX3_isStair : MethodName := ⟨RX3, "isStair", "(I)Z"⟩
abbrev cX3_swap : ByteArray := prog_5_method_24_code
def yX3_swap : MethodName := ⟨RX3, "swap", "(II)Z"⟩
abbrev cX3_joins : ByteArray := prog_5_method_25_code
def yX3_joins : MethodName := ⟨RX3, "joins", "(II)I"⟩
abbrev cX3_steps : ByteArray := prog_5_method_26_code
def yX3_steps : MethodName := ⟨RX3, "steps", "(II)I"⟩
abbrev cX3_holdsFrom : ByteArray := prog_5_method_27_code
def yX3_holdsFrom : MethodName := ⟨RX3, "holdsFrom", "(I)I"⟩
abbrev cX3_stoneTold : ByteArray := prog_5_method_28_code
def yX3_stoneTold : MethodName := ⟨RX3, "stoneTold", "(II)I"⟩
abbrev cX3_stone_ : ByteArray := prog_5_method_29_code
def yX3_stone_ : MethodName := ⟨RX3, "stone", "(II)I"⟩
abbrev cX3_first : ByteArray := prog_5_method_30_code
def yX3_first : MethodName := ⟨RX3, "first", "(I)I"⟩
abbrev cX3_counted : ByteArray := prog_5_method_31_code
def yX3_counted : MethodName := ⟨RX3, "counted", "(I)I"⟩
abbrev cX3_count : ByteArray := prog_5_method_32_code
def yX3_count : MethodName := ⟨RX3, "count", "(I)I"⟩
abbrev cX3_dayOn : ByteArray := prog_5_method_33_code
def yX3_dayOn : MethodName := ⟨RX3, "dayOn", "()V"⟩
abbrev cX3_daysOn : ByteArray := prog_5_method_34_code
def yX3_daysOn : MethodName := ⟨RX3, "daysOn", "(I)V"⟩
abbrev cX3_pass : ByteArray := prog_5_method_35_code
def yX3_pass : MethodName := ⟨RX3, "pass", "(I)I"⟩
abbrev cX3_kept : ByteArray := prog_5_method_36_code
def yX3_kept : MethodName := ⟨RX3, "kept", "()[[I"⟩
abbrev cX3_bringBack : ByteArray := prog_5_method_37_code
def yX3_bringBack : MethodName := ⟨RX3, "bringBack", "([[I)V"⟩
abbrev cX3_without : ByteArray := prog_5_method_38_code
def yX3_without : MethodName := ⟨RX3, "without", "(I)I"⟩
abbrev cX3_lasts : ByteArray := prog_5_method_39_code
def yX3_lasts : MethodName := ⟨RX3, "lasts", "(I)I"⟩
abbrev cX3_foresee : ByteArray := prog_5_method_40_code
def yX3_foresee : MethodName := ⟨RX3, "foresee", "(II)I"⟩
abbrev cX3_advise : ByteArray := prog_5_method_41_code
def yX3_advise : MethodName := ⟨RX3, "advise", "(II)I"⟩
abbrev cX3_mean : ByteArray := prog_5_method_42_code
def yX3_mean : MethodName := ⟨RX3, "mean", "()D"⟩
abbrev cX3_digest : ByteArray := prog_5_method_43_code
def yX3_digest : MethodName := ⟨RX3, "digest", "()J"⟩
def RL : String := "TowerDownLaw"
abbrev cL_conjure : ByteArray := method_3_code
def yL_conjure : MethodName := ⟨RL, "conjure", "(LTowerDown;III[J)I"⟩
abbrev cL_hang : ByteArray := method_4_code
def yL_hang : MethodName := ⟨RL, "hang", "(LTowerDown;IIII[J)I"⟩
abbrev cL_prop : ByteArray := method_5_code
def yL_prop : MethodName := ⟨RL, "prop", "(LTowerDown;II[J)I"⟩
abbrev cL_renew : ByteArray := method_6_code
def yL_renew : MethodName := ⟨RL, "renew", "(LTowerDown;II[J)I"⟩
abbrev cL_stair : ByteArray := method_7_code
def yL_stair : MethodName := ⟨RL, "stair", "(LTowerDown;II[J)I"⟩
abbrev cL_swap : ByteArray := method_8_code
def yL_swap : MethodName := ⟨RL, "swap", "(LTowerDown;II[J)I"⟩
abbrev cL_joins : ByteArray := method_9_code
def yL_joins : MethodName := ⟨RL, "joins", "(LTowerDown;II[J)I"⟩
abbrev cL_steps : ByteArray := method_10_code
def yL_steps : MethodName := ⟨RL, "steps", "(LTowerDown;II[J)I"⟩
abbrev cL_stone : ByteArray := method_11_code
def yL_stone : MethodName := ⟨RL, "stone", "(LTowerDown;II[J)I"⟩
abbrev cL_first : ByteArray := method_12_code
def yL_first : MethodName := ⟨RL, "first", "(LTowerDown;I[J)I"⟩
abbrev cL_count : ByteArray := method_13_code
def yL_count : MethodName := ⟨RL, "count", "(LTowerDown;I[J)I"⟩
abbrev cL_pass : ByteArray := method_14_code
def yL_pass : MethodName := ⟨RL, "pass", "(LTowerDown;I[J)I"⟩
abbrev cL_without : ByteArray := method_15_code
def yL_without : MethodName := ⟨RL, "without", "(LTowerDown;I[J)I"⟩
abbrev cL_lasts : ByteArray := method_16_code
def yL_lasts : MethodName := ⟨RL, "lasts", "(LTowerDown;I[J)I"⟩
abbrev cL_foresee : ByteArray := method_17_code
def yL_foresee : MethodName := ⟨RL, "foresee", "(LTowerDown;II[J)I"⟩
abbrev cL_advise : ByteArray := method_18_code
def yL_advise : MethodName := ⟨RL, "advise", "(LTowerDown;II[J)I"⟩
abbrev cL_law : ByteArray := code
def yL_law : MethodName := ⟨RL, "law", "([I)Z"⟩
end
section
theorem dL_conjure_0 : decode cL_conjure 0 = .ok (.aload 4, 2) := by decide +kernel
theorem dL_conjure_2 : decode cL_conjure 2 = .ok (.iconst 0, 1) := by decide +kernel
theorem dL_conjure_3 : decode cL_conjure 3 = .ok (.aload_n 0, 1) := by decide +kernel
theorem dL_conjure_4 : decode cL_conjure 4 = .ok (.iload_n 1, 1) := by decide +kernel
theorem dL_conjure_5 : decode cL_conjure 5 = .ok (.iload_n 2, 1) := by decide +kernel
theorem dL_conjure_6 : decode cL_conjure 6 = .ok (.iload_n 3, 1) := by decide +kernel
theorem dL_conjure_7 : decode cL_conjure 7 = .ok (.invokevirtual 7, 3) := by decide +kernel
theorem dL_conjure_10 : decode cL_conjure 10 = .ok (.i2l, 1) := by decide +kernel
theorem dL_conjure_11 : decode cL_conjure 11 = .ok (.lastore, 1) := by decide +kernel
theorem dL_conjure_12 : decode cL_conjure 12 = .ok (.goto 11, 3) := by decide +kernel
theorem dL_conjure_15 : decode cL_conjure 15 = .ok (.astore 5, 2) := by decide +kernel
theorem dL_conjure_17 : decode cL_conjure 17 = .ok (.iconst 1, 1) := by decide +kernel
theorem dL_conjure_18 : decode cL_conjure 18 = .ok (.ireturn, 1) := by decide +kernel
theorem dL_conjure_19 : decode cL_conjure 19 = .ok (.astore 5, 2) := by decide +kernel
theorem dL_conjure_21 : decode cL_conjure 21 = .ok (.iconst 2, 1) := by decide +kernel
theorem dL_conjure_22 : decode cL_conjure 22 = .ok (.ireturn, 1) := by decide +kernel
theorem dL_conjure_23 : decode cL_conjure 23 = .ok (.iconst 0, 1) := by decide +kernel
theorem dL_conjure_24 : decode cL_conjure 24 = .ok (.ireturn, 1) := by decide +kernel
theorem dL_hang_0 : decode cL_hang 0 = .ok (.aload 5, 2) := by decide +kernel
theorem dL_hang_2 : decode cL_hang 2 = .ok (.iconst 0, 1) := by decide +kernel
theorem dL_hang_3 : decode cL_hang 3 = .ok (.aload_n 0, 1) := by decide +kernel
theorem dL_hang_4 : decode cL_hang 4 = .ok (.iload_n 1, 1) := by decide +kernel
theorem dL_hang_5 : decode cL_hang 5 = .ok (.iload_n 2, 1) := by decide +kernel
theorem dL_hang_6 : decode cL_hang 6 = .ok (.iload_n 3, 1) := by decide +kernel
theorem dL_hang_7 : decode cL_hang 7 = .ok (.iload 4, 2) := by decide +kernel
theorem dL_hang_9 : decode cL_hang 9 = .ok (.invokevirtual 17, 3) := by decide +kernel
theorem dL_hang_12 : decode cL_hang 12 = .ok (.i2l, 1) := by decide +kernel
theorem dL_hang_13 : decode cL_hang 13 = .ok (.lastore, 1) := by decide +kernel
theorem dL_hang_14 : decode cL_hang 14 = .ok (.goto 15, 3) := by decide +kernel
theorem dL_hang_17 : decode cL_hang 17 = .ok (.astore 6, 2) := by decide +kernel
theorem dL_hang_19 : decode cL_hang 19 = .ok (.iconst 1, 1) := by decide +kernel
theorem dL_hang_20 : decode cL_hang 20 = .ok (.ireturn, 1) := by decide +kernel
theorem dL_hang_21 : decode cL_hang 21 = .ok (.astore 6, 2) := by decide +kernel
theorem dL_hang_23 : decode cL_hang 23 = .ok (.iconst 2, 1) := by decide +kernel
theorem dL_hang_24 : decode cL_hang 24 = .ok (.ireturn, 1) := by decide +kernel
theorem dL_hang_25 : decode cL_hang 25 = .ok (.astore 6, 2) := by decide +kernel
theorem dL_hang_27 : decode cL_hang 27 = .ok (.iconst 3, 1) := by decide +kernel
theorem dL_hang_28 : decode cL_hang 28 = .ok (.ireturn, 1) := by decide +kernel
theorem dL_hang_29 : decode cL_hang 29 = .ok (.iconst 0, 1) := by decide +kernel
theorem dL_hang_30 : decode cL_hang 30 = .ok (.ireturn, 1) := by decide +kernel
theorem dL_prop_0 : decode cL_prop 0 = .ok (.aload_n 3, 1) := by decide +kernel
theorem dL_prop_1 : decode cL_prop 1 = .ok (.iconst 0, 1) := by decide +kernel
theorem dL_prop_2 : decode cL_prop 2 = .ok (.aload_n 0, 1) := by decide +kernel
theorem dL_prop_3 : decode cL_prop 3 = .ok (.iload_n 1, 1) := by decide +kernel
theorem dL_prop_4 : decode cL_prop 4 = .ok (.iload_n 2, 1) := by decide +kernel
theorem dL_prop_5 : decode cL_prop 5 = .ok (.invokevirtual 23, 3) := by decide +kernel
theorem dL_prop_8 : decode cL_prop 8 = .ok (.i2l, 1) := by decide +kernel
theorem dL_prop_9 : decode cL_prop 9 = .ok (.lastore, 1) := by decide +kernel
theorem dL_prop_10 : decode cL_prop 10 = .ok (.goto 15, 3) := by decide +kernel
theorem dL_prop_13 : decode cL_prop 13 = .ok (.astore 4, 2) := by decide +kernel
theorem dL_prop_15 : decode cL_prop 15 = .ok (.iconst 1, 1) := by decide +kernel
theorem dL_prop_16 : decode cL_prop 16 = .ok (.ireturn, 1) := by decide +kernel
theorem dL_prop_17 : decode cL_prop 17 = .ok (.astore 4, 2) := by decide +kernel
theorem dL_prop_19 : decode cL_prop 19 = .ok (.iconst 2, 1) := by decide +kernel
theorem dL_prop_20 : decode cL_prop 20 = .ok (.ireturn, 1) := by decide +kernel
theorem dL_prop_21 : decode cL_prop 21 = .ok (.astore 4, 2) := by decide +kernel
theorem dL_prop_23 : decode cL_prop 23 = .ok (.iconst 3, 1) := by decide +kernel
theorem dL_prop_24 : decode cL_prop 24 = .ok (.ireturn, 1) := by decide +kernel
theorem dL_prop_25 : decode cL_prop 25 = .ok (.iconst 0, 1) := by decide +kernel
theorem dL_prop_26 : decode cL_prop 26 = .ok (.ireturn, 1) := by decide +kernel
theorem dL_renew_0 : decode cL_renew 0 = .ok (.aload_n 3, 1) := by decide +kernel
theorem dL_renew_1 : decode cL_renew 1 = .ok (.iconst 0, 1) := by decide +kernel
theorem dL_renew_2 : decode cL_renew 2 = .ok (.aload_n 0, 1) := by decide +kernel
theorem dL_renew_3 : decode cL_renew 3 = .ok (.iload_n 1, 1) := by decide +kernel
theorem dL_renew_4 : decode cL_renew 4 = .ok (.iload_n 2, 1) := by decide +kernel
theorem dL_renew_5 : decode cL_renew 5 = .ok (.invokevirtual 27, 3) := by decide +kernel
theorem dL_renew_8 : decode cL_renew 8 = .ok (.i2l, 1) := by decide +kernel
theorem dL_renew_9 : decode cL_renew 9 = .ok (.lastore, 1) := by decide +kernel
theorem dL_renew_10 : decode cL_renew 10 = .ok (.goto 15, 3) := by decide +kernel
theorem dL_renew_13 : decode cL_renew 13 = .ok (.astore 4, 2) := by decide +kernel
theorem dL_renew_15 : decode cL_renew 15 = .ok (.iconst 1, 1) := by decide +kernel
theorem dL_renew_16 : decode cL_renew 16 = .ok (.ireturn, 1) := by decide +kernel
theorem dL_renew_17 : decode cL_renew 17 = .ok (.astore 4, 2) := by decide +kernel
theorem dL_renew_19 : decode cL_renew 19 = .ok (.iconst 2, 1) := by decide +kernel
theorem dL_renew_20 : decode cL_renew 20 = .ok (.ireturn, 1) := by decide +kernel
theorem dL_renew_21 : decode cL_renew 21 = .ok (.astore 4, 2) := by decide +kernel
theorem dL_renew_23 : decode cL_renew 23 = .ok (.iconst 3, 1) := by decide +kernel
theorem dL_renew_24 : decode cL_renew 24 = .ok (.ireturn, 1) := by decide +kernel
theorem dL_renew_25 : decode cL_renew 25 = .ok (.iconst 0, 1) := by decide +kernel
theorem dL_renew_26 : decode cL_renew 26 = .ok (.ireturn, 1) := by decide +kernel
theorem dL_stair_0 : decode cL_stair 0 = .ok (.aload_n 3, 1) := by decide +kernel
theorem dL_stair_1 : decode cL_stair 1 = .ok (.iconst 0, 1) := by decide +kernel
theorem dL_stair_2 : decode cL_stair 2 = .ok (.aload_n 0, 1) := by decide +kernel
theorem dL_stair_3 : decode cL_stair 3 = .ok (.iload_n 1, 1) := by decide +kernel
theorem dL_stair_4 : decode cL_stair 4 = .ok (.iload_n 2, 1) := by decide +kernel
theorem dL_stair_5 : decode cL_stair 5 = .ok (.invokevirtual 30, 3) := by decide +kernel
theorem dL_stair_8 : decode cL_stair 8 = .ok (.i2l, 1) := by decide +kernel
theorem dL_stair_9 : decode cL_stair 9 = .ok (.lastore, 1) := by decide +kernel
theorem dL_stair_10 : decode cL_stair 10 = .ok (.goto 15, 3) := by decide +kernel
theorem dL_stair_13 : decode cL_stair 13 = .ok (.astore 4, 2) := by decide +kernel
theorem dL_stair_15 : decode cL_stair 15 = .ok (.iconst 1, 1) := by decide +kernel
theorem dL_stair_16 : decode cL_stair 16 = .ok (.ireturn, 1) := by decide +kernel
theorem dL_stair_17 : decode cL_stair 17 = .ok (.astore 4, 2) := by decide +kernel
theorem dL_stair_19 : decode cL_stair 19 = .ok (.iconst 2, 1) := by decide +kernel
theorem dL_stair_20 : decode cL_stair 20 = .ok (.ireturn, 1) := by decide +kernel
theorem dL_stair_21 : decode cL_stair 21 = .ok (.astore 4, 2) := by decide +kernel
theorem dL_stair_23 : decode cL_stair 23 = .ok (.iconst 3, 1) := by decide +kernel
theorem dL_stair_24 : decode cL_stair 24 = .ok (.ireturn, 1) := by decide +kernel
theorem dL_stair_25 : decode cL_stair 25 = .ok (.iconst 0, 1) := by decide +kernel
theorem dL_stair_26 : decode cL_stair 26 = .ok (.ireturn, 1) := by decide +kernel
theorem dL_swap_0 : decode cL_swap 0 = .ok (.aload_n 3, 1) := by decide +kernel
theorem dL_swap_1 : decode cL_swap 1 = .ok (.iconst 0, 1) := by decide +kernel
theorem dL_swap_2 : decode cL_swap 2 = .ok (.aload_n 0, 1) := by decide +kernel
theorem dL_swap_3 : decode cL_swap 3 = .ok (.iload_n 1, 1) := by decide +kernel
theorem dL_swap_4 : decode cL_swap 4 = .ok (.iload_n 2, 1) := by decide +kernel
theorem dL_swap_5 : decode cL_swap 5 = .ok (.invokevirtual 33, 3) := by decide +kernel
theorem dL_swap_8 : decode cL_swap 8 = .ok (.ifCond .eq 7, 3) := by decide +kernel
theorem dL_swap_11 : decode cL_swap 11 = .ok (.lconst 1, 1) := by decide +kernel
theorem dL_swap_12 : decode cL_swap 12 = .ok (.goto 4, 3) := by decide +kernel
theorem dL_swap_15 : decode cL_swap 15 = .ok (.lconst 0, 1) := by decide +kernel
theorem dL_swap_16 : decode cL_swap 16 = .ok (.lastore, 1) := by decide +kernel
theorem dL_swap_17 : decode cL_swap 17 = .ok (.goto 15, 3) := by decide +kernel
theorem dL_swap_20 : decode cL_swap 20 = .ok (.astore 4, 2) := by decide +kernel
theorem dL_swap_22 : decode cL_swap 22 = .ok (.iconst 1, 1) := by decide +kernel
theorem dL_swap_23 : decode cL_swap 23 = .ok (.ireturn, 1) := by decide +kernel
theorem dL_swap_24 : decode cL_swap 24 = .ok (.astore 4, 2) := by decide +kernel
theorem dL_swap_26 : decode cL_swap 26 = .ok (.iconst 2, 1) := by decide +kernel
theorem dL_swap_27 : decode cL_swap 27 = .ok (.ireturn, 1) := by decide +kernel
theorem dL_swap_28 : decode cL_swap 28 = .ok (.astore 4, 2) := by decide +kernel
theorem dL_swap_30 : decode cL_swap 30 = .ok (.iconst 3, 1) := by decide +kernel
theorem dL_swap_31 : decode cL_swap 31 = .ok (.ireturn, 1) := by decide +kernel
theorem dL_swap_32 : decode cL_swap 32 = .ok (.iconst 0, 1) := by decide +kernel
theorem dL_swap_33 : decode cL_swap 33 = .ok (.ireturn, 1) := by decide +kernel
theorem dL_joins_0 : decode cL_joins 0 = .ok (.aload_n 3, 1) := by decide +kernel
theorem dL_joins_1 : decode cL_joins 1 = .ok (.iconst 0, 1) := by decide +kernel
theorem dL_joins_2 : decode cL_joins 2 = .ok (.aload_n 0, 1) := by decide +kernel
theorem dL_joins_3 : decode cL_joins 3 = .ok (.iload_n 1, 1) := by decide +kernel
theorem dL_joins_4 : decode cL_joins 4 = .ok (.iload_n 2, 1) := by decide +kernel
theorem dL_joins_5 : decode cL_joins 5 = .ok (.invokevirtual 37, 3) := by decide +kernel
theorem dL_joins_8 : decode cL_joins 8 = .ok (.i2l, 1) := by decide +kernel
theorem dL_joins_9 : decode cL_joins 9 = .ok (.lastore, 1) := by decide +kernel
theorem dL_joins_10 : decode cL_joins 10 = .ok (.goto 7, 3) := by decide +kernel
theorem dL_joins_13 : decode cL_joins 13 = .ok (.astore 4, 2) := by decide +kernel
theorem dL_joins_15 : decode cL_joins 15 = .ok (.iconst 1, 1) := by decide +kernel
theorem dL_joins_16 : decode cL_joins 16 = .ok (.ireturn, 1) := by decide +kernel
theorem dL_joins_17 : decode cL_joins 17 = .ok (.iconst 0, 1) := by decide +kernel
theorem dL_joins_18 : decode cL_joins 18 = .ok (.ireturn, 1) := by decide +kernel
theorem dL_steps_0 : decode cL_steps 0 = .ok (.aload_n 3, 1) := by decide +kernel
theorem dL_steps_1 : decode cL_steps 1 = .ok (.iconst 0, 1) := by decide +kernel
theorem dL_steps_2 : decode cL_steps 2 = .ok (.aload_n 0, 1) := by decide +kernel
theorem dL_steps_3 : decode cL_steps 3 = .ok (.iload_n 1, 1) := by decide +kernel
theorem dL_steps_4 : decode cL_steps 4 = .ok (.iload_n 2, 1) := by decide +kernel
theorem dL_steps_5 : decode cL_steps 5 = .ok (.invokevirtual 40, 3) := by decide +kernel
theorem dL_steps_8 : decode cL_steps 8 = .ok (.i2l, 1) := by decide +kernel
theorem dL_steps_9 : decode cL_steps 9 = .ok (.lastore, 1) := by decide +kernel
theorem dL_steps_10 : decode cL_steps 10 = .ok (.goto 7, 3) := by decide +kernel
theorem dL_steps_13 : decode cL_steps 13 = .ok (.astore 4, 2) := by decide +kernel
theorem dL_steps_15 : decode cL_steps 15 = .ok (.iconst 1, 1) := by decide +kernel
theorem dL_steps_16 : decode cL_steps 16 = .ok (.ireturn, 1) := by decide +kernel
theorem dL_steps_17 : decode cL_steps 17 = .ok (.iconst 0, 1) := by decide +kernel
theorem dL_steps_18 : decode cL_steps 18 = .ok (.ireturn, 1) := by decide +kernel
theorem dL_stone_0 : decode cL_stone 0 = .ok (.aload_n 3, 1) := by decide +kernel
theorem dL_stone_1 : decode cL_stone 1 = .ok (.iconst 0, 1) := by decide +kernel
theorem dL_stone_2 : decode cL_stone 2 = .ok (.aload_n 0, 1) := by decide +kernel
theorem dL_stone_3 : decode cL_stone 3 = .ok (.iload_n 1, 1) := by decide +kernel
theorem dL_stone_4 : decode cL_stone 4 = .ok (.iload_n 2, 1) := by decide +kernel
theorem dL_stone_5 : decode cL_stone 5 = .ok (.invokevirtual 43, 3) := by decide +kernel
theorem dL_stone_8 : decode cL_stone 8 = .ok (.i2l, 1) := by decide +kernel
theorem dL_stone_9 : decode cL_stone 9 = .ok (.lastore, 1) := by decide +kernel
theorem dL_stone_10 : decode cL_stone 10 = .ok (.goto 7, 3) := by decide +kernel
theorem dL_stone_13 : decode cL_stone 13 = .ok (.astore 4, 2) := by decide +kernel
theorem dL_stone_15 : decode cL_stone 15 = .ok (.iconst 1, 1) := by decide +kernel
theorem dL_stone_16 : decode cL_stone 16 = .ok (.ireturn, 1) := by decide +kernel
theorem dL_stone_17 : decode cL_stone 17 = .ok (.iconst 0, 1) := by decide +kernel
theorem dL_stone_18 : decode cL_stone 18 = .ok (.ireturn, 1) := by decide +kernel
theorem dL_first_0 : decode cL_first 0 = .ok (.aload_n 2, 1) := by decide +kernel
theorem dL_first_1 : decode cL_first 1 = .ok (.iconst 0, 1) := by decide +kernel
theorem dL_first_2 : decode cL_first 2 = .ok (.aload_n 0, 1) := by decide +kernel
theorem dL_first_3 : decode cL_first 3 = .ok (.iload_n 1, 1) := by decide +kernel
theorem dL_first_4 : decode cL_first 4 = .ok (.invokevirtual 46, 3) := by decide +kernel
theorem dL_first_7 : decode cL_first 7 = .ok (.i2l, 1) := by decide +kernel
theorem dL_first_8 : decode cL_first 8 = .ok (.lastore, 1) := by decide +kernel
theorem dL_first_9 : decode cL_first 9 = .ok (.goto 6, 3) := by decide +kernel
theorem dL_first_12 : decode cL_first 12 = .ok (.astore_n 3, 1) := by decide +kernel
theorem dL_first_13 : decode cL_first 13 = .ok (.iconst 1, 1) := by decide +kernel
theorem dL_first_14 : decode cL_first 14 = .ok (.ireturn, 1) := by decide +kernel
theorem dL_first_15 : decode cL_first 15 = .ok (.iconst 0, 1) := by decide +kernel
theorem dL_first_16 : decode cL_first 16 = .ok (.ireturn, 1) := by decide +kernel
theorem dL_count_0 : decode cL_count 0 = .ok (.aload_n 2, 1) := by decide +kernel
theorem dL_count_1 : decode cL_count 1 = .ok (.iconst 0, 1) := by decide +kernel
theorem dL_count_2 : decode cL_count 2 = .ok (.aload_n 0, 1) := by decide +kernel
theorem dL_count_3 : decode cL_count 3 = .ok (.iload_n 1, 1) := by decide +kernel
theorem dL_count_4 : decode cL_count 4 = .ok (.invokevirtual 50, 3) := by decide +kernel
theorem dL_count_7 : decode cL_count 7 = .ok (.i2l, 1) := by decide +kernel
theorem dL_count_8 : decode cL_count 8 = .ok (.lastore, 1) := by decide +kernel
theorem dL_count_9 : decode cL_count 9 = .ok (.goto 6, 3) := by decide +kernel
theorem dL_count_12 : decode cL_count 12 = .ok (.astore_n 3, 1) := by decide +kernel
theorem dL_count_13 : decode cL_count 13 = .ok (.iconst 1, 1) := by decide +kernel
theorem dL_count_14 : decode cL_count 14 = .ok (.ireturn, 1) := by decide +kernel
theorem dL_count_15 : decode cL_count 15 = .ok (.iconst 0, 1) := by decide +kernel
theorem dL_count_16 : decode cL_count 16 = .ok (.ireturn, 1) := by decide +kernel
theorem dL_pass_0 : decode cL_pass 0 = .ok (.aload_n 2, 1) := by decide +kernel
theorem dL_pass_1 : decode cL_pass 1 = .ok (.iconst 0, 1) := by decide +kernel
theorem dL_pass_2 : decode cL_pass 2 = .ok (.aload_n 0, 1) := by decide +kernel
theorem dL_pass_3 : decode cL_pass 3 = .ok (.iload_n 1, 1) := by decide +kernel
theorem dL_pass_4 : decode cL_pass 4 = .ok (.invokevirtual 53, 3) := by decide +kernel
theorem dL_pass_7 : decode cL_pass 7 = .ok (.i2l, 1) := by decide +kernel
theorem dL_pass_8 : decode cL_pass 8 = .ok (.lastore, 1) := by decide +kernel
theorem dL_pass_9 : decode cL_pass 9 = .ok (.goto 6, 3) := by decide +kernel
theorem dL_pass_12 : decode cL_pass 12 = .ok (.astore_n 3, 1) := by decide +kernel
theorem dL_pass_13 : decode cL_pass 13 = .ok (.iconst 1, 1) := by decide +kernel
theorem dL_pass_14 : decode cL_pass 14 = .ok (.ireturn, 1) := by decide +kernel
theorem dL_pass_15 : decode cL_pass 15 = .ok (.iconst 0, 1) := by decide +kernel
theorem dL_pass_16 : decode cL_pass 16 = .ok (.ireturn, 1) := by decide +kernel
theorem dL_without_0 : decode cL_without 0 = .ok (.aload_n 2, 1) := by decide +kernel
theorem dL_without_1 : decode cL_without 1 = .ok (.iconst 0, 1) := by decide +kernel
theorem dL_without_2 : decode cL_without 2 = .ok (.aload_n 0, 1) := by decide +kernel
theorem dL_without_3 : decode cL_without 3 = .ok (.iload_n 1, 1) := by decide +kernel
theorem dL_without_4 : decode cL_without 4 = .ok (.invokevirtual 56, 3) := by decide +kernel
theorem dL_without_7 : decode cL_without 7 = .ok (.i2l, 1) := by decide +kernel
theorem dL_without_8 : decode cL_without 8 = .ok (.lastore, 1) := by decide +kernel
theorem dL_without_9 : decode cL_without 9 = .ok (.goto 6, 3) := by decide +kernel
theorem dL_without_12 : decode cL_without 12 = .ok (.astore_n 3, 1) := by decide +kernel
theorem dL_without_13 : decode cL_without 13 = .ok (.iconst 1, 1) := by decide +kernel
theorem dL_without_14 : decode cL_without 14 = .ok (.ireturn, 1) := by decide +kernel
theorem dL_without_15 : decode cL_without 15 = .ok (.iconst 0, 1) := by decide +kernel
theorem dL_without_16 : decode cL_without 16 = .ok (.ireturn, 1) := by decide +kernel
theorem dL_lasts_0 : decode cL_lasts 0 = .ok (.aload_n 2, 1) := by decide +kernel
theorem dL_lasts_1 : decode cL_lasts 1 = .ok (.iconst 0, 1) := by decide +kernel
theorem dL_lasts_2 : decode cL_lasts 2 = .ok (.aload_n 0, 1) := by decide +kernel
theorem dL_lasts_3 : decode cL_lasts 3 = .ok (.iload_n 1, 1) := by decide +kernel
theorem dL_lasts_4 : decode cL_lasts 4 = .ok (.invokevirtual 59, 3) := by decide +kernel
theorem dL_lasts_7 : decode cL_lasts 7 = .ok (.i2l, 1) := by decide +kernel
theorem dL_lasts_8 : decode cL_lasts 8 = .ok (.lastore, 1) := by decide +kernel
theorem dL_lasts_9 : decode cL_lasts 9 = .ok (.goto 6, 3) := by decide +kernel
theorem dL_lasts_12 : decode cL_lasts 12 = .ok (.astore_n 3, 1) := by decide +kernel
theorem dL_lasts_13 : decode cL_lasts 13 = .ok (.iconst 1, 1) := by decide +kernel
theorem dL_lasts_14 : decode cL_lasts 14 = .ok (.ireturn, 1) := by decide +kernel
theorem dL_lasts_15 : decode cL_lasts 15 = .ok (.iconst 0, 1) := by decide +kernel
theorem dL_lasts_16 : decode cL_lasts 16 = .ok (.ireturn, 1) := by decide +kernel
theorem dL_foresee_0 : decode cL_foresee 0 = .ok (.aload_n 3, 1) := by decide +kernel
theorem dL_foresee_1 : decode cL_foresee 1 = .ok (.iconst 0, 1) := by decide +kernel
theorem dL_foresee_2 : decode cL_foresee 2 = .ok (.aload_n 0, 1) := by decide +kernel
theorem dL_foresee_3 : decode cL_foresee 3 = .ok (.iload_n 1, 1) := by decide +kernel
theorem dL_foresee_4 : decode cL_foresee 4 = .ok (.iload_n 2, 1) := by decide +kernel
theorem dL_foresee_5 : decode cL_foresee 5 = .ok (.invokevirtual 62, 3) := by decide +kernel
theorem dL_foresee_8 : decode cL_foresee 8 = .ok (.i2l, 1) := by decide +kernel
theorem dL_foresee_9 : decode cL_foresee 9 = .ok (.lastore, 1) := by decide +kernel
theorem dL_foresee_10 : decode cL_foresee 10 = .ok (.goto 11, 3) := by decide +kernel
theorem dL_foresee_13 : decode cL_foresee 13 = .ok (.astore 4, 2) := by decide +kernel
theorem dL_foresee_15 : decode cL_foresee 15 = .ok (.iconst 1, 1) := by decide +kernel
theorem dL_foresee_16 : decode cL_foresee 16 = .ok (.ireturn, 1) := by decide +kernel
theorem dL_foresee_17 : decode cL_foresee 17 = .ok (.astore 4, 2) := by decide +kernel
theorem dL_foresee_19 : decode cL_foresee 19 = .ok (.iconst 2, 1) := by decide +kernel
theorem dL_foresee_20 : decode cL_foresee 20 = .ok (.ireturn, 1) := by decide +kernel
theorem dL_foresee_21 : decode cL_foresee 21 = .ok (.iconst 0, 1) := by decide +kernel
theorem dL_foresee_22 : decode cL_foresee 22 = .ok (.ireturn, 1) := by decide +kernel
theorem dL_advise_0 : decode cL_advise 0 = .ok (.aload_n 3, 1) := by decide +kernel
theorem dL_advise_1 : decode cL_advise 1 = .ok (.iconst 0, 1) := by decide +kernel
theorem dL_advise_2 : decode cL_advise 2 = .ok (.aload_n 0, 1) := by decide +kernel
theorem dL_advise_3 : decode cL_advise 3 = .ok (.iload_n 1, 1) := by decide +kernel
theorem dL_advise_4 : decode cL_advise 4 = .ok (.iload_n 2, 1) := by decide +kernel
theorem dL_advise_5 : decode cL_advise 5 = .ok (.invokevirtual 65, 3) := by decide +kernel
theorem dL_advise_8 : decode cL_advise 8 = .ok (.i2l, 1) := by decide +kernel
theorem dL_advise_9 : decode cL_advise 9 = .ok (.lastore, 1) := by decide +kernel
theorem dL_advise_10 : decode cL_advise 10 = .ok (.goto 7, 3) := by decide +kernel
theorem dL_advise_13 : decode cL_advise 13 = .ok (.astore 4, 2) := by decide +kernel
theorem dL_advise_15 : decode cL_advise 15 = .ok (.iconst 1, 1) := by decide +kernel
theorem dL_advise_16 : decode cL_advise 16 = .ok (.ireturn, 1) := by decide +kernel
theorem dL_advise_17 : decode cL_advise 17 = .ok (.iconst 0, 1) := by decide +kernel
theorem dL_advise_18 : decode cL_advise 18 = .ok (.ireturn, 1) := by decide +kernel
theorem dL_law_0 : decode cL_law 0 = .ok (.new 8, 3) := by decide +kernel
theorem dL_law_3 : decode cL_law 3 = .ok (.dup, 1) := by decide +kernel
theorem dL_law_4 : decode cL_law 4 = .ok (.invokespecial 68, 3) := by decide +kernel
theorem dL_law_7 : decode cL_law 7 = .ok (.astore_n 1, 1) := by decide +kernel
theorem dL_law_8 : decode cL_law 8 = .ok (.new 69, 3) := by decide +kernel
theorem dL_law_11 : decode cL_law 11 = .ok (.dup, 1) := by decide +kernel
theorem dL_law_12 : decode cL_law 12 = .ok (.invokespecial 71, 3) := by decide +kernel
theorem dL_law_15 : decode cL_law 15 = .ok (.astore_n 2, 1) := by decide +kernel
theorem dL_law_16 : decode cL_law 16 = .ok (.iconst 1, 1) := by decide +kernel
theorem dL_law_17 : decode cL_law 17 = .ok (.newarray .long, 2) := by decide +kernel
theorem dL_law_19 : decode cL_law 19 = .ok (.astore_n 3, 1) := by decide +kernel
theorem dL_law_20 : decode cL_law 20 = .ok (.iconst 0, 1) := by decide +kernel
theorem dL_law_21 : decode cL_law 21 = .ok (.istore 4, 2) := by decide +kernel
theorem dL_law_23 : decode cL_law 23 = .ok (.iload 4, 2) := by decide +kernel
theorem dL_law_25 : decode cL_law 25 = .ok (.aload_n 0, 1) := by decide +kernel
theorem dL_law_26 : decode cL_law 26 = .ok (.arraylength, 1) := by decide +kernel
theorem dL_law_27 : decode cL_law 27 = .ok (.iconst 5, 1) := by decide +kernel
theorem dL_law_28 : decode cL_law 28 = .ok (.isub, 1) := by decide +kernel
theorem dL_law_29 : decode cL_law 29 = .ok (.if_icmp .gt 1227, 3) := by decide +kernel
theorem dL_law_32 : decode cL_law 32 = .ok (.aload_n 0, 1) := by decide +kernel
theorem dL_law_33 : decode cL_law 33 = .ok (.iload 4, 2) := by decide +kernel
theorem dL_law_35 : decode cL_law 35 = .ok (.iaload, 1) := by decide +kernel
theorem dL_law_36 : decode cL_law 36 = .ok (.bipush 31, 2) := by decide +kernel
theorem dL_law_38 : decode cL_law 38 = .ok (.iand, 1) := by decide +kernel
theorem dL_law_39 : decode cL_law 39 = .ok (.tableswitch 1211 0 17 #[85, 165, 257, 325, 393, 461, 536, 604, 672, 740, 796, 852, 908, 964, 1020, 1088, 1156, 1197], 85) := by decide +kernel
theorem dL_law_124 : decode cL_law 124 = .ok (.aload_n 1, 1) := by decide +kernel
theorem dL_law_125 : decode cL_law 125 = .ok (.aload_n 0, 1) := by decide +kernel
theorem dL_law_126 : decode cL_law 126 = .ok (.iload 4, 2) := by decide +kernel
theorem dL_law_128 : decode cL_law 128 = .ok (.iconst 1, 1) := by decide +kernel
theorem dL_law_129 : decode cL_law 129 = .ok (.iadd, 1) := by decide +kernel
theorem dL_law_130 : decode cL_law 130 = .ok (.iaload, 1) := by decide +kernel
theorem dL_law_131 : decode cL_law 131 = .ok (.aload_n 0, 1) := by decide +kernel
theorem dL_law_132 : decode cL_law 132 = .ok (.iload 4, 2) := by decide +kernel
theorem dL_law_134 : decode cL_law 134 = .ok (.iconst 2, 1) := by decide +kernel
theorem dL_law_135 : decode cL_law 135 = .ok (.iadd, 1) := by decide +kernel
theorem dL_law_136 : decode cL_law 136 = .ok (.iaload, 1) := by decide +kernel
theorem dL_law_137 : decode cL_law 137 = .ok (.aload_n 0, 1) := by decide +kernel
theorem dL_law_138 : decode cL_law 138 = .ok (.iload 4, 2) := by decide +kernel
theorem dL_law_140 : decode cL_law 140 = .ok (.iconst 3, 1) := by decide +kernel
theorem dL_law_141 : decode cL_law 141 = .ok (.iadd, 1) := by decide +kernel
theorem dL_law_142 : decode cL_law 142 = .ok (.iaload, 1) := by decide +kernel
theorem dL_law_143 : decode cL_law 143 = .ok (.aload_n 3, 1) := by decide +kernel
theorem dL_law_144 : decode cL_law 144 = .ok (.invokestatic 72, 3) := by decide +kernel
theorem dL_law_147 : decode cL_law 147 = .ok (.istore 5, 2) := by decide +kernel
theorem dL_law_149 : decode cL_law 149 = .ok (.aload_n 2, 1) := by decide +kernel
theorem dL_law_150 : decode cL_law 150 = .ok (.aload_n 0, 1) := by decide +kernel
theorem dL_law_151 : decode cL_law 151 = .ok (.iload 4, 2) := by decide +kernel
theorem dL_law_153 : decode cL_law 153 = .ok (.iconst 1, 1) := by decide +kernel
theorem dL_law_154 : decode cL_law 154 = .ok (.iadd, 1) := by decide +kernel
theorem dL_law_155 : decode cL_law 155 = .ok (.iaload, 1) := by decide +kernel
theorem dL_law_156 : decode cL_law 156 = .ok (.aload_n 0, 1) := by decide +kernel
theorem dL_law_157 : decode cL_law 157 = .ok (.iload 4, 2) := by decide +kernel
theorem dL_law_159 : decode cL_law 159 = .ok (.iconst 2, 1) := by decide +kernel
theorem dL_law_160 : decode cL_law 160 = .ok (.iadd, 1) := by decide +kernel
theorem dL_law_161 : decode cL_law 161 = .ok (.iaload, 1) := by decide +kernel
theorem dL_law_162 : decode cL_law 162 = .ok (.aload_n 0, 1) := by decide +kernel
theorem dL_law_163 : decode cL_law 163 = .ok (.iload 4, 2) := by decide +kernel
theorem dL_law_165 : decode cL_law 165 = .ok (.iconst 3, 1) := by decide +kernel
theorem dL_law_166 : decode cL_law 166 = .ok (.iadd, 1) := by decide +kernel
theorem dL_law_167 : decode cL_law 167 = .ok (.iaload, 1) := by decide +kernel
theorem dL_law_168 : decode cL_law 168 = .ok (.invokevirtual 77, 3) := by decide +kernel
theorem dL_law_171 : decode cL_law 171 = .ok (.istore 6, 2) := by decide +kernel
theorem dL_law_173 : decode cL_law 173 = .ok (.aload_n 2, 1) := by decide +kernel
theorem dL_law_174 : decode cL_law 174 = .ok (.invokevirtual 78, 3) := by decide +kernel
theorem dL_law_177 : decode cL_law 177 = .ok (.iload 5, 2) := by decide +kernel
theorem dL_law_179 : decode cL_law 179 = .ok (.if_icmp .eq 5, 3) := by decide +kernel
theorem dL_law_182 : decode cL_law 182 = .ok (.iconst 0, 1) := by decide +kernel
theorem dL_law_183 : decode cL_law 183 = .ok (.ireturn, 1) := by decide +kernel
theorem dL_law_184 : decode cL_law 184 = .ok (.iload 5, 2) := by decide +kernel
theorem dL_law_186 : decode cL_law 186 = .ok (.ifCond .ne 15, 3) := by decide +kernel
theorem dL_law_189 : decode cL_law 189 = .ok (.aload_n 3, 1) := by decide +kernel
theorem dL_law_190 : decode cL_law 190 = .ok (.iconst 0, 1) := by decide +kernel
theorem dL_law_191 : decode cL_law 191 = .ok (.laload, 1) := by decide +kernel
theorem dL_law_192 : decode cL_law 192 = .ok (.iload 6, 2) := by decide +kernel
theorem dL_law_194 : decode cL_law 194 = .ok (.i2l, 1) := by decide +kernel
theorem dL_law_195 : decode cL_law 195 = .ok (.lcmp, 1) := by decide +kernel
theorem dL_law_196 : decode cL_law 196 = .ok (.ifCond .eq 5, 3) := by decide +kernel
theorem dL_law_199 : decode cL_law 199 = .ok (.iconst 0, 1) := by decide +kernel
theorem dL_law_200 : decode cL_law 200 = .ok (.ireturn, 1) := by decide +kernel
theorem dL_law_201 : decode cL_law 201 = .ok (.goto 1049, 3) := by decide +kernel
theorem dL_law_204 : decode cL_law 204 = .ok (.aload_n 1, 1) := by decide +kernel
theorem dL_law_205 : decode cL_law 205 = .ok (.aload_n 0, 1) := by decide +kernel
theorem dL_law_206 : decode cL_law 206 = .ok (.iload 4, 2) := by decide +kernel
theorem dL_law_208 : decode cL_law 208 = .ok (.iconst 1, 1) := by decide +kernel
theorem dL_law_209 : decode cL_law 209 = .ok (.iadd, 1) := by decide +kernel
theorem dL_law_210 : decode cL_law 210 = .ok (.iaload, 1) := by decide +kernel
theorem dL_law_211 : decode cL_law 211 = .ok (.aload_n 0, 1) := by decide +kernel
theorem dL_law_212 : decode cL_law 212 = .ok (.iload 4, 2) := by decide +kernel
theorem dL_law_214 : decode cL_law 214 = .ok (.iconst 2, 1) := by decide +kernel
theorem dL_law_215 : decode cL_law 215 = .ok (.iadd, 1) := by decide +kernel
theorem dL_law_216 : decode cL_law 216 = .ok (.iaload, 1) := by decide +kernel
theorem dL_law_217 : decode cL_law 217 = .ok (.aload_n 0, 1) := by decide +kernel
theorem dL_law_218 : decode cL_law 218 = .ok (.iload 4, 2) := by decide +kernel
theorem dL_law_220 : decode cL_law 220 = .ok (.iconst 3, 1) := by decide +kernel
theorem dL_law_221 : decode cL_law 221 = .ok (.iadd, 1) := by decide +kernel
theorem dL_law_222 : decode cL_law 222 = .ok (.iaload, 1) := by decide +kernel
theorem dL_law_223 : decode cL_law 223 = .ok (.aload_n 0, 1) := by decide +kernel
theorem dL_law_224 : decode cL_law 224 = .ok (.iload 4, 2) := by decide +kernel
theorem dL_law_226 : decode cL_law 226 = .ok (.iconst 4, 1) := by decide +kernel
theorem dL_law_227 : decode cL_law 227 = .ok (.iadd, 1) := by decide +kernel
theorem dL_law_228 : decode cL_law 228 = .ok (.iaload, 1) := by decide +kernel
theorem dL_law_229 : decode cL_law 229 = .ok (.aload_n 3, 1) := by decide +kernel
theorem dL_law_230 : decode cL_law 230 = .ok (.invokestatic 82, 3) := by decide +kernel
theorem dL_law_233 : decode cL_law 233 = .ok (.istore 5, 2) := by decide +kernel
theorem dL_law_235 : decode cL_law 235 = .ok (.aload_n 2, 1) := by decide +kernel
theorem dL_law_236 : decode cL_law 236 = .ok (.aload_n 0, 1) := by decide +kernel
theorem dL_law_237 : decode cL_law 237 = .ok (.iload 4, 2) := by decide +kernel
theorem dL_law_239 : decode cL_law 239 = .ok (.iconst 1, 1) := by decide +kernel
theorem dL_law_240 : decode cL_law 240 = .ok (.iadd, 1) := by decide +kernel
theorem dL_law_241 : decode cL_law 241 = .ok (.iaload, 1) := by decide +kernel
theorem dL_law_242 : decode cL_law 242 = .ok (.aload_n 0, 1) := by decide +kernel
theorem dL_law_243 : decode cL_law 243 = .ok (.iload 4, 2) := by decide +kernel
theorem dL_law_245 : decode cL_law 245 = .ok (.iconst 2, 1) := by decide +kernel
theorem dL_law_246 : decode cL_law 246 = .ok (.iadd, 1) := by decide +kernel
theorem dL_law_247 : decode cL_law 247 = .ok (.iaload, 1) := by decide +kernel
theorem dL_law_248 : decode cL_law 248 = .ok (.aload_n 0, 1) := by decide +kernel
theorem dL_law_249 : decode cL_law 249 = .ok (.iload 4, 2) := by decide +kernel
theorem dL_law_251 : decode cL_law 251 = .ok (.iconst 3, 1) := by decide +kernel
theorem dL_law_252 : decode cL_law 252 = .ok (.iadd, 1) := by decide +kernel
theorem dL_law_253 : decode cL_law 253 = .ok (.iaload, 1) := by decide +kernel
theorem dL_law_254 : decode cL_law 254 = .ok (.aload_n 0, 1) := by decide +kernel
theorem dL_law_255 : decode cL_law 255 = .ok (.iload 4, 2) := by decide +kernel
theorem dL_law_257 : decode cL_law 257 = .ok (.iconst 4, 1) := by decide +kernel
theorem dL_law_258 : decode cL_law 258 = .ok (.iadd, 1) := by decide +kernel
theorem dL_law_259 : decode cL_law 259 = .ok (.iaload, 1) := by decide +kernel
theorem dL_law_260 : decode cL_law 260 = .ok (.invokevirtual 85, 3) := by decide +kernel
theorem dL_law_263 : decode cL_law 263 = .ok (.istore 6, 2) := by decide +kernel
theorem dL_law_265 : decode cL_law 265 = .ok (.aload_n 2, 1) := by decide +kernel
theorem dL_law_266 : decode cL_law 266 = .ok (.invokevirtual 78, 3) := by decide +kernel
theorem dL_law_269 : decode cL_law 269 = .ok (.iload 5, 2) := by decide +kernel
theorem dL_law_271 : decode cL_law 271 = .ok (.if_icmp .eq 5, 3) := by decide +kernel
theorem dL_law_274 : decode cL_law 274 = .ok (.iconst 0, 1) := by decide +kernel
theorem dL_law_275 : decode cL_law 275 = .ok (.ireturn, 1) := by decide +kernel
theorem dL_law_276 : decode cL_law 276 = .ok (.iload 5, 2) := by decide +kernel
theorem dL_law_278 : decode cL_law 278 = .ok (.ifCond .ne 15, 3) := by decide +kernel
theorem dL_law_281 : decode cL_law 281 = .ok (.aload_n 3, 1) := by decide +kernel
theorem dL_law_282 : decode cL_law 282 = .ok (.iconst 0, 1) := by decide +kernel
theorem dL_law_283 : decode cL_law 283 = .ok (.laload, 1) := by decide +kernel
theorem dL_law_284 : decode cL_law 284 = .ok (.iload 6, 2) := by decide +kernel
theorem dL_law_286 : decode cL_law 286 = .ok (.i2l, 1) := by decide +kernel
theorem dL_law_287 : decode cL_law 287 = .ok (.lcmp, 1) := by decide +kernel
theorem dL_law_288 : decode cL_law 288 = .ok (.ifCond .eq 5, 3) := by decide +kernel
theorem dL_law_291 : decode cL_law 291 = .ok (.iconst 0, 1) := by decide +kernel
theorem dL_law_292 : decode cL_law 292 = .ok (.ireturn, 1) := by decide +kernel
theorem dL_law_293 : decode cL_law 293 = .ok (.goto 957, 3) := by decide +kernel
theorem dL_law_296 : decode cL_law 296 = .ok (.aload_n 1, 1) := by decide +kernel
theorem dL_law_297 : decode cL_law 297 = .ok (.aload_n 0, 1) := by decide +kernel
theorem dL_law_298 : decode cL_law 298 = .ok (.iload 4, 2) := by decide +kernel
theorem dL_law_300 : decode cL_law 300 = .ok (.iconst 1, 1) := by decide +kernel
theorem dL_law_301 : decode cL_law 301 = .ok (.iadd, 1) := by decide +kernel
theorem dL_law_302 : decode cL_law 302 = .ok (.iaload, 1) := by decide +kernel
theorem dL_law_303 : decode cL_law 303 = .ok (.aload_n 0, 1) := by decide +kernel
theorem dL_law_304 : decode cL_law 304 = .ok (.iload 4, 2) := by decide +kernel
theorem dL_law_306 : decode cL_law 306 = .ok (.iconst 2, 1) := by decide +kernel
theorem dL_law_307 : decode cL_law 307 = .ok (.iadd, 1) := by decide +kernel
theorem dL_law_308 : decode cL_law 308 = .ok (.iaload, 1) := by decide +kernel
theorem dL_law_309 : decode cL_law 309 = .ok (.aload_n 3, 1) := by decide +kernel
theorem dL_law_310 : decode cL_law 310 = .ok (.invokestatic 86, 3) := by decide +kernel
theorem dL_law_313 : decode cL_law 313 = .ok (.istore 5, 2) := by decide +kernel
theorem dL_law_315 : decode cL_law 315 = .ok (.aload_n 2, 1) := by decide +kernel
theorem dL_law_316 : decode cL_law 316 = .ok (.aload_n 0, 1) := by decide +kernel
theorem dL_law_317 : decode cL_law 317 = .ok (.iload 4, 2) := by decide +kernel
theorem dL_law_319 : decode cL_law 319 = .ok (.iconst 1, 1) := by decide +kernel
theorem dL_law_320 : decode cL_law 320 = .ok (.iadd, 1) := by decide +kernel
theorem dL_law_321 : decode cL_law 321 = .ok (.iaload, 1) := by decide +kernel
theorem dL_law_322 : decode cL_law 322 = .ok (.aload_n 0, 1) := by decide +kernel
theorem dL_law_323 : decode cL_law 323 = .ok (.iload 4, 2) := by decide +kernel
theorem dL_law_325 : decode cL_law 325 = .ok (.iconst 2, 1) := by decide +kernel
theorem dL_law_326 : decode cL_law 326 = .ok (.iadd, 1) := by decide +kernel
theorem dL_law_327 : decode cL_law 327 = .ok (.iaload, 1) := by decide +kernel
theorem dL_law_328 : decode cL_law 328 = .ok (.invokevirtual 89, 3) := by decide +kernel
theorem dL_law_331 : decode cL_law 331 = .ok (.istore 6, 2) := by decide +kernel
theorem dL_law_333 : decode cL_law 333 = .ok (.aload_n 2, 1) := by decide +kernel
theorem dL_law_334 : decode cL_law 334 = .ok (.invokevirtual 78, 3) := by decide +kernel
theorem dL_law_337 : decode cL_law 337 = .ok (.iload 5, 2) := by decide +kernel
theorem dL_law_339 : decode cL_law 339 = .ok (.if_icmp .eq 5, 3) := by decide +kernel
theorem dL_law_342 : decode cL_law 342 = .ok (.iconst 0, 1) := by decide +kernel
theorem dL_law_343 : decode cL_law 343 = .ok (.ireturn, 1) := by decide +kernel
theorem dL_law_344 : decode cL_law 344 = .ok (.iload 5, 2) := by decide +kernel
theorem dL_law_346 : decode cL_law 346 = .ok (.ifCond .ne 15, 3) := by decide +kernel
theorem dL_law_349 : decode cL_law 349 = .ok (.aload_n 3, 1) := by decide +kernel
theorem dL_law_350 : decode cL_law 350 = .ok (.iconst 0, 1) := by decide +kernel
theorem dL_law_351 : decode cL_law 351 = .ok (.laload, 1) := by decide +kernel
theorem dL_law_352 : decode cL_law 352 = .ok (.iload 6, 2) := by decide +kernel
theorem dL_law_354 : decode cL_law 354 = .ok (.i2l, 1) := by decide +kernel
theorem dL_law_355 : decode cL_law 355 = .ok (.lcmp, 1) := by decide +kernel
theorem dL_law_356 : decode cL_law 356 = .ok (.ifCond .eq 5, 3) := by decide +kernel
theorem dL_law_359 : decode cL_law 359 = .ok (.iconst 0, 1) := by decide +kernel
theorem dL_law_360 : decode cL_law 360 = .ok (.ireturn, 1) := by decide +kernel
theorem dL_law_361 : decode cL_law 361 = .ok (.goto 889, 3) := by decide +kernel
theorem dL_law_364 : decode cL_law 364 = .ok (.aload_n 1, 1) := by decide +kernel
theorem dL_law_365 : decode cL_law 365 = .ok (.aload_n 0, 1) := by decide +kernel
theorem dL_law_366 : decode cL_law 366 = .ok (.iload 4, 2) := by decide +kernel
theorem dL_law_368 : decode cL_law 368 = .ok (.iconst 1, 1) := by decide +kernel
theorem dL_law_369 : decode cL_law 369 = .ok (.iadd, 1) := by decide +kernel
theorem dL_law_370 : decode cL_law 370 = .ok (.iaload, 1) := by decide +kernel
theorem dL_law_371 : decode cL_law 371 = .ok (.aload_n 0, 1) := by decide +kernel
theorem dL_law_372 : decode cL_law 372 = .ok (.iload 4, 2) := by decide +kernel
theorem dL_law_374 : decode cL_law 374 = .ok (.iconst 2, 1) := by decide +kernel
theorem dL_law_375 : decode cL_law 375 = .ok (.iadd, 1) := by decide +kernel
theorem dL_law_376 : decode cL_law 376 = .ok (.iaload, 1) := by decide +kernel
theorem dL_law_377 : decode cL_law 377 = .ok (.aload_n 3, 1) := by decide +kernel
theorem dL_law_378 : decode cL_law 378 = .ok (.invokestatic 90, 3) := by decide +kernel
theorem dL_law_381 : decode cL_law 381 = .ok (.istore 5, 2) := by decide +kernel
theorem dL_law_383 : decode cL_law 383 = .ok (.aload_n 2, 1) := by decide +kernel
theorem dL_law_384 : decode cL_law 384 = .ok (.aload_n 0, 1) := by decide +kernel
theorem dL_law_385 : decode cL_law 385 = .ok (.iload 4, 2) := by decide +kernel
theorem dL_law_387 : decode cL_law 387 = .ok (.iconst 1, 1) := by decide +kernel
theorem dL_law_388 : decode cL_law 388 = .ok (.iadd, 1) := by decide +kernel
theorem dL_law_389 : decode cL_law 389 = .ok (.iaload, 1) := by decide +kernel
theorem dL_law_390 : decode cL_law 390 = .ok (.aload_n 0, 1) := by decide +kernel
theorem dL_law_391 : decode cL_law 391 = .ok (.iload 4, 2) := by decide +kernel
theorem dL_law_393 : decode cL_law 393 = .ok (.iconst 2, 1) := by decide +kernel
theorem dL_law_394 : decode cL_law 394 = .ok (.iadd, 1) := by decide +kernel
theorem dL_law_395 : decode cL_law 395 = .ok (.iaload, 1) := by decide +kernel
theorem dL_law_396 : decode cL_law 396 = .ok (.invokevirtual 92, 3) := by decide +kernel
theorem dL_law_399 : decode cL_law 399 = .ok (.istore 6, 2) := by decide +kernel
theorem dL_law_401 : decode cL_law 401 = .ok (.aload_n 2, 1) := by decide +kernel
theorem dL_law_402 : decode cL_law 402 = .ok (.invokevirtual 78, 3) := by decide +kernel
theorem dL_law_405 : decode cL_law 405 = .ok (.iload 5, 2) := by decide +kernel
theorem dL_law_407 : decode cL_law 407 = .ok (.if_icmp .eq 5, 3) := by decide +kernel
theorem dL_law_410 : decode cL_law 410 = .ok (.iconst 0, 1) := by decide +kernel
theorem dL_law_411 : decode cL_law 411 = .ok (.ireturn, 1) := by decide +kernel
theorem dL_law_412 : decode cL_law 412 = .ok (.iload 5, 2) := by decide +kernel
theorem dL_law_414 : decode cL_law 414 = .ok (.ifCond .ne 15, 3) := by decide +kernel
theorem dL_law_417 : decode cL_law 417 = .ok (.aload_n 3, 1) := by decide +kernel
theorem dL_law_418 : decode cL_law 418 = .ok (.iconst 0, 1) := by decide +kernel
theorem dL_law_419 : decode cL_law 419 = .ok (.laload, 1) := by decide +kernel
theorem dL_law_420 : decode cL_law 420 = .ok (.iload 6, 2) := by decide +kernel
theorem dL_law_422 : decode cL_law 422 = .ok (.i2l, 1) := by decide +kernel
theorem dL_law_423 : decode cL_law 423 = .ok (.lcmp, 1) := by decide +kernel
theorem dL_law_424 : decode cL_law 424 = .ok (.ifCond .eq 5, 3) := by decide +kernel
theorem dL_law_427 : decode cL_law 427 = .ok (.iconst 0, 1) := by decide +kernel
theorem dL_law_428 : decode cL_law 428 = .ok (.ireturn, 1) := by decide +kernel
theorem dL_law_429 : decode cL_law 429 = .ok (.goto 821, 3) := by decide +kernel
theorem dL_law_432 : decode cL_law 432 = .ok (.aload_n 1, 1) := by decide +kernel
theorem dL_law_433 : decode cL_law 433 = .ok (.aload_n 0, 1) := by decide +kernel
theorem dL_law_434 : decode cL_law 434 = .ok (.iload 4, 2) := by decide +kernel
theorem dL_law_436 : decode cL_law 436 = .ok (.iconst 1, 1) := by decide +kernel
theorem dL_law_437 : decode cL_law 437 = .ok (.iadd, 1) := by decide +kernel
theorem dL_law_438 : decode cL_law 438 = .ok (.iaload, 1) := by decide +kernel
theorem dL_law_439 : decode cL_law 439 = .ok (.aload_n 0, 1) := by decide +kernel
theorem dL_law_440 : decode cL_law 440 = .ok (.iload 4, 2) := by decide +kernel
theorem dL_law_442 : decode cL_law 442 = .ok (.iconst 2, 1) := by decide +kernel
theorem dL_law_443 : decode cL_law 443 = .ok (.iadd, 1) := by decide +kernel
theorem dL_law_444 : decode cL_law 444 = .ok (.iaload, 1) := by decide +kernel
theorem dL_law_445 : decode cL_law 445 = .ok (.aload_n 3, 1) := by decide +kernel
theorem dL_law_446 : decode cL_law 446 = .ok (.invokestatic 93, 3) := by decide +kernel
theorem dL_law_449 : decode cL_law 449 = .ok (.istore 5, 2) := by decide +kernel
theorem dL_law_451 : decode cL_law 451 = .ok (.aload_n 2, 1) := by decide +kernel
theorem dL_law_452 : decode cL_law 452 = .ok (.aload_n 0, 1) := by decide +kernel
theorem dL_law_453 : decode cL_law 453 = .ok (.iload 4, 2) := by decide +kernel
theorem dL_law_455 : decode cL_law 455 = .ok (.iconst 1, 1) := by decide +kernel
theorem dL_law_456 : decode cL_law 456 = .ok (.iadd, 1) := by decide +kernel
theorem dL_law_457 : decode cL_law 457 = .ok (.iaload, 1) := by decide +kernel
theorem dL_law_458 : decode cL_law 458 = .ok (.aload_n 0, 1) := by decide +kernel
theorem dL_law_459 : decode cL_law 459 = .ok (.iload 4, 2) := by decide +kernel
theorem dL_law_461 : decode cL_law 461 = .ok (.iconst 2, 1) := by decide +kernel
theorem dL_law_462 : decode cL_law 462 = .ok (.iadd, 1) := by decide +kernel
theorem dL_law_463 : decode cL_law 463 = .ok (.iaload, 1) := by decide +kernel
theorem dL_law_464 : decode cL_law 464 = .ok (.invokevirtual 95, 3) := by decide +kernel
theorem dL_law_467 : decode cL_law 467 = .ok (.istore 6, 2) := by decide +kernel
theorem dL_law_469 : decode cL_law 469 = .ok (.aload_n 2, 1) := by decide +kernel
theorem dL_law_470 : decode cL_law 470 = .ok (.invokevirtual 78, 3) := by decide +kernel
theorem dL_law_473 : decode cL_law 473 = .ok (.iload 5, 2) := by decide +kernel
theorem dL_law_475 : decode cL_law 475 = .ok (.if_icmp .eq 5, 3) := by decide +kernel
theorem dL_law_478 : decode cL_law 478 = .ok (.iconst 0, 1) := by decide +kernel
theorem dL_law_479 : decode cL_law 479 = .ok (.ireturn, 1) := by decide +kernel
theorem dL_law_480 : decode cL_law 480 = .ok (.iload 5, 2) := by decide +kernel
theorem dL_law_482 : decode cL_law 482 = .ok (.ifCond .ne 15, 3) := by decide +kernel
theorem dL_law_485 : decode cL_law 485 = .ok (.aload_n 3, 1) := by decide +kernel
theorem dL_law_486 : decode cL_law 486 = .ok (.iconst 0, 1) := by decide +kernel
theorem dL_law_487 : decode cL_law 487 = .ok (.laload, 1) := by decide +kernel
theorem dL_law_488 : decode cL_law 488 = .ok (.iload 6, 2) := by decide +kernel
theorem dL_law_490 : decode cL_law 490 = .ok (.i2l, 1) := by decide +kernel
theorem dL_law_491 : decode cL_law 491 = .ok (.lcmp, 1) := by decide +kernel
theorem dL_law_492 : decode cL_law 492 = .ok (.ifCond .eq 5, 3) := by decide +kernel
theorem dL_law_495 : decode cL_law 495 = .ok (.iconst 0, 1) := by decide +kernel
theorem dL_law_496 : decode cL_law 496 = .ok (.ireturn, 1) := by decide +kernel
theorem dL_law_497 : decode cL_law 497 = .ok (.goto 753, 3) := by decide +kernel
theorem dL_law_500 : decode cL_law 500 = .ok (.aload_n 1, 1) := by decide +kernel
theorem dL_law_501 : decode cL_law 501 = .ok (.aload_n 0, 1) := by decide +kernel
theorem dL_law_502 : decode cL_law 502 = .ok (.iload 4, 2) := by decide +kernel
theorem dL_law_504 : decode cL_law 504 = .ok (.iconst 1, 1) := by decide +kernel
theorem dL_law_505 : decode cL_law 505 = .ok (.iadd, 1) := by decide +kernel
theorem dL_law_506 : decode cL_law 506 = .ok (.iaload, 1) := by decide +kernel
theorem dL_law_507 : decode cL_law 507 = .ok (.aload_n 0, 1) := by decide +kernel
theorem dL_law_508 : decode cL_law 508 = .ok (.iload 4, 2) := by decide +kernel
theorem dL_law_510 : decode cL_law 510 = .ok (.iconst 2, 1) := by decide +kernel
theorem dL_law_511 : decode cL_law 511 = .ok (.iadd, 1) := by decide +kernel
theorem dL_law_512 : decode cL_law 512 = .ok (.iaload, 1) := by decide +kernel
theorem dL_law_513 : decode cL_law 513 = .ok (.aload_n 3, 1) := by decide +kernel
theorem dL_law_514 : decode cL_law 514 = .ok (.invokestatic 96, 3) := by decide +kernel
theorem dL_law_517 : decode cL_law 517 = .ok (.istore 5, 2) := by decide +kernel
theorem dL_law_519 : decode cL_law 519 = .ok (.aload_n 2, 1) := by decide +kernel
theorem dL_law_520 : decode cL_law 520 = .ok (.aload_n 0, 1) := by decide +kernel
theorem dL_law_521 : decode cL_law 521 = .ok (.iload 4, 2) := by decide +kernel
theorem dL_law_523 : decode cL_law 523 = .ok (.iconst 1, 1) := by decide +kernel
theorem dL_law_524 : decode cL_law 524 = .ok (.iadd, 1) := by decide +kernel
theorem dL_law_525 : decode cL_law 525 = .ok (.iaload, 1) := by decide +kernel
theorem dL_law_526 : decode cL_law 526 = .ok (.aload_n 0, 1) := by decide +kernel
theorem dL_law_527 : decode cL_law 527 = .ok (.iload 4, 2) := by decide +kernel
theorem dL_law_529 : decode cL_law 529 = .ok (.iconst 2, 1) := by decide +kernel
theorem dL_law_530 : decode cL_law 530 = .ok (.iadd, 1) := by decide +kernel
theorem dL_law_531 : decode cL_law 531 = .ok (.iaload, 1) := by decide +kernel
theorem dL_law_532 : decode cL_law 532 = .ok (.invokevirtual 98, 3) := by decide +kernel
theorem dL_law_535 : decode cL_law 535 = .ok (.istore 6, 2) := by decide +kernel
theorem dL_law_537 : decode cL_law 537 = .ok (.aload_n 2, 1) := by decide +kernel
theorem dL_law_538 : decode cL_law 538 = .ok (.invokevirtual 78, 3) := by decide +kernel
theorem dL_law_541 : decode cL_law 541 = .ok (.iload 5, 2) := by decide +kernel
theorem dL_law_543 : decode cL_law 543 = .ok (.if_icmp .eq 5, 3) := by decide +kernel
theorem dL_law_546 : decode cL_law 546 = .ok (.iconst 0, 1) := by decide +kernel
theorem dL_law_547 : decode cL_law 547 = .ok (.ireturn, 1) := by decide +kernel
theorem dL_law_548 : decode cL_law 548 = .ok (.iload 5, 2) := by decide +kernel
theorem dL_law_550 : decode cL_law 550 = .ok (.ifCond .ne 22, 3) := by decide +kernel
theorem dL_law_553 : decode cL_law 553 = .ok (.aload_n 3, 1) := by decide +kernel
theorem dL_law_554 : decode cL_law 554 = .ok (.iconst 0, 1) := by decide +kernel
theorem dL_law_555 : decode cL_law 555 = .ok (.laload, 1) := by decide +kernel
theorem dL_law_556 : decode cL_law 556 = .ok (.iload 6, 2) := by decide +kernel
theorem dL_law_558 : decode cL_law 558 = .ok (.ifCond .eq 7, 3) := by decide +kernel
theorem dL_law_561 : decode cL_law 561 = .ok (.lconst 1, 1) := by decide +kernel
theorem dL_law_562 : decode cL_law 562 = .ok (.goto 4, 3) := by decide +kernel
theorem dL_law_565 : decode cL_law 565 = .ok (.lconst 0, 1) := by decide +kernel
theorem dL_law_566 : decode cL_law 566 = .ok (.lcmp, 1) := by decide +kernel
theorem dL_law_567 : decode cL_law 567 = .ok (.ifCond .eq 5, 3) := by decide +kernel
theorem dL_law_570 : decode cL_law 570 = .ok (.iconst 0, 1) := by decide +kernel
theorem dL_law_571 : decode cL_law 571 = .ok (.ireturn, 1) := by decide +kernel
theorem dL_law_572 : decode cL_law 572 = .ok (.goto 678, 3) := by decide +kernel
theorem dL_law_575 : decode cL_law 575 = .ok (.aload_n 1, 1) := by decide +kernel
theorem dL_law_576 : decode cL_law 576 = .ok (.aload_n 0, 1) := by decide +kernel
theorem dL_law_577 : decode cL_law 577 = .ok (.iload 4, 2) := by decide +kernel
theorem dL_law_579 : decode cL_law 579 = .ok (.iconst 1, 1) := by decide +kernel
theorem dL_law_580 : decode cL_law 580 = .ok (.iadd, 1) := by decide +kernel
theorem dL_law_581 : decode cL_law 581 = .ok (.iaload, 1) := by decide +kernel
theorem dL_law_582 : decode cL_law 582 = .ok (.aload_n 0, 1) := by decide +kernel
theorem dL_law_583 : decode cL_law 583 = .ok (.iload 4, 2) := by decide +kernel
theorem dL_law_585 : decode cL_law 585 = .ok (.iconst 2, 1) := by decide +kernel
theorem dL_law_586 : decode cL_law 586 = .ok (.iadd, 1) := by decide +kernel
theorem dL_law_587 : decode cL_law 587 = .ok (.iaload, 1) := by decide +kernel
theorem dL_law_588 : decode cL_law 588 = .ok (.aload_n 3, 1) := by decide +kernel
theorem dL_law_589 : decode cL_law 589 = .ok (.invokestatic 99, 3) := by decide +kernel
theorem dL_law_592 : decode cL_law 592 = .ok (.istore 5, 2) := by decide +kernel
theorem dL_law_594 : decode cL_law 594 = .ok (.aload_n 2, 1) := by decide +kernel
theorem dL_law_595 : decode cL_law 595 = .ok (.aload_n 0, 1) := by decide +kernel
theorem dL_law_596 : decode cL_law 596 = .ok (.iload 4, 2) := by decide +kernel
theorem dL_law_598 : decode cL_law 598 = .ok (.iconst 1, 1) := by decide +kernel
theorem dL_law_599 : decode cL_law 599 = .ok (.iadd, 1) := by decide +kernel
theorem dL_law_600 : decode cL_law 600 = .ok (.iaload, 1) := by decide +kernel
theorem dL_law_601 : decode cL_law 601 = .ok (.aload_n 0, 1) := by decide +kernel
theorem dL_law_602 : decode cL_law 602 = .ok (.iload 4, 2) := by decide +kernel
theorem dL_law_604 : decode cL_law 604 = .ok (.iconst 2, 1) := by decide +kernel
theorem dL_law_605 : decode cL_law 605 = .ok (.iadd, 1) := by decide +kernel
theorem dL_law_606 : decode cL_law 606 = .ok (.iaload, 1) := by decide +kernel
theorem dL_law_607 : decode cL_law 607 = .ok (.invokevirtual 101, 3) := by decide +kernel
theorem dL_law_610 : decode cL_law 610 = .ok (.istore 6, 2) := by decide +kernel
theorem dL_law_612 : decode cL_law 612 = .ok (.aload_n 2, 1) := by decide +kernel
theorem dL_law_613 : decode cL_law 613 = .ok (.invokevirtual 78, 3) := by decide +kernel
theorem dL_law_616 : decode cL_law 616 = .ok (.iload 5, 2) := by decide +kernel
theorem dL_law_618 : decode cL_law 618 = .ok (.if_icmp .eq 5, 3) := by decide +kernel
theorem dL_law_621 : decode cL_law 621 = .ok (.iconst 0, 1) := by decide +kernel
theorem dL_law_622 : decode cL_law 622 = .ok (.ireturn, 1) := by decide +kernel
theorem dL_law_623 : decode cL_law 623 = .ok (.iload 5, 2) := by decide +kernel
theorem dL_law_625 : decode cL_law 625 = .ok (.ifCond .ne 15, 3) := by decide +kernel
theorem dL_law_628 : decode cL_law 628 = .ok (.aload_n 3, 1) := by decide +kernel
theorem dL_law_629 : decode cL_law 629 = .ok (.iconst 0, 1) := by decide +kernel
theorem dL_law_630 : decode cL_law 630 = .ok (.laload, 1) := by decide +kernel
theorem dL_law_631 : decode cL_law 631 = .ok (.iload 6, 2) := by decide +kernel
theorem dL_law_633 : decode cL_law 633 = .ok (.i2l, 1) := by decide +kernel
theorem dL_law_634 : decode cL_law 634 = .ok (.lcmp, 1) := by decide +kernel
theorem dL_law_635 : decode cL_law 635 = .ok (.ifCond .eq 5, 3) := by decide +kernel
theorem dL_law_638 : decode cL_law 638 = .ok (.iconst 0, 1) := by decide +kernel
theorem dL_law_639 : decode cL_law 639 = .ok (.ireturn, 1) := by decide +kernel
theorem dL_law_640 : decode cL_law 640 = .ok (.goto 610, 3) := by decide +kernel
theorem dL_law_643 : decode cL_law 643 = .ok (.aload_n 1, 1) := by decide +kernel
theorem dL_law_644 : decode cL_law 644 = .ok (.aload_n 0, 1) := by decide +kernel
theorem dL_law_645 : decode cL_law 645 = .ok (.iload 4, 2) := by decide +kernel
theorem dL_law_647 : decode cL_law 647 = .ok (.iconst 1, 1) := by decide +kernel
theorem dL_law_648 : decode cL_law 648 = .ok (.iadd, 1) := by decide +kernel
theorem dL_law_649 : decode cL_law 649 = .ok (.iaload, 1) := by decide +kernel
theorem dL_law_650 : decode cL_law 650 = .ok (.aload_n 0, 1) := by decide +kernel
theorem dL_law_651 : decode cL_law 651 = .ok (.iload 4, 2) := by decide +kernel
theorem dL_law_653 : decode cL_law 653 = .ok (.iconst 2, 1) := by decide +kernel
theorem dL_law_654 : decode cL_law 654 = .ok (.iadd, 1) := by decide +kernel
theorem dL_law_655 : decode cL_law 655 = .ok (.iaload, 1) := by decide +kernel
theorem dL_law_656 : decode cL_law 656 = .ok (.aload_n 3, 1) := by decide +kernel
theorem dL_law_657 : decode cL_law 657 = .ok (.invokestatic 102, 3) := by decide +kernel
theorem dL_law_660 : decode cL_law 660 = .ok (.istore 5, 2) := by decide +kernel
theorem dL_law_662 : decode cL_law 662 = .ok (.aload_n 2, 1) := by decide +kernel
theorem dL_law_663 : decode cL_law 663 = .ok (.aload_n 0, 1) := by decide +kernel
theorem dL_law_664 : decode cL_law 664 = .ok (.iload 4, 2) := by decide +kernel
theorem dL_law_666 : decode cL_law 666 = .ok (.iconst 1, 1) := by decide +kernel
theorem dL_law_667 : decode cL_law 667 = .ok (.iadd, 1) := by decide +kernel
theorem dL_law_668 : decode cL_law 668 = .ok (.iaload, 1) := by decide +kernel
theorem dL_law_669 : decode cL_law 669 = .ok (.aload_n 0, 1) := by decide +kernel
theorem dL_law_670 : decode cL_law 670 = .ok (.iload 4, 2) := by decide +kernel
theorem dL_law_672 : decode cL_law 672 = .ok (.iconst 2, 1) := by decide +kernel
theorem dL_law_673 : decode cL_law 673 = .ok (.iadd, 1) := by decide +kernel
theorem dL_law_674 : decode cL_law 674 = .ok (.iaload, 1) := by decide +kernel
theorem dL_law_675 : decode cL_law 675 = .ok (.invokevirtual 104, 3) := by decide +kernel
theorem dL_law_678 : decode cL_law 678 = .ok (.istore 6, 2) := by decide +kernel
theorem dL_law_680 : decode cL_law 680 = .ok (.aload_n 2, 1) := by decide +kernel
theorem dL_law_681 : decode cL_law 681 = .ok (.invokevirtual 78, 3) := by decide +kernel
theorem dL_law_684 : decode cL_law 684 = .ok (.iload 5, 2) := by decide +kernel
theorem dL_law_686 : decode cL_law 686 = .ok (.if_icmp .eq 5, 3) := by decide +kernel
theorem dL_law_689 : decode cL_law 689 = .ok (.iconst 0, 1) := by decide +kernel
theorem dL_law_690 : decode cL_law 690 = .ok (.ireturn, 1) := by decide +kernel
theorem dL_law_691 : decode cL_law 691 = .ok (.iload 5, 2) := by decide +kernel
theorem dL_law_693 : decode cL_law 693 = .ok (.ifCond .ne 15, 3) := by decide +kernel
theorem dL_law_696 : decode cL_law 696 = .ok (.aload_n 3, 1) := by decide +kernel
theorem dL_law_697 : decode cL_law 697 = .ok (.iconst 0, 1) := by decide +kernel
theorem dL_law_698 : decode cL_law 698 = .ok (.laload, 1) := by decide +kernel
theorem dL_law_699 : decode cL_law 699 = .ok (.iload 6, 2) := by decide +kernel
theorem dL_law_701 : decode cL_law 701 = .ok (.i2l, 1) := by decide +kernel
theorem dL_law_702 : decode cL_law 702 = .ok (.lcmp, 1) := by decide +kernel
theorem dL_law_703 : decode cL_law 703 = .ok (.ifCond .eq 5, 3) := by decide +kernel
theorem dL_law_706 : decode cL_law 706 = .ok (.iconst 0, 1) := by decide +kernel
theorem dL_law_707 : decode cL_law 707 = .ok (.ireturn, 1) := by decide +kernel
theorem dL_law_708 : decode cL_law 708 = .ok (.goto 542, 3) := by decide +kernel
theorem dL_law_711 : decode cL_law 711 = .ok (.aload_n 1, 1) := by decide +kernel
theorem dL_law_712 : decode cL_law 712 = .ok (.aload_n 0, 1) := by decide +kernel
theorem dL_law_713 : decode cL_law 713 = .ok (.iload 4, 2) := by decide +kernel
theorem dL_law_715 : decode cL_law 715 = .ok (.iconst 1, 1) := by decide +kernel
theorem dL_law_716 : decode cL_law 716 = .ok (.iadd, 1) := by decide +kernel
theorem dL_law_717 : decode cL_law 717 = .ok (.iaload, 1) := by decide +kernel
theorem dL_law_718 : decode cL_law 718 = .ok (.aload_n 0, 1) := by decide +kernel
theorem dL_law_719 : decode cL_law 719 = .ok (.iload 4, 2) := by decide +kernel
theorem dL_law_721 : decode cL_law 721 = .ok (.iconst 2, 1) := by decide +kernel
theorem dL_law_722 : decode cL_law 722 = .ok (.iadd, 1) := by decide +kernel
theorem dL_law_723 : decode cL_law 723 = .ok (.iaload, 1) := by decide +kernel
theorem dL_law_724 : decode cL_law 724 = .ok (.aload_n 3, 1) := by decide +kernel
theorem dL_law_725 : decode cL_law 725 = .ok (.invokestatic 105, 3) := by decide +kernel
theorem dL_law_728 : decode cL_law 728 = .ok (.istore 5, 2) := by decide +kernel
theorem dL_law_730 : decode cL_law 730 = .ok (.aload_n 2, 1) := by decide +kernel
theorem dL_law_731 : decode cL_law 731 = .ok (.aload_n 0, 1) := by decide +kernel
theorem dL_law_732 : decode cL_law 732 = .ok (.iload 4, 2) := by decide +kernel
theorem dL_law_734 : decode cL_law 734 = .ok (.iconst 1, 1) := by decide +kernel
theorem dL_law_735 : decode cL_law 735 = .ok (.iadd, 1) := by decide +kernel
theorem dL_law_736 : decode cL_law 736 = .ok (.iaload, 1) := by decide +kernel
theorem dL_law_737 : decode cL_law 737 = .ok (.aload_n 0, 1) := by decide +kernel
theorem dL_law_738 : decode cL_law 738 = .ok (.iload 4, 2) := by decide +kernel
theorem dL_law_740 : decode cL_law 740 = .ok (.iconst 2, 1) := by decide +kernel
theorem dL_law_741 : decode cL_law 741 = .ok (.iadd, 1) := by decide +kernel
theorem dL_law_742 : decode cL_law 742 = .ok (.iaload, 1) := by decide +kernel
theorem dL_law_743 : decode cL_law 743 = .ok (.invokevirtual 107, 3) := by decide +kernel
theorem dL_law_746 : decode cL_law 746 = .ok (.istore 6, 2) := by decide +kernel
theorem dL_law_748 : decode cL_law 748 = .ok (.aload_n 2, 1) := by decide +kernel
theorem dL_law_749 : decode cL_law 749 = .ok (.invokevirtual 78, 3) := by decide +kernel
theorem dL_law_752 : decode cL_law 752 = .ok (.iload 5, 2) := by decide +kernel
theorem dL_law_754 : decode cL_law 754 = .ok (.if_icmp .eq 5, 3) := by decide +kernel
theorem dL_law_757 : decode cL_law 757 = .ok (.iconst 0, 1) := by decide +kernel
theorem dL_law_758 : decode cL_law 758 = .ok (.ireturn, 1) := by decide +kernel
theorem dL_law_759 : decode cL_law 759 = .ok (.iload 5, 2) := by decide +kernel
theorem dL_law_761 : decode cL_law 761 = .ok (.ifCond .ne 15, 3) := by decide +kernel
theorem dL_law_764 : decode cL_law 764 = .ok (.aload_n 3, 1) := by decide +kernel
theorem dL_law_765 : decode cL_law 765 = .ok (.iconst 0, 1) := by decide +kernel
theorem dL_law_766 : decode cL_law 766 = .ok (.laload, 1) := by decide +kernel
theorem dL_law_767 : decode cL_law 767 = .ok (.iload 6, 2) := by decide +kernel
theorem dL_law_769 : decode cL_law 769 = .ok (.i2l, 1) := by decide +kernel
theorem dL_law_770 : decode cL_law 770 = .ok (.lcmp, 1) := by decide +kernel
theorem dL_law_771 : decode cL_law 771 = .ok (.ifCond .eq 5, 3) := by decide +kernel
theorem dL_law_774 : decode cL_law 774 = .ok (.iconst 0, 1) := by decide +kernel
theorem dL_law_775 : decode cL_law 775 = .ok (.ireturn, 1) := by decide +kernel
theorem dL_law_776 : decode cL_law 776 = .ok (.goto 474, 3) := by decide +kernel
theorem dL_law_779 : decode cL_law 779 = .ok (.aload_n 1, 1) := by decide +kernel
theorem dL_law_780 : decode cL_law 780 = .ok (.aload_n 0, 1) := by decide +kernel
theorem dL_law_781 : decode cL_law 781 = .ok (.iload 4, 2) := by decide +kernel
theorem dL_law_783 : decode cL_law 783 = .ok (.iconst 1, 1) := by decide +kernel
theorem dL_law_784 : decode cL_law 784 = .ok (.iadd, 1) := by decide +kernel
theorem dL_law_785 : decode cL_law 785 = .ok (.iaload, 1) := by decide +kernel
theorem dL_law_786 : decode cL_law 786 = .ok (.aload_n 3, 1) := by decide +kernel
theorem dL_law_787 : decode cL_law 787 = .ok (.invokestatic 108, 3) := by decide +kernel
theorem dL_law_790 : decode cL_law 790 = .ok (.istore 5, 2) := by decide +kernel
theorem dL_law_792 : decode cL_law 792 = .ok (.aload_n 2, 1) := by decide +kernel
theorem dL_law_793 : decode cL_law 793 = .ok (.aload_n 0, 1) := by decide +kernel
theorem dL_law_794 : decode cL_law 794 = .ok (.iload 4, 2) := by decide +kernel
theorem dL_law_796 : decode cL_law 796 = .ok (.iconst 1, 1) := by decide +kernel
theorem dL_law_797 : decode cL_law 797 = .ok (.iadd, 1) := by decide +kernel
theorem dL_law_798 : decode cL_law 798 = .ok (.iaload, 1) := by decide +kernel
theorem dL_law_799 : decode cL_law 799 = .ok (.invokevirtual 111, 3) := by decide +kernel
theorem dL_law_802 : decode cL_law 802 = .ok (.istore 6, 2) := by decide +kernel
theorem dL_law_804 : decode cL_law 804 = .ok (.aload_n 2, 1) := by decide +kernel
theorem dL_law_805 : decode cL_law 805 = .ok (.invokevirtual 78, 3) := by decide +kernel
theorem dL_law_808 : decode cL_law 808 = .ok (.iload 5, 2) := by decide +kernel
theorem dL_law_810 : decode cL_law 810 = .ok (.if_icmp .eq 5, 3) := by decide +kernel
theorem dL_law_813 : decode cL_law 813 = .ok (.iconst 0, 1) := by decide +kernel
theorem dL_law_814 : decode cL_law 814 = .ok (.ireturn, 1) := by decide +kernel
theorem dL_law_815 : decode cL_law 815 = .ok (.iload 5, 2) := by decide +kernel
theorem dL_law_817 : decode cL_law 817 = .ok (.ifCond .ne 15, 3) := by decide +kernel
theorem dL_law_820 : decode cL_law 820 = .ok (.aload_n 3, 1) := by decide +kernel
theorem dL_law_821 : decode cL_law 821 = .ok (.iconst 0, 1) := by decide +kernel
theorem dL_law_822 : decode cL_law 822 = .ok (.laload, 1) := by decide +kernel
theorem dL_law_823 : decode cL_law 823 = .ok (.iload 6, 2) := by decide +kernel
theorem dL_law_825 : decode cL_law 825 = .ok (.i2l, 1) := by decide +kernel
theorem dL_law_826 : decode cL_law 826 = .ok (.lcmp, 1) := by decide +kernel
theorem dL_law_827 : decode cL_law 827 = .ok (.ifCond .eq 5, 3) := by decide +kernel
theorem dL_law_830 : decode cL_law 830 = .ok (.iconst 0, 1) := by decide +kernel
theorem dL_law_831 : decode cL_law 831 = .ok (.ireturn, 1) := by decide +kernel
theorem dL_law_832 : decode cL_law 832 = .ok (.goto 418, 3) := by decide +kernel
theorem dL_law_835 : decode cL_law 835 = .ok (.aload_n 1, 1) := by decide +kernel
theorem dL_law_836 : decode cL_law 836 = .ok (.aload_n 0, 1) := by decide +kernel
theorem dL_law_837 : decode cL_law 837 = .ok (.iload 4, 2) := by decide +kernel
theorem dL_law_839 : decode cL_law 839 = .ok (.iconst 1, 1) := by decide +kernel
theorem dL_law_840 : decode cL_law 840 = .ok (.iadd, 1) := by decide +kernel
theorem dL_law_841 : decode cL_law 841 = .ok (.iaload, 1) := by decide +kernel
theorem dL_law_842 : decode cL_law 842 = .ok (.aload_n 3, 1) := by decide +kernel
theorem dL_law_843 : decode cL_law 843 = .ok (.invokestatic 112, 3) := by decide +kernel
theorem dL_law_846 : decode cL_law 846 = .ok (.istore 5, 2) := by decide +kernel
theorem dL_law_848 : decode cL_law 848 = .ok (.aload_n 2, 1) := by decide +kernel
theorem dL_law_849 : decode cL_law 849 = .ok (.aload_n 0, 1) := by decide +kernel
theorem dL_law_850 : decode cL_law 850 = .ok (.iload 4, 2) := by decide +kernel
theorem dL_law_852 : decode cL_law 852 = .ok (.iconst 1, 1) := by decide +kernel
theorem dL_law_853 : decode cL_law 853 = .ok (.iadd, 1) := by decide +kernel
theorem dL_law_854 : decode cL_law 854 = .ok (.iaload, 1) := by decide +kernel
theorem dL_law_855 : decode cL_law 855 = .ok (.invokevirtual 114, 3) := by decide +kernel
theorem dL_law_858 : decode cL_law 858 = .ok (.istore 6, 2) := by decide +kernel
theorem dL_law_860 : decode cL_law 860 = .ok (.aload_n 2, 1) := by decide +kernel
theorem dL_law_861 : decode cL_law 861 = .ok (.invokevirtual 78, 3) := by decide +kernel
theorem dL_law_864 : decode cL_law 864 = .ok (.iload 5, 2) := by decide +kernel
theorem dL_law_866 : decode cL_law 866 = .ok (.if_icmp .eq 5, 3) := by decide +kernel
theorem dL_law_869 : decode cL_law 869 = .ok (.iconst 0, 1) := by decide +kernel
theorem dL_law_870 : decode cL_law 870 = .ok (.ireturn, 1) := by decide +kernel
theorem dL_law_871 : decode cL_law 871 = .ok (.iload 5, 2) := by decide +kernel
theorem dL_law_873 : decode cL_law 873 = .ok (.ifCond .ne 15, 3) := by decide +kernel
theorem dL_law_876 : decode cL_law 876 = .ok (.aload_n 3, 1) := by decide +kernel
theorem dL_law_877 : decode cL_law 877 = .ok (.iconst 0, 1) := by decide +kernel
theorem dL_law_878 : decode cL_law 878 = .ok (.laload, 1) := by decide +kernel
theorem dL_law_879 : decode cL_law 879 = .ok (.iload 6, 2) := by decide +kernel
theorem dL_law_881 : decode cL_law 881 = .ok (.i2l, 1) := by decide +kernel
theorem dL_law_882 : decode cL_law 882 = .ok (.lcmp, 1) := by decide +kernel
theorem dL_law_883 : decode cL_law 883 = .ok (.ifCond .eq 5, 3) := by decide +kernel
theorem dL_law_886 : decode cL_law 886 = .ok (.iconst 0, 1) := by decide +kernel
theorem dL_law_887 : decode cL_law 887 = .ok (.ireturn, 1) := by decide +kernel
theorem dL_law_888 : decode cL_law 888 = .ok (.goto 362, 3) := by decide +kernel
theorem dL_law_891 : decode cL_law 891 = .ok (.aload_n 1, 1) := by decide +kernel
theorem dL_law_892 : decode cL_law 892 = .ok (.aload_n 0, 1) := by decide +kernel
theorem dL_law_893 : decode cL_law 893 = .ok (.iload 4, 2) := by decide +kernel
theorem dL_law_895 : decode cL_law 895 = .ok (.iconst 1, 1) := by decide +kernel
theorem dL_law_896 : decode cL_law 896 = .ok (.iadd, 1) := by decide +kernel
theorem dL_law_897 : decode cL_law 897 = .ok (.iaload, 1) := by decide +kernel
theorem dL_law_898 : decode cL_law 898 = .ok (.aload_n 3, 1) := by decide +kernel
theorem dL_law_899 : decode cL_law 899 = .ok (.invokestatic 115, 3) := by decide +kernel
theorem dL_law_902 : decode cL_law 902 = .ok (.istore 5, 2) := by decide +kernel
theorem dL_law_904 : decode cL_law 904 = .ok (.aload_n 2, 1) := by decide +kernel
theorem dL_law_905 : decode cL_law 905 = .ok (.aload_n 0, 1) := by decide +kernel
theorem dL_law_906 : decode cL_law 906 = .ok (.iload 4, 2) := by decide +kernel
theorem dL_law_908 : decode cL_law 908 = .ok (.iconst 1, 1) := by decide +kernel
theorem dL_law_909 : decode cL_law 909 = .ok (.iadd, 1) := by decide +kernel
theorem dL_law_910 : decode cL_law 910 = .ok (.iaload, 1) := by decide +kernel
theorem dL_law_911 : decode cL_law 911 = .ok (.invokevirtual 117, 3) := by decide +kernel
theorem dL_law_914 : decode cL_law 914 = .ok (.istore 6, 2) := by decide +kernel
theorem dL_law_916 : decode cL_law 916 = .ok (.aload_n 2, 1) := by decide +kernel
theorem dL_law_917 : decode cL_law 917 = .ok (.invokevirtual 78, 3) := by decide +kernel
theorem dL_law_920 : decode cL_law 920 = .ok (.iload 5, 2) := by decide +kernel
theorem dL_law_922 : decode cL_law 922 = .ok (.if_icmp .eq 5, 3) := by decide +kernel
theorem dL_law_925 : decode cL_law 925 = .ok (.iconst 0, 1) := by decide +kernel
theorem dL_law_926 : decode cL_law 926 = .ok (.ireturn, 1) := by decide +kernel
theorem dL_law_927 : decode cL_law 927 = .ok (.iload 5, 2) := by decide +kernel
theorem dL_law_929 : decode cL_law 929 = .ok (.ifCond .ne 15, 3) := by decide +kernel
theorem dL_law_932 : decode cL_law 932 = .ok (.aload_n 3, 1) := by decide +kernel
theorem dL_law_933 : decode cL_law 933 = .ok (.iconst 0, 1) := by decide +kernel
theorem dL_law_934 : decode cL_law 934 = .ok (.laload, 1) := by decide +kernel
theorem dL_law_935 : decode cL_law 935 = .ok (.iload 6, 2) := by decide +kernel
theorem dL_law_937 : decode cL_law 937 = .ok (.i2l, 1) := by decide +kernel
theorem dL_law_938 : decode cL_law 938 = .ok (.lcmp, 1) := by decide +kernel
theorem dL_law_939 : decode cL_law 939 = .ok (.ifCond .eq 5, 3) := by decide +kernel
theorem dL_law_942 : decode cL_law 942 = .ok (.iconst 0, 1) := by decide +kernel
theorem dL_law_943 : decode cL_law 943 = .ok (.ireturn, 1) := by decide +kernel
theorem dL_law_944 : decode cL_law 944 = .ok (.goto 306, 3) := by decide +kernel
theorem dL_law_947 : decode cL_law 947 = .ok (.aload_n 1, 1) := by decide +kernel
theorem dL_law_948 : decode cL_law 948 = .ok (.aload_n 0, 1) := by decide +kernel
theorem dL_law_949 : decode cL_law 949 = .ok (.iload 4, 2) := by decide +kernel
theorem dL_law_951 : decode cL_law 951 = .ok (.iconst 1, 1) := by decide +kernel
theorem dL_law_952 : decode cL_law 952 = .ok (.iadd, 1) := by decide +kernel
theorem dL_law_953 : decode cL_law 953 = .ok (.iaload, 1) := by decide +kernel
theorem dL_law_954 : decode cL_law 954 = .ok (.aload_n 3, 1) := by decide +kernel
theorem dL_law_955 : decode cL_law 955 = .ok (.invokestatic 118, 3) := by decide +kernel
theorem dL_law_958 : decode cL_law 958 = .ok (.istore 5, 2) := by decide +kernel
theorem dL_law_960 : decode cL_law 960 = .ok (.aload_n 2, 1) := by decide +kernel
theorem dL_law_961 : decode cL_law 961 = .ok (.aload_n 0, 1) := by decide +kernel
theorem dL_law_962 : decode cL_law 962 = .ok (.iload 4, 2) := by decide +kernel
theorem dL_law_964 : decode cL_law 964 = .ok (.iconst 1, 1) := by decide +kernel
theorem dL_law_965 : decode cL_law 965 = .ok (.iadd, 1) := by decide +kernel
theorem dL_law_966 : decode cL_law 966 = .ok (.iaload, 1) := by decide +kernel
theorem dL_law_967 : decode cL_law 967 = .ok (.invokevirtual 120, 3) := by decide +kernel
theorem dL_law_970 : decode cL_law 970 = .ok (.istore 6, 2) := by decide +kernel
theorem dL_law_972 : decode cL_law 972 = .ok (.aload_n 2, 1) := by decide +kernel
theorem dL_law_973 : decode cL_law 973 = .ok (.invokevirtual 78, 3) := by decide +kernel
theorem dL_law_976 : decode cL_law 976 = .ok (.iload 5, 2) := by decide +kernel
theorem dL_law_978 : decode cL_law 978 = .ok (.if_icmp .eq 5, 3) := by decide +kernel
theorem dL_law_981 : decode cL_law 981 = .ok (.iconst 0, 1) := by decide +kernel
theorem dL_law_982 : decode cL_law 982 = .ok (.ireturn, 1) := by decide +kernel
theorem dL_law_983 : decode cL_law 983 = .ok (.iload 5, 2) := by decide +kernel
theorem dL_law_985 : decode cL_law 985 = .ok (.ifCond .ne 15, 3) := by decide +kernel
theorem dL_law_988 : decode cL_law 988 = .ok (.aload_n 3, 1) := by decide +kernel
theorem dL_law_989 : decode cL_law 989 = .ok (.iconst 0, 1) := by decide +kernel
theorem dL_law_990 : decode cL_law 990 = .ok (.laload, 1) := by decide +kernel
theorem dL_law_991 : decode cL_law 991 = .ok (.iload 6, 2) := by decide +kernel
theorem dL_law_993 : decode cL_law 993 = .ok (.i2l, 1) := by decide +kernel
theorem dL_law_994 : decode cL_law 994 = .ok (.lcmp, 1) := by decide +kernel
theorem dL_law_995 : decode cL_law 995 = .ok (.ifCond .eq 5, 3) := by decide +kernel
theorem dL_law_998 : decode cL_law 998 = .ok (.iconst 0, 1) := by decide +kernel
theorem dL_law_999 : decode cL_law 999 = .ok (.ireturn, 1) := by decide +kernel
theorem dL_law_1000 : decode cL_law 1000 = .ok (.goto 250, 3) := by decide +kernel
theorem dL_law_1003 : decode cL_law 1003 = .ok (.aload_n 1, 1) := by decide +kernel
theorem dL_law_1004 : decode cL_law 1004 = .ok (.aload_n 0, 1) := by decide +kernel
theorem dL_law_1005 : decode cL_law 1005 = .ok (.iload 4, 2) := by decide +kernel
theorem dL_law_1007 : decode cL_law 1007 = .ok (.iconst 1, 1) := by decide +kernel
theorem dL_law_1008 : decode cL_law 1008 = .ok (.iadd, 1) := by decide +kernel
theorem dL_law_1009 : decode cL_law 1009 = .ok (.iaload, 1) := by decide +kernel
theorem dL_law_1010 : decode cL_law 1010 = .ok (.aload_n 3, 1) := by decide +kernel
theorem dL_law_1011 : decode cL_law 1011 = .ok (.invokestatic 121, 3) := by decide +kernel
theorem dL_law_1014 : decode cL_law 1014 = .ok (.istore 5, 2) := by decide +kernel
theorem dL_law_1016 : decode cL_law 1016 = .ok (.aload_n 2, 1) := by decide +kernel
theorem dL_law_1017 : decode cL_law 1017 = .ok (.aload_n 0, 1) := by decide +kernel
theorem dL_law_1018 : decode cL_law 1018 = .ok (.iload 4, 2) := by decide +kernel
theorem dL_law_1020 : decode cL_law 1020 = .ok (.iconst 1, 1) := by decide +kernel
theorem dL_law_1021 : decode cL_law 1021 = .ok (.iadd, 1) := by decide +kernel
theorem dL_law_1022 : decode cL_law 1022 = .ok (.iaload, 1) := by decide +kernel
theorem dL_law_1023 : decode cL_law 1023 = .ok (.invokevirtual 123, 3) := by decide +kernel
theorem dL_law_1026 : decode cL_law 1026 = .ok (.istore 6, 2) := by decide +kernel
theorem dL_law_1028 : decode cL_law 1028 = .ok (.aload_n 2, 1) := by decide +kernel
theorem dL_law_1029 : decode cL_law 1029 = .ok (.invokevirtual 78, 3) := by decide +kernel
theorem dL_law_1032 : decode cL_law 1032 = .ok (.iload 5, 2) := by decide +kernel
theorem dL_law_1034 : decode cL_law 1034 = .ok (.if_icmp .eq 5, 3) := by decide +kernel
theorem dL_law_1037 : decode cL_law 1037 = .ok (.iconst 0, 1) := by decide +kernel
theorem dL_law_1038 : decode cL_law 1038 = .ok (.ireturn, 1) := by decide +kernel
theorem dL_law_1039 : decode cL_law 1039 = .ok (.iload 5, 2) := by decide +kernel
theorem dL_law_1041 : decode cL_law 1041 = .ok (.ifCond .ne 15, 3) := by decide +kernel
theorem dL_law_1044 : decode cL_law 1044 = .ok (.aload_n 3, 1) := by decide +kernel
theorem dL_law_1045 : decode cL_law 1045 = .ok (.iconst 0, 1) := by decide +kernel
theorem dL_law_1046 : decode cL_law 1046 = .ok (.laload, 1) := by decide +kernel
theorem dL_law_1047 : decode cL_law 1047 = .ok (.iload 6, 2) := by decide +kernel
theorem dL_law_1049 : decode cL_law 1049 = .ok (.i2l, 1) := by decide +kernel
theorem dL_law_1050 : decode cL_law 1050 = .ok (.lcmp, 1) := by decide +kernel
theorem dL_law_1051 : decode cL_law 1051 = .ok (.ifCond .eq 5, 3) := by decide +kernel
theorem dL_law_1054 : decode cL_law 1054 = .ok (.iconst 0, 1) := by decide +kernel
theorem dL_law_1055 : decode cL_law 1055 = .ok (.ireturn, 1) := by decide +kernel
theorem dL_law_1056 : decode cL_law 1056 = .ok (.goto 194, 3) := by decide +kernel
theorem dL_law_1059 : decode cL_law 1059 = .ok (.aload_n 1, 1) := by decide +kernel
theorem dL_law_1060 : decode cL_law 1060 = .ok (.aload_n 0, 1) := by decide +kernel
theorem dL_law_1061 : decode cL_law 1061 = .ok (.iload 4, 2) := by decide +kernel
theorem dL_law_1063 : decode cL_law 1063 = .ok (.iconst 1, 1) := by decide +kernel
theorem dL_law_1064 : decode cL_law 1064 = .ok (.iadd, 1) := by decide +kernel
theorem dL_law_1065 : decode cL_law 1065 = .ok (.iaload, 1) := by decide +kernel
theorem dL_law_1066 : decode cL_law 1066 = .ok (.aload_n 0, 1) := by decide +kernel
theorem dL_law_1067 : decode cL_law 1067 = .ok (.iload 4, 2) := by decide +kernel
theorem dL_law_1069 : decode cL_law 1069 = .ok (.iconst 2, 1) := by decide +kernel
theorem dL_law_1070 : decode cL_law 1070 = .ok (.iadd, 1) := by decide +kernel
theorem dL_law_1071 : decode cL_law 1071 = .ok (.iaload, 1) := by decide +kernel
theorem dL_law_1072 : decode cL_law 1072 = .ok (.aload_n 3, 1) := by decide +kernel
theorem dL_law_1073 : decode cL_law 1073 = .ok (.invokestatic 124, 3) := by decide +kernel
theorem dL_law_1076 : decode cL_law 1076 = .ok (.istore 5, 2) := by decide +kernel
theorem dL_law_1078 : decode cL_law 1078 = .ok (.aload_n 2, 1) := by decide +kernel
theorem dL_law_1079 : decode cL_law 1079 = .ok (.aload_n 0, 1) := by decide +kernel
theorem dL_law_1080 : decode cL_law 1080 = .ok (.iload 4, 2) := by decide +kernel
theorem dL_law_1082 : decode cL_law 1082 = .ok (.iconst 1, 1) := by decide +kernel
theorem dL_law_1083 : decode cL_law 1083 = .ok (.iadd, 1) := by decide +kernel
theorem dL_law_1084 : decode cL_law 1084 = .ok (.iaload, 1) := by decide +kernel
theorem dL_law_1085 : decode cL_law 1085 = .ok (.aload_n 0, 1) := by decide +kernel
theorem dL_law_1086 : decode cL_law 1086 = .ok (.iload 4, 2) := by decide +kernel
theorem dL_law_1088 : decode cL_law 1088 = .ok (.iconst 2, 1) := by decide +kernel
theorem dL_law_1089 : decode cL_law 1089 = .ok (.iadd, 1) := by decide +kernel
theorem dL_law_1090 : decode cL_law 1090 = .ok (.iaload, 1) := by decide +kernel
theorem dL_law_1091 : decode cL_law 1091 = .ok (.invokevirtual 126, 3) := by decide +kernel
theorem dL_law_1094 : decode cL_law 1094 = .ok (.istore 6, 2) := by decide +kernel
theorem dL_law_1096 : decode cL_law 1096 = .ok (.aload_n 2, 1) := by decide +kernel
theorem dL_law_1097 : decode cL_law 1097 = .ok (.invokevirtual 78, 3) := by decide +kernel
theorem dL_law_1100 : decode cL_law 1100 = .ok (.iload 5, 2) := by decide +kernel
theorem dL_law_1102 : decode cL_law 1102 = .ok (.if_icmp .eq 5, 3) := by decide +kernel
theorem dL_law_1105 : decode cL_law 1105 = .ok (.iconst 0, 1) := by decide +kernel
theorem dL_law_1106 : decode cL_law 1106 = .ok (.ireturn, 1) := by decide +kernel
theorem dL_law_1107 : decode cL_law 1107 = .ok (.iload 5, 2) := by decide +kernel
theorem dL_law_1109 : decode cL_law 1109 = .ok (.ifCond .ne 15, 3) := by decide +kernel
theorem dL_law_1112 : decode cL_law 1112 = .ok (.aload_n 3, 1) := by decide +kernel
theorem dL_law_1113 : decode cL_law 1113 = .ok (.iconst 0, 1) := by decide +kernel
theorem dL_law_1114 : decode cL_law 1114 = .ok (.laload, 1) := by decide +kernel
theorem dL_law_1115 : decode cL_law 1115 = .ok (.iload 6, 2) := by decide +kernel
theorem dL_law_1117 : decode cL_law 1117 = .ok (.i2l, 1) := by decide +kernel
theorem dL_law_1118 : decode cL_law 1118 = .ok (.lcmp, 1) := by decide +kernel
theorem dL_law_1119 : decode cL_law 1119 = .ok (.ifCond .eq 5, 3) := by decide +kernel
theorem dL_law_1122 : decode cL_law 1122 = .ok (.iconst 0, 1) := by decide +kernel
theorem dL_law_1123 : decode cL_law 1123 = .ok (.ireturn, 1) := by decide +kernel
theorem dL_law_1124 : decode cL_law 1124 = .ok (.goto 126, 3) := by decide +kernel
theorem dL_law_1127 : decode cL_law 1127 = .ok (.aload_n 1, 1) := by decide +kernel
theorem dL_law_1128 : decode cL_law 1128 = .ok (.aload_n 0, 1) := by decide +kernel
theorem dL_law_1129 : decode cL_law 1129 = .ok (.iload 4, 2) := by decide +kernel
theorem dL_law_1131 : decode cL_law 1131 = .ok (.iconst 1, 1) := by decide +kernel
theorem dL_law_1132 : decode cL_law 1132 = .ok (.iadd, 1) := by decide +kernel
theorem dL_law_1133 : decode cL_law 1133 = .ok (.iaload, 1) := by decide +kernel
theorem dL_law_1134 : decode cL_law 1134 = .ok (.aload_n 0, 1) := by decide +kernel
theorem dL_law_1135 : decode cL_law 1135 = .ok (.iload 4, 2) := by decide +kernel
theorem dL_law_1137 : decode cL_law 1137 = .ok (.iconst 2, 1) := by decide +kernel
theorem dL_law_1138 : decode cL_law 1138 = .ok (.iadd, 1) := by decide +kernel
theorem dL_law_1139 : decode cL_law 1139 = .ok (.iaload, 1) := by decide +kernel
theorem dL_law_1140 : decode cL_law 1140 = .ok (.aload_n 3, 1) := by decide +kernel
theorem dL_law_1141 : decode cL_law 1141 = .ok (.invokestatic 127, 3) := by decide +kernel
theorem dL_law_1144 : decode cL_law 1144 = .ok (.istore 5, 2) := by decide +kernel
theorem dL_law_1146 : decode cL_law 1146 = .ok (.aload_n 2, 1) := by decide +kernel
theorem dL_law_1147 : decode cL_law 1147 = .ok (.aload_n 0, 1) := by decide +kernel
theorem dL_law_1148 : decode cL_law 1148 = .ok (.iload 4, 2) := by decide +kernel
theorem dL_law_1150 : decode cL_law 1150 = .ok (.iconst 1, 1) := by decide +kernel
theorem dL_law_1151 : decode cL_law 1151 = .ok (.iadd, 1) := by decide +kernel
theorem dL_law_1152 : decode cL_law 1152 = .ok (.iaload, 1) := by decide +kernel
theorem dL_law_1153 : decode cL_law 1153 = .ok (.aload_n 0, 1) := by decide +kernel
theorem dL_law_1154 : decode cL_law 1154 = .ok (.iload 4, 2) := by decide +kernel
theorem dL_law_1156 : decode cL_law 1156 = .ok (.iconst 2, 1) := by decide +kernel
theorem dL_law_1157 : decode cL_law 1157 = .ok (.iadd, 1) := by decide +kernel
theorem dL_law_1158 : decode cL_law 1158 = .ok (.iaload, 1) := by decide +kernel
theorem dL_law_1159 : decode cL_law 1159 = .ok (.invokevirtual 129, 3) := by decide +kernel
theorem dL_law_1162 : decode cL_law 1162 = .ok (.istore 6, 2) := by decide +kernel
theorem dL_law_1164 : decode cL_law 1164 = .ok (.aload_n 2, 1) := by decide +kernel
theorem dL_law_1165 : decode cL_law 1165 = .ok (.invokevirtual 78, 3) := by decide +kernel
theorem dL_law_1168 : decode cL_law 1168 = .ok (.iload 5, 2) := by decide +kernel
theorem dL_law_1170 : decode cL_law 1170 = .ok (.if_icmp .eq 5, 3) := by decide +kernel
theorem dL_law_1173 : decode cL_law 1173 = .ok (.iconst 0, 1) := by decide +kernel
theorem dL_law_1174 : decode cL_law 1174 = .ok (.ireturn, 1) := by decide +kernel
theorem dL_law_1175 : decode cL_law 1175 = .ok (.iload 5, 2) := by decide +kernel
theorem dL_law_1177 : decode cL_law 1177 = .ok (.ifCond .ne 15, 3) := by decide +kernel
theorem dL_law_1180 : decode cL_law 1180 = .ok (.aload_n 3, 1) := by decide +kernel
theorem dL_law_1181 : decode cL_law 1181 = .ok (.iconst 0, 1) := by decide +kernel
theorem dL_law_1182 : decode cL_law 1182 = .ok (.laload, 1) := by decide +kernel
theorem dL_law_1183 : decode cL_law 1183 = .ok (.iload 6, 2) := by decide +kernel
theorem dL_law_1185 : decode cL_law 1185 = .ok (.i2l, 1) := by decide +kernel
theorem dL_law_1186 : decode cL_law 1186 = .ok (.lcmp, 1) := by decide +kernel
theorem dL_law_1187 : decode cL_law 1187 = .ok (.ifCond .eq 5, 3) := by decide +kernel
theorem dL_law_1190 : decode cL_law 1190 = .ok (.iconst 0, 1) := by decide +kernel
theorem dL_law_1191 : decode cL_law 1191 = .ok (.ireturn, 1) := by decide +kernel
theorem dL_law_1192 : decode cL_law 1192 = .ok (.goto 58, 3) := by decide +kernel
theorem dL_law_1195 : decode cL_law 1195 = .ok (.aload_n 1, 1) := by decide +kernel
theorem dL_law_1196 : decode cL_law 1196 = .ok (.invokevirtual 130, 3) := by decide +kernel
theorem dL_law_1199 : decode cL_law 1199 = .ok (.dstore 5, 2) := by decide +kernel
theorem dL_law_1201 : decode cL_law 1201 = .ok (.aload_n 2, 1) := by decide +kernel
theorem dL_law_1202 : decode cL_law 1202 = .ok (.invokevirtual 134, 3) := by decide +kernel
theorem dL_law_1205 : decode cL_law 1205 = .ok (.dstore 7, 2) := by decide +kernel
theorem dL_law_1207 : decode cL_law 1207 = .ok (.dload 5, 2) := by decide +kernel
theorem dL_law_1209 : decode cL_law 1209 = .ok (.dload 7, 2) := by decide +kernel
theorem dL_law_1211 : decode cL_law 1211 = .ok (.dcmp .l, 1) := by decide +kernel
theorem dL_law_1212 : decode cL_law 1212 = .ok (.ifCond .eq 21, 3) := by decide +kernel
theorem dL_law_1215 : decode cL_law 1215 = .ok (.dload 5, 2) := by decide +kernel
theorem dL_law_1217 : decode cL_law 1217 = .ok (.dload 5, 2) := by decide +kernel
theorem dL_law_1219 : decode cL_law 1219 = .ok (.dcmp .l, 1) := by decide +kernel
theorem dL_law_1220 : decode cL_law 1220 = .ok (.ifCond .eq 11, 3) := by decide +kernel
theorem dL_law_1223 : decode cL_law 1223 = .ok (.dload 7, 2) := by decide +kernel
theorem dL_law_1225 : decode cL_law 1225 = .ok (.dload 7, 2) := by decide +kernel
theorem dL_law_1227 : decode cL_law 1227 = .ok (.dcmp .l, 1) := by decide +kernel
theorem dL_law_1228 : decode cL_law 1228 = .ok (.ifCond .ne 5, 3) := by decide +kernel
theorem dL_law_1231 : decode cL_law 1231 = .ok (.iconst 0, 1) := by decide +kernel
theorem dL_law_1232 : decode cL_law 1232 = .ok (.ireturn, 1) := by decide +kernel
theorem dL_law_1233 : decode cL_law 1233 = .ok (.goto 17, 3) := by decide +kernel
theorem dL_law_1236 : decode cL_law 1236 = .ok (.aload_n 1, 1) := by decide +kernel
theorem dL_law_1237 : decode cL_law 1237 = .ok (.invokevirtual 135, 3) := by decide +kernel
theorem dL_law_1240 : decode cL_law 1240 = .ok (.aload_n 2, 1) := by decide +kernel
theorem dL_law_1241 : decode cL_law 1241 = .ok (.invokevirtual 139, 3) := by decide +kernel
theorem dL_law_1244 : decode cL_law 1244 = .ok (.lcmp, 1) := by decide +kernel
theorem dL_law_1245 : decode cL_law 1245 = .ok (.ifCond .eq 5, 3) := by decide +kernel
theorem dL_law_1248 : decode cL_law 1248 = .ok (.iconst 0, 1) := by decide +kernel
theorem dL_law_1249 : decode cL_law 1249 = .ok (.ireturn, 1) := by decide +kernel
theorem dL_law_1250 : decode cL_law 1250 = .ok (.iinc 4 5, 3) := by decide +kernel
theorem dL_law_1253 : decode cL_law 1253 = .ok (.goto (-1230), 3) := by decide +kernel
theorem dL_law_1256 : decode cL_law 1256 = .ok (.iconst 1, 1) := by decide +kernel
theorem dL_law_1257 : decode cL_law 1257 = .ok (.ireturn, 1) := by decide +kernel
end
section
theorem dX0_init_0 : decode cX0_init 0 = .ok (.aload_n 0, 1) := by decide +kernel
theorem dX0_init_1 : decode cX0_init 1 = .ok (.invokespecial 3, 3) := by decide +kernel
theorem dX0_init_4 : decode cX0_init 4 = .ok (.aload_n 0, 1) := by decide +kernel
theorem dX0_init_5 : decode cX0_init 5 = .ok (.bipush 30, 2) := by decide +kernel
theorem dX0_init_7 : decode cX0_init 7 = .ok (.newarray .int, 2) := by decide +kernel
theorem dX0_init_9 : decode cX0_init 9 = .ok (.putfield 9, 3) := by decide +kernel
theorem dX0_init_12 : decode cX0_init 12 = .ok (.aload_n 0, 1) := by decide +kernel
theorem dX0_init_13 : decode cX0_init 13 = .ok (.bipush 30, 2) := by decide +kernel
theorem dX0_init_15 : decode cX0_init 15 = .ok (.newarray .int, 2) := by decide +kernel
theorem dX0_init_17 : decode cX0_init 17 = .ok (.putfield 15, 3) := by decide +kernel
theorem dX0_init_20 : decode cX0_init 20 = .ok (.aload_n 0, 1) := by decide +kernel
theorem dX0_init_21 : decode cX0_init 21 = .ok (.bipush 40, 2) := by decide +kernel
theorem dX0_init_23 : decode cX0_init 23 = .ok (.newarray .int, 2) := by decide +kernel
theorem dX0_init_25 : decode cX0_init 25 = .ok (.putfield 18, 3) := by decide +kernel
theorem dX0_init_28 : decode cX0_init 28 = .ok (.return_, 1) := by decide +kernel
theorem dX0_has_0 : decode cX0_has 0 = .ok (.iload_n 1, 1) := by decide +kernel
theorem dX0_has_1 : decode cX0_has 1 = .ok (.ifCond .lt 15, 3) := by decide +kernel
theorem dX0_has_4 : decode cX0_has 4 = .ok (.iload_n 1, 1) := by decide +kernel
theorem dX0_has_5 : decode cX0_has 5 = .ok (.aload_n 0, 1) := by decide +kernel
theorem dX0_has_6 : decode cX0_has 6 = .ok (.getfield 21, 3) := by decide +kernel
theorem dX0_has_9 : decode cX0_has 9 = .ok (.if_icmp .ge 7, 3) := by decide +kernel
theorem dX0_has_12 : decode cX0_has 12 = .ok (.iconst 1, 1) := by decide +kernel
theorem dX0_has_13 : decode cX0_has 13 = .ok (.goto 4, 3) := by decide +kernel
theorem dX0_has_16 : decode cX0_has 16 = .ok (.iconst 0, 1) := by decide +kernel
theorem dX0_has_17 : decode cX0_has 17 = .ok (.ireturn, 1) := by decide +kernel
theorem dX0_isFull_0 : decode cX0_isFull 0 = .ok (.aload_n 0, 1) := by decide +kernel
theorem dX0_isFull_1 : decode cX0_isFull 1 = .ok (.getfield 21, 3) := by decide +kernel
theorem dX0_isFull_4 : decode cX0_isFull 4 = .ok (.bipush 30, 2) := by decide +kernel
theorem dX0_isFull_6 : decode cX0_isFull 6 = .ok (.if_icmp .lt 7, 3) := by decide +kernel
theorem dX0_isFull_9 : decode cX0_isFull 9 = .ok (.iconst 1, 1) := by decide +kernel
theorem dX0_isFull_10 : decode cX0_isFull 10 = .ok (.goto 4, 3) := by decide +kernel
theorem dX0_isFull_13 : decode cX0_isFull 13 = .ok (.iconst 0, 1) := by decide +kernel
theorem dX0_isFull_14 : decode cX0_isFull 14 = .ok (.ireturn, 1) := by decide +kernel
theorem dX0_isGone_0 : decode cX0_isGone 0 = .ok (.aload_n 0, 1) := by decide +kernel
theorem dX0_isGone_1 : decode cX0_isGone 1 = .ok (.iload_n 1, 1) := by decide +kernel
theorem dX0_isGone_2 : decode cX0_isGone 2 = .ok (.invokevirtual 25, 3) := by decide +kernel
theorem dX0_isGone_5 : decode cX0_isGone 5 = .ok (.ifCond .eq 29, 3) := by decide +kernel
theorem dX0_isGone_8 : decode cX0_isGone 8 = .ok (.aload_n 2, 1) := by decide +kernel
theorem dX0_isGone_9 : decode cX0_isGone 9 = .ok (.aload_n 0, 1) := by decide +kernel
theorem dX0_isGone_10 : decode cX0_isGone 10 = .ok (.getfield 9, 3) := by decide +kernel
theorem dX0_isGone_13 : decode cX0_isGone 13 = .ok (.iload_n 1, 1) := by decide +kernel
theorem dX0_isGone_14 : decode cX0_isGone 14 = .ok (.iaload, 1) := by decide +kernel
theorem dX0_isGone_15 : decode cX0_isGone 15 = .ok (.invokevirtual 29, 3) := by decide +kernel
theorem dX0_isGone_18 : decode cX0_isGone 18 = .ok (.ifCond .eq 16, 3) := by decide +kernel
theorem dX0_isGone_21 : decode cX0_isGone 21 = .ok (.aload_n 2, 1) := by decide +kernel
theorem dX0_isGone_22 : decode cX0_isGone 22 = .ok (.aload_n 0, 1) := by decide +kernel
theorem dX0_isGone_23 : decode cX0_isGone 23 = .ok (.getfield 15, 3) := by decide +kernel
theorem dX0_isGone_26 : decode cX0_isGone 26 = .ok (.iload_n 1, 1) := by decide +kernel
theorem dX0_isGone_27 : decode cX0_isGone 27 = .ok (.iaload, 1) := by decide +kernel
theorem dX0_isGone_28 : decode cX0_isGone 28 = .ok (.invokevirtual 29, 3) := by decide +kernel
theorem dX0_isGone_31 : decode cX0_isGone 31 = .ok (.ifCond .ne 7, 3) := by decide +kernel
theorem dX0_isGone_34 : decode cX0_isGone 34 = .ok (.iconst 1, 1) := by decide +kernel
theorem dX0_isGone_35 : decode cX0_isGone 35 = .ok (.goto 4, 3) := by decide +kernel
theorem dX0_isGone_38 : decode cX0_isGone 38 = .ok (.iconst 0, 1) := by decide +kernel
theorem dX0_isGone_39 : decode cX0_isGone 39 = .ok (.ireturn, 1) := by decide +kernel
theorem dX0_add_0 : decode cX0_add 0 = .ok (.aload_n 0, 1) := by decide +kernel
theorem dX0_add_1 : decode cX0_add 1 = .ok (.invokevirtual 34, 3) := by decide +kernel
theorem dX0_add_4 : decode cX0_add 4 = .ok (.ifCond .eq 5, 3) := by decide +kernel
theorem dX0_add_7 : decode cX0_add 7 = .ok (.iconst (-1), 1) := by decide +kernel
theorem dX0_add_8 : decode cX0_add 8 = .ok (.ireturn, 1) := by decide +kernel
theorem dX0_add_9 : decode cX0_add 9 = .ok (.aload_n 0, 1) := by decide +kernel
theorem dX0_add_10 : decode cX0_add 10 = .ok (.getfield 21, 3) := by decide +kernel
theorem dX0_add_13 : decode cX0_add 13 = .ok (.istore_n 3, 1) := by decide +kernel
theorem dX0_add_14 : decode cX0_add 14 = .ok (.aload_n 0, 1) := by decide +kernel
theorem dX0_add_15 : decode cX0_add 15 = .ok (.getfield 9, 3) := by decide +kernel
theorem dX0_add_18 : decode cX0_add 18 = .ok (.iload_n 3, 1) := by decide +kernel
theorem dX0_add_19 : decode cX0_add 19 = .ok (.iload_n 1, 1) := by decide +kernel
theorem dX0_add_20 : decode cX0_add 20 = .ok (.iastore, 1) := by decide +kernel
theorem dX0_add_21 : decode cX0_add 21 = .ok (.aload_n 0, 1) := by decide +kernel
theorem dX0_add_22 : decode cX0_add 22 = .ok (.getfield 15, 3) := by decide +kernel
theorem dX0_add_25 : decode cX0_add 25 = .ok (.iload_n 3, 1) := by decide +kernel
theorem dX0_add_26 : decode cX0_add 26 = .ok (.iload_n 2, 1) := by decide +kernel
theorem dX0_add_27 : decode cX0_add 27 = .ok (.iastore, 1) := by decide +kernel
theorem dX0_add_28 : decode cX0_add 28 = .ok (.aload_n 0, 1) := by decide +kernel
theorem dX0_add_29 : decode cX0_add 29 = .ok (.dup, 1) := by decide +kernel
theorem dX0_add_30 : decode cX0_add 30 = .ok (.getfield 21, 3) := by decide +kernel
theorem dX0_add_33 : decode cX0_add 33 = .ok (.iconst 1, 1) := by decide +kernel
theorem dX0_add_34 : decode cX0_add 34 = .ok (.iadd, 1) := by decide +kernel
theorem dX0_add_35 : decode cX0_add 35 = .ok (.putfield 21, 3) := by decide +kernel
theorem dX0_add_38 : decode cX0_add 38 = .ok (.iload_n 3, 1) := by decide +kernel
theorem dX0_add_39 : decode cX0_add 39 = .ok (.ireturn, 1) := by decide +kernel
theorem dX0_exchangeEnds_0 : decode cX0_exchangeEnds 0 = .ok (.aload_n 0, 1) := by decide +kernel
theorem dX0_exchangeEnds_1 : decode cX0_exchangeEnds 1 = .ok (.iload_n 1, 1) := by decide +kernel
theorem dX0_exchangeEnds_2 : decode cX0_exchangeEnds 2 = .ok (.invokevirtual 25, 3) := by decide +kernel
theorem dX0_exchangeEnds_5 : decode cX0_exchangeEnds 5 = .ok (.ifCond .eq 41, 3) := by decide +kernel
theorem dX0_exchangeEnds_8 : decode cX0_exchangeEnds 8 = .ok (.aload_n 0, 1) := by decide +kernel
theorem dX0_exchangeEnds_9 : decode cX0_exchangeEnds 9 = .ok (.iload_n 2, 1) := by decide +kernel
theorem dX0_exchangeEnds_10 : decode cX0_exchangeEnds 10 = .ok (.invokevirtual 25, 3) := by decide +kernel
theorem dX0_exchangeEnds_13 : decode cX0_exchangeEnds 13 = .ok (.ifCond .eq 33, 3) := by decide +kernel
theorem dX0_exchangeEnds_16 : decode cX0_exchangeEnds 16 = .ok (.aload_n 0, 1) := by decide +kernel
theorem dX0_exchangeEnds_17 : decode cX0_exchangeEnds 17 = .ok (.getfield 9, 3) := by decide +kernel
theorem dX0_exchangeEnds_20 : decode cX0_exchangeEnds 20 = .ok (.iload_n 1, 1) := by decide +kernel
theorem dX0_exchangeEnds_21 : decode cX0_exchangeEnds 21 = .ok (.iaload, 1) := by decide +kernel
theorem dX0_exchangeEnds_22 : decode cX0_exchangeEnds 22 = .ok (.aload_n 0, 1) := by decide +kernel
theorem dX0_exchangeEnds_23 : decode cX0_exchangeEnds 23 = .ok (.getfield 15, 3) := by decide +kernel
theorem dX0_exchangeEnds_26 : decode cX0_exchangeEnds 26 = .ok (.iload_n 2, 1) := by decide +kernel
theorem dX0_exchangeEnds_27 : decode cX0_exchangeEnds 27 = .ok (.iaload, 1) := by decide +kernel
theorem dX0_exchangeEnds_28 : decode cX0_exchangeEnds 28 = .ok (.if_icmp .eq 18, 3) := by decide +kernel
theorem dX0_exchangeEnds_31 : decode cX0_exchangeEnds 31 = .ok (.aload_n 0, 1) := by decide +kernel
theorem dX0_exchangeEnds_32 : decode cX0_exchangeEnds 32 = .ok (.getfield 9, 3) := by decide +kernel
theorem dX0_exchangeEnds_35 : decode cX0_exchangeEnds 35 = .ok (.iload_n 2, 1) := by decide +kernel
theorem dX0_exchangeEnds_36 : decode cX0_exchangeEnds 36 = .ok (.iaload, 1) := by decide +kernel
theorem dX0_exchangeEnds_37 : decode cX0_exchangeEnds 37 = .ok (.aload_n 0, 1) := by decide +kernel
theorem dX0_exchangeEnds_38 : decode cX0_exchangeEnds 38 = .ok (.getfield 15, 3) := by decide +kernel
theorem dX0_exchangeEnds_41 : decode cX0_exchangeEnds 41 = .ok (.iload_n 1, 1) := by decide +kernel
theorem dX0_exchangeEnds_42 : decode cX0_exchangeEnds 42 = .ok (.iaload, 1) := by decide +kernel
theorem dX0_exchangeEnds_43 : decode cX0_exchangeEnds 43 = .ok (.if_icmp .ne 5, 3) := by decide +kernel
theorem dX0_exchangeEnds_46 : decode cX0_exchangeEnds 46 = .ok (.iconst 0, 1) := by decide +kernel
theorem dX0_exchangeEnds_47 : decode cX0_exchangeEnds 47 = .ok (.ireturn, 1) := by decide +kernel
theorem dX0_exchangeEnds_48 : decode cX0_exchangeEnds 48 = .ok (.aload_n 0, 1) := by decide +kernel
theorem dX0_exchangeEnds_49 : decode cX0_exchangeEnds 49 = .ok (.getfield 15, 3) := by decide +kernel
theorem dX0_exchangeEnds_52 : decode cX0_exchangeEnds 52 = .ok (.iload_n 1, 1) := by decide +kernel
theorem dX0_exchangeEnds_53 : decode cX0_exchangeEnds 53 = .ok (.iaload, 1) := by decide +kernel
theorem dX0_exchangeEnds_54 : decode cX0_exchangeEnds 54 = .ok (.istore_n 3, 1) := by decide +kernel
theorem dX0_exchangeEnds_55 : decode cX0_exchangeEnds 55 = .ok (.aload_n 0, 1) := by decide +kernel
theorem dX0_exchangeEnds_56 : decode cX0_exchangeEnds 56 = .ok (.getfield 15, 3) := by decide +kernel
theorem dX0_exchangeEnds_59 : decode cX0_exchangeEnds 59 = .ok (.iload_n 1, 1) := by decide +kernel
theorem dX0_exchangeEnds_60 : decode cX0_exchangeEnds 60 = .ok (.aload_n 0, 1) := by decide +kernel
theorem dX0_exchangeEnds_61 : decode cX0_exchangeEnds 61 = .ok (.getfield 15, 3) := by decide +kernel
theorem dX0_exchangeEnds_64 : decode cX0_exchangeEnds 64 = .ok (.iload_n 2, 1) := by decide +kernel
theorem dX0_exchangeEnds_65 : decode cX0_exchangeEnds 65 = .ok (.iaload, 1) := by decide +kernel
theorem dX0_exchangeEnds_66 : decode cX0_exchangeEnds 66 = .ok (.iastore, 1) := by decide +kernel
theorem dX0_exchangeEnds_67 : decode cX0_exchangeEnds 67 = .ok (.aload_n 0, 1) := by decide +kernel
theorem dX0_exchangeEnds_68 : decode cX0_exchangeEnds 68 = .ok (.getfield 15, 3) := by decide +kernel
theorem dX0_exchangeEnds_71 : decode cX0_exchangeEnds 71 = .ok (.iload_n 2, 1) := by decide +kernel
theorem dX0_exchangeEnds_72 : decode cX0_exchangeEnds 72 = .ok (.iload_n 3, 1) := by decide +kernel
theorem dX0_exchangeEnds_73 : decode cX0_exchangeEnds 73 = .ok (.iastore, 1) := by decide +kernel
theorem dX0_exchangeEnds_74 : decode cX0_exchangeEnds 74 = .ok (.iconst 1, 1) := by decide +kernel
theorem dX0_exchangeEnds_75 : decode cX0_exchangeEnds 75 = .ok (.ireturn, 1) := by decide +kernel
theorem dX0_tell_0 : decode cX0_tell 0 = .ok (.aload_n 0, 1) := by decide +kernel
theorem dX0_tell_1 : decode cX0_tell 1 = .ok (.iload_n 1, 1) := by decide +kernel
theorem dX0_tell_2 : decode cX0_tell 2 = .ok (.invokevirtual 25, 3) := by decide +kernel
theorem dX0_tell_5 : decode cX0_tell 5 = .ok (.ifCond .ne 5, 3) := by decide +kernel
theorem dX0_tell_8 : decode cX0_tell 8 = .ok (.iconst 0, 1) := by decide +kernel
theorem dX0_tell_9 : decode cX0_tell 9 = .ok (.ireturn, 1) := by decide +kernel
theorem dX0_tell_10 : decode cX0_tell 10 = .ok (.iload_n 2, 1) := by decide +kernel
theorem dX0_tell_11 : decode cX0_tell 11 = .ok (.lookupswitch 39 #[(0, 25), (1, 32)], 25) := by decide +kernel
theorem dX0_tell_36 : decode cX0_tell 36 = .ok (.aload_n 0, 1) := by decide +kernel
theorem dX0_tell_37 : decode cX0_tell 37 = .ok (.getfield 9, 3) := by decide +kernel
theorem dX0_tell_40 : decode cX0_tell 40 = .ok (.iload_n 1, 1) := by decide +kernel
theorem dX0_tell_41 : decode cX0_tell 41 = .ok (.iaload, 1) := by decide +kernel
theorem dX0_tell_42 : decode cX0_tell 42 = .ok (.ireturn, 1) := by decide +kernel
theorem dX0_tell_43 : decode cX0_tell 43 = .ok (.aload_n 0, 1) := by decide +kernel
theorem dX0_tell_44 : decode cX0_tell 44 = .ok (.getfield 15, 3) := by decide +kernel
theorem dX0_tell_47 : decode cX0_tell 47 = .ok (.iload_n 1, 1) := by decide +kernel
theorem dX0_tell_48 : decode cX0_tell 48 = .ok (.iaload, 1) := by decide +kernel
theorem dX0_tell_49 : decode cX0_tell 49 = .ok (.ireturn, 1) := by decide +kernel
theorem dX0_tell_50 : decode cX0_tell 50 = .ok (.aload_n 0, 1) := by decide +kernel
theorem dX0_tell_51 : decode cX0_tell 51 = .ok (.iload_n 1, 1) := by decide +kernel
theorem dX0_tell_52 : decode cX0_tell 52 = .ok (.aload_n 3, 1) := by decide +kernel
theorem dX0_tell_53 : decode cX0_tell 53 = .ok (.invokevirtual 38, 3) := by decide +kernel
theorem dX0_tell_56 : decode cX0_tell 56 = .ok (.ifCond .eq 7, 3) := by decide +kernel
theorem dX0_tell_59 : decode cX0_tell 59 = .ok (.iconst 1, 1) := by decide +kernel
theorem dX0_tell_60 : decode cX0_tell 60 = .ok (.goto 4, 3) := by decide +kernel
theorem dX0_tell_63 : decode cX0_tell 63 = .ok (.iconst 0, 1) := by decide +kernel
theorem dX0_tell_64 : decode cX0_tell 64 = .ok (.ireturn, 1) := by decide +kernel
theorem dX0_countLeft_0 : decode cX0_countLeft 0 = .ok (.iconst 0, 1) := by decide +kernel
theorem dX0_countLeft_1 : decode cX0_countLeft 1 = .ok (.istore_n 2, 1) := by decide +kernel
theorem dX0_countLeft_2 : decode cX0_countLeft 2 = .ok (.iconst 0, 1) := by decide +kernel
theorem dX0_countLeft_3 : decode cX0_countLeft 3 = .ok (.istore_n 3, 1) := by decide +kernel
theorem dX0_countLeft_4 : decode cX0_countLeft 4 = .ok (.iload_n 3, 1) := by decide +kernel
theorem dX0_countLeft_5 : decode cX0_countLeft 5 = .ok (.aload_n 0, 1) := by decide +kernel
theorem dX0_countLeft_6 : decode cX0_countLeft 6 = .ok (.getfield 21, 3) := by decide +kernel
theorem dX0_countLeft_9 : decode cX0_countLeft 9 = .ok (.if_icmp .ge 26, 3) := by decide +kernel
theorem dX0_countLeft_12 : decode cX0_countLeft 12 = .ok (.iload_n 2, 1) := by decide +kernel
theorem dX0_countLeft_13 : decode cX0_countLeft 13 = .ok (.aload_n 0, 1) := by decide +kernel
theorem dX0_countLeft_14 : decode cX0_countLeft 14 = .ok (.iload_n 3, 1) := by decide +kernel
theorem dX0_countLeft_15 : decode cX0_countLeft 15 = .ok (.aload_n 1, 1) := by decide +kernel
theorem dX0_countLeft_16 : decode cX0_countLeft 16 = .ok (.invokevirtual 38, 3) := by decide +kernel
theorem dX0_countLeft_19 : decode cX0_countLeft 19 = .ok (.ifCond .eq 7, 3) := by decide +kernel
theorem dX0_countLeft_22 : decode cX0_countLeft 22 = .ok (.iconst 0, 1) := by decide +kernel
theorem dX0_countLeft_23 : decode cX0_countLeft 23 = .ok (.goto 4, 3) := by decide +kernel
theorem dX0_countLeft_26 : decode cX0_countLeft 26 = .ok (.iconst 1, 1) := by decide +kernel
theorem dX0_countLeft_27 : decode cX0_countLeft 27 = .ok (.iadd, 1) := by decide +kernel
theorem dX0_countLeft_28 : decode cX0_countLeft 28 = .ok (.istore_n 2, 1) := by decide +kernel
theorem dX0_countLeft_29 : decode cX0_countLeft 29 = .ok (.iinc 3 1, 3) := by decide +kernel
theorem dX0_countLeft_32 : decode cX0_countLeft 32 = .ok (.goto (-28), 3) := by decide +kernel
theorem dX0_countLeft_35 : decode cX0_countLeft 35 = .ok (.iload_n 2, 1) := by decide +kernel
theorem dX0_countLeft_36 : decode cX0_countLeft 36 = .ok (.ireturn, 1) := by decide +kernel
theorem dX0_fewestSteps_0 : decode cX0_fewestSteps 0 = .ok (.aload_n 3, 1) := by decide +kernel
theorem dX0_fewestSteps_1 : decode cX0_fewestSteps 1 = .ok (.iload_n 1, 1) := by decide +kernel
theorem dX0_fewestSteps_2 : decode cX0_fewestSteps 2 = .ok (.invokevirtual 42, 3) := by decide +kernel
theorem dX0_fewestSteps_5 : decode cX0_fewestSteps 5 = .ok (.ifCond .eq 11, 3) := by decide +kernel
theorem dX0_fewestSteps_8 : decode cX0_fewestSteps 8 = .ok (.aload_n 3, 1) := by decide +kernel
theorem dX0_fewestSteps_9 : decode cX0_fewestSteps 9 = .ok (.iload_n 2, 1) := by decide +kernel
theorem dX0_fewestSteps_10 : decode cX0_fewestSteps 10 = .ok (.invokevirtual 42, 3) := by decide +kernel
theorem dX0_fewestSteps_13 : decode cX0_fewestSteps 13 = .ok (.ifCond .ne 5, 3) := by decide +kernel
theorem dX0_fewestSteps_16 : decode cX0_fewestSteps 16 = .ok (.iconst (-1), 1) := by decide +kernel
theorem dX0_fewestSteps_17 : decode cX0_fewestSteps 17 = .ok (.ireturn, 1) := by decide +kernel
theorem dX0_fewestSteps_18 : decode cX0_fewestSteps 18 = .ok (.iconst 0, 1) := by decide +kernel
theorem dX0_fewestSteps_19 : decode cX0_fewestSteps 19 = .ok (.istore 4, 2) := by decide +kernel
theorem dX0_fewestSteps_21 : decode cX0_fewestSteps 21 = .ok (.iload 4, 2) := by decide +kernel
theorem dX0_fewestSteps_23 : decode cX0_fewestSteps 23 = .ok (.bipush 40, 2) := by decide +kernel
theorem dX0_fewestSteps_25 : decode cX0_fewestSteps 25 = .ok (.if_icmp .ge 17, 3) := by decide +kernel
theorem dX0_fewestSteps_28 : decode cX0_fewestSteps 28 = .ok (.aload_n 0, 1) := by decide +kernel
theorem dX0_fewestSteps_29 : decode cX0_fewestSteps 29 = .ok (.getfield 18, 3) := by decide +kernel
theorem dX0_fewestSteps_32 : decode cX0_fewestSteps 32 = .ok (.iload 4, 2) := by decide +kernel
theorem dX0_fewestSteps_34 : decode cX0_fewestSteps 34 = .ok (.iconst (-1), 1) := by decide +kernel
theorem dX0_fewestSteps_35 : decode cX0_fewestSteps 35 = .ok (.iastore, 1) := by decide +kernel
theorem dX0_fewestSteps_36 : decode cX0_fewestSteps 36 = .ok (.iinc 4 1, 3) := by decide +kernel
theorem dX0_fewestSteps_39 : decode cX0_fewestSteps 39 = .ok (.goto (-18), 3) := by decide +kernel
theorem dX0_fewestSteps_42 : decode cX0_fewestSteps 42 = .ok (.aload_n 0, 1) := by decide +kernel
theorem dX0_fewestSteps_43 : decode cX0_fewestSteps 43 = .ok (.getfield 18, 3) := by decide +kernel
theorem dX0_fewestSteps_46 : decode cX0_fewestSteps 46 = .ok (.iload_n 1, 1) := by decide +kernel
theorem dX0_fewestSteps_47 : decode cX0_fewestSteps 47 = .ok (.iconst 0, 1) := by decide +kernel
theorem dX0_fewestSteps_48 : decode cX0_fewestSteps 48 = .ok (.iastore, 1) := by decide +kernel
theorem dX0_fewestSteps_49 : decode cX0_fewestSteps 49 = .ok (.iconst 1, 1) := by decide +kernel
theorem dX0_fewestSteps_50 : decode cX0_fewestSteps 50 = .ok (.istore 4, 2) := by decide +kernel
theorem dX0_fewestSteps_52 : decode cX0_fewestSteps 52 = .ok (.iconst 0, 1) := by decide +kernel
theorem dX0_fewestSteps_53 : decode cX0_fewestSteps 53 = .ok (.istore 5, 2) := by decide +kernel
theorem dX0_fewestSteps_55 : decode cX0_fewestSteps 55 = .ok (.iload 4, 2) := by decide +kernel
theorem dX0_fewestSteps_57 : decode cX0_fewestSteps 57 = .ok (.ifCond .eq 35, 3) := by decide +kernel
theorem dX0_fewestSteps_60 : decode cX0_fewestSteps 60 = .ok (.aload_n 0, 1) := by decide +kernel
theorem dX0_fewestSteps_61 : decode cX0_fewestSteps 61 = .ok (.getfield 18, 3) := by decide +kernel
theorem dX0_fewestSteps_64 : decode cX0_fewestSteps 64 = .ok (.iload_n 2, 1) := by decide +kernel
theorem dX0_fewestSteps_65 : decode cX0_fewestSteps 65 = .ok (.iaload, 1) := by decide +kernel
theorem dX0_fewestSteps_66 : decode cX0_fewestSteps 66 = .ok (.iconst (-1), 1) := by decide +kernel
theorem dX0_fewestSteps_67 : decode cX0_fewestSteps 67 = .ok (.if_icmp .ne 25, 3) := by decide +kernel
theorem dX0_fewestSteps_70 : decode cX0_fewestSteps 70 = .ok (.iload 5, 2) := by decide +kernel
theorem dX0_fewestSteps_72 : decode cX0_fewestSteps 72 = .ok (.bipush 40, 2) := by decide +kernel
theorem dX0_fewestSteps_74 : decode cX0_fewestSteps 74 = .ok (.if_icmp .ge 18, 3) := by decide +kernel
theorem dX0_fewestSteps_77 : decode cX0_fewestSteps 77 = .ok (.aload_n 0, 1) := by decide +kernel
theorem dX0_fewestSteps_78 : decode cX0_fewestSteps 78 = .ok (.iload 5, 2) := by decide +kernel
theorem dX0_fewestSteps_80 : decode cX0_fewestSteps 80 = .ok (.aload_n 3, 1) := by decide +kernel
theorem dX0_fewestSteps_81 : decode cX0_fewestSteps 81 = .ok (.invokevirtual 43, 3) := by decide +kernel
theorem dX0_fewestSteps_84 : decode cX0_fewestSteps 84 = .ok (.istore 4, 2) := by decide +kernel
theorem dX0_fewestSteps_86 : decode cX0_fewestSteps 86 = .ok (.iinc 5 1, 3) := by decide +kernel
theorem dX0_fewestSteps_89 : decode cX0_fewestSteps 89 = .ok (.goto (-34), 3) := by decide +kernel
theorem dX0_fewestSteps_92 : decode cX0_fewestSteps 92 = .ok (.aload_n 0, 1) := by decide +kernel
theorem dX0_fewestSteps_93 : decode cX0_fewestSteps 93 = .ok (.getfield 18, 3) := by decide +kernel
theorem dX0_fewestSteps_96 : decode cX0_fewestSteps 96 = .ok (.iload_n 2, 1) := by decide +kernel
theorem dX0_fewestSteps_97 : decode cX0_fewestSteps 97 = .ok (.iaload, 1) := by decide +kernel
theorem dX0_fewestSteps_98 : decode cX0_fewestSteps 98 = .ok (.ireturn, 1) := by decide +kernel
theorem dX0_reachFrom_0 : decode cX0_reachFrom 0 = .ok (.iconst 0, 1) := by decide +kernel
theorem dX0_reachFrom_1 : decode cX0_reachFrom 1 = .ok (.istore_n 3, 1) := by decide +kernel
theorem dX0_reachFrom_2 : decode cX0_reachFrom 2 = .ok (.iconst 0, 1) := by decide +kernel
theorem dX0_reachFrom_3 : decode cX0_reachFrom 3 = .ok (.istore 4, 2) := by decide +kernel
theorem dX0_reachFrom_5 : decode cX0_reachFrom 5 = .ok (.iload 4, 2) := by decide +kernel
theorem dX0_reachFrom_7 : decode cX0_reachFrom 7 = .ok (.aload_n 0, 1) := by decide +kernel
theorem dX0_reachFrom_8 : decode cX0_reachFrom 8 = .ok (.getfield 21, 3) := by decide +kernel
theorem dX0_reachFrom_11 : decode cX0_reachFrom 11 = .ok (.if_icmp .ge 65, 3) := by decide +kernel
theorem dX0_reachFrom_14 : decode cX0_reachFrom 14 = .ok (.aload_n 0, 1) := by decide +kernel
theorem dX0_reachFrom_15 : decode cX0_reachFrom 15 = .ok (.iload 4, 2) := by decide +kernel
theorem dX0_reachFrom_17 : decode cX0_reachFrom 17 = .ok (.aload_n 2, 1) := by decide +kernel
theorem dX0_reachFrom_18 : decode cX0_reachFrom 18 = .ok (.invokevirtual 38, 3) := by decide +kernel
theorem dX0_reachFrom_21 : decode cX0_reachFrom 21 = .ok (.ifCond .ne 49, 3) := by decide +kernel
theorem dX0_reachFrom_24 : decode cX0_reachFrom 24 = .ok (.aload_n 0, 1) := by decide +kernel
theorem dX0_reachFrom_25 : decode cX0_reachFrom 25 = .ok (.aload_n 0, 1) := by decide +kernel
theorem dX0_reachFrom_26 : decode cX0_reachFrom 26 = .ok (.getfield 9, 3) := by decide +kernel
theorem dX0_reachFrom_29 : decode cX0_reachFrom 29 = .ok (.iload 4, 2) := by decide +kernel
theorem dX0_reachFrom_31 : decode cX0_reachFrom 31 = .ok (.iaload, 1) := by decide +kernel
theorem dX0_reachFrom_32 : decode cX0_reachFrom 32 = .ok (.aload_n 0, 1) := by decide +kernel
theorem dX0_reachFrom_33 : decode cX0_reachFrom 33 = .ok (.getfield 15, 3) := by decide +kernel
theorem dX0_reachFrom_36 : decode cX0_reachFrom 36 = .ok (.iload 4, 2) := by decide +kernel
theorem dX0_reachFrom_38 : decode cX0_reachFrom 38 = .ok (.iaload, 1) := by decide +kernel
theorem dX0_reachFrom_39 : decode cX0_reachFrom 39 = .ok (.iload_n 1, 1) := by decide +kernel
theorem dX0_reachFrom_40 : decode cX0_reachFrom 40 = .ok (.invokevirtual 46, 3) := by decide +kernel
theorem dX0_reachFrom_43 : decode cX0_reachFrom 43 = .ok (.ifCond .ne 25, 3) := by decide +kernel
theorem dX0_reachFrom_46 : decode cX0_reachFrom 46 = .ok (.aload_n 0, 1) := by decide +kernel
theorem dX0_reachFrom_47 : decode cX0_reachFrom 47 = .ok (.aload_n 0, 1) := by decide +kernel
theorem dX0_reachFrom_48 : decode cX0_reachFrom 48 = .ok (.getfield 15, 3) := by decide +kernel
theorem dX0_reachFrom_51 : decode cX0_reachFrom 51 = .ok (.iload 4, 2) := by decide +kernel
theorem dX0_reachFrom_53 : decode cX0_reachFrom 53 = .ok (.iaload, 1) := by decide +kernel
theorem dX0_reachFrom_54 : decode cX0_reachFrom 54 = .ok (.aload_n 0, 1) := by decide +kernel
theorem dX0_reachFrom_55 : decode cX0_reachFrom 55 = .ok (.getfield 9, 3) := by decide +kernel
theorem dX0_reachFrom_58 : decode cX0_reachFrom 58 = .ok (.iload 4, 2) := by decide +kernel
theorem dX0_reachFrom_60 : decode cX0_reachFrom 60 = .ok (.iaload, 1) := by decide +kernel
theorem dX0_reachFrom_61 : decode cX0_reachFrom 61 = .ok (.iload_n 1, 1) := by decide +kernel
theorem dX0_reachFrom_62 : decode cX0_reachFrom 62 = .ok (.invokevirtual 46, 3) := by decide +kernel
theorem dX0_reachFrom_65 : decode cX0_reachFrom 65 = .ok (.ifCond .eq 5, 3) := by decide +kernel
theorem dX0_reachFrom_68 : decode cX0_reachFrom 68 = .ok (.iconst 1, 1) := by decide +kernel
theorem dX0_reachFrom_69 : decode cX0_reachFrom 69 = .ok (.istore_n 3, 1) := by decide +kernel
theorem dX0_reachFrom_70 : decode cX0_reachFrom 70 = .ok (.iinc 4 1, 3) := by decide +kernel
theorem dX0_reachFrom_73 : decode cX0_reachFrom 73 = .ok (.goto (-68), 3) := by decide +kernel
theorem dX0_reachFrom_76 : decode cX0_reachFrom 76 = .ok (.iload_n 3, 1) := by decide +kernel
theorem dX0_reachFrom_77 : decode cX0_reachFrom 77 = .ok (.ireturn, 1) := by decide +kernel
theorem dX0_stepOver_0 : decode cX0_stepOver 0 = .ok (.iload_n 1, 1) := by decide +kernel
theorem dX0_stepOver_1 : decode cX0_stepOver 1 = .ok (.invokestatic 50, 3) := by decide +kernel
theorem dX0_stepOver_4 : decode cX0_stepOver 4 = .ok (.ifCond .eq 30, 3) := by decide +kernel
theorem dX0_stepOver_7 : decode cX0_stepOver 7 = .ok (.iload_n 2, 1) := by decide +kernel
theorem dX0_stepOver_8 : decode cX0_stepOver 8 = .ok (.invokestatic 50, 3) := by decide +kernel
theorem dX0_stepOver_11 : decode cX0_stepOver 11 = .ok (.ifCond .eq 23, 3) := by decide +kernel
theorem dX0_stepOver_14 : decode cX0_stepOver 14 = .ok (.aload_n 0, 1) := by decide +kernel
theorem dX0_stepOver_15 : decode cX0_stepOver 15 = .ok (.getfield 18, 3) := by decide +kernel
theorem dX0_stepOver_18 : decode cX0_stepOver 18 = .ok (.iload_n 1, 1) := by decide +kernel
theorem dX0_stepOver_19 : decode cX0_stepOver 19 = .ok (.iaload, 1) := by decide +kernel
theorem dX0_stepOver_20 : decode cX0_stepOver 20 = .ok (.iload_n 3, 1) := by decide +kernel
theorem dX0_stepOver_21 : decode cX0_stepOver 21 = .ok (.if_icmp .ne 13, 3) := by decide +kernel
theorem dX0_stepOver_24 : decode cX0_stepOver 24 = .ok (.aload_n 0, 1) := by decide +kernel
theorem dX0_stepOver_25 : decode cX0_stepOver 25 = .ok (.getfield 18, 3) := by decide +kernel
theorem dX0_stepOver_28 : decode cX0_stepOver 28 = .ok (.iload_n 2, 1) := by decide +kernel
theorem dX0_stepOver_29 : decode cX0_stepOver 29 = .ok (.iaload, 1) := by decide +kernel
theorem dX0_stepOver_30 : decode cX0_stepOver 30 = .ok (.iconst (-1), 1) := by decide +kernel
theorem dX0_stepOver_31 : decode cX0_stepOver 31 = .ok (.if_icmp .eq 5, 3) := by decide +kernel
theorem dX0_stepOver_34 : decode cX0_stepOver 34 = .ok (.iconst 0, 1) := by decide +kernel
theorem dX0_stepOver_35 : decode cX0_stepOver 35 = .ok (.ireturn, 1) := by decide +kernel
theorem dX0_stepOver_36 : decode cX0_stepOver 36 = .ok (.aload_n 0, 1) := by decide +kernel
theorem dX0_stepOver_37 : decode cX0_stepOver 37 = .ok (.getfield 18, 3) := by decide +kernel
theorem dX0_stepOver_40 : decode cX0_stepOver 40 = .ok (.iload_n 2, 1) := by decide +kernel
theorem dX0_stepOver_41 : decode cX0_stepOver 41 = .ok (.iload_n 3, 1) := by decide +kernel
theorem dX0_stepOver_42 : decode cX0_stepOver 42 = .ok (.iconst 1, 1) := by decide +kernel
theorem dX0_stepOver_43 : decode cX0_stepOver 43 = .ok (.iadd, 1) := by decide +kernel
theorem dX0_stepOver_44 : decode cX0_stepOver 44 = .ok (.iastore, 1) := by decide +kernel
theorem dX0_stepOver_45 : decode cX0_stepOver 45 = .ok (.iconst 1, 1) := by decide +kernel
theorem dX0_stepOver_46 : decode cX0_stepOver 46 = .ok (.ireturn, 1) := by decide +kernel
theorem dX0_isPlace_0 : decode cX0_isPlace 0 = .ok (.iload_n 0, 1) := by decide +kernel
theorem dX0_isPlace_1 : decode cX0_isPlace 1 = .ok (.ifCond .lt 13, 3) := by decide +kernel
theorem dX0_isPlace_4 : decode cX0_isPlace 4 = .ok (.iload_n 0, 1) := by decide +kernel
theorem dX0_isPlace_5 : decode cX0_isPlace 5 = .ok (.bipush 40, 2) := by decide +kernel
theorem dX0_isPlace_7 : decode cX0_isPlace 7 = .ok (.if_icmp .ge 7, 3) := by decide +kernel
theorem dX0_isPlace_10 : decode cX0_isPlace 10 = .ok (.iconst 1, 1) := by decide +kernel
theorem dX0_isPlace_11 : decode cX0_isPlace 11 = .ok (.goto 4, 3) := by decide +kernel
theorem dX0_isPlace_14 : decode cX0_isPlace 14 = .ok (.iconst 0, 1) := by decide +kernel
theorem dX0_isPlace_15 : decode cX0_isPlace 15 = .ok (.ireturn, 1) := by decide +kernel
end
section
theorem dX1_init_0 : decode cX1_init 0 = .ok (.aload_n 0, 1) := by decide +kernel
theorem dX1_init_1 : decode cX1_init 1 = .ok (.invokespecial 3, 3) := by decide +kernel
theorem dX1_init_4 : decode cX1_init 4 = .ok (.aload_n 0, 1) := by decide +kernel
theorem dX1_init_5 : decode cX1_init 5 = .ok (.bipush 40, 2) := by decide +kernel
theorem dX1_init_7 : decode cX1_init 7 = .ok (.newarray .int, 2) := by decide +kernel
theorem dX1_init_9 : decode cX1_init 9 = .ok (.putfield 9, 3) := by decide +kernel
theorem dX1_init_12 : decode cX1_init 12 = .ok (.aload_n 0, 1) := by decide +kernel
theorem dX1_init_13 : decode cX1_init 13 = .ok (.bipush 40, 2) := by decide +kernel
theorem dX1_init_15 : decode cX1_init 15 = .ok (.newarray .int, 2) := by decide +kernel
theorem dX1_init_17 : decode cX1_init 17 = .ok (.putfield 15, 3) := by decide +kernel
theorem dX1_init_20 : decode cX1_init 20 = .ok (.aload_n 0, 1) := by decide +kernel
theorem dX1_init_21 : decode cX1_init 21 = .ok (.bipush 40, 2) := by decide +kernel
theorem dX1_init_23 : decode cX1_init 23 = .ok (.newarray .int, 2) := by decide +kernel
theorem dX1_init_25 : decode cX1_init 25 = .ok (.putfield 18, 3) := by decide +kernel
theorem dX1_init_28 : decode cX1_init 28 = .ok (.aload_n 0, 1) := by decide +kernel
theorem dX1_init_29 : decode cX1_init 29 = .ok (.bipush 40, 2) := by decide +kernel
theorem dX1_init_31 : decode cX1_init 31 = .ok (.newarray .int, 2) := by decide +kernel
theorem dX1_init_33 : decode cX1_init 33 = .ok (.putfield 21, 3) := by decide +kernel
theorem dX1_init_36 : decode cX1_init 36 = .ok (.aload_n 0, 1) := by decide +kernel
theorem dX1_init_37 : decode cX1_init 37 = .ok (.bipush 40, 2) := by decide +kernel
theorem dX1_init_39 : decode cX1_init 39 = .ok (.newarray .int, 2) := by decide +kernel
theorem dX1_init_41 : decode cX1_init 41 = .ok (.putfield 24, 3) := by decide +kernel
theorem dX1_init_44 : decode cX1_init 44 = .ok (.aload_n 0, 1) := by decide +kernel
theorem dX1_init_45 : decode cX1_init 45 = .ok (.bipush 40, 2) := by decide +kernel
theorem dX1_init_47 : decode cX1_init 47 = .ok (.newarray .int, 2) := by decide +kernel
theorem dX1_init_49 : decode cX1_init 49 = .ok (.putfield 27, 3) := by decide +kernel
theorem dX1_init_52 : decode cX1_init 52 = .ok (.aload_n 0, 1) := by decide +kernel
theorem dX1_init_53 : decode cX1_init 53 = .ok (.bipush 40, 2) := by decide +kernel
theorem dX1_init_55 : decode cX1_init 55 = .ok (.newarray .boolean, 2) := by decide +kernel
theorem dX1_init_57 : decode cX1_init 57 = .ok (.putfield 30, 3) := by decide +kernel
theorem dX1_init_60 : decode cX1_init 60 = .ok (.aload_n 0, 1) := by decide +kernel
theorem dX1_init_61 : decode cX1_init 61 = .ok (.bipush 40, 2) := by decide +kernel
theorem dX1_init_63 : decode cX1_init 63 = .ok (.newarray .int, 2) := by decide +kernel
theorem dX1_init_65 : decode cX1_init 65 = .ok (.putfield 34, 3) := by decide +kernel
theorem dX1_init_68 : decode cX1_init 68 = .ok (.aload_n 0, 1) := by decide +kernel
theorem dX1_init_69 : decode cX1_init 69 = .ok (.bipush 40, 2) := by decide +kernel
theorem dX1_init_71 : decode cX1_init 71 = .ok (.newarray .int, 2) := by decide +kernel
theorem dX1_init_73 : decode cX1_init 73 = .ok (.putfield 37, 3) := by decide +kernel
theorem dX1_init_76 : decode cX1_init 76 = .ok (.return_, 1) := by decide +kernel
theorem dX1_has_0 : decode cX1_has 0 = .ok (.iload_n 1, 1) := by decide +kernel
theorem dX1_has_1 : decode cX1_has 1 = .ok (.ifCond .lt 15, 3) := by decide +kernel
theorem dX1_has_4 : decode cX1_has 4 = .ok (.iload_n 1, 1) := by decide +kernel
theorem dX1_has_5 : decode cX1_has 5 = .ok (.aload_n 0, 1) := by decide +kernel
theorem dX1_has_6 : decode cX1_has 6 = .ok (.getfield 40, 3) := by decide +kernel
theorem dX1_has_9 : decode cX1_has 9 = .ok (.if_icmp .ge 7, 3) := by decide +kernel
theorem dX1_has_12 : decode cX1_has 12 = .ok (.iconst 1, 1) := by decide +kernel
theorem dX1_has_13 : decode cX1_has 13 = .ok (.goto 4, 3) := by decide +kernel
theorem dX1_has_16 : decode cX1_has 16 = .ok (.iconst 0, 1) := by decide +kernel
theorem dX1_has_17 : decode cX1_has 17 = .ok (.ireturn, 1) := by decide +kernel
theorem dX1_isFull_0 : decode cX1_isFull 0 = .ok (.aload_n 0, 1) := by decide +kernel
theorem dX1_isFull_1 : decode cX1_isFull 1 = .ok (.getfield 40, 3) := by decide +kernel
theorem dX1_isFull_4 : decode cX1_isFull 4 = .ok (.bipush 40, 2) := by decide +kernel
theorem dX1_isFull_6 : decode cX1_isFull 6 = .ok (.if_icmp .lt 7, 3) := by decide +kernel
theorem dX1_isFull_9 : decode cX1_isFull 9 = .ok (.iconst 1, 1) := by decide +kernel
theorem dX1_isFull_10 : decode cX1_isFull 10 = .ok (.goto 4, 3) := by decide +kernel
theorem dX1_isFull_13 : decode cX1_isFull 13 = .ok (.iconst 0, 1) := by decide +kernel
theorem dX1_isFull_14 : decode cX1_isFull 14 = .ok (.ireturn, 1) := by decide +kernel
theorem dX1_isHanging_0 : decode cX1_isHanging 0 = .ok (.aload_n 0, 1) := by decide +kernel
theorem dX1_isHanging_1 : decode cX1_isHanging 1 = .ok (.iload_n 1, 1) := by decide +kernel
theorem dX1_isHanging_2 : decode cX1_isHanging 2 = .ok (.invokevirtual 44, 3) := by decide +kernel
theorem dX1_isHanging_5 : decode cX1_isHanging 5 = .ok (.ifCond .eq 16, 3) := by decide +kernel
theorem dX1_isHanging_8 : decode cX1_isHanging 8 = .ok (.aload_n 0, 1) := by decide +kernel
theorem dX1_isHanging_9 : decode cX1_isHanging 9 = .ok (.getfield 30, 3) := by decide +kernel
theorem dX1_isHanging_12 : decode cX1_isHanging 12 = .ok (.iload_n 1, 1) := by decide +kernel
theorem dX1_isHanging_13 : decode cX1_isHanging 13 = .ok (.baload, 1) := by decide +kernel
theorem dX1_isHanging_14 : decode cX1_isHanging 14 = .ok (.ifCond .eq 7, 3) := by decide +kernel
theorem dX1_isHanging_17 : decode cX1_isHanging 17 = .ok (.iconst 1, 1) := by decide +kernel
theorem dX1_isHanging_18 : decode cX1_isHanging 18 = .ok (.goto 4, 3) := by decide +kernel
theorem dX1_isHanging_21 : decode cX1_isHanging 21 = .ok (.iconst 0, 1) := by decide +kernel
theorem dX1_isHanging_22 : decode cX1_isHanging 22 = .ok (.ireturn, 1) := by decide +kernel
theorem dX1_hasSpell_0 : decode cX1_hasSpell 0 = .ok (.aload_n 0, 1) := by decide +kernel
theorem dX1_hasSpell_1 : decode cX1_hasSpell 1 = .ok (.iload_n 1, 1) := by decide +kernel
theorem dX1_hasSpell_2 : decode cX1_hasSpell 2 = .ok (.invokevirtual 44, 3) := by decide +kernel
theorem dX1_hasSpell_5 : decode cX1_hasSpell 5 = .ok (.ifCond .eq 16, 3) := by decide +kernel
theorem dX1_hasSpell_8 : decode cX1_hasSpell 8 = .ok (.aload_n 0, 1) := by decide +kernel
theorem dX1_hasSpell_9 : decode cX1_hasSpell 9 = .ok (.getfield 21, 3) := by decide +kernel
theorem dX1_hasSpell_12 : decode cX1_hasSpell 12 = .ok (.iload_n 1, 1) := by decide +kernel
theorem dX1_hasSpell_13 : decode cX1_hasSpell 13 = .ok (.iaload, 1) := by decide +kernel
theorem dX1_hasSpell_14 : decode cX1_hasSpell 14 = .ok (.ifCond .le 7, 3) := by decide +kernel
theorem dX1_hasSpell_17 : decode cX1_hasSpell 17 = .ok (.iconst 1, 1) := by decide +kernel
theorem dX1_hasSpell_18 : decode cX1_hasSpell 18 = .ok (.goto 4, 3) := by decide +kernel
theorem dX1_hasSpell_21 : decode cX1_hasSpell 21 = .ok (.iconst 0, 1) := by decide +kernel
theorem dX1_hasSpell_22 : decode cX1_hasSpell 22 = .ok (.ireturn, 1) := by decide +kernel
theorem dX1_addBySpell_0 : decode cX1_addBySpell 0 = .ok (.aload_n 0, 1) := by decide +kernel
theorem dX1_addBySpell_1 : decode cX1_addBySpell 1 = .ok (.iload_n 1, 1) := by decide +kernel
theorem dX1_addBySpell_2 : decode cX1_addBySpell 2 = .ok (.iload_n 2, 1) := by decide +kernel
theorem dX1_addBySpell_3 : decode cX1_addBySpell 3 = .ok (.iconst (-1), 1) := by decide +kernel
theorem dX1_addBySpell_4 : decode cX1_addBySpell 4 = .ok (.iconst (-1), 1) := by decide +kernel
theorem dX1_addBySpell_5 : decode cX1_addBySpell 5 = .ok (.invokevirtual 48, 3) := by decide +kernel
theorem dX1_addBySpell_8 : decode cX1_addBySpell 8 = .ok (.istore 4, 2) := by decide +kernel
theorem dX1_addBySpell_10 : decode cX1_addBySpell 10 = .ok (.aload_n 0, 1) := by decide +kernel
theorem dX1_addBySpell_11 : decode cX1_addBySpell 11 = .ok (.iload 4, 2) := by decide +kernel
theorem dX1_addBySpell_13 : decode cX1_addBySpell 13 = .ok (.invokevirtual 44, 3) := by decide +kernel
theorem dX1_addBySpell_16 : decode cX1_addBySpell 16 = .ok (.ifCond .eq 11, 3) := by decide +kernel
theorem dX1_addBySpell_19 : decode cX1_addBySpell 19 = .ok (.aload_n 0, 1) := by decide +kernel
theorem dX1_addBySpell_20 : decode cX1_addBySpell 20 = .ok (.getfield 21, 3) := by decide +kernel
theorem dX1_addBySpell_23 : decode cX1_addBySpell 23 = .ok (.iload 4, 2) := by decide +kernel
theorem dX1_addBySpell_25 : decode cX1_addBySpell 25 = .ok (.iload_n 3, 1) := by decide +kernel
theorem dX1_addBySpell_26 : decode cX1_addBySpell 26 = .ok (.iastore, 1) := by decide +kernel
theorem dX1_addBySpell_27 : decode cX1_addBySpell 27 = .ok (.iload 4, 2) := by decide +kernel
theorem dX1_addBySpell_29 : decode cX1_addBySpell 29 = .ok (.ireturn, 1) := by decide +kernel
theorem dX1_addByHolds_0 : decode cX1_addByHolds 0 = .ok (.aload_n 0, 1) := by decide +kernel
theorem dX1_addByHolds_1 : decode cX1_addByHolds 1 = .ok (.invokevirtual 52, 3) := by decide +kernel
theorem dX1_addByHolds_4 : decode cX1_addByHolds 4 = .ok (.ifCond .eq 5, 3) := by decide +kernel
theorem dX1_addByHolds_7 : decode cX1_addByHolds 7 = .ok (.iconst (-1), 1) := by decide +kernel
theorem dX1_addByHolds_8 : decode cX1_addByHolds 8 = .ok (.ireturn, 1) := by decide +kernel
theorem dX1_addByHolds_9 : decode cX1_addByHolds 9 = .ok (.aload_n 0, 1) := by decide +kernel
theorem dX1_addByHolds_10 : decode cX1_addByHolds 10 = .ok (.getfield 40, 3) := by decide +kernel
theorem dX1_addByHolds_13 : decode cX1_addByHolds 13 = .ok (.istore 5, 2) := by decide +kernel
theorem dX1_addByHolds_15 : decode cX1_addByHolds 15 = .ok (.aload_n 0, 1) := by decide +kernel
theorem dX1_addByHolds_16 : decode cX1_addByHolds 16 = .ok (.getfield 9, 3) := by decide +kernel
theorem dX1_addByHolds_19 : decode cX1_addByHolds 19 = .ok (.iload 5, 2) := by decide +kernel
theorem dX1_addByHolds_21 : decode cX1_addByHolds 21 = .ok (.iload_n 1, 1) := by decide +kernel
theorem dX1_addByHolds_22 : decode cX1_addByHolds 22 = .ok (.iastore, 1) := by decide +kernel
theorem dX1_addByHolds_23 : decode cX1_addByHolds 23 = .ok (.aload_n 0, 1) := by decide +kernel
theorem dX1_addByHolds_24 : decode cX1_addByHolds 24 = .ok (.getfield 15, 3) := by decide +kernel
theorem dX1_addByHolds_27 : decode cX1_addByHolds 27 = .ok (.iload 5, 2) := by decide +kernel
theorem dX1_addByHolds_29 : decode cX1_addByHolds 29 = .ok (.iload_n 2, 1) := by decide +kernel
theorem dX1_addByHolds_30 : decode cX1_addByHolds 30 = .ok (.iastore, 1) := by decide +kernel
theorem dX1_addByHolds_31 : decode cX1_addByHolds 31 = .ok (.aload_n 0, 1) := by decide +kernel
theorem dX1_addByHolds_32 : decode cX1_addByHolds 32 = .ok (.getfield 24, 3) := by decide +kernel
theorem dX1_addByHolds_35 : decode cX1_addByHolds 35 = .ok (.iload 5, 2) := by decide +kernel
theorem dX1_addByHolds_37 : decode cX1_addByHolds 37 = .ok (.iload_n 3, 1) := by decide +kernel
theorem dX1_addByHolds_38 : decode cX1_addByHolds 38 = .ok (.iastore, 1) := by decide +kernel
theorem dX1_addByHolds_39 : decode cX1_addByHolds 39 = .ok (.aload_n 0, 1) := by decide +kernel
theorem dX1_addByHolds_40 : decode cX1_addByHolds 40 = .ok (.getfield 27, 3) := by decide +kernel
theorem dX1_addByHolds_43 : decode cX1_addByHolds 43 = .ok (.iload 5, 2) := by decide +kernel
theorem dX1_addByHolds_45 : decode cX1_addByHolds 45 = .ok (.iload 4, 2) := by decide +kernel
theorem dX1_addByHolds_47 : decode cX1_addByHolds 47 = .ok (.iastore, 1) := by decide +kernel
theorem dX1_addByHolds_48 : decode cX1_addByHolds 48 = .ok (.aload_n 0, 1) := by decide +kernel
theorem dX1_addByHolds_49 : decode cX1_addByHolds 49 = .ok (.getfield 30, 3) := by decide +kernel
theorem dX1_addByHolds_52 : decode cX1_addByHolds 52 = .ok (.iload 5, 2) := by decide +kernel
theorem dX1_addByHolds_54 : decode cX1_addByHolds 54 = .ok (.iconst 1, 1) := by decide +kernel
theorem dX1_addByHolds_55 : decode cX1_addByHolds 55 = .ok (.bastore, 1) := by decide +kernel
theorem dX1_addByHolds_56 : decode cX1_addByHolds 56 = .ok (.aload_n 0, 1) := by decide +kernel
theorem dX1_addByHolds_57 : decode cX1_addByHolds 57 = .ok (.dup, 1) := by decide +kernel
theorem dX1_addByHolds_58 : decode cX1_addByHolds 58 = .ok (.getfield 40, 3) := by decide +kernel
theorem dX1_addByHolds_61 : decode cX1_addByHolds 61 = .ok (.iconst 1, 1) := by decide +kernel
theorem dX1_addByHolds_62 : decode cX1_addByHolds 62 = .ok (.iadd, 1) := by decide +kernel
theorem dX1_addByHolds_63 : decode cX1_addByHolds 63 = .ok (.putfield 40, 3) := by decide +kernel
theorem dX1_addByHolds_66 : decode cX1_addByHolds 66 = .ok (.aload_n 0, 1) := by decide +kernel
theorem dX1_addByHolds_67 : decode cX1_addByHolds 67 = .ok (.dup, 1) := by decide +kernel
theorem dX1_addByHolds_68 : decode cX1_addByHolds 68 = .ok (.getfield 56, 3) := by decide +kernel
theorem dX1_addByHolds_71 : decode cX1_addByHolds 71 = .ok (.iconst 1, 1) := by decide +kernel
theorem dX1_addByHolds_72 : decode cX1_addByHolds 72 = .ok (.iadd, 1) := by decide +kernel
theorem dX1_addByHolds_73 : decode cX1_addByHolds 73 = .ok (.putfield 56, 3) := by decide +kernel
theorem dX1_addByHolds_76 : decode cX1_addByHolds 76 = .ok (.aload_n 0, 1) := by decide +kernel
theorem dX1_addByHolds_77 : decode cX1_addByHolds 77 = .ok (.iconst 1, 1) := by decide +kernel
theorem dX1_addByHolds_78 : decode cX1_addByHolds 78 = .ok (.putfield 59, 3) := by decide +kernel
theorem dX1_addByHolds_81 : decode cX1_addByHolds 81 = .ok (.iload 5, 2) := by decide +kernel
theorem dX1_addByHolds_83 : decode cX1_addByHolds 83 = .ok (.ireturn, 1) := by decide +kernel
theorem dX1_setProp_0 : decode cX1_setProp 0 = .ok (.aload_n 0, 1) := by decide +kernel
theorem dX1_setProp_1 : decode cX1_setProp 1 = .ok (.iload_n 1, 1) := by decide +kernel
theorem dX1_setProp_2 : decode cX1_setProp 2 = .ok (.invokevirtual 44, 3) := by decide +kernel
theorem dX1_setProp_5 : decode cX1_setProp 5 = .ok (.ifCond .eq 15, 3) := by decide +kernel
theorem dX1_setProp_8 : decode cX1_setProp 8 = .ok (.aload_n 0, 1) := by decide +kernel
theorem dX1_setProp_9 : decode cX1_setProp 9 = .ok (.getfield 18, 3) := by decide +kernel
theorem dX1_setProp_12 : decode cX1_setProp 12 = .ok (.iload_n 1, 1) := by decide +kernel
theorem dX1_setProp_13 : decode cX1_setProp 13 = .ok (.iload_n 2, 1) := by decide +kernel
theorem dX1_setProp_14 : decode cX1_setProp 14 = .ok (.iastore, 1) := by decide +kernel
theorem dX1_setProp_15 : decode cX1_setProp 15 = .ok (.aload_n 0, 1) := by decide +kernel
theorem dX1_setProp_16 : decode cX1_setProp 16 = .ok (.iconst 1, 1) := by decide +kernel
theorem dX1_setProp_17 : decode cX1_setProp 17 = .ok (.putfield 59, 3) := by decide +kernel
theorem dX1_setProp_20 : decode cX1_setProp 20 = .ok (.return_, 1) := by decide +kernel
theorem dX1_copyFrom_0 : decode cX1_copyFrom 0 = .ok (.iconst 0, 1) := by decide +kernel
theorem dX1_copyFrom_1 : decode cX1_copyFrom 1 = .ok (.istore_n 2, 1) := by decide +kernel
theorem dX1_copyFrom_2 : decode cX1_copyFrom 2 = .ok (.iload_n 2, 1) := by decide +kernel
theorem dX1_copyFrom_3 : decode cX1_copyFrom 3 = .ok (.aload_n 1, 1) := by decide +kernel
theorem dX1_copyFrom_4 : decode cX1_copyFrom 4 = .ok (.getfield 40, 3) := by decide +kernel
theorem dX1_copyFrom_7 : decode cX1_copyFrom 7 = .ok (.if_icmp .ge 117, 3) := by decide +kernel
theorem dX1_copyFrom_10 : decode cX1_copyFrom 10 = .ok (.aload_n 0, 1) := by decide +kernel
theorem dX1_copyFrom_11 : decode cX1_copyFrom 11 = .ok (.getfield 9, 3) := by decide +kernel
theorem dX1_copyFrom_14 : decode cX1_copyFrom 14 = .ok (.iload_n 2, 1) := by decide +kernel
theorem dX1_copyFrom_15 : decode cX1_copyFrom 15 = .ok (.aload_n 1, 1) := by decide +kernel
theorem dX1_copyFrom_16 : decode cX1_copyFrom 16 = .ok (.getfield 9, 3) := by decide +kernel
theorem dX1_copyFrom_19 : decode cX1_copyFrom 19 = .ok (.iload_n 2, 1) := by decide +kernel
theorem dX1_copyFrom_20 : decode cX1_copyFrom 20 = .ok (.iaload, 1) := by decide +kernel
theorem dX1_copyFrom_21 : decode cX1_copyFrom 21 = .ok (.iastore, 1) := by decide +kernel
theorem dX1_copyFrom_22 : decode cX1_copyFrom 22 = .ok (.aload_n 0, 1) := by decide +kernel
theorem dX1_copyFrom_23 : decode cX1_copyFrom 23 = .ok (.getfield 15, 3) := by decide +kernel
theorem dX1_copyFrom_26 : decode cX1_copyFrom 26 = .ok (.iload_n 2, 1) := by decide +kernel
theorem dX1_copyFrom_27 : decode cX1_copyFrom 27 = .ok (.aload_n 1, 1) := by decide +kernel
theorem dX1_copyFrom_28 : decode cX1_copyFrom 28 = .ok (.getfield 15, 3) := by decide +kernel
theorem dX1_copyFrom_31 : decode cX1_copyFrom 31 = .ok (.iload_n 2, 1) := by decide +kernel
theorem dX1_copyFrom_32 : decode cX1_copyFrom 32 = .ok (.iaload, 1) := by decide +kernel
theorem dX1_copyFrom_33 : decode cX1_copyFrom 33 = .ok (.iastore, 1) := by decide +kernel
theorem dX1_copyFrom_34 : decode cX1_copyFrom 34 = .ok (.aload_n 0, 1) := by decide +kernel
theorem dX1_copyFrom_35 : decode cX1_copyFrom 35 = .ok (.getfield 18, 3) := by decide +kernel
theorem dX1_copyFrom_38 : decode cX1_copyFrom 38 = .ok (.iload_n 2, 1) := by decide +kernel
theorem dX1_copyFrom_39 : decode cX1_copyFrom 39 = .ok (.aload_n 1, 1) := by decide +kernel
theorem dX1_copyFrom_40 : decode cX1_copyFrom 40 = .ok (.getfield 18, 3) := by decide +kernel
theorem dX1_copyFrom_43 : decode cX1_copyFrom 43 = .ok (.iload_n 2, 1) := by decide +kernel
theorem dX1_copyFrom_44 : decode cX1_copyFrom 44 = .ok (.iaload, 1) := by decide +kernel
theorem dX1_copyFrom_45 : decode cX1_copyFrom 45 = .ok (.iastore, 1) := by decide +kernel
theorem dX1_copyFrom_46 : decode cX1_copyFrom 46 = .ok (.aload_n 0, 1) := by decide +kernel
theorem dX1_copyFrom_47 : decode cX1_copyFrom 47 = .ok (.getfield 21, 3) := by decide +kernel
theorem dX1_copyFrom_50 : decode cX1_copyFrom 50 = .ok (.iload_n 2, 1) := by decide +kernel
theorem dX1_copyFrom_51 : decode cX1_copyFrom 51 = .ok (.aload_n 1, 1) := by decide +kernel
theorem dX1_copyFrom_52 : decode cX1_copyFrom 52 = .ok (.getfield 21, 3) := by decide +kernel
theorem dX1_copyFrom_55 : decode cX1_copyFrom 55 = .ok (.iload_n 2, 1) := by decide +kernel
theorem dX1_copyFrom_56 : decode cX1_copyFrom 56 = .ok (.iaload, 1) := by decide +kernel
theorem dX1_copyFrom_57 : decode cX1_copyFrom 57 = .ok (.iastore, 1) := by decide +kernel
theorem dX1_copyFrom_58 : decode cX1_copyFrom 58 = .ok (.aload_n 0, 1) := by decide +kernel
theorem dX1_copyFrom_59 : decode cX1_copyFrom 59 = .ok (.getfield 24, 3) := by decide +kernel
theorem dX1_copyFrom_62 : decode cX1_copyFrom 62 = .ok (.iload_n 2, 1) := by decide +kernel
theorem dX1_copyFrom_63 : decode cX1_copyFrom 63 = .ok (.aload_n 1, 1) := by decide +kernel
theorem dX1_copyFrom_64 : decode cX1_copyFrom 64 = .ok (.getfield 24, 3) := by decide +kernel
theorem dX1_copyFrom_67 : decode cX1_copyFrom 67 = .ok (.iload_n 2, 1) := by decide +kernel
theorem dX1_copyFrom_68 : decode cX1_copyFrom 68 = .ok (.iaload, 1) := by decide +kernel
theorem dX1_copyFrom_69 : decode cX1_copyFrom 69 = .ok (.iastore, 1) := by decide +kernel
theorem dX1_copyFrom_70 : decode cX1_copyFrom 70 = .ok (.aload_n 0, 1) := by decide +kernel
theorem dX1_copyFrom_71 : decode cX1_copyFrom 71 = .ok (.getfield 27, 3) := by decide +kernel
theorem dX1_copyFrom_74 : decode cX1_copyFrom 74 = .ok (.iload_n 2, 1) := by decide +kernel
theorem dX1_copyFrom_75 : decode cX1_copyFrom 75 = .ok (.aload_n 1, 1) := by decide +kernel
theorem dX1_copyFrom_76 : decode cX1_copyFrom 76 = .ok (.getfield 27, 3) := by decide +kernel
theorem dX1_copyFrom_79 : decode cX1_copyFrom 79 = .ok (.iload_n 2, 1) := by decide +kernel
theorem dX1_copyFrom_80 : decode cX1_copyFrom 80 = .ok (.iaload, 1) := by decide +kernel
theorem dX1_copyFrom_81 : decode cX1_copyFrom 81 = .ok (.iastore, 1) := by decide +kernel
theorem dX1_copyFrom_82 : decode cX1_copyFrom 82 = .ok (.aload_n 0, 1) := by decide +kernel
theorem dX1_copyFrom_83 : decode cX1_copyFrom 83 = .ok (.getfield 30, 3) := by decide +kernel
theorem dX1_copyFrom_86 : decode cX1_copyFrom 86 = .ok (.iload_n 2, 1) := by decide +kernel
theorem dX1_copyFrom_87 : decode cX1_copyFrom 87 = .ok (.aload_n 1, 1) := by decide +kernel
theorem dX1_copyFrom_88 : decode cX1_copyFrom 88 = .ok (.getfield 30, 3) := by decide +kernel
theorem dX1_copyFrom_91 : decode cX1_copyFrom 91 = .ok (.iload_n 2, 1) := by decide +kernel
theorem dX1_copyFrom_92 : decode cX1_copyFrom 92 = .ok (.baload, 1) := by decide +kernel
theorem dX1_copyFrom_93 : decode cX1_copyFrom 93 = .ok (.bastore, 1) := by decide +kernel
theorem dX1_copyFrom_94 : decode cX1_copyFrom 94 = .ok (.aload_n 0, 1) := by decide +kernel
theorem dX1_copyFrom_95 : decode cX1_copyFrom 95 = .ok (.getfield 34, 3) := by decide +kernel
theorem dX1_copyFrom_98 : decode cX1_copyFrom 98 = .ok (.iload_n 2, 1) := by decide +kernel
theorem dX1_copyFrom_99 : decode cX1_copyFrom 99 = .ok (.aload_n 1, 1) := by decide +kernel
theorem dX1_copyFrom_100 : decode cX1_copyFrom 100 = .ok (.getfield 34, 3) := by decide +kernel
theorem dX1_copyFrom_103 : decode cX1_copyFrom 103 = .ok (.iload_n 2, 1) := by decide +kernel
theorem dX1_copyFrom_104 : decode cX1_copyFrom 104 = .ok (.iaload, 1) := by decide +kernel
theorem dX1_copyFrom_105 : decode cX1_copyFrom 105 = .ok (.iastore, 1) := by decide +kernel
theorem dX1_copyFrom_106 : decode cX1_copyFrom 106 = .ok (.aload_n 0, 1) := by decide +kernel
theorem dX1_copyFrom_107 : decode cX1_copyFrom 107 = .ok (.getfield 37, 3) := by decide +kernel
theorem dX1_copyFrom_110 : decode cX1_copyFrom 110 = .ok (.iload_n 2, 1) := by decide +kernel
theorem dX1_copyFrom_111 : decode cX1_copyFrom 111 = .ok (.aload_n 1, 1) := by decide +kernel
theorem dX1_copyFrom_112 : decode cX1_copyFrom 112 = .ok (.getfield 37, 3) := by decide +kernel
theorem dX1_copyFrom_115 : decode cX1_copyFrom 115 = .ok (.iload_n 2, 1) := by decide +kernel
theorem dX1_copyFrom_116 : decode cX1_copyFrom 116 = .ok (.iaload, 1) := by decide +kernel
theorem dX1_copyFrom_117 : decode cX1_copyFrom 117 = .ok (.iastore, 1) := by decide +kernel
theorem dX1_copyFrom_118 : decode cX1_copyFrom 118 = .ok (.iinc 2 1, 3) := by decide +kernel
theorem dX1_copyFrom_121 : decode cX1_copyFrom 121 = .ok (.goto (-119), 3) := by decide +kernel
theorem dX1_copyFrom_124 : decode cX1_copyFrom 124 = .ok (.aload_n 0, 1) := by decide +kernel
theorem dX1_copyFrom_125 : decode cX1_copyFrom 125 = .ok (.aload_n 1, 1) := by decide +kernel
theorem dX1_copyFrom_126 : decode cX1_copyFrom 126 = .ok (.getfield 40, 3) := by decide +kernel
theorem dX1_copyFrom_129 : decode cX1_copyFrom 129 = .ok (.putfield 40, 3) := by decide +kernel
theorem dX1_copyFrom_132 : decode cX1_copyFrom 132 = .ok (.aload_n 0, 1) := by decide +kernel
theorem dX1_copyFrom_133 : decode cX1_copyFrom 133 = .ok (.aload_n 1, 1) := by decide +kernel
theorem dX1_copyFrom_134 : decode cX1_copyFrom 134 = .ok (.getfield 56, 3) := by decide +kernel
theorem dX1_copyFrom_137 : decode cX1_copyFrom 137 = .ok (.putfield 56, 3) := by decide +kernel
theorem dX1_copyFrom_140 : decode cX1_copyFrom 140 = .ok (.aload_n 0, 1) := by decide +kernel
theorem dX1_copyFrom_141 : decode cX1_copyFrom 141 = .ok (.aload_n 1, 1) := by decide +kernel
theorem dX1_copyFrom_142 : decode cX1_copyFrom 142 = .ok (.getfield 63, 3) := by decide +kernel
theorem dX1_copyFrom_145 : decode cX1_copyFrom 145 = .ok (.putfield 63, 3) := by decide +kernel
theorem dX1_copyFrom_148 : decode cX1_copyFrom 148 = .ok (.aload_n 0, 1) := by decide +kernel
theorem dX1_copyFrom_149 : decode cX1_copyFrom 149 = .ok (.aload_n 1, 1) := by decide +kernel
theorem dX1_copyFrom_150 : decode cX1_copyFrom 150 = .ok (.getfield 59, 3) := by decide +kernel
theorem dX1_copyFrom_153 : decode cX1_copyFrom 153 = .ok (.putfield 59, 3) := by decide +kernel
theorem dX1_copyFrom_156 : decode cX1_copyFrom 156 = .ok (.return_, 1) := by decide +kernel
theorem dX1_giveWay_0 : decode cX1_giveWay 0 = .ok (.iconst 1, 1) := by decide +kernel
theorem dX1_giveWay_1 : decode cX1_giveWay 1 = .ok (.istore_n 1, 1) := by decide +kernel
theorem dX1_giveWay_2 : decode cX1_giveWay 2 = .ok (.iconst 0, 1) := by decide +kernel
theorem dX1_giveWay_3 : decode cX1_giveWay 3 = .ok (.istore_n 2, 1) := by decide +kernel
theorem dX1_giveWay_4 : decode cX1_giveWay 4 = .ok (.iload_n 1, 1) := by decide +kernel
theorem dX1_giveWay_5 : decode cX1_giveWay 5 = .ok (.ifCond .eq 48, 3) := by decide +kernel
theorem dX1_giveWay_8 : decode cX1_giveWay 8 = .ok (.iload_n 2, 1) := by decide +kernel
theorem dX1_giveWay_9 : decode cX1_giveWay 9 = .ok (.sipush 1000, 3) := by decide +kernel
theorem dX1_giveWay_12 : decode cX1_giveWay 12 = .ok (.if_icmp .ge 41, 3) := by decide +kernel
theorem dX1_giveWay_15 : decode cX1_giveWay 15 = .ok (.aload_n 0, 1) := by decide +kernel
theorem dX1_giveWay_16 : decode cX1_giveWay 16 = .ok (.getfield 59, 3) := by decide +kernel
theorem dX1_giveWay_19 : decode cX1_giveWay 19 = .ok (.ifCond .eq 7, 3) := by decide +kernel
theorem dX1_giveWay_22 : decode cX1_giveWay 22 = .ok (.aload_n 0, 1) := by decide +kernel
theorem dX1_giveWay_23 : decode cX1_giveWay 23 = .ok (.invokevirtual 66, 3) := by decide +kernel
theorem dX1_giveWay_26 : decode cX1_giveWay 26 = .ok (.aload_n 0, 1) := by decide +kernel
theorem dX1_giveWay_27 : decode cX1_giveWay 27 = .ok (.invokevirtual 69, 3) := by decide +kernel
theorem dX1_giveWay_30 : decode cX1_giveWay 30 = .ok (.aload_n 0, 1) := by decide +kernel
theorem dX1_giveWay_31 : decode cX1_giveWay 31 = .ok (.invokevirtual 72, 3) := by decide +kernel
theorem dX1_giveWay_34 : decode cX1_giveWay 34 = .ok (.aload_n 0, 1) := by decide +kernel
theorem dX1_giveWay_35 : decode cX1_giveWay 35 = .ok (.getfield 59, 3) := by decide +kernel
theorem dX1_giveWay_38 : decode cX1_giveWay 38 = .ok (.istore_n 1, 1) := by decide +kernel
theorem dX1_giveWay_39 : decode cX1_giveWay 39 = .ok (.iload_n 1, 1) := by decide +kernel
theorem dX1_giveWay_40 : decode cX1_giveWay 40 = .ok (.ifCond .eq 7, 3) := by decide +kernel
theorem dX1_giveWay_43 : decode cX1_giveWay 43 = .ok (.aload_n 0, 1) := by decide +kernel
theorem dX1_giveWay_44 : decode cX1_giveWay 44 = .ok (.invokevirtual 75, 3) := by decide +kernel
theorem dX1_giveWay_47 : decode cX1_giveWay 47 = .ok (.iinc 2 1, 3) := by decide +kernel
theorem dX1_giveWay_50 : decode cX1_giveWay 50 = .ok (.goto (-46), 3) := by decide +kernel
theorem dX1_giveWay_53 : decode cX1_giveWay 53 = .ok (.return_, 1) := by decide +kernel
theorem dX1_measure_0 : decode cX1_measure 0 = .ok (.iconst 0, 1) := by decide +kernel
theorem dX1_measure_1 : decode cX1_measure 1 = .ok (.istore_n 1, 1) := by decide +kernel
theorem dX1_measure_2 : decode cX1_measure 2 = .ok (.iload_n 1, 1) := by decide +kernel
theorem dX1_measure_3 : decode cX1_measure 3 = .ok (.aload_n 0, 1) := by decide +kernel
theorem dX1_measure_4 : decode cX1_measure 4 = .ok (.getfield 40, 3) := by decide +kernel
theorem dX1_measure_7 : decode cX1_measure 7 = .ok (.if_icmp .ge 16, 3) := by decide +kernel
theorem dX1_measure_10 : decode cX1_measure 10 = .ok (.aload_n 0, 1) := by decide +kernel
theorem dX1_measure_11 : decode cX1_measure 11 = .ok (.getfield 37, 3) := by decide +kernel
theorem dX1_measure_14 : decode cX1_measure 14 = .ok (.iload_n 1, 1) := by decide +kernel
theorem dX1_measure_15 : decode cX1_measure 15 = .ok (.iconst 0, 1) := by decide +kernel
theorem dX1_measure_16 : decode cX1_measure 16 = .ok (.iastore, 1) := by decide +kernel
theorem dX1_measure_17 : decode cX1_measure 17 = .ok (.iinc 1 1, 3) := by decide +kernel
theorem dX1_measure_20 : decode cX1_measure 20 = .ok (.goto (-18), 3) := by decide +kernel
theorem dX1_measure_23 : decode cX1_measure 23 = .ok (.aload_n 0, 1) := by decide +kernel
theorem dX1_measure_24 : decode cX1_measure 24 = .ok (.getfield 40, 3) := by decide +kernel
theorem dX1_measure_27 : decode cX1_measure 27 = .ok (.iconst 1, 1) := by decide +kernel
theorem dX1_measure_28 : decode cX1_measure 28 = .ok (.isub, 1) := by decide +kernel
theorem dX1_measure_29 : decode cX1_measure 29 = .ok (.istore_n 1, 1) := by decide +kernel
theorem dX1_measure_30 : decode cX1_measure 30 = .ok (.iload_n 1, 1) := by decide +kernel
theorem dX1_measure_31 : decode cX1_measure 31 = .ok (.ifCond .lt 119, 3) := by decide +kernel
theorem dX1_measure_34 : decode cX1_measure 34 = .ok (.aload_n 0, 1) := by decide +kernel
theorem dX1_measure_35 : decode cX1_measure 35 = .ok (.getfield 34, 3) := by decide +kernel
theorem dX1_measure_38 : decode cX1_measure 38 = .ok (.iload_n 1, 1) := by decide +kernel
theorem dX1_measure_39 : decode cX1_measure 39 = .ok (.aload_n 0, 1) := by decide +kernel
theorem dX1_measure_40 : decode cX1_measure 40 = .ok (.getfield 30, 3) := by decide +kernel
theorem dX1_measure_43 : decode cX1_measure 43 = .ok (.iload_n 1, 1) := by decide +kernel
theorem dX1_measure_44 : decode cX1_measure 44 = .ok (.baload, 1) := by decide +kernel
theorem dX1_measure_45 : decode cX1_measure 45 = .ok (.ifCond .eq 30, 3) := by decide +kernel
theorem dX1_measure_48 : decode cX1_measure 48 = .ok (.iconst 0, 1) := by decide +kernel
theorem dX1_measure_49 : decode cX1_measure 49 = .ok (.aload_n 0, 1) := by decide +kernel
theorem dX1_measure_50 : decode cX1_measure 50 = .ok (.getfield 9, 3) := by decide +kernel
theorem dX1_measure_53 : decode cX1_measure 53 = .ok (.iload_n 1, 1) := by decide +kernel
theorem dX1_measure_54 : decode cX1_measure 54 = .ok (.iaload, 1) := by decide +kernel
theorem dX1_measure_55 : decode cX1_measure 55 = .ok (.aload_n 0, 1) := by decide +kernel
theorem dX1_measure_56 : decode cX1_measure 56 = .ok (.getfield 37, 3) := by decide +kernel
theorem dX1_measure_59 : decode cX1_measure 59 = .ok (.iload_n 1, 1) := by decide +kernel
theorem dX1_measure_60 : decode cX1_measure 60 = .ok (.iaload, 1) := by decide +kernel
theorem dX1_measure_61 : decode cX1_measure 61 = .ok (.iadd, 1) := by decide +kernel
theorem dX1_measure_62 : decode cX1_measure 62 = .ok (.aload_n 0, 1) := by decide +kernel
theorem dX1_measure_63 : decode cX1_measure 63 = .ok (.getfield 18, 3) := by decide +kernel
theorem dX1_measure_66 : decode cX1_measure 66 = .ok (.iload_n 1, 1) := by decide +kernel
theorem dX1_measure_67 : decode cX1_measure 67 = .ok (.iaload, 1) := by decide +kernel
theorem dX1_measure_68 : decode cX1_measure 68 = .ok (.isub, 1) := by decide +kernel
theorem dX1_measure_69 : decode cX1_measure 69 = .ok (.invokestatic 78, 3) := by decide +kernel
theorem dX1_measure_72 : decode cX1_measure 72 = .ok (.goto 4, 3) := by decide +kernel
theorem dX1_measure_75 : decode cX1_measure 75 = .ok (.iconst 0, 1) := by decide +kernel
theorem dX1_measure_76 : decode cX1_measure 76 = .ok (.iastore, 1) := by decide +kernel
theorem dX1_measure_77 : decode cX1_measure 77 = .ok (.aload_n 0, 1) := by decide +kernel
theorem dX1_measure_78 : decode cX1_measure 78 = .ok (.getfield 27, 3) := by decide +kernel
theorem dX1_measure_81 : decode cX1_measure 81 = .ok (.iload_n 1, 1) := by decide +kernel
theorem dX1_measure_82 : decode cX1_measure 82 = .ok (.iaload, 1) := by decide +kernel
theorem dX1_measure_83 : decode cX1_measure 83 = .ok (.iconst (-1), 1) := by decide +kernel
theorem dX1_measure_84 : decode cX1_measure 84 = .ok (.if_icmp .ne 22, 3) := by decide +kernel
theorem dX1_measure_87 : decode cX1_measure 87 = .ok (.aload_n 0, 1) := by decide +kernel
theorem dX1_measure_88 : decode cX1_measure 88 = .ok (.aload_n 0, 1) := by decide +kernel
theorem dX1_measure_89 : decode cX1_measure 89 = .ok (.getfield 24, 3) := by decide +kernel
theorem dX1_measure_92 : decode cX1_measure 92 = .ok (.iload_n 1, 1) := by decide +kernel
theorem dX1_measure_93 : decode cX1_measure 93 = .ok (.iaload, 1) := by decide +kernel
theorem dX1_measure_94 : decode cX1_measure 94 = .ok (.aload_n 0, 1) := by decide +kernel
theorem dX1_measure_95 : decode cX1_measure 95 = .ok (.getfield 34, 3) := by decide +kernel
theorem dX1_measure_98 : decode cX1_measure 98 = .ok (.iload_n 1, 1) := by decide +kernel
theorem dX1_measure_99 : decode cX1_measure 99 = .ok (.iaload, 1) := by decide +kernel
theorem dX1_measure_100 : decode cX1_measure 100 = .ok (.invokevirtual 84, 3) := by decide +kernel
theorem dX1_measure_103 : decode cX1_measure 103 = .ok (.goto 41, 3) := by decide +kernel
theorem dX1_measure_106 : decode cX1_measure 106 = .ok (.aload_n 0, 1) := by decide +kernel
theorem dX1_measure_107 : decode cX1_measure 107 = .ok (.aload_n 0, 1) := by decide +kernel
theorem dX1_measure_108 : decode cX1_measure 108 = .ok (.getfield 24, 3) := by decide +kernel
theorem dX1_measure_111 : decode cX1_measure 111 = .ok (.iload_n 1, 1) := by decide +kernel
theorem dX1_measure_112 : decode cX1_measure 112 = .ok (.iaload, 1) := by decide +kernel
theorem dX1_measure_113 : decode cX1_measure 113 = .ok (.aload_n 0, 1) := by decide +kernel
theorem dX1_measure_114 : decode cX1_measure 114 = .ok (.getfield 34, 3) := by decide +kernel
theorem dX1_measure_117 : decode cX1_measure 117 = .ok (.iload_n 1, 1) := by decide +kernel
theorem dX1_measure_118 : decode cX1_measure 118 = .ok (.iaload, 1) := by decide +kernel
theorem dX1_measure_119 : decode cX1_measure 119 = .ok (.iconst 1, 1) := by decide +kernel
theorem dX1_measure_120 : decode cX1_measure 120 = .ok (.iadd, 1) := by decide +kernel
theorem dX1_measure_121 : decode cX1_measure 121 = .ok (.iconst 2, 1) := by decide +kernel
theorem dX1_measure_122 : decode cX1_measure 122 = .ok (.idiv, 1) := by decide +kernel
theorem dX1_measure_123 : decode cX1_measure 123 = .ok (.invokevirtual 84, 3) := by decide +kernel
theorem dX1_measure_126 : decode cX1_measure 126 = .ok (.aload_n 0, 1) := by decide +kernel
theorem dX1_measure_127 : decode cX1_measure 127 = .ok (.aload_n 0, 1) := by decide +kernel
theorem dX1_measure_128 : decode cX1_measure 128 = .ok (.getfield 27, 3) := by decide +kernel
theorem dX1_measure_131 : decode cX1_measure 131 = .ok (.iload_n 1, 1) := by decide +kernel
theorem dX1_measure_132 : decode cX1_measure 132 = .ok (.iaload, 1) := by decide +kernel
theorem dX1_measure_133 : decode cX1_measure 133 = .ok (.aload_n 0, 1) := by decide +kernel
theorem dX1_measure_134 : decode cX1_measure 134 = .ok (.getfield 34, 3) := by decide +kernel
theorem dX1_measure_137 : decode cX1_measure 137 = .ok (.iload_n 1, 1) := by decide +kernel
theorem dX1_measure_138 : decode cX1_measure 138 = .ok (.iaload, 1) := by decide +kernel
theorem dX1_measure_139 : decode cX1_measure 139 = .ok (.iconst 2, 1) := by decide +kernel
theorem dX1_measure_140 : decode cX1_measure 140 = .ok (.idiv, 1) := by decide +kernel
theorem dX1_measure_141 : decode cX1_measure 141 = .ok (.invokevirtual 84, 3) := by decide +kernel
theorem dX1_measure_144 : decode cX1_measure 144 = .ok (.iinc 1 (-1), 3) := by decide +kernel
theorem dX1_measure_147 : decode cX1_measure 147 = .ok (.goto (-117), 3) := by decide +kernel
theorem dX1_measure_150 : decode cX1_measure 150 = .ok (.aload_n 0, 1) := by decide +kernel
theorem dX1_measure_151 : decode cX1_measure 151 = .ok (.iconst 0, 1) := by decide +kernel
theorem dX1_measure_152 : decode cX1_measure 152 = .ok (.putfield 59, 3) := by decide +kernel
theorem dX1_measure_155 : decode cX1_measure 155 = .ok (.return_, 1) := by decide +kernel
theorem dX1_bear_0 : decode cX1_bear 0 = .ok (.iload_n 1, 1) := by decide +kernel
theorem dX1_bear_1 : decode cX1_bear 1 = .ok (.ifCond .lt 21, 3) := by decide +kernel
theorem dX1_bear_4 : decode cX1_bear 4 = .ok (.iload_n 1, 1) := by decide +kernel
theorem dX1_bear_5 : decode cX1_bear 5 = .ok (.aload_n 0, 1) := by decide +kernel
theorem dX1_bear_6 : decode cX1_bear 6 = .ok (.getfield 40, 3) := by decide +kernel
theorem dX1_bear_9 : decode cX1_bear 9 = .ok (.if_icmp .ge 13, 3) := by decide +kernel
theorem dX1_bear_12 : decode cX1_bear 12 = .ok (.aload_n 0, 1) := by decide +kernel
theorem dX1_bear_13 : decode cX1_bear 13 = .ok (.getfield 37, 3) := by decide +kernel
theorem dX1_bear_16 : decode cX1_bear 16 = .ok (.iload_n 1, 1) := by decide +kernel
theorem dX1_bear_17 : decode cX1_bear 17 = .ok (.dup2, 1) := by decide +kernel
theorem dX1_bear_18 : decode cX1_bear 18 = .ok (.iaload, 1) := by decide +kernel
theorem dX1_bear_19 : decode cX1_bear 19 = .ok (.iload_n 2, 1) := by decide +kernel
theorem dX1_bear_20 : decode cX1_bear 20 = .ok (.iadd, 1) := by decide +kernel
theorem dX1_bear_21 : decode cX1_bear 21 = .ok (.iastore, 1) := by decide +kernel
theorem dX1_bear_22 : decode cX1_bear 22 = .ok (.return_, 1) := by decide +kernel
theorem dX1_tearOverpulled_0 : decode cX1_tearOverpulled 0 = .ok (.iconst 0, 1) := by decide +kernel
theorem dX1_tearOverpulled_1 : decode cX1_tearOverpulled 1 = .ok (.istore_n 1, 1) := by decide +kernel
theorem dX1_tearOverpulled_2 : decode cX1_tearOverpulled 2 = .ok (.iload_n 1, 1) := by decide +kernel
theorem dX1_tearOverpulled_3 : decode cX1_tearOverpulled 3 = .ok (.aload_n 0, 1) := by decide +kernel
theorem dX1_tearOverpulled_4 : decode cX1_tearOverpulled 4 = .ok (.getfield 40, 3) := by decide +kernel
theorem dX1_tearOverpulled_7 : decode cX1_tearOverpulled 7 = .ok (.if_icmp .ge 29, 3) := by decide +kernel
theorem dX1_tearOverpulled_10 : decode cX1_tearOverpulled 10 = .ok (.aload_n 0, 1) := by decide +kernel
theorem dX1_tearOverpulled_11 : decode cX1_tearOverpulled 11 = .ok (.getfield 37, 3) := by decide +kernel
theorem dX1_tearOverpulled_14 : decode cX1_tearOverpulled 14 = .ok (.iload_n 1, 1) := by decide +kernel
theorem dX1_tearOverpulled_15 : decode cX1_tearOverpulled 15 = .ok (.iaload, 1) := by decide +kernel
theorem dX1_tearOverpulled_16 : decode cX1_tearOverpulled 16 = .ok (.aload_n 0, 1) := by decide +kernel
theorem dX1_tearOverpulled_17 : decode cX1_tearOverpulled 17 = .ok (.getfield 15, 3) := by decide +kernel
theorem dX1_tearOverpulled_20 : decode cX1_tearOverpulled 20 = .ok (.iload_n 1, 1) := by decide +kernel
theorem dX1_tearOverpulled_21 : decode cX1_tearOverpulled 21 = .ok (.iaload, 1) := by decide +kernel
theorem dX1_tearOverpulled_22 : decode cX1_tearOverpulled 22 = .ok (.if_icmp .le 8, 3) := by decide +kernel
theorem dX1_tearOverpulled_25 : decode cX1_tearOverpulled 25 = .ok (.aload_n 0, 1) := by decide +kernel
theorem dX1_tearOverpulled_26 : decode cX1_tearOverpulled 26 = .ok (.iload_n 1, 1) := by decide +kernel
theorem dX1_tearOverpulled_27 : decode cX1_tearOverpulled 27 = .ok (.invokevirtual 88, 3) := by decide +kernel
theorem dX1_tearOverpulled_30 : decode cX1_tearOverpulled 30 = .ok (.iinc 1 1, 3) := by decide +kernel
theorem dX1_tearOverpulled_33 : decode cX1_tearOverpulled 33 = .ok (.goto (-31), 3) := by decide +kernel
theorem dX1_tearOverpulled_36 : decode cX1_tearOverpulled 36 = .ok (.return_, 1) := by decide +kernel
theorem dX1_endOverloaded_0 : decode cX1_endOverloaded 0 = .ok (.iconst 0, 1) := by decide +kernel
theorem dX1_endOverloaded_1 : decode cX1_endOverloaded 1 = .ok (.istore_n 1, 1) := by decide +kernel
theorem dX1_endOverloaded_2 : decode cX1_endOverloaded 2 = .ok (.iload_n 1, 1) := by decide +kernel
theorem dX1_endOverloaded_3 : decode cX1_endOverloaded 3 = .ok (.aload_n 0, 1) := by decide +kernel
theorem dX1_endOverloaded_4 : decode cX1_endOverloaded 4 = .ok (.getfield 40, 3) := by decide +kernel
theorem dX1_endOverloaded_7 : decode cX1_endOverloaded 7 = .ok (.if_icmp .ge 38, 3) := by decide +kernel
theorem dX1_endOverloaded_10 : decode cX1_endOverloaded 10 = .ok (.aload_n 0, 1) := by decide +kernel
theorem dX1_endOverloaded_11 : decode cX1_endOverloaded 11 = .ok (.getfield 21, 3) := by decide +kernel
theorem dX1_endOverloaded_14 : decode cX1_endOverloaded 14 = .ok (.iload_n 1, 1) := by decide +kernel
theorem dX1_endOverloaded_15 : decode cX1_endOverloaded 15 = .ok (.iaload, 1) := by decide +kernel
theorem dX1_endOverloaded_16 : decode cX1_endOverloaded 16 = .ok (.ifCond .le 23, 3) := by decide +kernel
theorem dX1_endOverloaded_19 : decode cX1_endOverloaded 19 = .ok (.aload_n 0, 1) := by decide +kernel
theorem dX1_endOverloaded_20 : decode cX1_endOverloaded 20 = .ok (.getfield 21, 3) := by decide +kernel
theorem dX1_endOverloaded_23 : decode cX1_endOverloaded 23 = .ok (.iload_n 1, 1) := by decide +kernel
theorem dX1_endOverloaded_24 : decode cX1_endOverloaded 24 = .ok (.iaload, 1) := by decide +kernel
theorem dX1_endOverloaded_25 : decode cX1_endOverloaded 25 = .ok (.aload_n 0, 1) := by decide +kernel
theorem dX1_endOverloaded_26 : decode cX1_endOverloaded 26 = .ok (.getfield 34, 3) := by decide +kernel
theorem dX1_endOverloaded_29 : decode cX1_endOverloaded 29 = .ok (.iload_n 1, 1) := by decide +kernel
theorem dX1_endOverloaded_30 : decode cX1_endOverloaded 30 = .ok (.iaload, 1) := by decide +kernel
theorem dX1_endOverloaded_31 : decode cX1_endOverloaded 31 = .ok (.if_icmp .ge 8, 3) := by decide +kernel
theorem dX1_endOverloaded_34 : decode cX1_endOverloaded 34 = .ok (.aload_n 0, 1) := by decide +kernel
theorem dX1_endOverloaded_35 : decode cX1_endOverloaded 35 = .ok (.iload_n 1, 1) := by decide +kernel
theorem dX1_endOverloaded_36 : decode cX1_endOverloaded 36 = .ok (.invokevirtual 92, 3) := by decide +kernel
theorem dX1_endOverloaded_39 : decode cX1_endOverloaded 39 = .ok (.iinc 1 1, 3) := by decide +kernel
theorem dX1_endOverloaded_42 : decode cX1_endOverloaded 42 = .ok (.goto (-40), 3) := by decide +kernel
theorem dX1_endOverloaded_45 : decode cX1_endOverloaded 45 = .ok (.return_, 1) := by decide +kernel
theorem dX1_endSpell_0 : decode cX1_endSpell 0 = .ok (.iload_n 1, 1) := by decide +kernel
theorem dX1_endSpell_1 : decode cX1_endSpell 1 = .ok (.ifCond .lt 23, 3) := by decide +kernel
theorem dX1_endSpell_4 : decode cX1_endSpell 4 = .ok (.iload_n 1, 1) := by decide +kernel
theorem dX1_endSpell_5 : decode cX1_endSpell 5 = .ok (.aload_n 0, 1) := by decide +kernel
theorem dX1_endSpell_6 : decode cX1_endSpell 6 = .ok (.getfield 40, 3) := by decide +kernel
theorem dX1_endSpell_9 : decode cX1_endSpell 9 = .ok (.if_icmp .ge 15, 3) := by decide +kernel
theorem dX1_endSpell_12 : decode cX1_endSpell 12 = .ok (.aload_n 0, 1) := by decide +kernel
theorem dX1_endSpell_13 : decode cX1_endSpell 13 = .ok (.getfield 21, 3) := by decide +kernel
theorem dX1_endSpell_16 : decode cX1_endSpell 16 = .ok (.iload_n 1, 1) := by decide +kernel
theorem dX1_endSpell_17 : decode cX1_endSpell 17 = .ok (.iconst 0, 1) := by decide +kernel
theorem dX1_endSpell_18 : decode cX1_endSpell 18 = .ok (.iastore, 1) := by decide +kernel
theorem dX1_endSpell_19 : decode cX1_endSpell 19 = .ok (.aload_n 0, 1) := by decide +kernel
theorem dX1_endSpell_20 : decode cX1_endSpell 20 = .ok (.iconst 1, 1) := by decide +kernel
theorem dX1_endSpell_21 : decode cX1_endSpell 21 = .ok (.putfield 59, 3) := by decide +kernel
theorem dX1_endSpell_24 : decode cX1_endSpell 24 = .ok (.return_, 1) := by decide +kernel
theorem dX1_tearHoldsFrom_0 : decode cX1_tearHoldsFrom 0 = .ok (.iconst 0, 1) := by decide +kernel
theorem dX1_tearHoldsFrom_1 : decode cX1_tearHoldsFrom 1 = .ok (.istore_n 2, 1) := by decide +kernel
theorem dX1_tearHoldsFrom_2 : decode cX1_tearHoldsFrom 2 = .ok (.iload_n 2, 1) := by decide +kernel
theorem dX1_tearHoldsFrom_3 : decode cX1_tearHoldsFrom 3 = .ok (.aload_n 0, 1) := by decide +kernel
theorem dX1_tearHoldsFrom_4 : decode cX1_tearHoldsFrom 4 = .ok (.getfield 40, 3) := by decide +kernel
theorem dX1_tearHoldsFrom_7 : decode cX1_tearHoldsFrom 7 = .ok (.if_icmp .ge 68, 3) := by decide +kernel
theorem dX1_tearHoldsFrom_10 : decode cX1_tearHoldsFrom 10 = .ok (.aload_n 0, 1) := by decide +kernel
theorem dX1_tearHoldsFrom_11 : decode cX1_tearHoldsFrom 11 = .ok (.getfield 24, 3) := by decide +kernel
theorem dX1_tearHoldsFrom_14 : decode cX1_tearHoldsFrom 14 = .ok (.iload_n 2, 1) := by decide +kernel
theorem dX1_tearHoldsFrom_15 : decode cX1_tearHoldsFrom 15 = .ok (.iaload, 1) := by decide +kernel
theorem dX1_tearHoldsFrom_16 : decode cX1_tearHoldsFrom 16 = .ok (.iload_n 1, 1) := by decide +kernel
theorem dX1_tearHoldsFrom_17 : decode cX1_tearHoldsFrom 17 = .ok (.if_icmp .ne 30, 3) := by decide +kernel
theorem dX1_tearHoldsFrom_20 : decode cX1_tearHoldsFrom 20 = .ok (.aload_n 0, 1) := by decide +kernel
theorem dX1_tearHoldsFrom_21 : decode cX1_tearHoldsFrom 21 = .ok (.getfield 24, 3) := by decide +kernel
theorem dX1_tearHoldsFrom_24 : decode cX1_tearHoldsFrom 24 = .ok (.iload_n 2, 1) := by decide +kernel
theorem dX1_tearHoldsFrom_25 : decode cX1_tearHoldsFrom 25 = .ok (.aload_n 0, 1) := by decide +kernel
theorem dX1_tearHoldsFrom_26 : decode cX1_tearHoldsFrom 26 = .ok (.getfield 27, 3) := by decide +kernel
theorem dX1_tearHoldsFrom_29 : decode cX1_tearHoldsFrom 29 = .ok (.iload_n 2, 1) := by decide +kernel
theorem dX1_tearHoldsFrom_30 : decode cX1_tearHoldsFrom 30 = .ok (.iaload, 1) := by decide +kernel
theorem dX1_tearHoldsFrom_31 : decode cX1_tearHoldsFrom 31 = .ok (.iastore, 1) := by decide +kernel
theorem dX1_tearHoldsFrom_32 : decode cX1_tearHoldsFrom 32 = .ok (.aload_n 0, 1) := by decide +kernel
theorem dX1_tearHoldsFrom_33 : decode cX1_tearHoldsFrom 33 = .ok (.getfield 27, 3) := by decide +kernel
theorem dX1_tearHoldsFrom_36 : decode cX1_tearHoldsFrom 36 = .ok (.iload_n 2, 1) := by decide +kernel
theorem dX1_tearHoldsFrom_37 : decode cX1_tearHoldsFrom 37 = .ok (.iconst (-1), 1) := by decide +kernel
theorem dX1_tearHoldsFrom_38 : decode cX1_tearHoldsFrom 38 = .ok (.iastore, 1) := by decide +kernel
theorem dX1_tearHoldsFrom_39 : decode cX1_tearHoldsFrom 39 = .ok (.aload_n 0, 1) := by decide +kernel
theorem dX1_tearHoldsFrom_40 : decode cX1_tearHoldsFrom 40 = .ok (.iconst 1, 1) := by decide +kernel
theorem dX1_tearHoldsFrom_41 : decode cX1_tearHoldsFrom 41 = .ok (.putfield 59, 3) := by decide +kernel
theorem dX1_tearHoldsFrom_44 : decode cX1_tearHoldsFrom 44 = .ok (.goto 25, 3) := by decide +kernel
theorem dX1_tearHoldsFrom_47 : decode cX1_tearHoldsFrom 47 = .ok (.aload_n 0, 1) := by decide +kernel
theorem dX1_tearHoldsFrom_48 : decode cX1_tearHoldsFrom 48 = .ok (.getfield 27, 3) := by decide +kernel
theorem dX1_tearHoldsFrom_51 : decode cX1_tearHoldsFrom 51 = .ok (.iload_n 2, 1) := by decide +kernel
theorem dX1_tearHoldsFrom_52 : decode cX1_tearHoldsFrom 52 = .ok (.iaload, 1) := by decide +kernel
theorem dX1_tearHoldsFrom_53 : decode cX1_tearHoldsFrom 53 = .ok (.iload_n 1, 1) := by decide +kernel
theorem dX1_tearHoldsFrom_54 : decode cX1_tearHoldsFrom 54 = .ok (.if_icmp .ne 15, 3) := by decide +kernel
theorem dX1_tearHoldsFrom_57 : decode cX1_tearHoldsFrom 57 = .ok (.aload_n 0, 1) := by decide +kernel
theorem dX1_tearHoldsFrom_58 : decode cX1_tearHoldsFrom 58 = .ok (.getfield 27, 3) := by decide +kernel
theorem dX1_tearHoldsFrom_61 : decode cX1_tearHoldsFrom 61 = .ok (.iload_n 2, 1) := by decide +kernel
theorem dX1_tearHoldsFrom_62 : decode cX1_tearHoldsFrom 62 = .ok (.iconst (-1), 1) := by decide +kernel
theorem dX1_tearHoldsFrom_63 : decode cX1_tearHoldsFrom 63 = .ok (.iastore, 1) := by decide +kernel
theorem dX1_tearHoldsFrom_64 : decode cX1_tearHoldsFrom 64 = .ok (.aload_n 0, 1) := by decide +kernel
theorem dX1_tearHoldsFrom_65 : decode cX1_tearHoldsFrom 65 = .ok (.iconst 1, 1) := by decide +kernel
theorem dX1_tearHoldsFrom_66 : decode cX1_tearHoldsFrom 66 = .ok (.putfield 59, 3) := by decide +kernel
theorem dX1_tearHoldsFrom_69 : decode cX1_tearHoldsFrom 69 = .ok (.iinc 2 1, 3) := by decide +kernel
theorem dX1_tearHoldsFrom_72 : decode cX1_tearHoldsFrom 72 = .ok (.goto (-70), 3) := by decide +kernel
theorem dX1_tearHoldsFrom_75 : decode cX1_tearHoldsFrom 75 = .ok (.return_, 1) := by decide +kernel
theorem dX1_dropLoose_0 : decode cX1_dropLoose 0 = .ok (.iconst 0, 1) := by decide +kernel
theorem dX1_dropLoose_1 : decode cX1_dropLoose 1 = .ok (.istore_n 1, 1) := by decide +kernel
theorem dX1_dropLoose_2 : decode cX1_dropLoose 2 = .ok (.iload_n 1, 1) := by decide +kernel
theorem dX1_dropLoose_3 : decode cX1_dropLoose 3 = .ok (.aload_n 0, 1) := by decide +kernel
theorem dX1_dropLoose_4 : decode cX1_dropLoose 4 = .ok (.getfield 40, 3) := by decide +kernel
theorem dX1_dropLoose_7 : decode cX1_dropLoose 7 = .ok (.if_icmp .ge 64, 3) := by decide +kernel
theorem dX1_dropLoose_10 : decode cX1_dropLoose 10 = .ok (.aload_n 0, 1) := by decide +kernel
theorem dX1_dropLoose_11 : decode cX1_dropLoose 11 = .ok (.getfield 30, 3) := by decide +kernel
theorem dX1_dropLoose_14 : decode cX1_dropLoose 14 = .ok (.iload_n 1, 1) := by decide +kernel
theorem dX1_dropLoose_15 : decode cX1_dropLoose 15 = .ok (.baload, 1) := by decide +kernel
theorem dX1_dropLoose_16 : decode cX1_dropLoose 16 = .ok (.ifCond .eq 49, 3) := by decide +kernel
theorem dX1_dropLoose_19 : decode cX1_dropLoose 19 = .ok (.aload_n 0, 1) := by decide +kernel
theorem dX1_dropLoose_20 : decode cX1_dropLoose 20 = .ok (.getfield 21, 3) := by decide +kernel
theorem dX1_dropLoose_23 : decode cX1_dropLoose 23 = .ok (.iload_n 1, 1) := by decide +kernel
theorem dX1_dropLoose_24 : decode cX1_dropLoose 24 = .ok (.iaload, 1) := by decide +kernel
theorem dX1_dropLoose_25 : decode cX1_dropLoose 25 = .ok (.ifCond .gt 40, 3) := by decide +kernel
theorem dX1_dropLoose_28 : decode cX1_dropLoose 28 = .ok (.aload_n 0, 1) := by decide +kernel
theorem dX1_dropLoose_29 : decode cX1_dropLoose 29 = .ok (.getfield 24, 3) := by decide +kernel
theorem dX1_dropLoose_32 : decode cX1_dropLoose 32 = .ok (.iload_n 1, 1) := by decide +kernel
theorem dX1_dropLoose_33 : decode cX1_dropLoose 33 = .ok (.iaload, 1) := by decide +kernel
theorem dX1_dropLoose_34 : decode cX1_dropLoose 34 = .ok (.iconst (-1), 1) := by decide +kernel
theorem dX1_dropLoose_35 : decode cX1_dropLoose 35 = .ok (.if_icmp .ne 30, 3) := by decide +kernel
theorem dX1_dropLoose_38 : decode cX1_dropLoose 38 = .ok (.aload_n 0, 1) := by decide +kernel
theorem dX1_dropLoose_39 : decode cX1_dropLoose 39 = .ok (.getfield 30, 3) := by decide +kernel
theorem dX1_dropLoose_42 : decode cX1_dropLoose 42 = .ok (.iload_n 1, 1) := by decide +kernel
theorem dX1_dropLoose_43 : decode cX1_dropLoose 43 = .ok (.iconst 0, 1) := by decide +kernel
theorem dX1_dropLoose_44 : decode cX1_dropLoose 44 = .ok (.bastore, 1) := by decide +kernel
theorem dX1_dropLoose_45 : decode cX1_dropLoose 45 = .ok (.aload_n 0, 1) := by decide +kernel
theorem dX1_dropLoose_46 : decode cX1_dropLoose 46 = .ok (.dup, 1) := by decide +kernel
theorem dX1_dropLoose_47 : decode cX1_dropLoose 47 = .ok (.getfield 56, 3) := by decide +kernel
theorem dX1_dropLoose_50 : decode cX1_dropLoose 50 = .ok (.iconst 1, 1) := by decide +kernel
theorem dX1_dropLoose_51 : decode cX1_dropLoose 51 = .ok (.isub, 1) := by decide +kernel
theorem dX1_dropLoose_52 : decode cX1_dropLoose 52 = .ok (.putfield 56, 3) := by decide +kernel
theorem dX1_dropLoose_55 : decode cX1_dropLoose 55 = .ok (.aload_n 0, 1) := by decide +kernel
theorem dX1_dropLoose_56 : decode cX1_dropLoose 56 = .ok (.iconst 1, 1) := by decide +kernel
theorem dX1_dropLoose_57 : decode cX1_dropLoose 57 = .ok (.putfield 59, 3) := by decide +kernel
theorem dX1_dropLoose_60 : decode cX1_dropLoose 60 = .ok (.aload_n 0, 1) := by decide +kernel
theorem dX1_dropLoose_61 : decode cX1_dropLoose 61 = .ok (.iload_n 1, 1) := by decide +kernel
theorem dX1_dropLoose_62 : decode cX1_dropLoose 62 = .ok (.invokevirtual 88, 3) := by decide +kernel
theorem dX1_dropLoose_65 : decode cX1_dropLoose 65 = .ok (.iinc 1 1, 3) := by decide +kernel
theorem dX1_dropLoose_68 : decode cX1_dropLoose 68 = .ok (.goto (-66), 3) := by decide +kernel
theorem dX1_dropLoose_71 : decode cX1_dropLoose 71 = .ok (.return_, 1) := by decide +kernel
theorem dX1_cutLoose_0 : decode cX1_cutLoose 0 = .ok (.aload_n 0, 1) := by decide +kernel
theorem dX1_cutLoose_1 : decode cX1_cutLoose 1 = .ok (.iload_n 1, 1) := by decide +kernel
theorem dX1_cutLoose_2 : decode cX1_cutLoose 2 = .ok (.invokevirtual 44, 3) := by decide +kernel
theorem dX1_cutLoose_5 : decode cX1_cutLoose 5 = .ok (.ifCond .ne 4, 3) := by decide +kernel
theorem dX1_cutLoose_8 : decode cX1_cutLoose 8 = .ok (.return_, 1) := by decide +kernel
theorem dX1_cutLoose_9 : decode cX1_cutLoose 9 = .ok (.aload_n 0, 1) := by decide +kernel
theorem dX1_cutLoose_10 : decode cX1_cutLoose 10 = .ok (.iload_n 1, 1) := by decide +kernel
theorem dX1_cutLoose_11 : decode cX1_cutLoose 11 = .ok (.invokevirtual 92, 3) := by decide +kernel
theorem dX1_cutLoose_14 : decode cX1_cutLoose 14 = .ok (.aload_n 0, 1) := by decide +kernel
theorem dX1_cutLoose_15 : decode cX1_cutLoose 15 = .ok (.getfield 24, 3) := by decide +kernel
theorem dX1_cutLoose_18 : decode cX1_cutLoose 18 = .ok (.iload_n 1, 1) := by decide +kernel
theorem dX1_cutLoose_19 : decode cX1_cutLoose 19 = .ok (.iconst (-1), 1) := by decide +kernel
theorem dX1_cutLoose_20 : decode cX1_cutLoose 20 = .ok (.iastore, 1) := by decide +kernel
theorem dX1_cutLoose_21 : decode cX1_cutLoose 21 = .ok (.aload_n 0, 1) := by decide +kernel
theorem dX1_cutLoose_22 : decode cX1_cutLoose 22 = .ok (.getfield 27, 3) := by decide +kernel
theorem dX1_cutLoose_25 : decode cX1_cutLoose 25 = .ok (.iload_n 1, 1) := by decide +kernel
theorem dX1_cutLoose_26 : decode cX1_cutLoose 26 = .ok (.iconst (-1), 1) := by decide +kernel
theorem dX1_cutLoose_27 : decode cX1_cutLoose 27 = .ok (.iastore, 1) := by decide +kernel
theorem dX1_cutLoose_28 : decode cX1_cutLoose 28 = .ok (.aload_n 0, 1) := by decide +kernel
theorem dX1_cutLoose_29 : decode cX1_cutLoose 29 = .ok (.invokevirtual 75, 3) := by decide +kernel
theorem dX1_cutLoose_32 : decode cX1_cutLoose 32 = .ok (.aload_n 0, 1) := by decide +kernel
theorem dX1_cutLoose_33 : decode cX1_cutLoose 33 = .ok (.invokevirtual 95, 3) := by decide +kernel
theorem dX1_cutLoose_36 : decode cX1_cutLoose 36 = .ok (.return_, 1) := by decide +kernel
theorem dX1_liveDays_0 : decode cX1_liveDays 0 = .ok (.iconst 0, 1) := by decide +kernel
theorem dX1_liveDays_1 : decode cX1_liveDays 1 = .ok (.istore_n 2, 1) := by decide +kernel
theorem dX1_liveDays_2 : decode cX1_liveDays 2 = .ok (.iload_n 2, 1) := by decide +kernel
theorem dX1_liveDays_3 : decode cX1_liveDays 3 = .ok (.iload_n 1, 1) := by decide +kernel
theorem dX1_liveDays_4 : decode cX1_liveDays 4 = .ok (.if_icmp .ge 19, 3) := by decide +kernel
theorem dX1_liveDays_7 : decode cX1_liveDays 7 = .ok (.iload_n 2, 1) := by decide +kernel
theorem dX1_liveDays_8 : decode cX1_liveDays 8 = .ok (.bipush 120, 2) := by decide +kernel
theorem dX1_liveDays_10 : decode cX1_liveDays 10 = .ok (.if_icmp .ge 13, 3) := by decide +kernel
theorem dX1_liveDays_13 : decode cX1_liveDays 13 = .ok (.aload_n 0, 1) := by decide +kernel
theorem dX1_liveDays_14 : decode cX1_liveDays 14 = .ok (.invokevirtual 98, 3) := by decide +kernel
theorem dX1_liveDays_17 : decode cX1_liveDays 17 = .ok (.iinc 2 1, 3) := by decide +kernel
theorem dX1_liveDays_20 : decode cX1_liveDays 20 = .ok (.goto (-18), 3) := by decide +kernel
theorem dX1_liveDays_23 : decode cX1_liveDays 23 = .ok (.return_, 1) := by decide +kernel
theorem dX1_liveDay_0 : decode cX1_liveDay 0 = .ok (.aload_n 0, 1) := by decide +kernel
theorem dX1_liveDay_1 : decode cX1_liveDay 1 = .ok (.invokevirtual 101, 3) := by decide +kernel
theorem dX1_liveDay_4 : decode cX1_liveDay 4 = .ok (.aload_n 0, 1) := by decide +kernel
theorem dX1_liveDay_5 : decode cX1_liveDay 5 = .ok (.getfield 59, 3) := by decide +kernel
theorem dX1_liveDay_8 : decode cX1_liveDay 8 = .ok (.ifCond .eq 7, 3) := by decide +kernel
theorem dX1_liveDay_11 : decode cX1_liveDay 11 = .ok (.aload_n 0, 1) := by decide +kernel
theorem dX1_liveDay_12 : decode cX1_liveDay 12 = .ok (.invokevirtual 75, 3) := by decide +kernel
theorem dX1_liveDay_15 : decode cX1_liveDay 15 = .ok (.aload_n 0, 1) := by decide +kernel
theorem dX1_liveDay_16 : decode cX1_liveDay 16 = .ok (.invokevirtual 95, 3) := by decide +kernel
theorem dX1_liveDay_19 : decode cX1_liveDay 19 = .ok (.aload_n 0, 1) := by decide +kernel
theorem dX1_liveDay_20 : decode cX1_liveDay 20 = .ok (.dup, 1) := by decide +kernel
theorem dX1_liveDay_21 : decode cX1_liveDay 21 = .ok (.getfield 63, 3) := by decide +kernel
theorem dX1_liveDay_24 : decode cX1_liveDay 24 = .ok (.iconst 1, 1) := by decide +kernel
theorem dX1_liveDay_25 : decode cX1_liveDay 25 = .ok (.iadd, 1) := by decide +kernel
theorem dX1_liveDay_26 : decode cX1_liveDay 26 = .ok (.putfield 63, 3) := by decide +kernel
theorem dX1_liveDay_29 : decode cX1_liveDay 29 = .ok (.return_, 1) := by decide +kernel
theorem dX1_fade_0 : decode cX1_fade 0 = .ok (.iconst 0, 1) := by decide +kernel
theorem dX1_fade_1 : decode cX1_fade 1 = .ok (.istore_n 1, 1) := by decide +kernel
theorem dX1_fade_2 : decode cX1_fade 2 = .ok (.iload_n 1, 1) := by decide +kernel
theorem dX1_fade_3 : decode cX1_fade 3 = .ok (.aload_n 0, 1) := by decide +kernel
theorem dX1_fade_4 : decode cX1_fade 4 = .ok (.getfield 40, 3) := by decide +kernel
theorem dX1_fade_7 : decode cX1_fade 7 = .ok (.if_icmp .ge 46, 3) := by decide +kernel
theorem dX1_fade_10 : decode cX1_fade 10 = .ok (.aload_n 0, 1) := by decide +kernel
theorem dX1_fade_11 : decode cX1_fade 11 = .ok (.getfield 21, 3) := by decide +kernel
theorem dX1_fade_14 : decode cX1_fade 14 = .ok (.iload_n 1, 1) := by decide +kernel
theorem dX1_fade_15 : decode cX1_fade 15 = .ok (.iaload, 1) := by decide +kernel
theorem dX1_fade_16 : decode cX1_fade 16 = .ok (.iconst 2, 1) := by decide +kernel
theorem dX1_fade_17 : decode cX1_fade 17 = .ok (.if_icmp .le 16, 3) := by decide +kernel
theorem dX1_fade_20 : decode cX1_fade 20 = .ok (.aload_n 0, 1) := by decide +kernel
theorem dX1_fade_21 : decode cX1_fade 21 = .ok (.getfield 21, 3) := by decide +kernel
theorem dX1_fade_24 : decode cX1_fade 24 = .ok (.iload_n 1, 1) := by decide +kernel
theorem dX1_fade_25 : decode cX1_fade 25 = .ok (.dup2, 1) := by decide +kernel
theorem dX1_fade_26 : decode cX1_fade 26 = .ok (.iaload, 1) := by decide +kernel
theorem dX1_fade_27 : decode cX1_fade 27 = .ok (.iconst 2, 1) := by decide +kernel
theorem dX1_fade_28 : decode cX1_fade 28 = .ok (.isub, 1) := by decide +kernel
theorem dX1_fade_29 : decode cX1_fade 29 = .ok (.iastore, 1) := by decide +kernel
theorem dX1_fade_30 : decode cX1_fade 30 = .ok (.goto 17, 3) := by decide +kernel
theorem dX1_fade_33 : decode cX1_fade 33 = .ok (.aload_n 0, 1) := by decide +kernel
theorem dX1_fade_34 : decode cX1_fade 34 = .ok (.getfield 21, 3) := by decide +kernel
theorem dX1_fade_37 : decode cX1_fade 37 = .ok (.iload_n 1, 1) := by decide +kernel
theorem dX1_fade_38 : decode cX1_fade 38 = .ok (.iaload, 1) := by decide +kernel
theorem dX1_fade_39 : decode cX1_fade 39 = .ok (.ifCond .le 8, 3) := by decide +kernel
theorem dX1_fade_42 : decode cX1_fade 42 = .ok (.aload_n 0, 1) := by decide +kernel
theorem dX1_fade_43 : decode cX1_fade 43 = .ok (.iload_n 1, 1) := by decide +kernel
theorem dX1_fade_44 : decode cX1_fade 44 = .ok (.invokevirtual 92, 3) := by decide +kernel
theorem dX1_fade_47 : decode cX1_fade 47 = .ok (.iinc 1 1, 3) := by decide +kernel
theorem dX1_fade_50 : decode cX1_fade 50 = .ok (.goto (-48), 3) := by decide +kernel
theorem dX1_fade_53 : decode cX1_fade 53 = .ok (.return_, 1) := by decide +kernel
theorem dX1_tell_0 : decode cX1_tell 0 = .ok (.aload_n 0, 1) := by decide +kernel
theorem dX1_tell_1 : decode cX1_tell 1 = .ok (.iload_n 1, 1) := by decide +kernel
theorem dX1_tell_2 : decode cX1_tell 2 = .ok (.invokevirtual 44, 3) := by decide +kernel
theorem dX1_tell_5 : decode cX1_tell 5 = .ok (.ifCond .ne 5, 3) := by decide +kernel
theorem dX1_tell_8 : decode cX1_tell 8 = .ok (.iconst 0, 1) := by decide +kernel
theorem dX1_tell_9 : decode cX1_tell 9 = .ok (.ireturn, 1) := by decide +kernel
theorem dX1_tell_10 : decode cX1_tell 10 = .ok (.iload_n 2, 1) := by decide +kernel
theorem dX1_tell_11 : decode cX1_tell 11 = .ok (.tableswitch 120 0 8 #[49, 56, 63, 78, 85, 92, 99, 106, 113], 49) := by decide +kernel
theorem dX1_tell_60 : decode cX1_tell 60 = .ok (.aload_n 0, 1) := by decide +kernel
theorem dX1_tell_61 : decode cX1_tell 61 = .ok (.getfield 9, 3) := by decide +kernel
theorem dX1_tell_64 : decode cX1_tell 64 = .ok (.iload_n 1, 1) := by decide +kernel
theorem dX1_tell_65 : decode cX1_tell 65 = .ok (.iaload, 1) := by decide +kernel
theorem dX1_tell_66 : decode cX1_tell 66 = .ok (.ireturn, 1) := by decide +kernel
theorem dX1_tell_67 : decode cX1_tell 67 = .ok (.aload_n 0, 1) := by decide +kernel
theorem dX1_tell_68 : decode cX1_tell 68 = .ok (.getfield 15, 3) := by decide +kernel
theorem dX1_tell_71 : decode cX1_tell 71 = .ok (.iload_n 1, 1) := by decide +kernel
theorem dX1_tell_72 : decode cX1_tell 72 = .ok (.iaload, 1) := by decide +kernel
theorem dX1_tell_73 : decode cX1_tell 73 = .ok (.ireturn, 1) := by decide +kernel
theorem dX1_tell_74 : decode cX1_tell 74 = .ok (.aload_n 0, 1) := by decide +kernel
theorem dX1_tell_75 : decode cX1_tell 75 = .ok (.getfield 30, 3) := by decide +kernel
theorem dX1_tell_78 : decode cX1_tell 78 = .ok (.iload_n 1, 1) := by decide +kernel
theorem dX1_tell_79 : decode cX1_tell 79 = .ok (.baload, 1) := by decide +kernel
theorem dX1_tell_80 : decode cX1_tell 80 = .ok (.ifCond .eq 7, 3) := by decide +kernel
theorem dX1_tell_83 : decode cX1_tell 83 = .ok (.iconst 1, 1) := by decide +kernel
theorem dX1_tell_84 : decode cX1_tell 84 = .ok (.goto 4, 3) := by decide +kernel
theorem dX1_tell_87 : decode cX1_tell 87 = .ok (.iconst 0, 1) := by decide +kernel
theorem dX1_tell_88 : decode cX1_tell 88 = .ok (.ireturn, 1) := by decide +kernel
theorem dX1_tell_89 : decode cX1_tell 89 = .ok (.aload_n 0, 1) := by decide +kernel
theorem dX1_tell_90 : decode cX1_tell 90 = .ok (.getfield 21, 3) := by decide +kernel
theorem dX1_tell_93 : decode cX1_tell 93 = .ok (.iload_n 1, 1) := by decide +kernel
theorem dX1_tell_94 : decode cX1_tell 94 = .ok (.iaload, 1) := by decide +kernel
theorem dX1_tell_95 : decode cX1_tell 95 = .ok (.ireturn, 1) := by decide +kernel
theorem dX1_tell_96 : decode cX1_tell 96 = .ok (.aload_n 0, 1) := by decide +kernel
theorem dX1_tell_97 : decode cX1_tell 97 = .ok (.getfield 24, 3) := by decide +kernel
theorem dX1_tell_100 : decode cX1_tell 100 = .ok (.iload_n 1, 1) := by decide +kernel
theorem dX1_tell_101 : decode cX1_tell 101 = .ok (.iaload, 1) := by decide +kernel
theorem dX1_tell_102 : decode cX1_tell 102 = .ok (.ireturn, 1) := by decide +kernel
theorem dX1_tell_103 : decode cX1_tell 103 = .ok (.aload_n 0, 1) := by decide +kernel
theorem dX1_tell_104 : decode cX1_tell 104 = .ok (.getfield 27, 3) := by decide +kernel
theorem dX1_tell_107 : decode cX1_tell 107 = .ok (.iload_n 1, 1) := by decide +kernel
theorem dX1_tell_108 : decode cX1_tell 108 = .ok (.iaload, 1) := by decide +kernel
theorem dX1_tell_109 : decode cX1_tell 109 = .ok (.ireturn, 1) := by decide +kernel
theorem dX1_tell_110 : decode cX1_tell 110 = .ok (.aload_n 0, 1) := by decide +kernel
theorem dX1_tell_111 : decode cX1_tell 111 = .ok (.getfield 18, 3) := by decide +kernel
theorem dX1_tell_114 : decode cX1_tell 114 = .ok (.iload_n 1, 1) := by decide +kernel
theorem dX1_tell_115 : decode cX1_tell 115 = .ok (.iaload, 1) := by decide +kernel
theorem dX1_tell_116 : decode cX1_tell 116 = .ok (.ireturn, 1) := by decide +kernel
theorem dX1_tell_117 : decode cX1_tell 117 = .ok (.aload_n 0, 1) := by decide +kernel
theorem dX1_tell_118 : decode cX1_tell 118 = .ok (.getfield 34, 3) := by decide +kernel
theorem dX1_tell_121 : decode cX1_tell 121 = .ok (.iload_n 1, 1) := by decide +kernel
theorem dX1_tell_122 : decode cX1_tell 122 = .ok (.iaload, 1) := by decide +kernel
theorem dX1_tell_123 : decode cX1_tell 123 = .ok (.ireturn, 1) := by decide +kernel
theorem dX1_tell_124 : decode cX1_tell 124 = .ok (.aload_n 0, 1) := by decide +kernel
theorem dX1_tell_125 : decode cX1_tell 125 = .ok (.getfield 37, 3) := by decide +kernel
theorem dX1_tell_128 : decode cX1_tell 128 = .ok (.iload_n 1, 1) := by decide +kernel
theorem dX1_tell_129 : decode cX1_tell 129 = .ok (.iaload, 1) := by decide +kernel
theorem dX1_tell_130 : decode cX1_tell 130 = .ok (.ireturn, 1) := by decide +kernel
theorem dX1_tell_131 : decode cX1_tell 131 = .ok (.aload_n 0, 1) := by decide +kernel
theorem dX1_tell_132 : decode cX1_tell 132 = .ok (.iload_n 1, 1) := by decide +kernel
theorem dX1_tell_133 : decode cX1_tell 133 = .ok (.invokevirtual 104, 3) := by decide +kernel
theorem dX1_tell_136 : decode cX1_tell 136 = .ok (.ireturn, 1) := by decide +kernel
theorem dX1_countHeldBy_0 : decode cX1_countHeldBy 0 = .ok (.iconst 0, 1) := by decide +kernel
theorem dX1_countHeldBy_1 : decode cX1_countHeldBy 1 = .ok (.istore_n 2, 1) := by decide +kernel
theorem dX1_countHeldBy_2 : decode cX1_countHeldBy 2 = .ok (.iconst 0, 1) := by decide +kernel
theorem dX1_countHeldBy_3 : decode cX1_countHeldBy 3 = .ok (.istore_n 3, 1) := by decide +kernel
theorem dX1_countHeldBy_4 : decode cX1_countHeldBy 4 = .ok (.iload_n 3, 1) := by decide +kernel
theorem dX1_countHeldBy_5 : decode cX1_countHeldBy 5 = .ok (.aload_n 0, 1) := by decide +kernel
theorem dX1_countHeldBy_6 : decode cX1_countHeldBy 6 = .ok (.getfield 40, 3) := by decide +kernel
theorem dX1_countHeldBy_9 : decode cX1_countHeldBy 9 = .ok (.if_icmp .ge 32, 3) := by decide +kernel
theorem dX1_countHeldBy_12 : decode cX1_countHeldBy 12 = .ok (.aload_n 0, 1) := by decide +kernel
theorem dX1_countHeldBy_13 : decode cX1_countHeldBy 13 = .ok (.getfield 24, 3) := by decide +kernel
theorem dX1_countHeldBy_16 : decode cX1_countHeldBy 16 = .ok (.iload_n 3, 1) := by decide +kernel
theorem dX1_countHeldBy_17 : decode cX1_countHeldBy 17 = .ok (.iaload, 1) := by decide +kernel
theorem dX1_countHeldBy_18 : decode cX1_countHeldBy 18 = .ok (.iload_n 1, 1) := by decide +kernel
theorem dX1_countHeldBy_19 : decode cX1_countHeldBy 19 = .ok (.if_icmp .eq 13, 3) := by decide +kernel
theorem dX1_countHeldBy_22 : decode cX1_countHeldBy 22 = .ok (.aload_n 0, 1) := by decide +kernel
theorem dX1_countHeldBy_23 : decode cX1_countHeldBy 23 = .ok (.getfield 27, 3) := by decide +kernel
theorem dX1_countHeldBy_26 : decode cX1_countHeldBy 26 = .ok (.iload_n 3, 1) := by decide +kernel
theorem dX1_countHeldBy_27 : decode cX1_countHeldBy 27 = .ok (.iaload, 1) := by decide +kernel
theorem dX1_countHeldBy_28 : decode cX1_countHeldBy 28 = .ok (.iload_n 1, 1) := by decide +kernel
theorem dX1_countHeldBy_29 : decode cX1_countHeldBy 29 = .ok (.if_icmp .ne 6, 3) := by decide +kernel
theorem dX1_countHeldBy_32 : decode cX1_countHeldBy 32 = .ok (.iinc 2 1, 3) := by decide +kernel
theorem dX1_countHeldBy_35 : decode cX1_countHeldBy 35 = .ok (.iinc 3 1, 3) := by decide +kernel
theorem dX1_countHeldBy_38 : decode cX1_countHeldBy 38 = .ok (.goto (-34), 3) := by decide +kernel
theorem dX1_countHeldBy_41 : decode cX1_countHeldBy 41 = .ok (.iload_n 2, 1) := by decide +kernel
theorem dX1_countHeldBy_42 : decode cX1_countHeldBy 42 = .ok (.ireturn, 1) := by decide +kernel
theorem dX1_topOf_0 : decode cX1_topOf 0 = .ok (.iload_n 1, 1) := by decide +kernel
theorem dX1_topOf_1 : decode cX1_topOf 1 = .ok (.istore_n 2, 1) := by decide +kernel
theorem dX1_topOf_2 : decode cX1_topOf 2 = .ok (.iconst 0, 1) := by decide +kernel
theorem dX1_topOf_3 : decode cX1_topOf 3 = .ok (.istore_n 3, 1) := by decide +kernel
theorem dX1_topOf_4 : decode cX1_topOf 4 = .ok (.aload_n 0, 1) := by decide +kernel
theorem dX1_topOf_5 : decode cX1_topOf 5 = .ok (.iload_n 2, 1) := by decide +kernel
theorem dX1_topOf_6 : decode cX1_topOf 6 = .ok (.invokevirtual 44, 3) := by decide +kernel
theorem dX1_topOf_9 : decode cX1_topOf 9 = .ok (.ifCond .eq 33, 3) := by decide +kernel
theorem dX1_topOf_12 : decode cX1_topOf 12 = .ok (.iload_n 3, 1) := by decide +kernel
theorem dX1_topOf_13 : decode cX1_topOf 13 = .ok (.bipush 40, 2) := by decide +kernel
theorem dX1_topOf_15 : decode cX1_topOf 15 = .ok (.if_icmp .ge 27, 3) := by decide +kernel
theorem dX1_topOf_18 : decode cX1_topOf 18 = .ok (.aload_n 0, 1) := by decide +kernel
theorem dX1_topOf_19 : decode cX1_topOf 19 = .ok (.getfield 21, 3) := by decide +kernel
theorem dX1_topOf_22 : decode cX1_topOf 22 = .ok (.iload_n 2, 1) := by decide +kernel
theorem dX1_topOf_23 : decode cX1_topOf 23 = .ok (.iaload, 1) := by decide +kernel
theorem dX1_topOf_24 : decode cX1_topOf 24 = .ok (.ifCond .le 5, 3) := by decide +kernel
theorem dX1_topOf_27 : decode cX1_topOf 27 = .ok (.iload_n 2, 1) := by decide +kernel
theorem dX1_topOf_28 : decode cX1_topOf 28 = .ok (.ireturn, 1) := by decide +kernel
theorem dX1_topOf_29 : decode cX1_topOf 29 = .ok (.aload_n 0, 1) := by decide +kernel
theorem dX1_topOf_30 : decode cX1_topOf 30 = .ok (.getfield 24, 3) := by decide +kernel
theorem dX1_topOf_33 : decode cX1_topOf 33 = .ok (.iload_n 2, 1) := by decide +kernel
theorem dX1_topOf_34 : decode cX1_topOf 34 = .ok (.iaload, 1) := by decide +kernel
theorem dX1_topOf_35 : decode cX1_topOf 35 = .ok (.istore_n 2, 1) := by decide +kernel
theorem dX1_topOf_36 : decode cX1_topOf 36 = .ok (.iinc 3 1, 3) := by decide +kernel
theorem dX1_topOf_39 : decode cX1_topOf 39 = .ok (.goto (-35), 3) := by decide +kernel
theorem dX1_topOf_42 : decode cX1_topOf 42 = .ok (.iconst (-1), 1) := by decide +kernel
theorem dX1_topOf_43 : decode cX1_topOf 43 = .ok (.ireturn, 1) := by decide +kernel
theorem dX1_countSpells_0 : decode cX1_countSpells 0 = .ok (.iconst 0, 1) := by decide +kernel
theorem dX1_countSpells_1 : decode cX1_countSpells 1 = .ok (.istore_n 1, 1) := by decide +kernel
theorem dX1_countSpells_2 : decode cX1_countSpells 2 = .ok (.iconst 0, 1) := by decide +kernel
theorem dX1_countSpells_3 : decode cX1_countSpells 3 = .ok (.istore_n 2, 1) := by decide +kernel
theorem dX1_countSpells_4 : decode cX1_countSpells 4 = .ok (.iload_n 2, 1) := by decide +kernel
theorem dX1_countSpells_5 : decode cX1_countSpells 5 = .ok (.aload_n 0, 1) := by decide +kernel
theorem dX1_countSpells_6 : decode cX1_countSpells 6 = .ok (.getfield 40, 3) := by decide +kernel
theorem dX1_countSpells_9 : decode cX1_countSpells 9 = .ok (.if_icmp .ge 26, 3) := by decide +kernel
theorem dX1_countSpells_12 : decode cX1_countSpells 12 = .ok (.iload_n 1, 1) := by decide +kernel
theorem dX1_countSpells_13 : decode cX1_countSpells 13 = .ok (.aload_n 0, 1) := by decide +kernel
theorem dX1_countSpells_14 : decode cX1_countSpells 14 = .ok (.getfield 21, 3) := by decide +kernel
theorem dX1_countSpells_17 : decode cX1_countSpells 17 = .ok (.iload_n 2, 1) := by decide +kernel
theorem dX1_countSpells_18 : decode cX1_countSpells 18 = .ok (.iaload, 1) := by decide +kernel
theorem dX1_countSpells_19 : decode cX1_countSpells 19 = .ok (.ifCond .le 7, 3) := by decide +kernel
theorem dX1_countSpells_22 : decode cX1_countSpells 22 = .ok (.iconst 1, 1) := by decide +kernel
theorem dX1_countSpells_23 : decode cX1_countSpells 23 = .ok (.goto 4, 3) := by decide +kernel
theorem dX1_countSpells_26 : decode cX1_countSpells 26 = .ok (.iconst 0, 1) := by decide +kernel
theorem dX1_countSpells_27 : decode cX1_countSpells 27 = .ok (.iadd, 1) := by decide +kernel
theorem dX1_countSpells_28 : decode cX1_countSpells 28 = .ok (.istore_n 1, 1) := by decide +kernel
theorem dX1_countSpells_29 : decode cX1_countSpells 29 = .ok (.iinc 2 1, 3) := by decide +kernel
theorem dX1_countSpells_32 : decode cX1_countSpells 32 = .ok (.goto (-28), 3) := by decide +kernel
theorem dX1_countSpells_35 : decode cX1_countSpells 35 = .ok (.iload_n 1, 1) := by decide +kernel
theorem dX1_countSpells_36 : decode cX1_countSpells 36 = .ok (.ireturn, 1) := by decide +kernel
theorem dX1_sumOfPowers_0 : decode cX1_sumOfPowers 0 = .ok (.iconst 0, 1) := by decide +kernel
theorem dX1_sumOfPowers_1 : decode cX1_sumOfPowers 1 = .ok (.istore_n 1, 1) := by decide +kernel
theorem dX1_sumOfPowers_2 : decode cX1_sumOfPowers 2 = .ok (.iconst 0, 1) := by decide +kernel
theorem dX1_sumOfPowers_3 : decode cX1_sumOfPowers 3 = .ok (.istore_n 2, 1) := by decide +kernel
theorem dX1_sumOfPowers_4 : decode cX1_sumOfPowers 4 = .ok (.iload_n 2, 1) := by decide +kernel
theorem dX1_sumOfPowers_5 : decode cX1_sumOfPowers 5 = .ok (.aload_n 0, 1) := by decide +kernel
theorem dX1_sumOfPowers_6 : decode cX1_sumOfPowers 6 = .ok (.getfield 40, 3) := by decide +kernel
theorem dX1_sumOfPowers_9 : decode cX1_sumOfPowers 9 = .ok (.if_icmp .ge 18, 3) := by decide +kernel
theorem dX1_sumOfPowers_12 : decode cX1_sumOfPowers 12 = .ok (.iload_n 1, 1) := by decide +kernel
theorem dX1_sumOfPowers_13 : decode cX1_sumOfPowers 13 = .ok (.aload_n 0, 1) := by decide +kernel
theorem dX1_sumOfPowers_14 : decode cX1_sumOfPowers 14 = .ok (.getfield 21, 3) := by decide +kernel
theorem dX1_sumOfPowers_17 : decode cX1_sumOfPowers 17 = .ok (.iload_n 2, 1) := by decide +kernel
theorem dX1_sumOfPowers_18 : decode cX1_sumOfPowers 18 = .ok (.iaload, 1) := by decide +kernel
theorem dX1_sumOfPowers_19 : decode cX1_sumOfPowers 19 = .ok (.iadd, 1) := by decide +kernel
theorem dX1_sumOfPowers_20 : decode cX1_sumOfPowers 20 = .ok (.istore_n 1, 1) := by decide +kernel
theorem dX1_sumOfPowers_21 : decode cX1_sumOfPowers 21 = .ok (.iinc 2 1, 3) := by decide +kernel
theorem dX1_sumOfPowers_24 : decode cX1_sumOfPowers 24 = .ok (.goto (-20), 3) := by decide +kernel
theorem dX1_sumOfPowers_27 : decode cX1_sumOfPowers 27 = .ok (.iload_n 1, 1) := by decide +kernel
theorem dX1_sumOfPowers_28 : decode cX1_sumOfPowers 28 = .ok (.ireturn, 1) := by decide +kernel
theorem dX1_sumOfProps_0 : decode cX1_sumOfProps 0 = .ok (.iconst 0, 1) := by decide +kernel
theorem dX1_sumOfProps_1 : decode cX1_sumOfProps 1 = .ok (.istore_n 1, 1) := by decide +kernel
theorem dX1_sumOfProps_2 : decode cX1_sumOfProps 2 = .ok (.iconst 0, 1) := by decide +kernel
theorem dX1_sumOfProps_3 : decode cX1_sumOfProps 3 = .ok (.istore_n 2, 1) := by decide +kernel
theorem dX1_sumOfProps_4 : decode cX1_sumOfProps 4 = .ok (.iload_n 2, 1) := by decide +kernel
theorem dX1_sumOfProps_5 : decode cX1_sumOfProps 5 = .ok (.aload_n 0, 1) := by decide +kernel
theorem dX1_sumOfProps_6 : decode cX1_sumOfProps 6 = .ok (.getfield 40, 3) := by decide +kernel
theorem dX1_sumOfProps_9 : decode cX1_sumOfProps 9 = .ok (.if_icmp .ge 31, 3) := by decide +kernel
theorem dX1_sumOfProps_12 : decode cX1_sumOfProps 12 = .ok (.iload_n 1, 1) := by decide +kernel
theorem dX1_sumOfProps_13 : decode cX1_sumOfProps 13 = .ok (.aload_n 0, 1) := by decide +kernel
theorem dX1_sumOfProps_14 : decode cX1_sumOfProps 14 = .ok (.getfield 30, 3) := by decide +kernel
theorem dX1_sumOfProps_17 : decode cX1_sumOfProps 17 = .ok (.iload_n 2, 1) := by decide +kernel
theorem dX1_sumOfProps_18 : decode cX1_sumOfProps 18 = .ok (.baload, 1) := by decide +kernel
theorem dX1_sumOfProps_19 : decode cX1_sumOfProps 19 = .ok (.ifCond .eq 12, 3) := by decide +kernel
theorem dX1_sumOfProps_22 : decode cX1_sumOfProps 22 = .ok (.aload_n 0, 1) := by decide +kernel
theorem dX1_sumOfProps_23 : decode cX1_sumOfProps 23 = .ok (.getfield 18, 3) := by decide +kernel
theorem dX1_sumOfProps_26 : decode cX1_sumOfProps 26 = .ok (.iload_n 2, 1) := by decide +kernel
theorem dX1_sumOfProps_27 : decode cX1_sumOfProps 27 = .ok (.iaload, 1) := by decide +kernel
theorem dX1_sumOfProps_28 : decode cX1_sumOfProps 28 = .ok (.goto 4, 3) := by decide +kernel
theorem dX1_sumOfProps_31 : decode cX1_sumOfProps 31 = .ok (.iconst 0, 1) := by decide +kernel
theorem dX1_sumOfProps_32 : decode cX1_sumOfProps 32 = .ok (.iadd, 1) := by decide +kernel
theorem dX1_sumOfProps_33 : decode cX1_sumOfProps 33 = .ok (.istore_n 1, 1) := by decide +kernel
theorem dX1_sumOfProps_34 : decode cX1_sumOfProps 34 = .ok (.iinc 2 1, 3) := by decide +kernel
theorem dX1_sumOfProps_37 : decode cX1_sumOfProps 37 = .ok (.goto (-33), 3) := by decide +kernel
theorem dX1_sumOfProps_40 : decode cX1_sumOfProps 40 = .ok (.iload_n 1, 1) := by decide +kernel
theorem dX1_sumOfProps_41 : decode cX1_sumOfProps 41 = .ok (.ireturn, 1) := by decide +kernel
theorem dX1_sumOfLoads_0 : decode cX1_sumOfLoads 0 = .ok (.iconst 0, 1) := by decide +kernel
theorem dX1_sumOfLoads_1 : decode cX1_sumOfLoads 1 = .ok (.istore_n 1, 1) := by decide +kernel
theorem dX1_sumOfLoads_2 : decode cX1_sumOfLoads 2 = .ok (.iconst 0, 1) := by decide +kernel
theorem dX1_sumOfLoads_3 : decode cX1_sumOfLoads 3 = .ok (.istore_n 2, 1) := by decide +kernel
theorem dX1_sumOfLoads_4 : decode cX1_sumOfLoads 4 = .ok (.iload_n 2, 1) := by decide +kernel
theorem dX1_sumOfLoads_5 : decode cX1_sumOfLoads 5 = .ok (.aload_n 0, 1) := by decide +kernel
theorem dX1_sumOfLoads_6 : decode cX1_sumOfLoads 6 = .ok (.getfield 40, 3) := by decide +kernel
theorem dX1_sumOfLoads_9 : decode cX1_sumOfLoads 9 = .ok (.if_icmp .ge 18, 3) := by decide +kernel
theorem dX1_sumOfLoads_12 : decode cX1_sumOfLoads 12 = .ok (.iload_n 1, 1) := by decide +kernel
theorem dX1_sumOfLoads_13 : decode cX1_sumOfLoads 13 = .ok (.aload_n 0, 1) := by decide +kernel
theorem dX1_sumOfLoads_14 : decode cX1_sumOfLoads 14 = .ok (.getfield 34, 3) := by decide +kernel
theorem dX1_sumOfLoads_17 : decode cX1_sumOfLoads 17 = .ok (.iload_n 2, 1) := by decide +kernel
theorem dX1_sumOfLoads_18 : decode cX1_sumOfLoads 18 = .ok (.iaload, 1) := by decide +kernel
theorem dX1_sumOfLoads_19 : decode cX1_sumOfLoads 19 = .ok (.iadd, 1) := by decide +kernel
theorem dX1_sumOfLoads_20 : decode cX1_sumOfLoads 20 = .ok (.istore_n 1, 1) := by decide +kernel
theorem dX1_sumOfLoads_21 : decode cX1_sumOfLoads 21 = .ok (.iinc 2 1, 3) := by decide +kernel
theorem dX1_sumOfLoads_24 : decode cX1_sumOfLoads 24 = .ok (.goto (-20), 3) := by decide +kernel
theorem dX1_sumOfLoads_27 : decode cX1_sumOfLoads 27 = .ok (.iload_n 1, 1) := by decide +kernel
theorem dX1_sumOfLoads_28 : decode cX1_sumOfLoads 28 = .ok (.ireturn, 1) := by decide +kernel
theorem dX1_sumOfSpelledLoads_0 : decode cX1_sumOfSpelledLoads 0 = .ok (.iconst 0, 1) := by decide +kernel
theorem dX1_sumOfSpelledLoads_1 : decode cX1_sumOfSpelledLoads 1 = .ok (.istore_n 1, 1) := by decide +kernel
theorem dX1_sumOfSpelledLoads_2 : decode cX1_sumOfSpelledLoads 2 = .ok (.iconst 0, 1) := by decide +kernel
theorem dX1_sumOfSpelledLoads_3 : decode cX1_sumOfSpelledLoads 3 = .ok (.istore_n 2, 1) := by decide +kernel
theorem dX1_sumOfSpelledLoads_4 : decode cX1_sumOfSpelledLoads 4 = .ok (.iload_n 2, 1) := by decide +kernel
theorem dX1_sumOfSpelledLoads_5 : decode cX1_sumOfSpelledLoads 5 = .ok (.aload_n 0, 1) := by decide +kernel
theorem dX1_sumOfSpelledLoads_6 : decode cX1_sumOfSpelledLoads 6 = .ok (.getfield 40, 3) := by decide +kernel
theorem dX1_sumOfSpelledLoads_9 : decode cX1_sumOfSpelledLoads 9 = .ok (.if_icmp .ge 31, 3) := by decide +kernel
theorem dX1_sumOfSpelledLoads_12 : decode cX1_sumOfSpelledLoads 12 = .ok (.iload_n 1, 1) := by decide +kernel
theorem dX1_sumOfSpelledLoads_13 : decode cX1_sumOfSpelledLoads 13 = .ok (.aload_n 0, 1) := by decide +kernel
theorem dX1_sumOfSpelledLoads_14 : decode cX1_sumOfSpelledLoads 14 = .ok (.getfield 21, 3) := by decide +kernel
theorem dX1_sumOfSpelledLoads_17 : decode cX1_sumOfSpelledLoads 17 = .ok (.iload_n 2, 1) := by decide +kernel
theorem dX1_sumOfSpelledLoads_18 : decode cX1_sumOfSpelledLoads 18 = .ok (.iaload, 1) := by decide +kernel
theorem dX1_sumOfSpelledLoads_19 : decode cX1_sumOfSpelledLoads 19 = .ok (.ifCond .le 12, 3) := by decide +kernel
theorem dX1_sumOfSpelledLoads_22 : decode cX1_sumOfSpelledLoads 22 = .ok (.aload_n 0, 1) := by decide +kernel
theorem dX1_sumOfSpelledLoads_23 : decode cX1_sumOfSpelledLoads 23 = .ok (.getfield 34, 3) := by decide +kernel
theorem dX1_sumOfSpelledLoads_26 : decode cX1_sumOfSpelledLoads 26 = .ok (.iload_n 2, 1) := by decide +kernel
theorem dX1_sumOfSpelledLoads_27 : decode cX1_sumOfSpelledLoads 27 = .ok (.iaload, 1) := by decide +kernel
theorem dX1_sumOfSpelledLoads_28 : decode cX1_sumOfSpelledLoads 28 = .ok (.goto 4, 3) := by decide +kernel
theorem dX1_sumOfSpelledLoads_31 : decode cX1_sumOfSpelledLoads 31 = .ok (.iconst 0, 1) := by decide +kernel
theorem dX1_sumOfSpelledLoads_32 : decode cX1_sumOfSpelledLoads 32 = .ok (.iadd, 1) := by decide +kernel
theorem dX1_sumOfSpelledLoads_33 : decode cX1_sumOfSpelledLoads 33 = .ok (.istore_n 1, 1) := by decide +kernel
theorem dX1_sumOfSpelledLoads_34 : decode cX1_sumOfSpelledLoads 34 = .ok (.iinc 2 1, 3) := by decide +kernel
theorem dX1_sumOfSpelledLoads_37 : decode cX1_sumOfSpelledLoads 37 = .ok (.goto (-33), 3) := by decide +kernel
theorem dX1_sumOfSpelledLoads_40 : decode cX1_sumOfSpelledLoads 40 = .ok (.iload_n 1, 1) := by decide +kernel
theorem dX1_sumOfSpelledLoads_41 : decode cX1_sumOfSpelledLoads 41 = .ok (.ireturn, 1) := by decide +kernel
end
section
theorem dX2_init_0 : decode cX2_init 0 = .ok (.aload_n 0, 1) := by decide +kernel
theorem dX2_init_1 : decode cX2_init 1 = .ok (.invokespecial 1, 3) := by decide +kernel
theorem dX2_init_4 : decode cX2_init 4 = .ok (.aload_n 0, 1) := by decide +kernel
theorem dX2_init_5 : decode cX2_init 5 = .ok (.new 7, 3) := by decide +kernel
theorem dX2_init_8 : decode cX2_init 8 = .ok (.dup, 1) := by decide +kernel
theorem dX2_init_9 : decode cX2_init 9 = .ok (.invokespecial 9, 3) := by decide +kernel
theorem dX2_init_12 : decode cX2_init 12 = .ok (.putfield 10, 3) := by decide +kernel
theorem dX2_init_15 : decode cX2_init 15 = .ok (.aload_n 0, 1) := by decide +kernel
theorem dX2_init_16 : decode cX2_init 16 = .ok (.new 7, 3) := by decide +kernel
theorem dX2_init_19 : decode cX2_init 19 = .ok (.dup, 1) := by decide +kernel
theorem dX2_init_20 : decode cX2_init 20 = .ok (.invokespecial 9, 3) := by decide +kernel
theorem dX2_init_23 : decode cX2_init 23 = .ok (.putfield 16, 3) := by decide +kernel
theorem dX2_init_26 : decode cX2_init 26 = .ok (.aload_n 0, 1) := by decide +kernel
theorem dX2_init_27 : decode cX2_init 27 = .ok (.new 19, 3) := by decide +kernel
theorem dX2_init_30 : decode cX2_init 30 = .ok (.dup, 1) := by decide +kernel
theorem dX2_init_31 : decode cX2_init 31 = .ok (.invokespecial 21, 3) := by decide +kernel
theorem dX2_init_34 : decode cX2_init 34 = .ok (.putfield 22, 3) := by decide +kernel
theorem dX2_init_37 : decode cX2_init 37 = .ok (.return_, 1) := by decide +kernel
theorem dX2_conjure_0 : decode cX2_conjure 0 = .ok (.iload_n 1, 1) := by decide +kernel
theorem dX2_conjure_1 : decode cX2_conjure 1 = .ok (.iload_n 2, 1) := by decide +kernel
theorem dX2_conjure_2 : decode cX2_conjure 2 = .ok (.invokestatic 26, 3) := by decide +kernel
theorem dX2_conjure_5 : decode cX2_conjure 5 = .ok (.ifCond .eq 14, 3) := by decide +kernel
theorem dX2_conjure_8 : decode cX2_conjure 8 = .ok (.iload_n 3, 1) := by decide +kernel
theorem dX2_conjure_9 : decode cX2_conjure 9 = .ok (.iconst 1, 1) := by decide +kernel
theorem dX2_conjure_10 : decode cX2_conjure 10 = .ok (.sipush 200, 3) := by decide +kernel
theorem dX2_conjure_13 : decode cX2_conjure 13 = .ok (.invokestatic 30, 3) := by decide +kernel
theorem dX2_conjure_16 : decode cX2_conjure 16 = .ok (.ifCond .ne 13, 3) := by decide +kernel
theorem dX2_conjure_19 : decode cX2_conjure 19 = .ok (.new 34, 3) := by decide +kernel
theorem dX2_conjure_22 : decode cX2_conjure 22 = .ok (.dup, 1) := by decide +kernel
theorem dX2_conjure_23 : decode cX2_conjure 23 = .ok (.ldc 36, 2) := by decide +kernel
theorem dX2_conjure_25 : decode cX2_conjure 25 = .ok (.invokespecial 38, 3) := by decide +kernel
theorem dX2_conjure_28 : decode cX2_conjure 28 = .ok (.athrow, 1) := by decide +kernel
theorem dX2_conjure_29 : decode cX2_conjure 29 = .ok (.aload_n 0, 1) := by decide +kernel
theorem dX2_conjure_30 : decode cX2_conjure 30 = .ok (.getfield 10, 3) := by decide +kernel
theorem dX2_conjure_33 : decode cX2_conjure 33 = .ok (.invokevirtual 41, 3) := by decide +kernel
theorem dX2_conjure_36 : decode cX2_conjure 36 = .ok (.ifCond .eq 13, 3) := by decide +kernel
theorem dX2_conjure_39 : decode cX2_conjure 39 = .ok (.new 45, 3) := by decide +kernel
theorem dX2_conjure_42 : decode cX2_conjure 42 = .ok (.dup, 1) := by decide +kernel
theorem dX2_conjure_43 : decode cX2_conjure 43 = .ok (.ldc 47, 2) := by decide +kernel
theorem dX2_conjure_45 : decode cX2_conjure 45 = .ok (.invokespecial 49, 3) := by decide +kernel
theorem dX2_conjure_48 : decode cX2_conjure 48 = .ok (.athrow, 1) := by decide +kernel
theorem dX2_conjure_49 : decode cX2_conjure 49 = .ok (.aload_n 0, 1) := by decide +kernel
theorem dX2_conjure_50 : decode cX2_conjure 50 = .ok (.getfield 10, 3) := by decide +kernel
theorem dX2_conjure_53 : decode cX2_conjure 53 = .ok (.iload_n 1, 1) := by decide +kernel
theorem dX2_conjure_54 : decode cX2_conjure 54 = .ok (.iload_n 2, 1) := by decide +kernel
theorem dX2_conjure_55 : decode cX2_conjure 55 = .ok (.iload_n 3, 1) := by decide +kernel
theorem dX2_conjure_56 : decode cX2_conjure 56 = .ok (.invokevirtual 50, 3) := by decide +kernel
theorem dX2_conjure_59 : decode cX2_conjure 59 = .ok (.istore 4, 2) := by decide +kernel
theorem dX2_conjure_61 : decode cX2_conjure 61 = .ok (.aload_n 0, 1) := by decide +kernel
theorem dX2_conjure_62 : decode cX2_conjure 62 = .ok (.getfield 10, 3) := by decide +kernel
theorem dX2_conjure_65 : decode cX2_conjure 65 = .ok (.invokevirtual 54, 3) := by decide +kernel
theorem dX2_conjure_68 : decode cX2_conjure 68 = .ok (.iload 4, 2) := by decide +kernel
theorem dX2_conjure_70 : decode cX2_conjure 70 = .ok (.ireturn, 1) := by decide +kernel
theorem dX2_hang_0 : decode cX2_hang 0 = .ok (.iload_n 1, 1) := by decide +kernel
theorem dX2_hang_1 : decode cX2_hang 1 = .ok (.iload_n 2, 1) := by decide +kernel
theorem dX2_hang_2 : decode cX2_hang 2 = .ok (.invokestatic 26, 3) := by decide +kernel
theorem dX2_hang_5 : decode cX2_hang 5 = .ok (.ifCond .eq 9, 3) := by decide +kernel
theorem dX2_hang_8 : decode cX2_hang 8 = .ok (.iload_n 3, 1) := by decide +kernel
theorem dX2_hang_9 : decode cX2_hang 9 = .ok (.iload 4, 2) := by decide +kernel
theorem dX2_hang_11 : decode cX2_hang 11 = .ok (.if_icmp .ne 13, 3) := by decide +kernel
theorem dX2_hang_14 : decode cX2_hang 14 = .ok (.new 34, 3) := by decide +kernel
theorem dX2_hang_17 : decode cX2_hang 17 = .ok (.dup, 1) := by decide +kernel
theorem dX2_hang_18 : decode cX2_hang 18 = .ok (.ldc 57, 2) := by decide +kernel
theorem dX2_hang_20 : decode cX2_hang 20 = .ok (.invokespecial 38, 3) := by decide +kernel
theorem dX2_hang_23 : decode cX2_hang 23 = .ok (.athrow, 1) := by decide +kernel
theorem dX2_hang_24 : decode cX2_hang 24 = .ok (.aload_n 0, 1) := by decide +kernel
theorem dX2_hang_25 : decode cX2_hang 25 = .ok (.getfield 10, 3) := by decide +kernel
theorem dX2_hang_28 : decode cX2_hang 28 = .ok (.iload_n 3, 1) := by decide +kernel
theorem dX2_hang_29 : decode cX2_hang 29 = .ok (.invokevirtual 59, 3) := by decide +kernel
theorem dX2_hang_32 : decode cX2_hang 32 = .ok (.ifCond .eq 21, 3) := by decide +kernel
theorem dX2_hang_35 : decode cX2_hang 35 = .ok (.iload 4, 2) := by decide +kernel
theorem dX2_hang_37 : decode cX2_hang 37 = .ok (.iconst (-1), 1) := by decide +kernel
theorem dX2_hang_38 : decode cX2_hang 38 = .ok (.if_icmp .eq 25, 3) := by decide +kernel
theorem dX2_hang_41 : decode cX2_hang 41 = .ok (.aload_n 0, 1) := by decide +kernel
theorem dX2_hang_42 : decode cX2_hang 42 = .ok (.getfield 10, 3) := by decide +kernel
theorem dX2_hang_45 : decode cX2_hang 45 = .ok (.iload 4, 2) := by decide +kernel
theorem dX2_hang_47 : decode cX2_hang 47 = .ok (.invokevirtual 59, 3) := by decide +kernel
theorem dX2_hang_50 : decode cX2_hang 50 = .ok (.ifCond .ne 13, 3) := by decide +kernel
theorem dX2_hang_53 : decode cX2_hang 53 = .ok (.new 63, 3) := by decide +kernel
theorem dX2_hang_56 : decode cX2_hang 56 = .ok (.dup, 1) := by decide +kernel
theorem dX2_hang_57 : decode cX2_hang 57 = .ok (.ldc 65, 2) := by decide +kernel
theorem dX2_hang_59 : decode cX2_hang 59 = .ok (.invokespecial 67, 3) := by decide +kernel
theorem dX2_hang_62 : decode cX2_hang 62 = .ok (.athrow, 1) := by decide +kernel
theorem dX2_hang_63 : decode cX2_hang 63 = .ok (.aload_n 0, 1) := by decide +kernel
theorem dX2_hang_64 : decode cX2_hang 64 = .ok (.getfield 10, 3) := by decide +kernel
theorem dX2_hang_67 : decode cX2_hang 67 = .ok (.invokevirtual 41, 3) := by decide +kernel
theorem dX2_hang_70 : decode cX2_hang 70 = .ok (.ifCond .ne 32, 3) := by decide +kernel
theorem dX2_hang_73 : decode cX2_hang 73 = .ok (.aload_n 0, 1) := by decide +kernel
theorem dX2_hang_74 : decode cX2_hang 74 = .ok (.getfield 10, 3) := by decide +kernel
theorem dX2_hang_77 : decode cX2_hang 77 = .ok (.iload_n 3, 1) := by decide +kernel
theorem dX2_hang_78 : decode cX2_hang 78 = .ok (.invokevirtual 68, 3) := by decide +kernel
theorem dX2_hang_81 : decode cX2_hang 81 = .ok (.ifCond .eq 21, 3) := by decide +kernel
theorem dX2_hang_84 : decode cX2_hang 84 = .ok (.iload 4, 2) := by decide +kernel
theorem dX2_hang_86 : decode cX2_hang 86 = .ok (.iconst (-1), 1) := by decide +kernel
theorem dX2_hang_87 : decode cX2_hang 87 = .ok (.if_icmp .eq 25, 3) := by decide +kernel
theorem dX2_hang_90 : decode cX2_hang 90 = .ok (.aload_n 0, 1) := by decide +kernel
theorem dX2_hang_91 : decode cX2_hang 91 = .ok (.getfield 10, 3) := by decide +kernel
theorem dX2_hang_94 : decode cX2_hang 94 = .ok (.iload 4, 2) := by decide +kernel
theorem dX2_hang_96 : decode cX2_hang 96 = .ok (.invokevirtual 68, 3) := by decide +kernel
theorem dX2_hang_99 : decode cX2_hang 99 = .ok (.ifCond .ne 13, 3) := by decide +kernel
theorem dX2_hang_102 : decode cX2_hang 102 = .ok (.new 45, 3) := by decide +kernel
theorem dX2_hang_105 : decode cX2_hang 105 = .ok (.dup, 1) := by decide +kernel
theorem dX2_hang_106 : decode cX2_hang 106 = .ok (.ldc 71, 2) := by decide +kernel
theorem dX2_hang_108 : decode cX2_hang 108 = .ok (.invokespecial 49, 3) := by decide +kernel
theorem dX2_hang_111 : decode cX2_hang 111 = .ok (.athrow, 1) := by decide +kernel
theorem dX2_hang_112 : decode cX2_hang 112 = .ok (.aload_n 0, 1) := by decide +kernel
theorem dX2_hang_113 : decode cX2_hang 113 = .ok (.getfield 10, 3) := by decide +kernel
theorem dX2_hang_116 : decode cX2_hang 116 = .ok (.iload_n 1, 1) := by decide +kernel
theorem dX2_hang_117 : decode cX2_hang 117 = .ok (.iload_n 2, 1) := by decide +kernel
theorem dX2_hang_118 : decode cX2_hang 118 = .ok (.iload_n 3, 1) := by decide +kernel
theorem dX2_hang_119 : decode cX2_hang 119 = .ok (.iload 4, 2) := by decide +kernel
theorem dX2_hang_121 : decode cX2_hang 121 = .ok (.invokevirtual 73, 3) := by decide +kernel
theorem dX2_hang_124 : decode cX2_hang 124 = .ok (.istore 5, 2) := by decide +kernel
theorem dX2_hang_126 : decode cX2_hang 126 = .ok (.aload_n 0, 1) := by decide +kernel
theorem dX2_hang_127 : decode cX2_hang 127 = .ok (.getfield 10, 3) := by decide +kernel
theorem dX2_hang_130 : decode cX2_hang 130 = .ok (.invokevirtual 54, 3) := by decide +kernel
theorem dX2_hang_133 : decode cX2_hang 133 = .ok (.iload 5, 2) := by decide +kernel
theorem dX2_hang_135 : decode cX2_hang 135 = .ok (.ireturn, 1) := by decide +kernel
theorem dX2_prop_0 : decode cX2_prop 0 = .ok (.aload_n 0, 1) := by decide +kernel
theorem dX2_prop_1 : decode cX2_prop 1 = .ok (.getfield 10, 3) := by decide +kernel
theorem dX2_prop_4 : decode cX2_prop 4 = .ok (.iload_n 1, 1) := by decide +kernel
theorem dX2_prop_5 : decode cX2_prop 5 = .ok (.invokevirtual 59, 3) := by decide +kernel
theorem dX2_prop_8 : decode cX2_prop 8 = .ok (.ifCond .ne 13, 3) := by decide +kernel
theorem dX2_prop_11 : decode cX2_prop 11 = .ok (.new 63, 3) := by decide +kernel
theorem dX2_prop_14 : decode cX2_prop 14 = .ok (.dup, 1) := by decide +kernel
theorem dX2_prop_15 : decode cX2_prop 15 = .ok (.ldc 65, 2) := by decide +kernel
theorem dX2_prop_17 : decode cX2_prop 17 = .ok (.invokespecial 67, 3) := by decide +kernel
theorem dX2_prop_20 : decode cX2_prop 20 = .ok (.athrow, 1) := by decide +kernel
theorem dX2_prop_21 : decode cX2_prop 21 = .ok (.iload_n 2, 1) := by decide +kernel
theorem dX2_prop_22 : decode cX2_prop 22 = .ok (.iconst 0, 1) := by decide +kernel
theorem dX2_prop_23 : decode cX2_prop 23 = .ok (.bipush 60, 2) := by decide +kernel
theorem dX2_prop_25 : decode cX2_prop 25 = .ok (.invokestatic 30, 3) := by decide +kernel
theorem dX2_prop_28 : decode cX2_prop 28 = .ok (.ifCond .ne 13, 3) := by decide +kernel
theorem dX2_prop_31 : decode cX2_prop 31 = .ok (.new 34, 3) := by decide +kernel
theorem dX2_prop_34 : decode cX2_prop 34 = .ok (.dup, 1) := by decide +kernel
theorem dX2_prop_35 : decode cX2_prop 35 = .ok (.ldc 77, 2) := by decide +kernel
theorem dX2_prop_37 : decode cX2_prop 37 = .ok (.invokespecial 38, 3) := by decide +kernel
theorem dX2_prop_40 : decode cX2_prop 40 = .ok (.athrow, 1) := by decide +kernel
theorem dX2_prop_41 : decode cX2_prop 41 = .ok (.aload_n 0, 1) := by decide +kernel
theorem dX2_prop_42 : decode cX2_prop 42 = .ok (.getfield 10, 3) := by decide +kernel
theorem dX2_prop_45 : decode cX2_prop 45 = .ok (.iload_n 1, 1) := by decide +kernel
theorem dX2_prop_46 : decode cX2_prop 46 = .ok (.invokevirtual 68, 3) := by decide +kernel
theorem dX2_prop_49 : decode cX2_prop 49 = .ok (.ifCond .ne 13, 3) := by decide +kernel
theorem dX2_prop_52 : decode cX2_prop 52 = .ok (.new 45, 3) := by decide +kernel
theorem dX2_prop_55 : decode cX2_prop 55 = .ok (.dup, 1) := by decide +kernel
theorem dX2_prop_56 : decode cX2_prop 56 = .ok (.ldc 79, 2) := by decide +kernel
theorem dX2_prop_58 : decode cX2_prop 58 = .ok (.invokespecial 49, 3) := by decide +kernel
theorem dX2_prop_61 : decode cX2_prop 61 = .ok (.athrow, 1) := by decide +kernel
theorem dX2_prop_62 : decode cX2_prop 62 = .ok (.aload_n 0, 1) := by decide +kernel
theorem dX2_prop_63 : decode cX2_prop 63 = .ok (.getfield 10, 3) := by decide +kernel
theorem dX2_prop_66 : decode cX2_prop 66 = .ok (.getfield 81, 3) := by decide +kernel
theorem dX2_prop_69 : decode cX2_prop 69 = .ok (.istore_n 3, 1) := by decide +kernel
theorem dX2_prop_70 : decode cX2_prop 70 = .ok (.aload_n 0, 1) := by decide +kernel
theorem dX2_prop_71 : decode cX2_prop 71 = .ok (.getfield 10, 3) := by decide +kernel
theorem dX2_prop_74 : decode cX2_prop 74 = .ok (.iload_n 1, 1) := by decide +kernel
theorem dX2_prop_75 : decode cX2_prop 75 = .ok (.iload_n 2, 1) := by decide +kernel
theorem dX2_prop_76 : decode cX2_prop 76 = .ok (.invokevirtual 85, 3) := by decide +kernel
theorem dX2_prop_79 : decode cX2_prop 79 = .ok (.aload_n 0, 1) := by decide +kernel
theorem dX2_prop_80 : decode cX2_prop 80 = .ok (.getfield 10, 3) := by decide +kernel
theorem dX2_prop_83 : decode cX2_prop 83 = .ok (.invokevirtual 54, 3) := by decide +kernel
theorem dX2_prop_86 : decode cX2_prop 86 = .ok (.iload_n 3, 1) := by decide +kernel
theorem dX2_prop_87 : decode cX2_prop 87 = .ok (.aload_n 0, 1) := by decide +kernel
theorem dX2_prop_88 : decode cX2_prop 88 = .ok (.getfield 10, 3) := by decide +kernel
theorem dX2_prop_91 : decode cX2_prop 91 = .ok (.getfield 81, 3) := by decide +kernel
theorem dX2_prop_94 : decode cX2_prop 94 = .ok (.isub, 1) := by decide +kernel
theorem dX2_prop_95 : decode cX2_prop 95 = .ok (.ireturn, 1) := by decide +kernel
theorem dX2_renew_0 : decode cX2_renew 0 = .ok (.aload_n 0, 1) := by decide +kernel
theorem dX2_renew_1 : decode cX2_renew 1 = .ok (.getfield 10, 3) := by decide +kernel
theorem dX2_renew_4 : decode cX2_renew 4 = .ok (.iload_n 1, 1) := by decide +kernel
theorem dX2_renew_5 : decode cX2_renew 5 = .ok (.invokevirtual 59, 3) := by decide +kernel
theorem dX2_renew_8 : decode cX2_renew 8 = .ok (.ifCond .ne 13, 3) := by decide +kernel
theorem dX2_renew_11 : decode cX2_renew 11 = .ok (.new 63, 3) := by decide +kernel
theorem dX2_renew_14 : decode cX2_renew 14 = .ok (.dup, 1) := by decide +kernel
theorem dX2_renew_15 : decode cX2_renew 15 = .ok (.ldc 65, 2) := by decide +kernel
theorem dX2_renew_17 : decode cX2_renew 17 = .ok (.invokespecial 67, 3) := by decide +kernel
theorem dX2_renew_20 : decode cX2_renew 20 = .ok (.athrow, 1) := by decide +kernel
theorem dX2_renew_21 : decode cX2_renew 21 = .ok (.iload_n 2, 1) := by decide +kernel
theorem dX2_renew_22 : decode cX2_renew 22 = .ok (.iconst 1, 1) := by decide +kernel
theorem dX2_renew_23 : decode cX2_renew 23 = .ok (.sipush 200, 3) := by decide +kernel
theorem dX2_renew_26 : decode cX2_renew 26 = .ok (.invokestatic 30, 3) := by decide +kernel
theorem dX2_renew_29 : decode cX2_renew 29 = .ok (.ifCond .ne 13, 3) := by decide +kernel
theorem dX2_renew_32 : decode cX2_renew 32 = .ok (.new 34, 3) := by decide +kernel
theorem dX2_renew_35 : decode cX2_renew 35 = .ok (.dup, 1) := by decide +kernel
theorem dX2_renew_36 : decode cX2_renew 36 = .ok (.ldc 89, 2) := by decide +kernel
theorem dX2_renew_38 : decode cX2_renew 38 = .ok (.invokespecial 38, 3) := by decide +kernel
theorem dX2_renew_41 : decode cX2_renew 41 = .ok (.athrow, 1) := by decide +kernel
theorem dX2_renew_42 : decode cX2_renew 42 = .ok (.aload_n 0, 1) := by decide +kernel
theorem dX2_renew_43 : decode cX2_renew 43 = .ok (.getfield 10, 3) := by decide +kernel
theorem dX2_renew_46 : decode cX2_renew 46 = .ok (.iload_n 1, 1) := by decide +kernel
theorem dX2_renew_47 : decode cX2_renew 47 = .ok (.invokevirtual 91, 3) := by decide +kernel
theorem dX2_renew_50 : decode cX2_renew 50 = .ok (.ifCond .eq 16, 3) := by decide +kernel
theorem dX2_renew_53 : decode cX2_renew 53 = .ok (.iload_n 2, 1) := by decide +kernel
theorem dX2_renew_54 : decode cX2_renew 54 = .ok (.aload_n 0, 1) := by decide +kernel
theorem dX2_renew_55 : decode cX2_renew 55 = .ok (.getfield 10, 3) := by decide +kernel
theorem dX2_renew_58 : decode cX2_renew 58 = .ok (.getfield 94, 3) := by decide +kernel
theorem dX2_renew_61 : decode cX2_renew 61 = .ok (.iload_n 1, 1) := by decide +kernel
theorem dX2_renew_62 : decode cX2_renew 62 = .ok (.iaload, 1) := by decide +kernel
theorem dX2_renew_63 : decode cX2_renew 63 = .ok (.if_icmp .ge 13, 3) := by decide +kernel
theorem dX2_renew_66 : decode cX2_renew 66 = .ok (.new 45, 3) := by decide +kernel
theorem dX2_renew_69 : decode cX2_renew 69 = .ok (.dup, 1) := by decide +kernel
theorem dX2_renew_70 : decode cX2_renew 70 = .ok (.ldc 98, 2) := by decide +kernel
theorem dX2_renew_72 : decode cX2_renew 72 = .ok (.invokespecial 49, 3) := by decide +kernel
theorem dX2_renew_75 : decode cX2_renew 75 = .ok (.athrow, 1) := by decide +kernel
theorem dX2_renew_76 : decode cX2_renew 76 = .ok (.aload_n 0, 1) := by decide +kernel
theorem dX2_renew_77 : decode cX2_renew 77 = .ok (.getfield 10, 3) := by decide +kernel
theorem dX2_renew_80 : decode cX2_renew 80 = .ok (.getfield 100, 3) := by decide +kernel
theorem dX2_renew_83 : decode cX2_renew 83 = .ok (.iload_n 1, 1) := by decide +kernel
theorem dX2_renew_84 : decode cX2_renew 84 = .ok (.iaload, 1) := by decide +kernel
theorem dX2_renew_85 : decode cX2_renew 85 = .ok (.istore_n 3, 1) := by decide +kernel
theorem dX2_renew_86 : decode cX2_renew 86 = .ok (.aload_n 0, 1) := by decide +kernel
theorem dX2_renew_87 : decode cX2_renew 87 = .ok (.getfield 10, 3) := by decide +kernel
theorem dX2_renew_90 : decode cX2_renew 90 = .ok (.getfield 100, 3) := by decide +kernel
theorem dX2_renew_93 : decode cX2_renew 93 = .ok (.iload_n 1, 1) := by decide +kernel
theorem dX2_renew_94 : decode cX2_renew 94 = .ok (.iload_n 2, 1) := by decide +kernel
theorem dX2_renew_95 : decode cX2_renew 95 = .ok (.iastore, 1) := by decide +kernel
theorem dX2_renew_96 : decode cX2_renew 96 = .ok (.iload_n 3, 1) := by decide +kernel
theorem dX2_renew_97 : decode cX2_renew 97 = .ok (.ireturn, 1) := by decide +kernel
theorem dX2_stair_0 : decode cX2_stair 0 = .ok (.aload_n 0, 1) := by decide +kernel
theorem dX2_stair_1 : decode cX2_stair 1 = .ok (.getfield 10, 3) := by decide +kernel
theorem dX2_stair_4 : decode cX2_stair 4 = .ok (.iload_n 1, 1) := by decide +kernel
theorem dX2_stair_5 : decode cX2_stair 5 = .ok (.invokevirtual 59, 3) := by decide +kernel
theorem dX2_stair_8 : decode cX2_stair 8 = .ok (.ifCond .eq 14, 3) := by decide +kernel
theorem dX2_stair_11 : decode cX2_stair 11 = .ok (.aload_n 0, 1) := by decide +kernel
theorem dX2_stair_12 : decode cX2_stair 12 = .ok (.getfield 10, 3) := by decide +kernel
theorem dX2_stair_15 : decode cX2_stair 15 = .ok (.iload_n 2, 1) := by decide +kernel
theorem dX2_stair_16 : decode cX2_stair 16 = .ok (.invokevirtual 59, 3) := by decide +kernel
theorem dX2_stair_19 : decode cX2_stair 19 = .ok (.ifCond .ne 13, 3) := by decide +kernel
theorem dX2_stair_22 : decode cX2_stair 22 = .ok (.new 63, 3) := by decide +kernel
theorem dX2_stair_25 : decode cX2_stair 25 = .ok (.dup, 1) := by decide +kernel
theorem dX2_stair_26 : decode cX2_stair 26 = .ok (.ldc 65, 2) := by decide +kernel
theorem dX2_stair_28 : decode cX2_stair 28 = .ok (.invokespecial 67, 3) := by decide +kernel
theorem dX2_stair_31 : decode cX2_stair 31 = .ok (.athrow, 1) := by decide +kernel
theorem dX2_stair_32 : decode cX2_stair 32 = .ok (.iload_n 1, 1) := by decide +kernel
theorem dX2_stair_33 : decode cX2_stair 33 = .ok (.iload_n 2, 1) := by decide +kernel
theorem dX2_stair_34 : decode cX2_stair 34 = .ok (.if_icmp .ne 13, 3) := by decide +kernel
theorem dX2_stair_37 : decode cX2_stair 37 = .ok (.new 34, 3) := by decide +kernel
theorem dX2_stair_40 : decode cX2_stair 40 = .ok (.dup, 1) := by decide +kernel
theorem dX2_stair_41 : decode cX2_stair 41 = .ok (.ldc 103, 2) := by decide +kernel
theorem dX2_stair_43 : decode cX2_stair 43 = .ok (.invokespecial 38, 3) := by decide +kernel
theorem dX2_stair_46 : decode cX2_stair 46 = .ok (.athrow, 1) := by decide +kernel
theorem dX2_stair_47 : decode cX2_stair 47 = .ok (.aload_n 0, 1) := by decide +kernel
theorem dX2_stair_48 : decode cX2_stair 48 = .ok (.getfield 22, 3) := by decide +kernel
theorem dX2_stair_51 : decode cX2_stair 51 = .ok (.invokevirtual 105, 3) := by decide +kernel
theorem dX2_stair_54 : decode cX2_stair 54 = .ok (.ifCond .ne 25, 3) := by decide +kernel
theorem dX2_stair_57 : decode cX2_stair 57 = .ok (.aload_n 0, 1) := by decide +kernel
theorem dX2_stair_58 : decode cX2_stair 58 = .ok (.getfield 10, 3) := by decide +kernel
theorem dX2_stair_61 : decode cX2_stair 61 = .ok (.iload_n 1, 1) := by decide +kernel
theorem dX2_stair_62 : decode cX2_stair 62 = .ok (.invokevirtual 68, 3) := by decide +kernel
theorem dX2_stair_65 : decode cX2_stair 65 = .ok (.ifCond .eq 14, 3) := by decide +kernel
theorem dX2_stair_68 : decode cX2_stair 68 = .ok (.aload_n 0, 1) := by decide +kernel
theorem dX2_stair_69 : decode cX2_stair 69 = .ok (.getfield 10, 3) := by decide +kernel
theorem dX2_stair_72 : decode cX2_stair 72 = .ok (.iload_n 2, 1) := by decide +kernel
theorem dX2_stair_73 : decode cX2_stair 73 = .ok (.invokevirtual 68, 3) := by decide +kernel
theorem dX2_stair_76 : decode cX2_stair 76 = .ok (.ifCond .ne 13, 3) := by decide +kernel
theorem dX2_stair_79 : decode cX2_stair 79 = .ok (.new 45, 3) := by decide +kernel
theorem dX2_stair_82 : decode cX2_stair 82 = .ok (.dup, 1) := by decide +kernel
theorem dX2_stair_83 : decode cX2_stair 83 = .ok (.ldc 106, 2) := by decide +kernel
theorem dX2_stair_85 : decode cX2_stair 85 = .ok (.invokespecial 49, 3) := by decide +kernel
theorem dX2_stair_88 : decode cX2_stair 88 = .ok (.athrow, 1) := by decide +kernel
theorem dX2_stair_89 : decode cX2_stair 89 = .ok (.aload_n 0, 1) := by decide +kernel
theorem dX2_stair_90 : decode cX2_stair 90 = .ok (.getfield 22, 3) := by decide +kernel
theorem dX2_stair_93 : decode cX2_stair 93 = .ok (.iload_n 1, 1) := by decide +kernel
theorem dX2_stair_94 : decode cX2_stair 94 = .ok (.iload_n 2, 1) := by decide +kernel
theorem dX2_stair_95 : decode cX2_stair 95 = .ok (.invokevirtual 108, 3) := by decide +kernel
theorem dX2_stair_98 : decode cX2_stair 98 = .ok (.ireturn, 1) := by decide +kernel
theorem dX2_swap_0 : decode cX2_swap 0 = .ok (.aload_n 0, 1) := by decide +kernel
theorem dX2_swap_1 : decode cX2_swap 1 = .ok (.getfield 22, 3) := by decide +kernel
theorem dX2_swap_4 : decode cX2_swap 4 = .ok (.iload_n 1, 1) := by decide +kernel
theorem dX2_swap_5 : decode cX2_swap 5 = .ok (.invokevirtual 112, 3) := by decide +kernel
theorem dX2_swap_8 : decode cX2_swap 8 = .ok (.ifCond .eq 14, 3) := by decide +kernel
theorem dX2_swap_11 : decode cX2_swap 11 = .ok (.aload_n 0, 1) := by decide +kernel
theorem dX2_swap_12 : decode cX2_swap 12 = .ok (.getfield 22, 3) := by decide +kernel
theorem dX2_swap_15 : decode cX2_swap 15 = .ok (.iload_n 2, 1) := by decide +kernel
theorem dX2_swap_16 : decode cX2_swap 16 = .ok (.invokevirtual 112, 3) := by decide +kernel
theorem dX2_swap_19 : decode cX2_swap 19 = .ok (.ifCond .ne 13, 3) := by decide +kernel
theorem dX2_swap_22 : decode cX2_swap 22 = .ok (.new 63, 3) := by decide +kernel
theorem dX2_swap_25 : decode cX2_swap 25 = .ok (.dup, 1) := by decide +kernel
theorem dX2_swap_26 : decode cX2_swap 26 = .ok (.ldc 113, 2) := by decide +kernel
theorem dX2_swap_28 : decode cX2_swap 28 = .ok (.invokespecial 67, 3) := by decide +kernel
theorem dX2_swap_31 : decode cX2_swap 31 = .ok (.athrow, 1) := by decide +kernel
theorem dX2_swap_32 : decode cX2_swap 32 = .ok (.iload_n 1, 1) := by decide +kernel
theorem dX2_swap_33 : decode cX2_swap 33 = .ok (.iload_n 2, 1) := by decide +kernel
theorem dX2_swap_34 : decode cX2_swap 34 = .ok (.if_icmp .ne 13, 3) := by decide +kernel
theorem dX2_swap_37 : decode cX2_swap 37 = .ok (.new 34, 3) := by decide +kernel
theorem dX2_swap_40 : decode cX2_swap 40 = .ok (.dup, 1) := by decide +kernel
theorem dX2_swap_41 : decode cX2_swap 41 = .ok (.ldc 103, 2) := by decide +kernel
theorem dX2_swap_43 : decode cX2_swap 43 = .ok (.invokespecial 38, 3) := by decide +kernel
theorem dX2_swap_46 : decode cX2_swap 46 = .ok (.athrow, 1) := by decide +kernel
theorem dX2_swap_47 : decode cX2_swap 47 = .ok (.aload_n 0, 1) := by decide +kernel
theorem dX2_swap_48 : decode cX2_swap 48 = .ok (.getfield 22, 3) := by decide +kernel
theorem dX2_swap_51 : decode cX2_swap 51 = .ok (.iload_n 1, 1) := by decide +kernel
theorem dX2_swap_52 : decode cX2_swap 52 = .ok (.aload_n 0, 1) := by decide +kernel
theorem dX2_swap_53 : decode cX2_swap 53 = .ok (.getfield 10, 3) := by decide +kernel
theorem dX2_swap_56 : decode cX2_swap 56 = .ok (.invokevirtual 115, 3) := by decide +kernel
theorem dX2_swap_59 : decode cX2_swap 59 = .ok (.ifCond .ne 18, 3) := by decide +kernel
theorem dX2_swap_62 : decode cX2_swap 62 = .ok (.aload_n 0, 1) := by decide +kernel
theorem dX2_swap_63 : decode cX2_swap 63 = .ok (.getfield 22, 3) := by decide +kernel
theorem dX2_swap_66 : decode cX2_swap 66 = .ok (.iload_n 2, 1) := by decide +kernel
theorem dX2_swap_67 : decode cX2_swap 67 = .ok (.aload_n 0, 1) := by decide +kernel
theorem dX2_swap_68 : decode cX2_swap 68 = .ok (.getfield 10, 3) := by decide +kernel
theorem dX2_swap_71 : decode cX2_swap 71 = .ok (.invokevirtual 115, 3) := by decide +kernel
theorem dX2_swap_74 : decode cX2_swap 74 = .ok (.ifCond .eq 13, 3) := by decide +kernel
theorem dX2_swap_77 : decode cX2_swap 77 = .ok (.new 45, 3) := by decide +kernel
theorem dX2_swap_80 : decode cX2_swap 80 = .ok (.dup, 1) := by decide +kernel
theorem dX2_swap_81 : decode cX2_swap 81 = .ok (.ldc 119, 2) := by decide +kernel
theorem dX2_swap_83 : decode cX2_swap 83 = .ok (.invokespecial 49, 3) := by decide +kernel
theorem dX2_swap_86 : decode cX2_swap 86 = .ok (.athrow, 1) := by decide +kernel
theorem dX2_swap_87 : decode cX2_swap 87 = .ok (.aload_n 0, 1) := by decide +kernel
theorem dX2_swap_88 : decode cX2_swap 88 = .ok (.getfield 22, 3) := by decide +kernel
theorem dX2_swap_91 : decode cX2_swap 91 = .ok (.iload_n 1, 1) := by decide +kernel
theorem dX2_swap_92 : decode cX2_swap 92 = .ok (.iload_n 2, 1) := by decide +kernel
theorem dX2_swap_93 : decode cX2_swap 93 = .ok (.invokevirtual 121, 3) := by decide +kernel
theorem dX2_swap_96 : decode cX2_swap 96 = .ok (.ireturn, 1) := by decide +kernel
theorem dX2_joins_0 : decode cX2_joins 0 = .ok (.aload_n 0, 1) := by decide +kernel
theorem dX2_joins_1 : decode cX2_joins 1 = .ok (.getfield 22, 3) := by decide +kernel
theorem dX2_joins_4 : decode cX2_joins 4 = .ok (.iload_n 1, 1) := by decide +kernel
theorem dX2_joins_5 : decode cX2_joins 5 = .ok (.invokevirtual 112, 3) := by decide +kernel
theorem dX2_joins_8 : decode cX2_joins 8 = .ok (.ifCond .eq 12, 3) := by decide +kernel
theorem dX2_joins_11 : decode cX2_joins 11 = .ok (.iload_n 2, 1) := by decide +kernel
theorem dX2_joins_12 : decode cX2_joins 12 = .ok (.iconst 0, 1) := by decide +kernel
theorem dX2_joins_13 : decode cX2_joins 13 = .ok (.iconst 2, 1) := by decide +kernel
theorem dX2_joins_14 : decode cX2_joins 14 = .ok (.invokestatic 30, 3) := by decide +kernel
theorem dX2_joins_17 : decode cX2_joins 17 = .ok (.ifCond .ne 13, 3) := by decide +kernel
theorem dX2_joins_20 : decode cX2_joins 20 = .ok (.new 63, 3) := by decide +kernel
theorem dX2_joins_23 : decode cX2_joins 23 = .ok (.dup, 1) := by decide +kernel
theorem dX2_joins_24 : decode cX2_joins 24 = .ok (.ldc 124, 2) := by decide +kernel
theorem dX2_joins_26 : decode cX2_joins 26 = .ok (.invokespecial 67, 3) := by decide +kernel
theorem dX2_joins_29 : decode cX2_joins 29 = .ok (.athrow, 1) := by decide +kernel
theorem dX2_joins_30 : decode cX2_joins 30 = .ok (.aload_n 0, 1) := by decide +kernel
theorem dX2_joins_31 : decode cX2_joins 31 = .ok (.getfield 22, 3) := by decide +kernel
theorem dX2_joins_34 : decode cX2_joins 34 = .ok (.iload_n 1, 1) := by decide +kernel
theorem dX2_joins_35 : decode cX2_joins 35 = .ok (.iload_n 2, 1) := by decide +kernel
theorem dX2_joins_36 : decode cX2_joins 36 = .ok (.aload_n 0, 1) := by decide +kernel
theorem dX2_joins_37 : decode cX2_joins 37 = .ok (.getfield 10, 3) := by decide +kernel
theorem dX2_joins_40 : decode cX2_joins 40 = .ok (.invokevirtual 126, 3) := by decide +kernel
theorem dX2_joins_43 : decode cX2_joins 43 = .ok (.ireturn, 1) := by decide +kernel
theorem dX2_steps_0 : decode cX2_steps 0 = .ok (.aload_n 0, 1) := by decide +kernel
theorem dX2_steps_1 : decode cX2_steps 1 = .ok (.getfield 10, 3) := by decide +kernel
theorem dX2_steps_4 : decode cX2_steps 4 = .ok (.iload_n 1, 1) := by decide +kernel
theorem dX2_steps_5 : decode cX2_steps 5 = .ok (.invokevirtual 59, 3) := by decide +kernel
theorem dX2_steps_8 : decode cX2_steps 8 = .ok (.ifCond .eq 14, 3) := by decide +kernel
theorem dX2_steps_11 : decode cX2_steps 11 = .ok (.aload_n 0, 1) := by decide +kernel
theorem dX2_steps_12 : decode cX2_steps 12 = .ok (.getfield 10, 3) := by decide +kernel
theorem dX2_steps_15 : decode cX2_steps 15 = .ok (.iload_n 2, 1) := by decide +kernel
theorem dX2_steps_16 : decode cX2_steps 16 = .ok (.invokevirtual 59, 3) := by decide +kernel
theorem dX2_steps_19 : decode cX2_steps 19 = .ok (.ifCond .ne 13, 3) := by decide +kernel
theorem dX2_steps_22 : decode cX2_steps 22 = .ok (.new 63, 3) := by decide +kernel
theorem dX2_steps_25 : decode cX2_steps 25 = .ok (.dup, 1) := by decide +kernel
theorem dX2_steps_26 : decode cX2_steps 26 = .ok (.ldc 65, 2) := by decide +kernel
theorem dX2_steps_28 : decode cX2_steps 28 = .ok (.invokespecial 67, 3) := by decide +kernel
theorem dX2_steps_31 : decode cX2_steps 31 = .ok (.athrow, 1) := by decide +kernel
theorem dX2_steps_32 : decode cX2_steps 32 = .ok (.aload_n 0, 1) := by decide +kernel
theorem dX2_steps_33 : decode cX2_steps 33 = .ok (.getfield 10, 3) := by decide +kernel
theorem dX2_steps_36 : decode cX2_steps 36 = .ok (.iload_n 1, 1) := by decide +kernel
theorem dX2_steps_37 : decode cX2_steps 37 = .ok (.invokevirtual 68, 3) := by decide +kernel
theorem dX2_steps_40 : decode cX2_steps 40 = .ok (.ifCond .eq 14, 3) := by decide +kernel
theorem dX2_steps_43 : decode cX2_steps 43 = .ok (.aload_n 0, 1) := by decide +kernel
theorem dX2_steps_44 : decode cX2_steps 44 = .ok (.getfield 10, 3) := by decide +kernel
theorem dX2_steps_47 : decode cX2_steps 47 = .ok (.iload_n 2, 1) := by decide +kernel
theorem dX2_steps_48 : decode cX2_steps 48 = .ok (.invokevirtual 68, 3) := by decide +kernel
theorem dX2_steps_51 : decode cX2_steps 51 = .ok (.ifCond .ne 5, 3) := by decide +kernel
theorem dX2_steps_54 : decode cX2_steps 54 = .ok (.iconst (-1), 1) := by decide +kernel
theorem dX2_steps_55 : decode cX2_steps 55 = .ok (.ireturn, 1) := by decide +kernel
theorem dX2_steps_56 : decode cX2_steps 56 = .ok (.aload_n 0, 1) := by decide +kernel
theorem dX2_steps_57 : decode cX2_steps 57 = .ok (.getfield 22, 3) := by decide +kernel
theorem dX2_steps_60 : decode cX2_steps 60 = .ok (.iload_n 1, 1) := by decide +kernel
theorem dX2_steps_61 : decode cX2_steps 61 = .ok (.iload_n 2, 1) := by decide +kernel
theorem dX2_steps_62 : decode cX2_steps 62 = .ok (.aload_n 0, 1) := by decide +kernel
theorem dX2_steps_63 : decode cX2_steps 63 = .ok (.getfield 10, 3) := by decide +kernel
theorem dX2_steps_66 : decode cX2_steps 66 = .ok (.invokevirtual 130, 3) := by decide +kernel
theorem dX2_steps_69 : decode cX2_steps 69 = .ok (.ireturn, 1) := by decide +kernel
theorem dX2_stone_0 : decode cX2_stone 0 = .ok (.aload_n 0, 1) := by decide +kernel
theorem dX2_stone_1 : decode cX2_stone 1 = .ok (.getfield 10, 3) := by decide +kernel
theorem dX2_stone_4 : decode cX2_stone 4 = .ok (.iload_n 1, 1) := by decide +kernel
theorem dX2_stone_5 : decode cX2_stone 5 = .ok (.invokevirtual 59, 3) := by decide +kernel
theorem dX2_stone_8 : decode cX2_stone 8 = .ok (.ifCond .eq 13, 3) := by decide +kernel
theorem dX2_stone_11 : decode cX2_stone 11 = .ok (.iload_n 2, 1) := by decide +kernel
theorem dX2_stone_12 : decode cX2_stone 12 = .ok (.iconst 0, 1) := by decide +kernel
theorem dX2_stone_13 : decode cX2_stone 13 = .ok (.bipush 9, 2) := by decide +kernel
theorem dX2_stone_15 : decode cX2_stone 15 = .ok (.invokestatic 30, 3) := by decide +kernel
theorem dX2_stone_18 : decode cX2_stone 18 = .ok (.ifCond .ne 13, 3) := by decide +kernel
theorem dX2_stone_21 : decode cX2_stone 21 = .ok (.new 63, 3) := by decide +kernel
theorem dX2_stone_24 : decode cX2_stone 24 = .ok (.dup, 1) := by decide +kernel
theorem dX2_stone_25 : decode cX2_stone 25 = .ok (.ldc 133, 2) := by decide +kernel
theorem dX2_stone_27 : decode cX2_stone 27 = .ok (.invokespecial 67, 3) := by decide +kernel
theorem dX2_stone_30 : decode cX2_stone 30 = .ok (.athrow, 1) := by decide +kernel
theorem dX2_stone_31 : decode cX2_stone 31 = .ok (.aload_n 0, 1) := by decide +kernel
theorem dX2_stone_32 : decode cX2_stone 32 = .ok (.getfield 10, 3) := by decide +kernel
theorem dX2_stone_35 : decode cX2_stone 35 = .ok (.iload_n 1, 1) := by decide +kernel
theorem dX2_stone_36 : decode cX2_stone 36 = .ok (.iload_n 2, 1) := by decide +kernel
theorem dX2_stone_37 : decode cX2_stone 37 = .ok (.invokevirtual 135, 3) := by decide +kernel
theorem dX2_stone_40 : decode cX2_stone 40 = .ok (.ireturn, 1) := by decide +kernel
theorem dX2_first_0 : decode cX2_first 0 = .ok (.aload_n 0, 1) := by decide +kernel
theorem dX2_first_1 : decode cX2_first 1 = .ok (.getfield 10, 3) := by decide +kernel
theorem dX2_first_4 : decode cX2_first 4 = .ok (.iload_n 1, 1) := by decide +kernel
theorem dX2_first_5 : decode cX2_first 5 = .ok (.invokevirtual 59, 3) := by decide +kernel
theorem dX2_first_8 : decode cX2_first 8 = .ok (.ifCond .ne 13, 3) := by decide +kernel
theorem dX2_first_11 : decode cX2_first 11 = .ok (.new 63, 3) := by decide +kernel
theorem dX2_first_14 : decode cX2_first 14 = .ok (.dup, 1) := by decide +kernel
theorem dX2_first_15 : decode cX2_first 15 = .ok (.ldc 65, 2) := by decide +kernel
theorem dX2_first_17 : decode cX2_first 17 = .ok (.invokespecial 67, 3) := by decide +kernel
theorem dX2_first_20 : decode cX2_first 20 = .ok (.athrow, 1) := by decide +kernel
theorem dX2_first_21 : decode cX2_first 21 = .ok (.aload_n 0, 1) := by decide +kernel
theorem dX2_first_22 : decode cX2_first 22 = .ok (.getfield 10, 3) := by decide +kernel
theorem dX2_first_25 : decode cX2_first 25 = .ok (.iload_n 1, 1) := by decide +kernel
theorem dX2_first_26 : decode cX2_first 26 = .ok (.invokevirtual 137, 3) := by decide +kernel
theorem dX2_first_29 : decode cX2_first 29 = .ok (.ireturn, 1) := by decide +kernel
theorem dX2_count_0 : decode cX2_count 0 = .ok (.iload_n 1, 1) := by decide +kernel
theorem dX2_count_1 : decode cX2_count 1 = .ok (.iconst 0, 1) := by decide +kernel
theorem dX2_count_2 : decode cX2_count 2 = .ok (.bipush 7, 2) := by decide +kernel
theorem dX2_count_4 : decode cX2_count 4 = .ok (.invokestatic 30, 3) := by decide +kernel
theorem dX2_count_7 : decode cX2_count 7 = .ok (.ifCond .ne 13, 3) := by decide +kernel
theorem dX2_count_10 : decode cX2_count 10 = .ok (.new 63, 3) := by decide +kernel
theorem dX2_count_13 : decode cX2_count 13 = .ok (.dup, 1) := by decide +kernel
theorem dX2_count_14 : decode cX2_count 14 = .ok (.ldc 141, 2) := by decide +kernel
theorem dX2_count_16 : decode cX2_count 16 = .ok (.invokespecial 67, 3) := by decide +kernel
theorem dX2_count_19 : decode cX2_count 19 = .ok (.athrow, 1) := by decide +kernel
theorem dX2_count_20 : decode cX2_count 20 = .ok (.aload_n 0, 1) := by decide +kernel
theorem dX2_count_21 : decode cX2_count 21 = .ok (.iload_n 1, 1) := by decide +kernel
theorem dX2_count_22 : decode cX2_count 22 = .ok (.invokevirtual 143, 3) := by decide +kernel
theorem dX2_count_25 : decode cX2_count 25 = .ok (.ireturn, 1) := by decide +kernel
theorem dX2_pass_0 : decode cX2_pass 0 = .ok (.iload_n 1, 1) := by decide +kernel
theorem dX2_pass_1 : decode cX2_pass 1 = .ok (.iconst 1, 1) := by decide +kernel
theorem dX2_pass_2 : decode cX2_pass 2 = .ok (.bipush 120, 2) := by decide +kernel
theorem dX2_pass_4 : decode cX2_pass 4 = .ok (.invokestatic 30, 3) := by decide +kernel
theorem dX2_pass_7 : decode cX2_pass 7 = .ok (.ifCond .ne 13, 3) := by decide +kernel
theorem dX2_pass_10 : decode cX2_pass 10 = .ok (.new 34, 3) := by decide +kernel
theorem dX2_pass_13 : decode cX2_pass 13 = .ok (.dup, 1) := by decide +kernel
theorem dX2_pass_14 : decode cX2_pass 14 = .ok (.ldc 146, 2) := by decide +kernel
theorem dX2_pass_16 : decode cX2_pass 16 = .ok (.invokespecial 38, 3) := by decide +kernel
theorem dX2_pass_19 : decode cX2_pass 19 = .ok (.athrow, 1) := by decide +kernel
theorem dX2_pass_20 : decode cX2_pass 20 = .ok (.aload_n 0, 1) := by decide +kernel
theorem dX2_pass_21 : decode cX2_pass 21 = .ok (.getfield 10, 3) := by decide +kernel
theorem dX2_pass_24 : decode cX2_pass 24 = .ok (.getfield 81, 3) := by decide +kernel
theorem dX2_pass_27 : decode cX2_pass 27 = .ok (.istore_n 2, 1) := by decide +kernel
theorem dX2_pass_28 : decode cX2_pass 28 = .ok (.aload_n 0, 1) := by decide +kernel
theorem dX2_pass_29 : decode cX2_pass 29 = .ok (.getfield 10, 3) := by decide +kernel
theorem dX2_pass_32 : decode cX2_pass 32 = .ok (.iload_n 1, 1) := by decide +kernel
theorem dX2_pass_33 : decode cX2_pass 33 = .ok (.invokevirtual 148, 3) := by decide +kernel
theorem dX2_pass_36 : decode cX2_pass 36 = .ok (.iload_n 2, 1) := by decide +kernel
theorem dX2_pass_37 : decode cX2_pass 37 = .ok (.aload_n 0, 1) := by decide +kernel
theorem dX2_pass_38 : decode cX2_pass 38 = .ok (.getfield 10, 3) := by decide +kernel
theorem dX2_pass_41 : decode cX2_pass 41 = .ok (.getfield 81, 3) := by decide +kernel
theorem dX2_pass_44 : decode cX2_pass 44 = .ok (.isub, 1) := by decide +kernel
theorem dX2_pass_45 : decode cX2_pass 45 = .ok (.ireturn, 1) := by decide +kernel
theorem dX2_without_0 : decode cX2_without 0 = .ok (.aload_n 0, 1) := by decide +kernel
theorem dX2_without_1 : decode cX2_without 1 = .ok (.getfield 10, 3) := by decide +kernel
theorem dX2_without_4 : decode cX2_without 4 = .ok (.iload_n 1, 1) := by decide +kernel
theorem dX2_without_5 : decode cX2_without 5 = .ok (.invokevirtual 59, 3) := by decide +kernel
theorem dX2_without_8 : decode cX2_without 8 = .ok (.ifCond .ne 13, 3) := by decide +kernel
theorem dX2_without_11 : decode cX2_without 11 = .ok (.new 63, 3) := by decide +kernel
theorem dX2_without_14 : decode cX2_without 14 = .ok (.dup, 1) := by decide +kernel
theorem dX2_without_15 : decode cX2_without 15 = .ok (.ldc 65, 2) := by decide +kernel
theorem dX2_without_17 : decode cX2_without 17 = .ok (.invokespecial 67, 3) := by decide +kernel
theorem dX2_without_20 : decode cX2_without 20 = .ok (.athrow, 1) := by decide +kernel
theorem dX2_without_21 : decode cX2_without 21 = .ok (.aload_n 0, 1) := by decide +kernel
theorem dX2_without_22 : decode cX2_without 22 = .ok (.getfield 10, 3) := by decide +kernel
theorem dX2_without_25 : decode cX2_without 25 = .ok (.iload_n 1, 1) := by decide +kernel
theorem dX2_without_26 : decode cX2_without 26 = .ok (.invokevirtual 68, 3) := by decide +kernel
theorem dX2_without_29 : decode cX2_without 29 = .ok (.ifCond .ne 5, 3) := by decide +kernel
theorem dX2_without_32 : decode cX2_without 32 = .ok (.iconst 0, 1) := by decide +kernel
theorem dX2_without_33 : decode cX2_without 33 = .ok (.ireturn, 1) := by decide +kernel
theorem dX2_without_34 : decode cX2_without 34 = .ok (.aload_n 0, 1) := by decide +kernel
theorem dX2_without_35 : decode cX2_without 35 = .ok (.getfield 16, 3) := by decide +kernel
theorem dX2_without_38 : decode cX2_without 38 = .ok (.aload_n 0, 1) := by decide +kernel
theorem dX2_without_39 : decode cX2_without 39 = .ok (.getfield 10, 3) := by decide +kernel
theorem dX2_without_42 : decode cX2_without 42 = .ok (.invokevirtual 152, 3) := by decide +kernel
theorem dX2_without_45 : decode cX2_without 45 = .ok (.aload_n 0, 1) := by decide +kernel
theorem dX2_without_46 : decode cX2_without 46 = .ok (.getfield 16, 3) := by decide +kernel
theorem dX2_without_49 : decode cX2_without 49 = .ok (.iload_n 1, 1) := by decide +kernel
theorem dX2_without_50 : decode cX2_without 50 = .ok (.invokevirtual 156, 3) := by decide +kernel
theorem dX2_without_53 : decode cX2_without 53 = .ok (.aload_n 0, 1) := by decide +kernel
theorem dX2_without_54 : decode cX2_without 54 = .ok (.getfield 10, 3) := by decide +kernel
theorem dX2_without_57 : decode cX2_without 57 = .ok (.getfield 81, 3) := by decide +kernel
theorem dX2_without_60 : decode cX2_without 60 = .ok (.aload_n 0, 1) := by decide +kernel
theorem dX2_without_61 : decode cX2_without 61 = .ok (.getfield 16, 3) := by decide +kernel
theorem dX2_without_64 : decode cX2_without 64 = .ok (.getfield 81, 3) := by decide +kernel
theorem dX2_without_67 : decode cX2_without 67 = .ok (.isub, 1) := by decide +kernel
theorem dX2_without_68 : decode cX2_without 68 = .ok (.ireturn, 1) := by decide +kernel
theorem dX2_lasts_0 : decode cX2_lasts 0 = .ok (.aload_n 0, 1) := by decide +kernel
theorem dX2_lasts_1 : decode cX2_lasts 1 = .ok (.getfield 10, 3) := by decide +kernel
theorem dX2_lasts_4 : decode cX2_lasts 4 = .ok (.iload_n 1, 1) := by decide +kernel
theorem dX2_lasts_5 : decode cX2_lasts 5 = .ok (.invokevirtual 59, 3) := by decide +kernel
theorem dX2_lasts_8 : decode cX2_lasts 8 = .ok (.ifCond .ne 13, 3) := by decide +kernel
theorem dX2_lasts_11 : decode cX2_lasts 11 = .ok (.new 63, 3) := by decide +kernel
theorem dX2_lasts_14 : decode cX2_lasts 14 = .ok (.dup, 1) := by decide +kernel
theorem dX2_lasts_15 : decode cX2_lasts 15 = .ok (.ldc 65, 2) := by decide +kernel
theorem dX2_lasts_17 : decode cX2_lasts 17 = .ok (.invokespecial 67, 3) := by decide +kernel
theorem dX2_lasts_20 : decode cX2_lasts 20 = .ok (.athrow, 1) := by decide +kernel
theorem dX2_lasts_21 : decode cX2_lasts 21 = .ok (.aload_n 0, 1) := by decide +kernel
theorem dX2_lasts_22 : decode cX2_lasts 22 = .ok (.getfield 16, 3) := by decide +kernel
theorem dX2_lasts_25 : decode cX2_lasts 25 = .ok (.aload_n 0, 1) := by decide +kernel
theorem dX2_lasts_26 : decode cX2_lasts 26 = .ok (.getfield 10, 3) := by decide +kernel
theorem dX2_lasts_29 : decode cX2_lasts 29 = .ok (.invokevirtual 152, 3) := by decide +kernel
theorem dX2_lasts_32 : decode cX2_lasts 32 = .ok (.iconst 0, 1) := by decide +kernel
theorem dX2_lasts_33 : decode cX2_lasts 33 = .ok (.istore_n 2, 1) := by decide +kernel
theorem dX2_lasts_34 : decode cX2_lasts 34 = .ok (.iload_n 2, 1) := by decide +kernel
theorem dX2_lasts_35 : decode cX2_lasts 35 = .ok (.bipush 120, 2) := by decide +kernel
theorem dX2_lasts_37 : decode cX2_lasts 37 = .ok (.if_icmp .gt 29, 3) := by decide +kernel
theorem dX2_lasts_40 : decode cX2_lasts 40 = .ok (.aload_n 0, 1) := by decide +kernel
theorem dX2_lasts_41 : decode cX2_lasts 41 = .ok (.getfield 16, 3) := by decide +kernel
theorem dX2_lasts_44 : decode cX2_lasts 44 = .ok (.iload_n 1, 1) := by decide +kernel
theorem dX2_lasts_45 : decode cX2_lasts 45 = .ok (.invokevirtual 68, 3) := by decide +kernel
theorem dX2_lasts_48 : decode cX2_lasts 48 = .ok (.ifCond .ne 5, 3) := by decide +kernel
theorem dX2_lasts_51 : decode cX2_lasts 51 = .ok (.iload_n 2, 1) := by decide +kernel
theorem dX2_lasts_52 : decode cX2_lasts 52 = .ok (.ireturn, 1) := by decide +kernel
theorem dX2_lasts_53 : decode cX2_lasts 53 = .ok (.aload_n 0, 1) := by decide +kernel
theorem dX2_lasts_54 : decode cX2_lasts 54 = .ok (.getfield 16, 3) := by decide +kernel
theorem dX2_lasts_57 : decode cX2_lasts 57 = .ok (.invokevirtual 159, 3) := by decide +kernel
theorem dX2_lasts_60 : decode cX2_lasts 60 = .ok (.iinc 2 1, 3) := by decide +kernel
theorem dX2_lasts_63 : decode cX2_lasts 63 = .ok (.goto (-29), 3) := by decide +kernel
theorem dX2_lasts_66 : decode cX2_lasts 66 = .ok (.iconst (-1), 1) := by decide +kernel
theorem dX2_lasts_67 : decode cX2_lasts 67 = .ok (.ireturn, 1) := by decide +kernel
theorem dX2_foresee_0 : decode cX2_foresee 0 = .ok (.iload_n 1, 1) := by decide +kernel
theorem dX2_foresee_1 : decode cX2_foresee 1 = .ok (.iconst 1, 1) := by decide +kernel
theorem dX2_foresee_2 : decode cX2_foresee 2 = .ok (.bipush 120, 2) := by decide +kernel
theorem dX2_foresee_4 : decode cX2_foresee 4 = .ok (.invokestatic 30, 3) := by decide +kernel
theorem dX2_foresee_7 : decode cX2_foresee 7 = .ok (.ifCond .ne 13, 3) := by decide +kernel
theorem dX2_foresee_10 : decode cX2_foresee 10 = .ok (.new 34, 3) := by decide +kernel
theorem dX2_foresee_13 : decode cX2_foresee 13 = .ok (.dup, 1) := by decide +kernel
theorem dX2_foresee_14 : decode cX2_foresee 14 = .ok (.ldc 146, 2) := by decide +kernel
theorem dX2_foresee_16 : decode cX2_foresee 16 = .ok (.invokespecial 38, 3) := by decide +kernel
theorem dX2_foresee_19 : decode cX2_foresee 19 = .ok (.athrow, 1) := by decide +kernel
theorem dX2_foresee_20 : decode cX2_foresee 20 = .ok (.iload_n 2, 1) := by decide +kernel
theorem dX2_foresee_21 : decode cX2_foresee 21 = .ok (.iconst 0, 1) := by decide +kernel
theorem dX2_foresee_22 : decode cX2_foresee 22 = .ok (.iconst 2, 1) := by decide +kernel
theorem dX2_foresee_23 : decode cX2_foresee 23 = .ok (.invokestatic 30, 3) := by decide +kernel
theorem dX2_foresee_26 : decode cX2_foresee 26 = .ok (.ifCond .ne 13, 3) := by decide +kernel
theorem dX2_foresee_29 : decode cX2_foresee 29 = .ok (.new 63, 3) := by decide +kernel
theorem dX2_foresee_32 : decode cX2_foresee 32 = .ok (.dup, 1) := by decide +kernel
theorem dX2_foresee_33 : decode cX2_foresee 33 = .ok (.ldc 141, 2) := by decide +kernel
theorem dX2_foresee_35 : decode cX2_foresee 35 = .ok (.invokespecial 67, 3) := by decide +kernel
theorem dX2_foresee_38 : decode cX2_foresee 38 = .ok (.athrow, 1) := by decide +kernel
theorem dX2_foresee_39 : decode cX2_foresee 39 = .ok (.aload_n 0, 1) := by decide +kernel
theorem dX2_foresee_40 : decode cX2_foresee 40 = .ok (.getfield 16, 3) := by decide +kernel
theorem dX2_foresee_43 : decode cX2_foresee 43 = .ok (.aload_n 0, 1) := by decide +kernel
theorem dX2_foresee_44 : decode cX2_foresee 44 = .ok (.getfield 10, 3) := by decide +kernel
theorem dX2_foresee_47 : decode cX2_foresee 47 = .ok (.invokevirtual 152, 3) := by decide +kernel
theorem dX2_foresee_50 : decode cX2_foresee 50 = .ok (.aload_n 0, 1) := by decide +kernel
theorem dX2_foresee_51 : decode cX2_foresee 51 = .ok (.getfield 16, 3) := by decide +kernel
theorem dX2_foresee_54 : decode cX2_foresee 54 = .ok (.iload_n 1, 1) := by decide +kernel
theorem dX2_foresee_55 : decode cX2_foresee 55 = .ok (.invokevirtual 148, 3) := by decide +kernel
theorem dX2_foresee_58 : decode cX2_foresee 58 = .ok (.iload_n 2, 1) := by decide +kernel
theorem dX2_foresee_59 : decode cX2_foresee 59 = .ok (.lookupswitch 45 #[(0, 25), (1, 33)], 25) := by decide +kernel
theorem dX2_foresee_84 : decode cX2_foresee 84 = .ok (.aload_n 0, 1) := by decide +kernel
theorem dX2_foresee_85 : decode cX2_foresee 85 = .ok (.getfield 16, 3) := by decide +kernel
theorem dX2_foresee_88 : decode cX2_foresee 88 = .ok (.getfield 81, 3) := by decide +kernel
theorem dX2_foresee_91 : decode cX2_foresee 91 = .ok (.ireturn, 1) := by decide +kernel
theorem dX2_foresee_92 : decode cX2_foresee 92 = .ok (.aload_n 0, 1) := by decide +kernel
theorem dX2_foresee_93 : decode cX2_foresee 93 = .ok (.getfield 22, 3) := by decide +kernel
theorem dX2_foresee_96 : decode cX2_foresee 96 = .ok (.aload_n 0, 1) := by decide +kernel
theorem dX2_foresee_97 : decode cX2_foresee 97 = .ok (.getfield 16, 3) := by decide +kernel
theorem dX2_foresee_100 : decode cX2_foresee 100 = .ok (.invokevirtual 162, 3) := by decide +kernel
theorem dX2_foresee_103 : decode cX2_foresee 103 = .ok (.ireturn, 1) := by decide +kernel
theorem dX2_foresee_104 : decode cX2_foresee 104 = .ok (.aload_n 0, 1) := by decide +kernel
theorem dX2_foresee_105 : decode cX2_foresee 105 = .ok (.getfield 16, 3) := by decide +kernel
theorem dX2_foresee_108 : decode cX2_foresee 108 = .ok (.invokevirtual 166, 3) := by decide +kernel
theorem dX2_foresee_111 : decode cX2_foresee 111 = .ok (.ireturn, 1) := by decide +kernel
theorem dX2_advise_0 : decode cX2_advise 0 = .ok (.iload_n 1, 1) := by decide +kernel
theorem dX2_advise_1 : decode cX2_advise 1 = .ok (.iconst 1, 1) := by decide +kernel
theorem dX2_advise_2 : decode cX2_advise 2 = .ok (.bipush 60, 2) := by decide +kernel
theorem dX2_advise_4 : decode cX2_advise 4 = .ok (.invokestatic 30, 3) := by decide +kernel
theorem dX2_advise_7 : decode cX2_advise 7 = .ok (.ifCond .eq 13, 3) := by decide +kernel
theorem dX2_advise_10 : decode cX2_advise 10 = .ok (.iload_n 2, 1) := by decide +kernel
theorem dX2_advise_11 : decode cX2_advise 11 = .ok (.iconst 1, 1) := by decide +kernel
theorem dX2_advise_12 : decode cX2_advise 12 = .ok (.bipush 60, 2) := by decide +kernel
theorem dX2_advise_14 : decode cX2_advise 14 = .ok (.invokestatic 30, 3) := by decide +kernel
theorem dX2_advise_17 : decode cX2_advise 17 = .ok (.ifCond .ne 13, 3) := by decide +kernel
theorem dX2_advise_20 : decode cX2_advise 20 = .ok (.new 34, 3) := by decide +kernel
theorem dX2_advise_23 : decode cX2_advise 23 = .ok (.dup, 1) := by decide +kernel
theorem dX2_advise_24 : decode cX2_advise 24 = .ok (.ldc 170, 2) := by decide +kernel
theorem dX2_advise_26 : decode cX2_advise 26 = .ok (.invokespecial 38, 3) := by decide +kernel
theorem dX2_advise_29 : decode cX2_advise 29 = .ok (.athrow, 1) := by decide +kernel
theorem dX2_advise_30 : decode cX2_advise 30 = .ok (.aload_n 0, 1) := by decide +kernel
theorem dX2_advise_31 : decode cX2_advise 31 = .ok (.getfield 16, 3) := by decide +kernel
theorem dX2_advise_34 : decode cX2_advise 34 = .ok (.aload_n 0, 1) := by decide +kernel
theorem dX2_advise_35 : decode cX2_advise 35 = .ok (.getfield 10, 3) := by decide +kernel
theorem dX2_advise_38 : decode cX2_advise 38 = .ok (.invokevirtual 152, 3) := by decide +kernel
theorem dX2_advise_41 : decode cX2_advise 41 = .ok (.aload_n 0, 1) := by decide +kernel
theorem dX2_advise_42 : decode cX2_advise 42 = .ok (.getfield 16, 3) := by decide +kernel
theorem dX2_advise_45 : decode cX2_advise 45 = .ok (.iload_n 2, 1) := by decide +kernel
theorem dX2_advise_46 : decode cX2_advise 46 = .ok (.invokevirtual 148, 3) := by decide +kernel
theorem dX2_advise_49 : decode cX2_advise 49 = .ok (.aload_n 0, 1) := by decide +kernel
theorem dX2_advise_50 : decode cX2_advise 50 = .ok (.getfield 16, 3) := by decide +kernel
theorem dX2_advise_53 : decode cX2_advise 53 = .ok (.getfield 81, 3) := by decide +kernel
theorem dX2_advise_56 : decode cX2_advise 56 = .ok (.istore_n 3, 1) := by decide +kernel
theorem dX2_advise_57 : decode cX2_advise 57 = .ok (.iconst (-1), 1) := by decide +kernel
theorem dX2_advise_58 : decode cX2_advise 58 = .ok (.istore 4, 2) := by decide +kernel
theorem dX2_advise_60 : decode cX2_advise 60 = .ok (.iconst 0, 1) := by decide +kernel
theorem dX2_advise_61 : decode cX2_advise 61 = .ok (.istore 5, 2) := by decide +kernel
theorem dX2_advise_63 : decode cX2_advise 63 = .ok (.iload 5, 2) := by decide +kernel
theorem dX2_advise_65 : decode cX2_advise 65 = .ok (.aload_n 0, 1) := by decide +kernel
theorem dX2_advise_66 : decode cX2_advise 66 = .ok (.getfield 10, 3) := by decide +kernel
theorem dX2_advise_69 : decode cX2_advise 69 = .ok (.getfield 172, 3) := by decide +kernel
theorem dX2_advise_72 : decode cX2_advise 72 = .ok (.if_icmp .ge 59, 3) := by decide +kernel
theorem dX2_advise_75 : decode cX2_advise 75 = .ok (.aload_n 0, 1) := by decide +kernel
theorem dX2_advise_76 : decode cX2_advise 76 = .ok (.getfield 10, 3) := by decide +kernel
theorem dX2_advise_79 : decode cX2_advise 79 = .ok (.iload 5, 2) := by decide +kernel
theorem dX2_advise_81 : decode cX2_advise 81 = .ok (.invokevirtual 68, 3) := by decide +kernel
theorem dX2_advise_84 : decode cX2_advise 84 = .ok (.ifCond .eq 41, 3) := by decide +kernel
theorem dX2_advise_87 : decode cX2_advise 87 = .ok (.aload_n 0, 1) := by decide +kernel
theorem dX2_advise_88 : decode cX2_advise 88 = .ok (.getfield 10, 3) := by decide +kernel
theorem dX2_advise_91 : decode cX2_advise 91 = .ok (.getfield 175, 3) := by decide +kernel
theorem dX2_advise_94 : decode cX2_advise 94 = .ok (.iload 5, 2) := by decide +kernel
theorem dX2_advise_96 : decode cX2_advise 96 = .ok (.iaload, 1) := by decide +kernel
theorem dX2_advise_97 : decode cX2_advise 97 = .ok (.bipush 60, 2) := by decide +kernel
theorem dX2_advise_99 : decode cX2_advise 99 = .ok (.if_icmp .ge 26, 3) := by decide +kernel
theorem dX2_advise_102 : decode cX2_advise 102 = .ok (.aload_n 0, 1) := by decide +kernel
theorem dX2_advise_103 : decode cX2_advise 103 = .ok (.iload 5, 2) := by decide +kernel
theorem dX2_advise_105 : decode cX2_advise 105 = .ok (.iload_n 1, 1) := by decide +kernel
theorem dX2_advise_106 : decode cX2_advise 106 = .ok (.iload_n 2, 1) := by decide +kernel
theorem dX2_advise_107 : decode cX2_advise 107 = .ok (.invokevirtual 178, 3) := by decide +kernel
theorem dX2_advise_110 : decode cX2_advise 110 = .ok (.istore 6, 2) := by decide +kernel
theorem dX2_advise_112 : decode cX2_advise 112 = .ok (.iload 6, 2) := by decide +kernel
theorem dX2_advise_114 : decode cX2_advise 114 = .ok (.iload_n 3, 1) := by decide +kernel
theorem dX2_advise_115 : decode cX2_advise 115 = .ok (.if_icmp .le 10, 3) := by decide +kernel
theorem dX2_advise_118 : decode cX2_advise 118 = .ok (.iload 6, 2) := by decide +kernel
theorem dX2_advise_120 : decode cX2_advise 120 = .ok (.istore_n 3, 1) := by decide +kernel
theorem dX2_advise_121 : decode cX2_advise 121 = .ok (.iload 5, 2) := by decide +kernel
theorem dX2_advise_123 : decode cX2_advise 123 = .ok (.istore 4, 2) := by decide +kernel
theorem dX2_advise_125 : decode cX2_advise 125 = .ok (.iinc 5 1, 3) := by decide +kernel
theorem dX2_advise_128 : decode cX2_advise 128 = .ok (.goto (-65), 3) := by decide +kernel
theorem dX2_advise_131 : decode cX2_advise 131 = .ok (.iload 4, 2) := by decide +kernel
theorem dX2_advise_133 : decode cX2_advise 133 = .ok (.ireturn, 1) := by decide +kernel
theorem dX2_mean_0 : decode cX2_mean 0 = .ok (.aload_n 0, 1) := by decide +kernel
theorem dX2_mean_1 : decode cX2_mean 1 = .ok (.getfield 10, 3) := by decide +kernel
theorem dX2_mean_4 : decode cX2_mean 4 = .ok (.getfield 81, 3) := by decide +kernel
theorem dX2_mean_7 : decode cX2_mean 7 = .ok (.ifCond .gt 5, 3) := by decide +kernel
theorem dX2_mean_10 : decode cX2_mean 10 = .ok (.dconst 0, 1) := by decide +kernel
theorem dX2_mean_11 : decode cX2_mean 11 = .ok (.dreturn, 1) := by decide +kernel
theorem dX2_mean_12 : decode cX2_mean 12 = .ok (.aload_n 0, 1) := by decide +kernel
theorem dX2_mean_13 : decode cX2_mean 13 = .ok (.getfield 10, 3) := by decide +kernel
theorem dX2_mean_16 : decode cX2_mean 16 = .ok (.invokevirtual 181, 3) := by decide +kernel
theorem dX2_mean_19 : decode cX2_mean 19 = .ok (.i2d, 1) := by decide +kernel
theorem dX2_mean_20 : decode cX2_mean 20 = .ok (.aload_n 0, 1) := by decide +kernel
theorem dX2_mean_21 : decode cX2_mean 21 = .ok (.getfield 10, 3) := by decide +kernel
theorem dX2_mean_24 : decode cX2_mean 24 = .ok (.getfield 81, 3) := by decide +kernel
theorem dX2_mean_27 : decode cX2_mean 27 = .ok (.i2d, 1) := by decide +kernel
theorem dX2_mean_28 : decode cX2_mean 28 = .ok (.ddiv, 1) := by decide +kernel
theorem dX2_mean_29 : decode cX2_mean 29 = .ok (.dreturn, 1) := by decide +kernel
theorem dX2_digest_0 : decode cX2_digest 0 = .ok (.ldc2_w 184, 3) := by decide +kernel
theorem dX2_digest_3 : decode cX2_digest 3 = .ok (.lstore_n 1, 1) := by decide +kernel
theorem dX2_digest_4 : decode cX2_digest 4 = .ok (.iconst 0, 1) := by decide +kernel
theorem dX2_digest_5 : decode cX2_digest 5 = .ok (.istore_n 3, 1) := by decide +kernel
theorem dX2_digest_6 : decode cX2_digest 6 = .ok (.iload_n 3, 1) := by decide +kernel
theorem dX2_digest_7 : decode cX2_digest 7 = .ok (.bipush 8, 2) := by decide +kernel
theorem dX2_digest_9 : decode cX2_digest 9 = .ok (.if_icmp .ge 22, 3) := by decide +kernel
theorem dX2_digest_12 : decode cX2_digest 12 = .ok (.lload_n 1, 1) := by decide +kernel
theorem dX2_digest_13 : decode cX2_digest 13 = .ok (.ldc2_w 186, 3) := by decide +kernel
theorem dX2_digest_16 : decode cX2_digest 16 = .ok (.lmul, 1) := by decide +kernel
theorem dX2_digest_17 : decode cX2_digest 17 = .ok (.aload_n 0, 1) := by decide +kernel
theorem dX2_digest_18 : decode cX2_digest 18 = .ok (.iload_n 3, 1) := by decide +kernel
theorem dX2_digest_19 : decode cX2_digest 19 = .ok (.invokevirtual 143, 3) := by decide +kernel
theorem dX2_digest_22 : decode cX2_digest 22 = .ok (.i2l, 1) := by decide +kernel
theorem dX2_digest_23 : decode cX2_digest 23 = .ok (.ladd, 1) := by decide +kernel
theorem dX2_digest_24 : decode cX2_digest 24 = .ok (.lstore_n 1, 1) := by decide +kernel
theorem dX2_digest_25 : decode cX2_digest 25 = .ok (.iinc 3 1, 3) := by decide +kernel
theorem dX2_digest_28 : decode cX2_digest 28 = .ok (.goto (-22), 3) := by decide +kernel
theorem dX2_digest_31 : decode cX2_digest 31 = .ok (.iconst 0, 1) := by decide +kernel
theorem dX2_digest_32 : decode cX2_digest 32 = .ok (.istore_n 3, 1) := by decide +kernel
theorem dX2_digest_33 : decode cX2_digest 33 = .ok (.iload_n 3, 1) := by decide +kernel
theorem dX2_digest_34 : decode cX2_digest 34 = .ok (.aload_n 0, 1) := by decide +kernel
theorem dX2_digest_35 : decode cX2_digest 35 = .ok (.getfield 10, 3) := by decide +kernel
theorem dX2_digest_38 : decode cX2_digest 38 = .ok (.getfield 172, 3) := by decide +kernel
theorem dX2_digest_41 : decode cX2_digest 41 = .ok (.if_icmp .ge 43, 3) := by decide +kernel
theorem dX2_digest_44 : decode cX2_digest 44 = .ok (.iconst 0, 1) := by decide +kernel
theorem dX2_digest_45 : decode cX2_digest 45 = .ok (.istore 4, 2) := by decide +kernel
theorem dX2_digest_47 : decode cX2_digest 47 = .ok (.iload 4, 2) := by decide +kernel
theorem dX2_digest_49 : decode cX2_digest 49 = .ok (.bipush 10, 2) := by decide +kernel
theorem dX2_digest_51 : decode cX2_digest 51 = .ok (.if_icmp .ge 27, 3) := by decide +kernel
theorem dX2_digest_54 : decode cX2_digest 54 = .ok (.lload_n 1, 1) := by decide +kernel
theorem dX2_digest_55 : decode cX2_digest 55 = .ok (.ldc2_w 186, 3) := by decide +kernel
theorem dX2_digest_58 : decode cX2_digest 58 = .ok (.lmul, 1) := by decide +kernel
theorem dX2_digest_59 : decode cX2_digest 59 = .ok (.aload_n 0, 1) := by decide +kernel
theorem dX2_digest_60 : decode cX2_digest 60 = .ok (.getfield 10, 3) := by decide +kernel
theorem dX2_digest_63 : decode cX2_digest 63 = .ok (.iload_n 3, 1) := by decide +kernel
theorem dX2_digest_64 : decode cX2_digest 64 = .ok (.iload 4, 2) := by decide +kernel
theorem dX2_digest_66 : decode cX2_digest 66 = .ok (.invokevirtual 135, 3) := by decide +kernel
theorem dX2_digest_69 : decode cX2_digest 69 = .ok (.i2l, 1) := by decide +kernel
theorem dX2_digest_70 : decode cX2_digest 70 = .ok (.ladd, 1) := by decide +kernel
theorem dX2_digest_71 : decode cX2_digest 71 = .ok (.lstore_n 1, 1) := by decide +kernel
theorem dX2_digest_72 : decode cX2_digest 72 = .ok (.iinc 4 1, 3) := by decide +kernel
theorem dX2_digest_75 : decode cX2_digest 75 = .ok (.goto (-28), 3) := by decide +kernel
theorem dX2_digest_78 : decode cX2_digest 78 = .ok (.iinc 3 1, 3) := by decide +kernel
theorem dX2_digest_81 : decode cX2_digest 81 = .ok (.goto (-48), 3) := by decide +kernel
theorem dX2_digest_84 : decode cX2_digest 84 = .ok (.iconst 0, 1) := by decide +kernel
theorem dX2_digest_85 : decode cX2_digest 85 = .ok (.istore_n 3, 1) := by decide +kernel
theorem dX2_digest_86 : decode cX2_digest 86 = .ok (.iload_n 3, 1) := by decide +kernel
theorem dX2_digest_87 : decode cX2_digest 87 = .ok (.aload_n 0, 1) := by decide +kernel
theorem dX2_digest_88 : decode cX2_digest 88 = .ok (.getfield 22, 3) := by decide +kernel
theorem dX2_digest_91 : decode cX2_digest 91 = .ok (.getfield 188, 3) := by decide +kernel
theorem dX2_digest_94 : decode cX2_digest 94 = .ok (.if_icmp .ge 46, 3) := by decide +kernel
theorem dX2_digest_97 : decode cX2_digest 97 = .ok (.iconst 0, 1) := by decide +kernel
theorem dX2_digest_98 : decode cX2_digest 98 = .ok (.istore 4, 2) := by decide +kernel
theorem dX2_digest_100 : decode cX2_digest 100 = .ok (.iload 4, 2) := by decide +kernel
theorem dX2_digest_102 : decode cX2_digest 102 = .ok (.iconst 3, 1) := by decide +kernel
theorem dX2_digest_103 : decode cX2_digest 103 = .ok (.if_icmp .ge 31, 3) := by decide +kernel
theorem dX2_digest_106 : decode cX2_digest 106 = .ok (.lload_n 1, 1) := by decide +kernel
theorem dX2_digest_107 : decode cX2_digest 107 = .ok (.ldc2_w 186, 3) := by decide +kernel
theorem dX2_digest_110 : decode cX2_digest 110 = .ok (.lmul, 1) := by decide +kernel
theorem dX2_digest_111 : decode cX2_digest 111 = .ok (.aload_n 0, 1) := by decide +kernel
theorem dX2_digest_112 : decode cX2_digest 112 = .ok (.getfield 22, 3) := by decide +kernel
theorem dX2_digest_115 : decode cX2_digest 115 = .ok (.iload_n 3, 1) := by decide +kernel
theorem dX2_digest_116 : decode cX2_digest 116 = .ok (.iload 4, 2) := by decide +kernel
theorem dX2_digest_118 : decode cX2_digest 118 = .ok (.aload_n 0, 1) := by decide +kernel
theorem dX2_digest_119 : decode cX2_digest 119 = .ok (.getfield 10, 3) := by decide +kernel
theorem dX2_digest_122 : decode cX2_digest 122 = .ok (.invokevirtual 126, 3) := by decide +kernel
theorem dX2_digest_125 : decode cX2_digest 125 = .ok (.i2l, 1) := by decide +kernel
theorem dX2_digest_126 : decode cX2_digest 126 = .ok (.ladd, 1) := by decide +kernel
theorem dX2_digest_127 : decode cX2_digest 127 = .ok (.lstore_n 1, 1) := by decide +kernel
theorem dX2_digest_128 : decode cX2_digest 128 = .ok (.iinc 4 1, 3) := by decide +kernel
theorem dX2_digest_131 : decode cX2_digest 131 = .ok (.goto (-31), 3) := by decide +kernel
theorem dX2_digest_134 : decode cX2_digest 134 = .ok (.iinc 3 1, 3) := by decide +kernel
theorem dX2_digest_137 : decode cX2_digest 137 = .ok (.goto (-51), 3) := by decide +kernel
theorem dX2_digest_140 : decode cX2_digest 140 = .ok (.lload_n 1, 1) := by decide +kernel
theorem dX2_digest_141 : decode cX2_digest 141 = .ok (.lreturn, 1) := by decide +kernel
theorem dX2_isWithin_0 : decode cX2_isWithin 0 = .ok (.iload_n 0, 1) := by decide +kernel
theorem dX2_isWithin_1 : decode cX2_isWithin 1 = .ok (.iload_n 1, 1) := by decide +kernel
theorem dX2_isWithin_2 : decode cX2_isWithin 2 = .ok (.if_icmp .lt 12, 3) := by decide +kernel
theorem dX2_isWithin_5 : decode cX2_isWithin 5 = .ok (.iload_n 0, 1) := by decide +kernel
theorem dX2_isWithin_6 : decode cX2_isWithin 6 = .ok (.iload_n 2, 1) := by decide +kernel
theorem dX2_isWithin_7 : decode cX2_isWithin 7 = .ok (.if_icmp .gt 7, 3) := by decide +kernel
theorem dX2_isWithin_10 : decode cX2_isWithin 10 = .ok (.iconst 1, 1) := by decide +kernel
theorem dX2_isWithin_11 : decode cX2_isWithin 11 = .ok (.goto 4, 3) := by decide +kernel
theorem dX2_isWithin_14 : decode cX2_isWithin 14 = .ok (.iconst 0, 1) := by decide +kernel
theorem dX2_isWithin_15 : decode cX2_isWithin 15 = .ok (.ireturn, 1) := by decide +kernel
theorem dX2_isBody_0 : decode cX2_isBody 0 = .ok (.iload_n 0, 1) := by decide +kernel
theorem dX2_isBody_1 : decode cX2_isBody 1 = .ok (.iconst 1, 1) := by decide +kernel
theorem dX2_isBody_2 : decode cX2_isBody 2 = .ok (.bipush 20, 2) := by decide +kernel
theorem dX2_isBody_4 : decode cX2_isBody 4 = .ok (.invokestatic 30, 3) := by decide +kernel
theorem dX2_isBody_7 : decode cX2_isBody 7 = .ok (.ifCond .eq 17, 3) := by decide +kernel
theorem dX2_isBody_10 : decode cX2_isBody 10 = .ok (.iload_n 1, 1) := by decide +kernel
theorem dX2_isBody_11 : decode cX2_isBody 11 = .ok (.iconst 1, 1) := by decide +kernel
theorem dX2_isBody_12 : decode cX2_isBody 12 = .ok (.bipush 60, 2) := by decide +kernel
theorem dX2_isBody_14 : decode cX2_isBody 14 = .ok (.invokestatic 30, 3) := by decide +kernel
theorem dX2_isBody_17 : decode cX2_isBody 17 = .ok (.ifCond .eq 7, 3) := by decide +kernel
theorem dX2_isBody_20 : decode cX2_isBody 20 = .ok (.iconst 1, 1) := by decide +kernel
theorem dX2_isBody_21 : decode cX2_isBody 21 = .ok (.goto 4, 3) := by decide +kernel
theorem dX2_isBody_24 : decode cX2_isBody 24 = .ok (.iconst 0, 1) := by decide +kernel
theorem dX2_isBody_25 : decode cX2_isBody 25 = .ok (.ireturn, 1) := by decide +kernel
theorem dX2_tellSky_0 : decode cX2_tellSky 0 = .ok (.iload_n 1, 1) := by decide +kernel
theorem dX2_tellSky_1 : decode cX2_tellSky 1 = .ok (.tableswitch 103 0 6 #[43, 51, 59, 67, 75, 87, 95], 43) := by decide +kernel
theorem dX2_tellSky_44 : decode cX2_tellSky 44 = .ok (.aload_n 0, 1) := by decide +kernel
theorem dX2_tellSky_45 : decode cX2_tellSky 45 = .ok (.getfield 10, 3) := by decide +kernel
theorem dX2_tellSky_48 : decode cX2_tellSky 48 = .ok (.getfield 191, 3) := by decide +kernel
theorem dX2_tellSky_51 : decode cX2_tellSky 51 = .ok (.ireturn, 1) := by decide +kernel
theorem dX2_tellSky_52 : decode cX2_tellSky 52 = .ok (.aload_n 0, 1) := by decide +kernel
theorem dX2_tellSky_53 : decode cX2_tellSky 53 = .ok (.getfield 10, 3) := by decide +kernel
theorem dX2_tellSky_56 : decode cX2_tellSky 56 = .ok (.getfield 172, 3) := by decide +kernel
theorem dX2_tellSky_59 : decode cX2_tellSky 59 = .ok (.ireturn, 1) := by decide +kernel
theorem dX2_tellSky_60 : decode cX2_tellSky 60 = .ok (.aload_n 0, 1) := by decide +kernel
theorem dX2_tellSky_61 : decode cX2_tellSky 61 = .ok (.getfield 10, 3) := by decide +kernel
theorem dX2_tellSky_64 : decode cX2_tellSky 64 = .ok (.getfield 81, 3) := by decide +kernel
theorem dX2_tellSky_67 : decode cX2_tellSky 67 = .ok (.ireturn, 1) := by decide +kernel
theorem dX2_tellSky_68 : decode cX2_tellSky 68 = .ok (.aload_n 0, 1) := by decide +kernel
theorem dX2_tellSky_69 : decode cX2_tellSky 69 = .ok (.getfield 10, 3) := by decide +kernel
theorem dX2_tellSky_72 : decode cX2_tellSky 72 = .ok (.invokevirtual 194, 3) := by decide +kernel
theorem dX2_tellSky_75 : decode cX2_tellSky 75 = .ok (.ireturn, 1) := by decide +kernel
theorem dX2_tellSky_76 : decode cX2_tellSky 76 = .ok (.aload_n 0, 1) := by decide +kernel
theorem dX2_tellSky_77 : decode cX2_tellSky 77 = .ok (.getfield 22, 3) := by decide +kernel
theorem dX2_tellSky_80 : decode cX2_tellSky 80 = .ok (.aload_n 0, 1) := by decide +kernel
theorem dX2_tellSky_81 : decode cX2_tellSky 81 = .ok (.getfield 10, 3) := by decide +kernel
theorem dX2_tellSky_84 : decode cX2_tellSky 84 = .ok (.invokevirtual 162, 3) := by decide +kernel
theorem dX2_tellSky_87 : decode cX2_tellSky 87 = .ok (.ireturn, 1) := by decide +kernel
theorem dX2_tellSky_88 : decode cX2_tellSky 88 = .ok (.aload_n 0, 1) := by decide +kernel
theorem dX2_tellSky_89 : decode cX2_tellSky 89 = .ok (.getfield 10, 3) := by decide +kernel
theorem dX2_tellSky_92 : decode cX2_tellSky 92 = .ok (.invokevirtual 166, 3) := by decide +kernel
theorem dX2_tellSky_95 : decode cX2_tellSky 95 = .ok (.ireturn, 1) := by decide +kernel
theorem dX2_tellSky_96 : decode cX2_tellSky 96 = .ok (.aload_n 0, 1) := by decide +kernel
theorem dX2_tellSky_97 : decode cX2_tellSky 97 = .ok (.getfield 10, 3) := by decide +kernel
theorem dX2_tellSky_100 : decode cX2_tellSky 100 = .ok (.invokevirtual 197, 3) := by decide +kernel
theorem dX2_tellSky_103 : decode cX2_tellSky 103 = .ok (.ireturn, 1) := by decide +kernel
theorem dX2_tellSky_104 : decode cX2_tellSky 104 = .ok (.aload_n 0, 1) := by decide +kernel
theorem dX2_tellSky_105 : decode cX2_tellSky 105 = .ok (.getfield 10, 3) := by decide +kernel
theorem dX2_tellSky_108 : decode cX2_tellSky 108 = .ok (.invokevirtual 200, 3) := by decide +kernel
theorem dX2_tellSky_111 : decode cX2_tellSky 111 = .ok (.ireturn, 1) := by decide +kernel
theorem dX2_leftWithMore_0 : decode cX2_leftWithMore 0 = .ok (.aload_n 0, 1) := by decide +kernel
theorem dX2_leftWithMore_1 : decode cX2_leftWithMore 1 = .ok (.getfield 16, 3) := by decide +kernel
theorem dX2_leftWithMore_4 : decode cX2_leftWithMore 4 = .ok (.aload_n 0, 1) := by decide +kernel
theorem dX2_leftWithMore_5 : decode cX2_leftWithMore 5 = .ok (.getfield 10, 3) := by decide +kernel
theorem dX2_leftWithMore_8 : decode cX2_leftWithMore 8 = .ok (.invokevirtual 152, 3) := by decide +kernel
theorem dX2_leftWithMore_11 : decode cX2_leftWithMore 11 = .ok (.aload_n 0, 1) := by decide +kernel
theorem dX2_leftWithMore_12 : decode cX2_leftWithMore 12 = .ok (.getfield 16, 3) := by decide +kernel
theorem dX2_leftWithMore_15 : decode cX2_leftWithMore 15 = .ok (.iload_n 1, 1) := by decide +kernel
theorem dX2_leftWithMore_16 : decode cX2_leftWithMore 16 = .ok (.bipush 60, 2) := by decide +kernel
theorem dX2_leftWithMore_18 : decode cX2_leftWithMore 18 = .ok (.aload_n 0, 1) := by decide +kernel
theorem dX2_leftWithMore_19 : decode cX2_leftWithMore 19 = .ok (.getfield 10, 3) := by decide +kernel
theorem dX2_leftWithMore_22 : decode cX2_leftWithMore 22 = .ok (.getfield 175, 3) := by decide +kernel
theorem dX2_leftWithMore_25 : decode cX2_leftWithMore 25 = .ok (.iload_n 1, 1) := by decide +kernel
theorem dX2_leftWithMore_26 : decode cX2_leftWithMore 26 = .ok (.iaload, 1) := by decide +kernel
theorem dX2_leftWithMore_27 : decode cX2_leftWithMore 27 = .ok (.iload_n 2, 1) := by decide +kernel
theorem dX2_leftWithMore_28 : decode cX2_leftWithMore 28 = .ok (.iadd, 1) := by decide +kernel
theorem dX2_leftWithMore_29 : decode cX2_leftWithMore 29 = .ok (.invokestatic 203, 3) := by decide +kernel
theorem dX2_leftWithMore_32 : decode cX2_leftWithMore 32 = .ok (.invokevirtual 85, 3) := by decide +kernel
theorem dX2_leftWithMore_35 : decode cX2_leftWithMore 35 = .ok (.aload_n 0, 1) := by decide +kernel
theorem dX2_leftWithMore_36 : decode cX2_leftWithMore 36 = .ok (.getfield 16, 3) := by decide +kernel
theorem dX2_leftWithMore_39 : decode cX2_leftWithMore 39 = .ok (.invokevirtual 54, 3) := by decide +kernel
theorem dX2_leftWithMore_42 : decode cX2_leftWithMore 42 = .ok (.aload_n 0, 1) := by decide +kernel
theorem dX2_leftWithMore_43 : decode cX2_leftWithMore 43 = .ok (.getfield 16, 3) := by decide +kernel
theorem dX2_leftWithMore_46 : decode cX2_leftWithMore 46 = .ok (.iload_n 3, 1) := by decide +kernel
theorem dX2_leftWithMore_47 : decode cX2_leftWithMore 47 = .ok (.invokevirtual 148, 3) := by decide +kernel
theorem dX2_leftWithMore_50 : decode cX2_leftWithMore 50 = .ok (.aload_n 0, 1) := by decide +kernel
theorem dX2_leftWithMore_51 : decode cX2_leftWithMore 51 = .ok (.getfield 16, 3) := by decide +kernel
theorem dX2_leftWithMore_54 : decode cX2_leftWithMore 54 = .ok (.getfield 81, 3) := by decide +kernel
theorem dX2_leftWithMore_57 : decode cX2_leftWithMore 57 = .ok (.ireturn, 1) := by decide +kernel
end
section
theorem dX3_init_0 : decode cX3_init 0 = .ok (.aload_n 0, 1) := by decide +kernel
theorem dX3_init_1 : decode cX3_init 1 = .ok (.invokespecial 1, 3) := by decide +kernel
theorem dX3_init_4 : decode cX3_init 4 = .ok (.aload_n 0, 1) := by decide +kernel
theorem dX3_init_5 : decode cX3_init 5 = .ok (.sipush 280, 3) := by decide +kernel
theorem dX3_init_8 : decode cX3_init 8 = .ok (.newarray .int, 2) := by decide +kernel
theorem dX3_init_10 : decode cX3_init 10 = .ok (.putfield 9, 3) := by decide +kernel
theorem dX3_init_13 : decode cX3_init 13 = .ok (.aload_n 0, 1) := by decide +kernel
theorem dX3_init_14 : decode cX3_init 14 = .ok (.bipush 90, 2) := by decide +kernel
theorem dX3_init_16 : decode cX3_init 16 = .ok (.newarray .int, 2) := by decide +kernel
theorem dX3_init_18 : decode cX3_init 18 = .ok (.putfield 13, 3) := by decide +kernel
theorem dX3_init_21 : decode cX3_init 21 = .ok (.aload_n 0, 1) := by decide +kernel
theorem dX3_init_22 : decode cX3_init 22 = .ok (.iconst 1, 1) := by decide +kernel
theorem dX3_init_23 : decode cX3_init 23 = .ok (.newarray .int, 2) := by decide +kernel
theorem dX3_init_25 : decode cX3_init 25 = .ok (.dup, 1) := by decide +kernel
theorem dX3_init_26 : decode cX3_init 26 = .ok (.iconst 0, 1) := by decide +kernel
theorem dX3_init_27 : decode cX3_init 27 = .ok (.iconst 0, 1) := by decide +kernel
theorem dX3_init_28 : decode cX3_init 28 = .ok (.iastore, 1) := by decide +kernel
theorem dX3_init_29 : decode cX3_init 29 = .ok (.putfield 16, 3) := by decide +kernel
theorem dX3_init_32 : decode cX3_init 32 = .ok (.aload_n 0, 1) := by decide +kernel
theorem dX3_init_33 : decode cX3_init 33 = .ok (.bipush 40, 2) := by decide +kernel
theorem dX3_init_35 : decode cX3_init 35 = .ok (.newarray .int, 2) := by decide +kernel
theorem dX3_init_37 : decode cX3_init 37 = .ok (.putfield 19, 3) := by decide +kernel
theorem dX3_init_40 : decode cX3_init 40 = .ok (.aload_n 0, 1) := by decide +kernel
theorem dX3_init_41 : decode cX3_init 41 = .ok (.bipush 40, 2) := by decide +kernel
theorem dX3_init_43 : decode cX3_init 43 = .ok (.newarray .int, 2) := by decide +kernel
theorem dX3_init_45 : decode cX3_init 45 = .ok (.putfield 22, 3) := by decide +kernel
theorem dX3_init_48 : decode cX3_init 48 = .ok (.aload_n 0, 1) := by decide +kernel
theorem dX3_init_49 : decode cX3_init 49 = .ok (.bipush 40, 2) := by decide +kernel
theorem dX3_init_51 : decode cX3_init 51 = .ok (.newarray .int, 2) := by decide +kernel
theorem dX3_init_53 : decode cX3_init 53 = .ok (.putfield 25, 3) := by decide +kernel
theorem dX3_init_56 : decode cX3_init 56 = .ok (.return_, 1) := by decide +kernel
theorem dX3_thrown_0 : decode cX3_thrown 0 = .ok (.aload_n 0, 1) := by decide +kernel
theorem dX3_thrown_1 : decode cX3_thrown 1 = .ok (.getfield 28, 3) := by decide +kernel
theorem dX3_thrown_4 : decode cX3_thrown 4 = .ok (.ireturn, 1) := by decide +kernel
theorem dX3_fail_0 : decode cX3_fail 0 = .ok (.aload_n 0, 1) := by decide +kernel
theorem dX3_fail_1 : decode cX3_fail 1 = .ok (.iload_n 1, 1) := by decide +kernel
theorem dX3_fail_2 : decode cX3_fail 2 = .ok (.putfield 28, 3) := by decide +kernel
theorem dX3_fail_5 : decode cX3_fail 5 = .ok (.iconst 0, 1) := by decide +kernel
theorem dX3_fail_6 : decode cX3_fail 6 = .ok (.ireturn, 1) := by decide +kernel
theorem dX3_isIn_0 : decode cX3_isIn 0 = .ok (.iload_n 0, 1) := by decide +kernel
theorem dX3_isIn_1 : decode cX3_isIn 1 = .ok (.iload_n 1, 1) := by decide +kernel
theorem dX3_isIn_2 : decode cX3_isIn 2 = .ok (.if_icmp .lt 12, 3) := by decide +kernel
theorem dX3_isIn_5 : decode cX3_isIn 5 = .ok (.iload_n 0, 1) := by decide +kernel
theorem dX3_isIn_6 : decode cX3_isIn 6 = .ok (.iload_n 2, 1) := by decide +kernel
theorem dX3_isIn_7 : decode cX3_isIn 7 = .ok (.if_icmp .gt 7, 3) := by decide +kernel
theorem dX3_isIn_10 : decode cX3_isIn 10 = .ok (.iconst 1, 1) := by decide +kernel
theorem dX3_isIn_11 : decode cX3_isIn 11 = .ok (.goto 4, 3) := by decide +kernel
theorem dX3_isIn_14 : decode cX3_isIn 14 = .ok (.iconst 0, 1) := by decide +kernel
theorem dX3_isIn_15 : decode cX3_isIn 15 = .ok (.ireturn, 1) := by decide +kernel
theorem dX3_isStone_0 : decode cX3_isStone 0 = .ok (.iload_n 1, 1) := by decide +kernel
theorem dX3_isStone_1 : decode cX3_isStone 1 = .ok (.iconst 0, 1) := by decide +kernel
theorem dX3_isStone_2 : decode cX3_isStone 2 = .ok (.aload_n 0, 1) := by decide +kernel
theorem dX3_isStone_3 : decode cX3_isStone 3 = .ok (.getfield 32, 3) := by decide +kernel
theorem dX3_isStone_6 : decode cX3_isStone 6 = .ok (.iconst 1, 1) := by decide +kernel
theorem dX3_isStone_7 : decode cX3_isStone 7 = .ok (.isub, 1) := by decide +kernel
theorem dX3_isStone_8 : decode cX3_isStone 8 = .ok (.invokestatic 35, 3) := by decide +kernel
theorem dX3_isStone_11 : decode cX3_isStone 11 = .ok (.ireturn, 1) := by decide +kernel
theorem dX3_to_0 : decode cX3_to 0 = .ok (.aload_n 0, 1) := by decide +kernel
theorem dX3_to_1 : decode cX3_to 1 = .ok (.getfield 9, 3) := by decide +kernel
theorem dX3_to_4 : decode cX3_to 4 = .ok (.bipush 7, 2) := by decide +kernel
theorem dX3_to_6 : decode cX3_to 6 = .ok (.iload_n 1, 1) := by decide +kernel
theorem dX3_to_7 : decode cX3_to 7 = .ok (.imul, 1) := by decide +kernel
theorem dX3_to_8 : decode cX3_to 8 = .ok (.iload_n 2, 1) := by decide +kernel
theorem dX3_to_9 : decode cX3_to 9 = .ok (.iadd, 1) := by decide +kernel
theorem dX3_to_10 : decode cX3_to 10 = .ok (.iaload, 1) := by decide +kernel
theorem dX3_to_11 : decode cX3_to 11 = .ok (.ireturn, 1) := by decide +kernel
theorem dX3_put_0 : decode cX3_put 0 = .ok (.aload_n 0, 1) := by decide +kernel
theorem dX3_put_1 : decode cX3_put 1 = .ok (.getfield 9, 3) := by decide +kernel
theorem dX3_put_4 : decode cX3_put 4 = .ok (.bipush 7, 2) := by decide +kernel
theorem dX3_put_6 : decode cX3_put 6 = .ok (.iload_n 1, 1) := by decide +kernel
theorem dX3_put_7 : decode cX3_put 7 = .ok (.imul, 1) := by decide +kernel
theorem dX3_put_8 : decode cX3_put 8 = .ok (.iload_n 2, 1) := by decide +kernel
theorem dX3_put_9 : decode cX3_put 9 = .ok (.iadd, 1) := by decide +kernel
theorem dX3_put_10 : decode cX3_put 10 = .ok (.iload_n 3, 1) := by decide +kernel
theorem dX3_put_11 : decode cX3_put 11 = .ok (.iastore, 1) := by decide +kernel
theorem dX3_put_12 : decode cX3_put 12 = .ok (.return_, 1) := by decide +kernel
theorem dX3_hangs_0 : decode cX3_hangs 0 = .ok (.aload_n 0, 1) := by decide +kernel
theorem dX3_hangs_1 : decode cX3_hangs 1 = .ok (.iload_n 1, 1) := by decide +kernel
theorem dX3_hangs_2 : decode cX3_hangs 2 = .ok (.iconst 2, 1) := by decide +kernel
theorem dX3_hangs_3 : decode cX3_hangs 3 = .ok (.invokevirtual 39, 3) := by decide +kernel
theorem dX3_hangs_6 : decode cX3_hangs 6 = .ok (.iconst 1, 1) := by decide +kernel
theorem dX3_hangs_7 : decode cX3_hangs 7 = .ok (.if_icmp .ne 7, 3) := by decide +kernel
theorem dX3_hangs_10 : decode cX3_hangs 10 = .ok (.iconst 1, 1) := by decide +kernel
theorem dX3_hangs_11 : decode cX3_hangs 11 = .ok (.goto 4, 3) := by decide +kernel
theorem dX3_hangs_14 : decode cX3_hangs 14 = .ok (.iconst 0, 1) := by decide +kernel
theorem dX3_hangs_15 : decode cX3_hangs 15 = .ok (.ireturn, 1) := by decide +kernel
theorem dX3_st_0 : decode cX3_st 0 = .ok (.aload_n 0, 1) := by decide +kernel
theorem dX3_st_1 : decode cX3_st 1 = .ok (.getfield 13, 3) := by decide +kernel
theorem dX3_st_4 : decode cX3_st 4 = .ok (.iconst 3, 1) := by decide +kernel
theorem dX3_st_5 : decode cX3_st 5 = .ok (.iload_n 1, 1) := by decide +kernel
theorem dX3_st_6 : decode cX3_st 6 = .ok (.imul, 1) := by decide +kernel
theorem dX3_st_7 : decode cX3_st 7 = .ok (.iload_n 2, 1) := by decide +kernel
theorem dX3_st_8 : decode cX3_st 8 = .ok (.iadd, 1) := by decide +kernel
theorem dX3_st_9 : decode cX3_st 9 = .ok (.iaload, 1) := by decide +kernel
theorem dX3_st_10 : decode cX3_st 10 = .ok (.ireturn, 1) := by decide +kernel
theorem dX3_reckon_0 : decode cX3_reckon 0 = .ok (.iconst 0, 1) := by decide +kernel
theorem dX3_reckon_1 : decode cX3_reckon 1 = .ok (.istore_n 1, 1) := by decide +kernel
theorem dX3_reckon_2 : decode cX3_reckon 2 = .ok (.iload_n 1, 1) := by decide +kernel
theorem dX3_reckon_3 : decode cX3_reckon 3 = .ok (.aload_n 0, 1) := by decide +kernel
theorem dX3_reckon_4 : decode cX3_reckon 4 = .ok (.getfield 32, 3) := by decide +kernel
theorem dX3_reckon_7 : decode cX3_reckon 7 = .ok (.if_icmp .ge 16, 3) := by decide +kernel
theorem dX3_reckon_10 : decode cX3_reckon 10 = .ok (.aload_n 0, 1) := by decide +kernel
theorem dX3_reckon_11 : decode cX3_reckon 11 = .ok (.getfield 22, 3) := by decide +kernel
theorem dX3_reckon_14 : decode cX3_reckon 14 = .ok (.iload_n 1, 1) := by decide +kernel
theorem dX3_reckon_15 : decode cX3_reckon 15 = .ok (.iconst 0, 1) := by decide +kernel
theorem dX3_reckon_16 : decode cX3_reckon 16 = .ok (.iastore, 1) := by decide +kernel
theorem dX3_reckon_17 : decode cX3_reckon 17 = .ok (.iinc 1 1, 3) := by decide +kernel
theorem dX3_reckon_20 : decode cX3_reckon 20 = .ok (.goto (-18), 3) := by decide +kernel
theorem dX3_reckon_23 : decode cX3_reckon 23 = .ok (.aload_n 0, 1) := by decide +kernel
theorem dX3_reckon_24 : decode cX3_reckon 24 = .ok (.getfield 32, 3) := by decide +kernel
theorem dX3_reckon_27 : decode cX3_reckon 27 = .ok (.iconst 1, 1) := by decide +kernel
theorem dX3_reckon_28 : decode cX3_reckon 28 = .ok (.isub, 1) := by decide +kernel
theorem dX3_reckon_29 : decode cX3_reckon 29 = .ok (.istore_n 1, 1) := by decide +kernel
theorem dX3_reckon_30 : decode cX3_reckon 30 = .ok (.iload_n 1, 1) := by decide +kernel
theorem dX3_reckon_31 : decode cX3_reckon 31 = .ok (.ifCond .lt 152, 3) := by decide +kernel
theorem dX3_reckon_34 : decode cX3_reckon 34 = .ok (.aload_n 0, 1) := by decide +kernel
theorem dX3_reckon_35 : decode cX3_reckon 35 = .ok (.getfield 19, 3) := by decide +kernel
theorem dX3_reckon_38 : decode cX3_reckon 38 = .ok (.iload_n 1, 1) := by decide +kernel
theorem dX3_reckon_39 : decode cX3_reckon 39 = .ok (.aload_n 0, 1) := by decide +kernel
theorem dX3_reckon_40 : decode cX3_reckon 40 = .ok (.iload_n 1, 1) := by decide +kernel
theorem dX3_reckon_41 : decode cX3_reckon 41 = .ok (.invokevirtual 43, 3) := by decide +kernel
theorem dX3_reckon_44 : decode cX3_reckon 44 = .ok (.ifCond .eq 31, 3) := by decide +kernel
theorem dX3_reckon_47 : decode cX3_reckon 47 = .ok (.iconst 0, 1) := by decide +kernel
theorem dX3_reckon_48 : decode cX3_reckon 48 = .ok (.aload_n 0, 1) := by decide +kernel
theorem dX3_reckon_49 : decode cX3_reckon 49 = .ok (.iload_n 1, 1) := by decide +kernel
theorem dX3_reckon_50 : decode cX3_reckon 50 = .ok (.iconst 0, 1) := by decide +kernel
theorem dX3_reckon_51 : decode cX3_reckon 51 = .ok (.invokevirtual 39, 3) := by decide +kernel
theorem dX3_reckon_54 : decode cX3_reckon 54 = .ok (.aload_n 0, 1) := by decide +kernel
theorem dX3_reckon_55 : decode cX3_reckon 55 = .ok (.getfield 22, 3) := by decide +kernel
theorem dX3_reckon_58 : decode cX3_reckon 58 = .ok (.iload_n 1, 1) := by decide +kernel
theorem dX3_reckon_59 : decode cX3_reckon 59 = .ok (.iaload, 1) := by decide +kernel
theorem dX3_reckon_60 : decode cX3_reckon 60 = .ok (.iadd, 1) := by decide +kernel
theorem dX3_reckon_61 : decode cX3_reckon 61 = .ok (.aload_n 0, 1) := by decide +kernel
theorem dX3_reckon_62 : decode cX3_reckon 62 = .ok (.iload_n 1, 1) := by decide +kernel
theorem dX3_reckon_63 : decode cX3_reckon 63 = .ok (.bipush 6, 2) := by decide +kernel
theorem dX3_reckon_65 : decode cX3_reckon 65 = .ok (.invokevirtual 39, 3) := by decide +kernel
theorem dX3_reckon_68 : decode cX3_reckon 68 = .ok (.isub, 1) := by decide +kernel
theorem dX3_reckon_69 : decode cX3_reckon 69 = .ok (.invokestatic 47, 3) := by decide +kernel
theorem dX3_reckon_72 : decode cX3_reckon 72 = .ok (.goto 4, 3) := by decide +kernel
theorem dX3_reckon_75 : decode cX3_reckon 75 = .ok (.iconst 0, 1) := by decide +kernel
theorem dX3_reckon_76 : decode cX3_reckon 76 = .ok (.iastore, 1) := by decide +kernel
theorem dX3_reckon_77 : decode cX3_reckon 77 = .ok (.aload_n 0, 1) := by decide +kernel
theorem dX3_reckon_78 : decode cX3_reckon 78 = .ok (.iload_n 1, 1) := by decide +kernel
theorem dX3_reckon_79 : decode cX3_reckon 79 = .ok (.invokevirtual 43, 3) := by decide +kernel
theorem dX3_reckon_82 : decode cX3_reckon 82 = .ok (.ifCond .eq 95, 3) := by decide +kernel
theorem dX3_reckon_85 : decode cX3_reckon 85 = .ok (.aload_n 0, 1) := by decide +kernel
theorem dX3_reckon_86 : decode cX3_reckon 86 = .ok (.iload_n 1, 1) := by decide +kernel
theorem dX3_reckon_87 : decode cX3_reckon 87 = .ok (.iconst 4, 1) := by decide +kernel
theorem dX3_reckon_88 : decode cX3_reckon 88 = .ok (.invokevirtual 39, 3) := by decide +kernel
theorem dX3_reckon_91 : decode cX3_reckon 91 = .ok (.iconst (-1), 1) := by decide +kernel
theorem dX3_reckon_92 : decode cX3_reckon 92 = .ok (.if_icmp .ne 6, 3) := by decide +kernel
theorem dX3_reckon_95 : decode cX3_reckon 95 = .ok (.goto 82, 3) := by decide +kernel
theorem dX3_reckon_98 : decode cX3_reckon 98 = .ok (.aload_n 0, 1) := by decide +kernel
theorem dX3_reckon_99 : decode cX3_reckon 99 = .ok (.iload_n 1, 1) := by decide +kernel
theorem dX3_reckon_100 : decode cX3_reckon 100 = .ok (.iconst 5, 1) := by decide +kernel
theorem dX3_reckon_101 : decode cX3_reckon 101 = .ok (.invokevirtual 39, 3) := by decide +kernel
theorem dX3_reckon_104 : decode cX3_reckon 104 = .ok (.iconst (-1), 1) := by decide +kernel
theorem dX3_reckon_105 : decode cX3_reckon 105 = .ok (.if_icmp .ne 7, 3) := by decide +kernel
theorem dX3_reckon_108 : decode cX3_reckon 108 = .ok (.iconst 1, 1) := by decide +kernel
theorem dX3_reckon_109 : decode cX3_reckon 109 = .ok (.goto 4, 3) := by decide +kernel
theorem dX3_reckon_112 : decode cX3_reckon 112 = .ok (.iconst 0, 1) := by decide +kernel
theorem dX3_reckon_113 : decode cX3_reckon 113 = .ok (.istore_n 2, 1) := by decide +kernel
theorem dX3_reckon_114 : decode cX3_reckon 114 = .ok (.aload_n 0, 1) := by decide +kernel
theorem dX3_reckon_115 : decode cX3_reckon 115 = .ok (.getfield 22, 3) := by decide +kernel
theorem dX3_reckon_118 : decode cX3_reckon 118 = .ok (.aload_n 0, 1) := by decide +kernel
theorem dX3_reckon_119 : decode cX3_reckon 119 = .ok (.iload_n 1, 1) := by decide +kernel
theorem dX3_reckon_120 : decode cX3_reckon 120 = .ok (.iconst 4, 1) := by decide +kernel
theorem dX3_reckon_121 : decode cX3_reckon 121 = .ok (.invokevirtual 39, 3) := by decide +kernel
theorem dX3_reckon_124 : decode cX3_reckon 124 = .ok (.dup2, 1) := by decide +kernel
theorem dX3_reckon_125 : decode cX3_reckon 125 = .ok (.iaload, 1) := by decide +kernel
theorem dX3_reckon_126 : decode cX3_reckon 126 = .ok (.iload_n 2, 1) := by decide +kernel
theorem dX3_reckon_127 : decode cX3_reckon 127 = .ok (.ifCond .eq 12, 3) := by decide +kernel
theorem dX3_reckon_130 : decode cX3_reckon 130 = .ok (.aload_n 0, 1) := by decide +kernel
theorem dX3_reckon_131 : decode cX3_reckon 131 = .ok (.getfield 19, 3) := by decide +kernel
theorem dX3_reckon_134 : decode cX3_reckon 134 = .ok (.iload_n 1, 1) := by decide +kernel
theorem dX3_reckon_135 : decode cX3_reckon 135 = .ok (.iaload, 1) := by decide +kernel
theorem dX3_reckon_136 : decode cX3_reckon 136 = .ok (.goto 13, 3) := by decide +kernel
theorem dX3_reckon_139 : decode cX3_reckon 139 = .ok (.aload_n 0, 1) := by decide +kernel
theorem dX3_reckon_140 : decode cX3_reckon 140 = .ok (.getfield 19, 3) := by decide +kernel
theorem dX3_reckon_143 : decode cX3_reckon 143 = .ok (.iload_n 1, 1) := by decide +kernel
theorem dX3_reckon_144 : decode cX3_reckon 144 = .ok (.iaload, 1) := by decide +kernel
theorem dX3_reckon_145 : decode cX3_reckon 145 = .ok (.iconst 1, 1) := by decide +kernel
theorem dX3_reckon_146 : decode cX3_reckon 146 = .ok (.iadd, 1) := by decide +kernel
theorem dX3_reckon_147 : decode cX3_reckon 147 = .ok (.iconst 2, 1) := by decide +kernel
theorem dX3_reckon_148 : decode cX3_reckon 148 = .ok (.idiv, 1) := by decide +kernel
theorem dX3_reckon_149 : decode cX3_reckon 149 = .ok (.iadd, 1) := by decide +kernel
theorem dX3_reckon_150 : decode cX3_reckon 150 = .ok (.iastore, 1) := by decide +kernel
theorem dX3_reckon_151 : decode cX3_reckon 151 = .ok (.iload_n 2, 1) := by decide +kernel
theorem dX3_reckon_152 : decode cX3_reckon 152 = .ok (.ifCond .ne 25, 3) := by decide +kernel
theorem dX3_reckon_155 : decode cX3_reckon 155 = .ok (.aload_n 0, 1) := by decide +kernel
theorem dX3_reckon_156 : decode cX3_reckon 156 = .ok (.getfield 22, 3) := by decide +kernel
theorem dX3_reckon_159 : decode cX3_reckon 159 = .ok (.aload_n 0, 1) := by decide +kernel
theorem dX3_reckon_160 : decode cX3_reckon 160 = .ok (.iload_n 1, 1) := by decide +kernel
theorem dX3_reckon_161 : decode cX3_reckon 161 = .ok (.iconst 5, 1) := by decide +kernel
theorem dX3_reckon_162 : decode cX3_reckon 162 = .ok (.invokevirtual 39, 3) := by decide +kernel
theorem dX3_reckon_165 : decode cX3_reckon 165 = .ok (.dup2, 1) := by decide +kernel
theorem dX3_reckon_166 : decode cX3_reckon 166 = .ok (.iaload, 1) := by decide +kernel
theorem dX3_reckon_167 : decode cX3_reckon 167 = .ok (.aload_n 0, 1) := by decide +kernel
theorem dX3_reckon_168 : decode cX3_reckon 168 = .ok (.getfield 19, 3) := by decide +kernel
theorem dX3_reckon_171 : decode cX3_reckon 171 = .ok (.iload_n 1, 1) := by decide +kernel
theorem dX3_reckon_172 : decode cX3_reckon 172 = .ok (.iaload, 1) := by decide +kernel
theorem dX3_reckon_173 : decode cX3_reckon 173 = .ok (.iconst 2, 1) := by decide +kernel
theorem dX3_reckon_174 : decode cX3_reckon 174 = .ok (.idiv, 1) := by decide +kernel
theorem dX3_reckon_175 : decode cX3_reckon 175 = .ok (.iadd, 1) := by decide +kernel
theorem dX3_reckon_176 : decode cX3_reckon 176 = .ok (.iastore, 1) := by decide +kernel
theorem dX3_reckon_177 : decode cX3_reckon 177 = .ok (.iinc 1 (-1), 3) := by decide +kernel
theorem dX3_reckon_180 : decode cX3_reckon 180 = .ok (.goto (-150), 3) := by decide +kernel
theorem dX3_reckon_183 : decode cX3_reckon 183 = .ok (.return_, 1) := by decide +kernel
theorem dX3_isHeldBy_0 : decode cX3_isHeldBy 0 = .ok (.aload_n 0, 1) := by decide +kernel
theorem dX3_isHeldBy_1 : decode cX3_isHeldBy 1 = .ok (.iload_n 1, 1) := by decide +kernel
theorem dX3_isHeldBy_2 : decode cX3_isHeldBy 2 = .ok (.iconst 4, 1) := by decide +kernel
theorem dX3_isHeldBy_3 : decode cX3_isHeldBy 3 = .ok (.invokevirtual 39, 3) := by decide +kernel
theorem dX3_isHeldBy_6 : decode cX3_isHeldBy 6 = .ok (.iload_n 2, 1) := by decide +kernel
theorem dX3_isHeldBy_7 : decode cX3_isHeldBy 7 = .ok (.if_icmp .eq 13, 3) := by decide +kernel
theorem dX3_isHeldBy_10 : decode cX3_isHeldBy 10 = .ok (.aload_n 0, 1) := by decide +kernel
theorem dX3_isHeldBy_11 : decode cX3_isHeldBy 11 = .ok (.iload_n 1, 1) := by decide +kernel
theorem dX3_isHeldBy_12 : decode cX3_isHeldBy 12 = .ok (.iconst 5, 1) := by decide +kernel
theorem dX3_isHeldBy_13 : decode cX3_isHeldBy 13 = .ok (.invokevirtual 39, 3) := by decide +kernel
theorem dX3_isHeldBy_16 : decode cX3_isHeldBy 16 = .ok (.iload_n 2, 1) := by decide +kernel
theorem dX3_isHeldBy_17 : decode cX3_isHeldBy 17 = .ok (.if_icmp .ne 7, 3) := by decide +kernel
theorem dX3_isHeldBy_20 : decode cX3_isHeldBy 20 = .ok (.iconst 1, 1) := by decide +kernel
theorem dX3_isHeldBy_21 : decode cX3_isHeldBy 21 = .ok (.goto 4, 3) := by decide +kernel
theorem dX3_isHeldBy_24 : decode cX3_isHeldBy 24 = .ok (.iconst 0, 1) := by decide +kernel
theorem dX3_isHeldBy_25 : decode cX3_isHeldBy 25 = .ok (.ireturn, 1) := by decide +kernel
theorem dX3_tear_0 : decode cX3_tear 0 = .ok (.iconst 0, 1) := by decide +kernel
theorem dX3_tear_1 : decode cX3_tear 1 = .ok (.istore_n 2, 1) := by decide +kernel
theorem dX3_tear_2 : decode cX3_tear 2 = .ok (.iload_n 1, 1) := by decide +kernel
theorem dX3_tear_3 : decode cX3_tear 3 = .ok (.iconst 1, 1) := by decide +kernel
theorem dX3_tear_4 : decode cX3_tear 4 = .ok (.iadd, 1) := by decide +kernel
theorem dX3_tear_5 : decode cX3_tear 5 = .ok (.istore_n 3, 1) := by decide +kernel
theorem dX3_tear_6 : decode cX3_tear 6 = .ok (.iload_n 3, 1) := by decide +kernel
theorem dX3_tear_7 : decode cX3_tear 7 = .ok (.aload_n 0, 1) := by decide +kernel
theorem dX3_tear_8 : decode cX3_tear 8 = .ok (.getfield 32, 3) := by decide +kernel
theorem dX3_tear_11 : decode cX3_tear 11 = .ok (.if_icmp .ge 60, 3) := by decide +kernel
theorem dX3_tear_14 : decode cX3_tear 14 = .ok (.aload_n 0, 1) := by decide +kernel
theorem dX3_tear_15 : decode cX3_tear 15 = .ok (.iload_n 3, 1) := by decide +kernel
theorem dX3_tear_16 : decode cX3_tear 16 = .ok (.invokevirtual 43, 3) := by decide +kernel
theorem dX3_tear_19 : decode cX3_tear 19 = .ok (.ifCond .eq 46, 3) := by decide +kernel
theorem dX3_tear_22 : decode cX3_tear 22 = .ok (.aload_n 0, 1) := by decide +kernel
theorem dX3_tear_23 : decode cX3_tear 23 = .ok (.iload_n 3, 1) := by decide +kernel
theorem dX3_tear_24 : decode cX3_tear 24 = .ok (.iload_n 1, 1) := by decide +kernel
theorem dX3_tear_25 : decode cX3_tear 25 = .ok (.invokevirtual 52, 3) := by decide +kernel
theorem dX3_tear_28 : decode cX3_tear 28 = .ok (.ifCond .ne 6, 3) := by decide +kernel
theorem dX3_tear_31 : decode cX3_tear 31 = .ok (.goto 34, 3) := by decide +kernel
theorem dX3_tear_34 : decode cX3_tear 34 = .ok (.iconst 1, 1) := by decide +kernel
theorem dX3_tear_35 : decode cX3_tear 35 = .ok (.istore_n 2, 1) := by decide +kernel
theorem dX3_tear_36 : decode cX3_tear 36 = .ok (.aload_n 0, 1) := by decide +kernel
theorem dX3_tear_37 : decode cX3_tear 37 = .ok (.iload_n 3, 1) := by decide +kernel
theorem dX3_tear_38 : decode cX3_tear 38 = .ok (.iconst 4, 1) := by decide +kernel
theorem dX3_tear_39 : decode cX3_tear 39 = .ok (.invokevirtual 39, 3) := by decide +kernel
theorem dX3_tear_42 : decode cX3_tear 42 = .ok (.iload_n 1, 1) := by decide +kernel
theorem dX3_tear_43 : decode cX3_tear 43 = .ok (.if_icmp .ne 15, 3) := by decide +kernel
theorem dX3_tear_46 : decode cX3_tear 46 = .ok (.aload_n 0, 1) := by decide +kernel
theorem dX3_tear_47 : decode cX3_tear 47 = .ok (.iload_n 3, 1) := by decide +kernel
theorem dX3_tear_48 : decode cX3_tear 48 = .ok (.iconst 4, 1) := by decide +kernel
theorem dX3_tear_49 : decode cX3_tear 49 = .ok (.aload_n 0, 1) := by decide +kernel
theorem dX3_tear_50 : decode cX3_tear 50 = .ok (.iload_n 3, 1) := by decide +kernel
theorem dX3_tear_51 : decode cX3_tear 51 = .ok (.iconst 5, 1) := by decide +kernel
theorem dX3_tear_52 : decode cX3_tear 52 = .ok (.invokevirtual 39, 3) := by decide +kernel
theorem dX3_tear_55 : decode cX3_tear 55 = .ok (.invokevirtual 56, 3) := by decide +kernel
theorem dX3_tear_58 : decode cX3_tear 58 = .ok (.aload_n 0, 1) := by decide +kernel
theorem dX3_tear_59 : decode cX3_tear 59 = .ok (.iload_n 3, 1) := by decide +kernel
theorem dX3_tear_60 : decode cX3_tear 60 = .ok (.iconst 5, 1) := by decide +kernel
theorem dX3_tear_61 : decode cX3_tear 61 = .ok (.iconst (-1), 1) := by decide +kernel
theorem dX3_tear_62 : decode cX3_tear 62 = .ok (.invokevirtual 56, 3) := by decide +kernel
theorem dX3_tear_65 : decode cX3_tear 65 = .ok (.iinc 3 1, 3) := by decide +kernel
theorem dX3_tear_68 : decode cX3_tear 68 = .ok (.goto (-62), 3) := by decide +kernel
theorem dX3_tear_71 : decode cX3_tear 71 = .ok (.iload_n 2, 1) := by decide +kernel
theorem dX3_tear_72 : decode cX3_tear 72 = .ok (.ireturn, 1) := by decide +kernel
theorem dX3_fall_0 : decode cX3_fall 0 = .ok (.aload_n 0, 1) := by decide +kernel
theorem dX3_fall_1 : decode cX3_fall 1 = .ok (.iload_n 1, 1) := by decide +kernel
theorem dX3_fall_2 : decode cX3_fall 2 = .ok (.iconst 2, 1) := by decide +kernel
theorem dX3_fall_3 : decode cX3_fall 3 = .ok (.iconst 0, 1) := by decide +kernel
theorem dX3_fall_4 : decode cX3_fall 4 = .ok (.invokevirtual 56, 3) := by decide +kernel
theorem dX3_fall_7 : decode cX3_fall 7 = .ok (.aload_n 0, 1) := by decide +kernel
theorem dX3_fall_8 : decode cX3_fall 8 = .ok (.iload_n 1, 1) := by decide +kernel
theorem dX3_fall_9 : decode cX3_fall 9 = .ok (.invokevirtual 60, 3) := by decide +kernel
theorem dX3_fall_12 : decode cX3_fall 12 = .ok (.pop, 1) := by decide +kernel
theorem dX3_fall_13 : decode cX3_fall 13 = .ok (.aload_n 0, 1) := by decide +kernel
theorem dX3_fall_14 : decode cX3_fall 14 = .ok (.iload_n 1, 1) := by decide +kernel
theorem dX3_fall_15 : decode cX3_fall 15 = .ok (.iconst 3, 1) := by decide +kernel
theorem dX3_fall_16 : decode cX3_fall 16 = .ok (.iconst 0, 1) := by decide +kernel
theorem dX3_fall_17 : decode cX3_fall 17 = .ok (.invokevirtual 56, 3) := by decide +kernel
theorem dX3_fall_20 : decode cX3_fall 20 = .ok (.aload_n 0, 1) := by decide +kernel
theorem dX3_fall_21 : decode cX3_fall 21 = .ok (.iload_n 1, 1) := by decide +kernel
theorem dX3_fall_22 : decode cX3_fall 22 = .ok (.iconst 4, 1) := by decide +kernel
theorem dX3_fall_23 : decode cX3_fall 23 = .ok (.iconst (-1), 1) := by decide +kernel
theorem dX3_fall_24 : decode cX3_fall 24 = .ok (.invokevirtual 56, 3) := by decide +kernel
theorem dX3_fall_27 : decode cX3_fall 27 = .ok (.aload_n 0, 1) := by decide +kernel
theorem dX3_fall_28 : decode cX3_fall 28 = .ok (.iload_n 1, 1) := by decide +kernel
theorem dX3_fall_29 : decode cX3_fall 29 = .ok (.iconst 5, 1) := by decide +kernel
theorem dX3_fall_30 : decode cX3_fall 30 = .ok (.iconst (-1), 1) := by decide +kernel
theorem dX3_fall_31 : decode cX3_fall 31 = .ok (.invokevirtual 56, 3) := by decide +kernel
theorem dX3_fall_34 : decode cX3_fall 34 = .ok (.iconst 0, 1) := by decide +kernel
theorem dX3_fall_35 : decode cX3_fall 35 = .ok (.istore_n 2, 1) := by decide +kernel
theorem dX3_fall_36 : decode cX3_fall 36 = .ok (.iload_n 2, 1) := by decide +kernel
theorem dX3_fall_37 : decode cX3_fall 37 = .ok (.aload_n 0, 1) := by decide +kernel
theorem dX3_fall_38 : decode cX3_fall 38 = .ok (.getfield 63, 3) := by decide +kernel
theorem dX3_fall_41 : decode cX3_fall 41 = .ok (.if_icmp .ge 40, 3) := by decide +kernel
theorem dX3_fall_44 : decode cX3_fall 44 = .ok (.aload_n 0, 1) := by decide +kernel
theorem dX3_fall_45 : decode cX3_fall 45 = .ok (.iload_n 2, 1) := by decide +kernel
theorem dX3_fall_46 : decode cX3_fall 46 = .ok (.iconst 0, 1) := by decide +kernel
theorem dX3_fall_47 : decode cX3_fall 47 = .ok (.invokevirtual 66, 3) := by decide +kernel
theorem dX3_fall_50 : decode cX3_fall 50 = .ok (.iload_n 1, 1) := by decide +kernel
theorem dX3_fall_51 : decode cX3_fall 51 = .ok (.if_icmp .eq 13, 3) := by decide +kernel
theorem dX3_fall_54 : decode cX3_fall 54 = .ok (.aload_n 0, 1) := by decide +kernel
theorem dX3_fall_55 : decode cX3_fall 55 = .ok (.iload_n 2, 1) := by decide +kernel
theorem dX3_fall_56 : decode cX3_fall 56 = .ok (.iconst 1, 1) := by decide +kernel
theorem dX3_fall_57 : decode cX3_fall 57 = .ok (.invokevirtual 66, 3) := by decide +kernel
theorem dX3_fall_60 : decode cX3_fall 60 = .ok (.iload_n 1, 1) := by decide +kernel
theorem dX3_fall_61 : decode cX3_fall 61 = .ok (.if_icmp .ne 14, 3) := by decide +kernel
theorem dX3_fall_64 : decode cX3_fall 64 = .ok (.aload_n 0, 1) := by decide +kernel
theorem dX3_fall_65 : decode cX3_fall 65 = .ok (.getfield 13, 3) := by decide +kernel
theorem dX3_fall_68 : decode cX3_fall 68 = .ok (.iconst 3, 1) := by decide +kernel
theorem dX3_fall_69 : decode cX3_fall 69 = .ok (.iload_n 2, 1) := by decide +kernel
theorem dX3_fall_70 : decode cX3_fall 70 = .ok (.imul, 1) := by decide +kernel
theorem dX3_fall_71 : decode cX3_fall 71 = .ok (.iconst 2, 1) := by decide +kernel
theorem dX3_fall_72 : decode cX3_fall 72 = .ok (.iadd, 1) := by decide +kernel
theorem dX3_fall_73 : decode cX3_fall 73 = .ok (.iconst 1, 1) := by decide +kernel
theorem dX3_fall_74 : decode cX3_fall 74 = .ok (.iastore, 1) := by decide +kernel
theorem dX3_fall_75 : decode cX3_fall 75 = .ok (.iinc 2 1, 3) := by decide +kernel
theorem dX3_fall_78 : decode cX3_fall 78 = .ok (.goto (-42), 3) := by decide +kernel
theorem dX3_fall_81 : decode cX3_fall 81 = .ok (.return_, 1) := by decide +kernel
theorem dX3_drop_0 : decode cX3_drop 0 = .ok (.iconst 0, 1) := by decide +kernel
theorem dX3_drop_1 : decode cX3_drop 1 = .ok (.istore_n 1, 1) := by decide +kernel
theorem dX3_drop_2 : decode cX3_drop 2 = .ok (.iload_n 1, 1) := by decide +kernel
theorem dX3_drop_3 : decode cX3_drop 3 = .ok (.aload_n 0, 1) := by decide +kernel
theorem dX3_drop_4 : decode cX3_drop 4 = .ok (.getfield 32, 3) := by decide +kernel
theorem dX3_drop_7 : decode cX3_drop 7 = .ok (.if_icmp .ge 41, 3) := by decide +kernel
theorem dX3_drop_10 : decode cX3_drop 10 = .ok (.aload_n 0, 1) := by decide +kernel
theorem dX3_drop_11 : decode cX3_drop 11 = .ok (.iload_n 1, 1) := by decide +kernel
theorem dX3_drop_12 : decode cX3_drop 12 = .ok (.invokevirtual 43, 3) := by decide +kernel
theorem dX3_drop_15 : decode cX3_drop 15 = .ok (.ifCond .eq 27, 3) := by decide +kernel
theorem dX3_drop_18 : decode cX3_drop 18 = .ok (.aload_n 0, 1) := by decide +kernel
theorem dX3_drop_19 : decode cX3_drop 19 = .ok (.iload_n 1, 1) := by decide +kernel
theorem dX3_drop_20 : decode cX3_drop 20 = .ok (.iconst 3, 1) := by decide +kernel
theorem dX3_drop_21 : decode cX3_drop 21 = .ok (.invokevirtual 39, 3) := by decide +kernel
theorem dX3_drop_24 : decode cX3_drop 24 = .ok (.ifCond .ne 18, 3) := by decide +kernel
theorem dX3_drop_27 : decode cX3_drop 27 = .ok (.aload_n 0, 1) := by decide +kernel
theorem dX3_drop_28 : decode cX3_drop 28 = .ok (.iload_n 1, 1) := by decide +kernel
theorem dX3_drop_29 : decode cX3_drop 29 = .ok (.iconst 4, 1) := by decide +kernel
theorem dX3_drop_30 : decode cX3_drop 30 = .ok (.invokevirtual 39, 3) := by decide +kernel
theorem dX3_drop_33 : decode cX3_drop 33 = .ok (.iconst (-1), 1) := by decide +kernel
theorem dX3_drop_34 : decode cX3_drop 34 = .ok (.if_icmp .ne 8, 3) := by decide +kernel
theorem dX3_drop_37 : decode cX3_drop 37 = .ok (.aload_n 0, 1) := by decide +kernel
theorem dX3_drop_38 : decode cX3_drop 38 = .ok (.iload_n 1, 1) := by decide +kernel
theorem dX3_drop_39 : decode cX3_drop 39 = .ok (.invokevirtual 69, 3) := by decide +kernel
theorem dX3_drop_42 : decode cX3_drop 42 = .ok (.iinc 1 1, 3) := by decide +kernel
theorem dX3_drop_45 : decode cX3_drop 45 = .ok (.goto (-43), 3) := by decide +kernel
theorem dX3_drop_48 : decode cX3_drop 48 = .ok (.return_, 1) := by decide +kernel
theorem dX3_giveWay_0 : decode cX3_giveWay 0 = .ok (.iconst 1, 1) := by decide +kernel
theorem dX3_giveWay_1 : decode cX3_giveWay 1 = .ok (.istore_n 1, 1) := by decide +kernel
theorem dX3_giveWay_2 : decode cX3_giveWay 2 = .ok (.iload_n 1, 1) := by decide +kernel
theorem dX3_giveWay_3 : decode cX3_giveWay 3 = .ok (.ifCond .eq 102, 3) := by decide +kernel
theorem dX3_giveWay_6 : decode cX3_giveWay 6 = .ok (.iconst 0, 1) := by decide +kernel
theorem dX3_giveWay_7 : decode cX3_giveWay 7 = .ok (.istore_n 1, 1) := by decide +kernel
theorem dX3_giveWay_8 : decode cX3_giveWay 8 = .ok (.aload_n 0, 1) := by decide +kernel
theorem dX3_giveWay_9 : decode cX3_giveWay 9 = .ok (.invokevirtual 73, 3) := by decide +kernel
theorem dX3_giveWay_12 : decode cX3_giveWay 12 = .ok (.iconst 0, 1) := by decide +kernel
theorem dX3_giveWay_13 : decode cX3_giveWay 13 = .ok (.istore_n 2, 1) := by decide +kernel
theorem dX3_giveWay_14 : decode cX3_giveWay 14 = .ok (.iload_n 2, 1) := by decide +kernel
theorem dX3_giveWay_15 : decode cX3_giveWay 15 = .ok (.aload_n 0, 1) := by decide +kernel
theorem dX3_giveWay_16 : decode cX3_giveWay 16 = .ok (.getfield 32, 3) := by decide +kernel
theorem dX3_giveWay_19 : decode cX3_giveWay 19 = .ok (.if_icmp .ge 79, 3) := by decide +kernel
theorem dX3_giveWay_22 : decode cX3_giveWay 22 = .ok (.aload_n 0, 1) := by decide +kernel
theorem dX3_giveWay_23 : decode cX3_giveWay 23 = .ok (.iload_n 2, 1) := by decide +kernel
theorem dX3_giveWay_24 : decode cX3_giveWay 24 = .ok (.invokevirtual 43, 3) := by decide +kernel
theorem dX3_giveWay_27 : decode cX3_giveWay 27 = .ok (.ifCond .ne 6, 3) := by decide +kernel
theorem dX3_giveWay_30 : decode cX3_giveWay 30 = .ok (.goto 62, 3) := by decide +kernel
theorem dX3_giveWay_33 : decode cX3_giveWay 33 = .ok (.aload_n 0, 1) := by decide +kernel
theorem dX3_giveWay_34 : decode cX3_giveWay 34 = .ok (.getfield 22, 3) := by decide +kernel
theorem dX3_giveWay_37 : decode cX3_giveWay 37 = .ok (.iload_n 2, 1) := by decide +kernel
theorem dX3_giveWay_38 : decode cX3_giveWay 38 = .ok (.iaload, 1) := by decide +kernel
theorem dX3_giveWay_39 : decode cX3_giveWay 39 = .ok (.aload_n 0, 1) := by decide +kernel
theorem dX3_giveWay_40 : decode cX3_giveWay 40 = .ok (.iload_n 2, 1) := by decide +kernel
theorem dX3_giveWay_41 : decode cX3_giveWay 41 = .ok (.iconst 1, 1) := by decide +kernel
theorem dX3_giveWay_42 : decode cX3_giveWay 42 = .ok (.invokevirtual 39, 3) := by decide +kernel
theorem dX3_giveWay_45 : decode cX3_giveWay 45 = .ok (.if_icmp .le 11, 3) := by decide +kernel
theorem dX3_giveWay_48 : decode cX3_giveWay 48 = .ok (.iload_n 1, 1) := by decide +kernel
theorem dX3_giveWay_49 : decode cX3_giveWay 49 = .ok (.aload_n 0, 1) := by decide +kernel
theorem dX3_giveWay_50 : decode cX3_giveWay 50 = .ok (.iload_n 2, 1) := by decide +kernel
theorem dX3_giveWay_51 : decode cX3_giveWay 51 = .ok (.invokevirtual 60, 3) := by decide +kernel
theorem dX3_giveWay_54 : decode cX3_giveWay 54 = .ok (.ior, 1) := by decide +kernel
theorem dX3_giveWay_55 : decode cX3_giveWay 55 = .ok (.istore_n 1, 1) := by decide +kernel
theorem dX3_giveWay_56 : decode cX3_giveWay 56 = .ok (.aload_n 0, 1) := by decide +kernel
theorem dX3_giveWay_57 : decode cX3_giveWay 57 = .ok (.iload_n 2, 1) := by decide +kernel
theorem dX3_giveWay_58 : decode cX3_giveWay 58 = .ok (.iconst 3, 1) := by decide +kernel
theorem dX3_giveWay_59 : decode cX3_giveWay 59 = .ok (.invokevirtual 39, 3) := by decide +kernel
theorem dX3_giveWay_62 : decode cX3_giveWay 62 = .ok (.ifCond .eq 30, 3) := by decide +kernel
theorem dX3_giveWay_65 : decode cX3_giveWay 65 = .ok (.aload_n 0, 1) := by decide +kernel
theorem dX3_giveWay_66 : decode cX3_giveWay 66 = .ok (.iload_n 2, 1) := by decide +kernel
theorem dX3_giveWay_67 : decode cX3_giveWay 67 = .ok (.iconst 3, 1) := by decide +kernel
theorem dX3_giveWay_68 : decode cX3_giveWay 68 = .ok (.invokevirtual 39, 3) := by decide +kernel
theorem dX3_giveWay_71 : decode cX3_giveWay 71 = .ok (.aload_n 0, 1) := by decide +kernel
theorem dX3_giveWay_72 : decode cX3_giveWay 72 = .ok (.getfield 19, 3) := by decide +kernel
theorem dX3_giveWay_75 : decode cX3_giveWay 75 = .ok (.iload_n 2, 1) := by decide +kernel
theorem dX3_giveWay_76 : decode cX3_giveWay 76 = .ok (.iaload, 1) := by decide +kernel
theorem dX3_giveWay_77 : decode cX3_giveWay 77 = .ok (.if_icmp .lt 6, 3) := by decide +kernel
theorem dX3_giveWay_80 : decode cX3_giveWay 80 = .ok (.goto 12, 3) := by decide +kernel
theorem dX3_giveWay_83 : decode cX3_giveWay 83 = .ok (.aload_n 0, 1) := by decide +kernel
theorem dX3_giveWay_84 : decode cX3_giveWay 84 = .ok (.iload_n 2, 1) := by decide +kernel
theorem dX3_giveWay_85 : decode cX3_giveWay 85 = .ok (.iconst 3, 1) := by decide +kernel
theorem dX3_giveWay_86 : decode cX3_giveWay 86 = .ok (.iconst 0, 1) := by decide +kernel
theorem dX3_giveWay_87 : decode cX3_giveWay 87 = .ok (.invokevirtual 56, 3) := by decide +kernel
theorem dX3_giveWay_90 : decode cX3_giveWay 90 = .ok (.iconst 1, 1) := by decide +kernel
theorem dX3_giveWay_91 : decode cX3_giveWay 91 = .ok (.istore_n 1, 1) := by decide +kernel
theorem dX3_giveWay_92 : decode cX3_giveWay 92 = .ok (.iinc 2 1, 3) := by decide +kernel
theorem dX3_giveWay_95 : decode cX3_giveWay 95 = .ok (.goto (-81), 3) := by decide +kernel
theorem dX3_giveWay_98 : decode cX3_giveWay 98 = .ok (.aload_n 0, 1) := by decide +kernel
theorem dX3_giveWay_99 : decode cX3_giveWay 99 = .ok (.invokevirtual 76, 3) := by decide +kernel
theorem dX3_giveWay_102 : decode cX3_giveWay 102 = .ok (.goto (-100), 3) := by decide +kernel
theorem dX3_giveWay_105 : decode cX3_giveWay 105 = .ok (.aload_n 0, 1) := by decide +kernel
theorem dX3_giveWay_106 : decode cX3_giveWay 106 = .ok (.invokevirtual 73, 3) := by decide +kernel
theorem dX3_giveWay_109 : decode cX3_giveWay 109 = .ok (.return_, 1) := by decide +kernel
theorem dX3_hanging_0 : decode cX3_hanging 0 = .ok (.iconst 0, 1) := by decide +kernel
theorem dX3_hanging_1 : decode cX3_hanging 1 = .ok (.istore_n 1, 1) := by decide +kernel
theorem dX3_hanging_2 : decode cX3_hanging 2 = .ok (.iconst 0, 1) := by decide +kernel
theorem dX3_hanging_3 : decode cX3_hanging 3 = .ok (.istore_n 2, 1) := by decide +kernel
theorem dX3_hanging_4 : decode cX3_hanging 4 = .ok (.iload_n 2, 1) := by decide +kernel
theorem dX3_hanging_5 : decode cX3_hanging 5 = .ok (.aload_n 0, 1) := by decide +kernel
theorem dX3_hanging_6 : decode cX3_hanging 6 = .ok (.getfield 32, 3) := by decide +kernel
theorem dX3_hanging_9 : decode cX3_hanging 9 = .ok (.if_icmp .ge 18, 3) := by decide +kernel
theorem dX3_hanging_12 : decode cX3_hanging 12 = .ok (.iload_n 1, 1) := by decide +kernel
theorem dX3_hanging_13 : decode cX3_hanging 13 = .ok (.aload_n 0, 1) := by decide +kernel
theorem dX3_hanging_14 : decode cX3_hanging 14 = .ok (.iload_n 2, 1) := by decide +kernel
theorem dX3_hanging_15 : decode cX3_hanging 15 = .ok (.iconst 2, 1) := by decide +kernel
theorem dX3_hanging_16 : decode cX3_hanging 16 = .ok (.invokevirtual 39, 3) := by decide +kernel
theorem dX3_hanging_19 : decode cX3_hanging 19 = .ok (.iadd, 1) := by decide +kernel
theorem dX3_hanging_20 : decode cX3_hanging 20 = .ok (.istore_n 1, 1) := by decide +kernel
theorem dX3_hanging_21 : decode cX3_hanging 21 = .ok (.iinc 2 1, 3) := by decide +kernel
theorem dX3_hanging_24 : decode cX3_hanging 24 = .ok (.goto (-20), 3) := by decide +kernel
theorem dX3_hanging_27 : decode cX3_hanging 27 = .ok (.iload_n 1, 1) := by decide +kernel
theorem dX3_hanging_28 : decode cX3_hanging 28 = .ok (.ireturn, 1) := by decide +kernel
theorem dX3_stone_0 : decode cX3_stone 0 = .ok (.bipush 7, 2) := by decide +kernel
theorem dX3_stone_2 : decode cX3_stone 2 = .ok (.newarray .int, 2) := by decide +kernel
theorem dX3_stone_4 : decode cX3_stone 4 = .ok (.dup, 1) := by decide +kernel
theorem dX3_stone_5 : decode cX3_stone 5 = .ok (.iconst 0, 1) := by decide +kernel
theorem dX3_stone_6 : decode cX3_stone 6 = .ok (.iload_n 1, 1) := by decide +kernel
theorem dX3_stone_7 : decode cX3_stone 7 = .ok (.iastore, 1) := by decide +kernel
theorem dX3_stone_8 : decode cX3_stone 8 = .ok (.dup, 1) := by decide +kernel
theorem dX3_stone_9 : decode cX3_stone 9 = .ok (.iconst 1, 1) := by decide +kernel
theorem dX3_stone_10 : decode cX3_stone 10 = .ok (.iload_n 2, 1) := by decide +kernel
theorem dX3_stone_11 : decode cX3_stone 11 = .ok (.iastore, 1) := by decide +kernel
theorem dX3_stone_12 : decode cX3_stone 12 = .ok (.dup, 1) := by decide +kernel
theorem dX3_stone_13 : decode cX3_stone 13 = .ok (.iconst 2, 1) := by decide +kernel
theorem dX3_stone_14 : decode cX3_stone 14 = .ok (.iconst 1, 1) := by decide +kernel
theorem dX3_stone_15 : decode cX3_stone 15 = .ok (.iastore, 1) := by decide +kernel
theorem dX3_stone_16 : decode cX3_stone 16 = .ok (.dup, 1) := by decide +kernel
theorem dX3_stone_17 : decode cX3_stone 17 = .ok (.iconst 3, 1) := by decide +kernel
theorem dX3_stone_18 : decode cX3_stone 18 = .ok (.iload_n 3, 1) := by decide +kernel
theorem dX3_stone_19 : decode cX3_stone 19 = .ok (.iastore, 1) := by decide +kernel
theorem dX3_stone_20 : decode cX3_stone 20 = .ok (.dup, 1) := by decide +kernel
theorem dX3_stone_21 : decode cX3_stone 21 = .ok (.iconst 4, 1) := by decide +kernel
theorem dX3_stone_22 : decode cX3_stone 22 = .ok (.iload 4, 2) := by decide +kernel
theorem dX3_stone_24 : decode cX3_stone 24 = .ok (.iastore, 1) := by decide +kernel
theorem dX3_stone_25 : decode cX3_stone 25 = .ok (.dup, 1) := by decide +kernel
theorem dX3_stone_26 : decode cX3_stone 26 = .ok (.iconst 5, 1) := by decide +kernel
theorem dX3_stone_27 : decode cX3_stone 27 = .ok (.iload 5, 2) := by decide +kernel
theorem dX3_stone_29 : decode cX3_stone 29 = .ok (.iastore, 1) := by decide +kernel
theorem dX3_stone_30 : decode cX3_stone 30 = .ok (.dup, 1) := by decide +kernel
theorem dX3_stone_31 : decode cX3_stone 31 = .ok (.bipush 6, 2) := by decide +kernel
theorem dX3_stone_33 : decode cX3_stone 33 = .ok (.iconst 0, 1) := by decide +kernel
theorem dX3_stone_34 : decode cX3_stone 34 = .ok (.iastore, 1) := by decide +kernel
theorem dX3_stone_35 : decode cX3_stone 35 = .ok (.astore 6, 2) := by decide +kernel
theorem dX3_stone_37 : decode cX3_stone 37 = .ok (.aload 6, 2) := by decide +kernel
theorem dX3_stone_39 : decode cX3_stone 39 = .ok (.iconst 0, 1) := by decide +kernel
theorem dX3_stone_40 : decode cX3_stone 40 = .ok (.aload_n 0, 1) := by decide +kernel
theorem dX3_stone_41 : decode cX3_stone 41 = .ok (.getfield 9, 3) := by decide +kernel
theorem dX3_stone_44 : decode cX3_stone 44 = .ok (.bipush 7, 2) := by decide +kernel
theorem dX3_stone_46 : decode cX3_stone 46 = .ok (.aload_n 0, 1) := by decide +kernel
theorem dX3_stone_47 : decode cX3_stone 47 = .ok (.getfield 32, 3) := by decide +kernel
theorem dX3_stone_50 : decode cX3_stone 50 = .ok (.imul, 1) := by decide +kernel
theorem dX3_stone_51 : decode cX3_stone 51 = .ok (.bipush 7, 2) := by decide +kernel
theorem dX3_stone_53 : decode cX3_stone 53 = .ok (.invokestatic 79, 3) := by decide +kernel
theorem dX3_stone_56 : decode cX3_stone 56 = .ok (.aload_n 0, 1) := by decide +kernel
theorem dX3_stone_57 : decode cX3_stone 57 = .ok (.dup, 1) := by decide +kernel
theorem dX3_stone_58 : decode cX3_stone 58 = .ok (.getfield 32, 3) := by decide +kernel
theorem dX3_stone_61 : decode cX3_stone 61 = .ok (.iconst 1, 1) := by decide +kernel
theorem dX3_stone_62 : decode cX3_stone 62 = .ok (.iadd, 1) := by decide +kernel
theorem dX3_stone_63 : decode cX3_stone 63 = .ok (.putfield 32, 3) := by decide +kernel
theorem dX3_stone_66 : decode cX3_stone 66 = .ok (.aload_n 0, 1) := by decide +kernel
theorem dX3_stone_67 : decode cX3_stone 67 = .ok (.invokevirtual 85, 3) := by decide +kernel
theorem dX3_stone_70 : decode cX3_stone 70 = .ok (.aload_n 0, 1) := by decide +kernel
theorem dX3_stone_71 : decode cX3_stone 71 = .ok (.getfield 32, 3) := by decide +kernel
theorem dX3_stone_74 : decode cX3_stone 74 = .ok (.iconst 1, 1) := by decide +kernel
theorem dX3_stone_75 : decode cX3_stone 75 = .ok (.isub, 1) := by decide +kernel
theorem dX3_stone_76 : decode cX3_stone 76 = .ok (.ireturn, 1) := by decide +kernel
theorem dX3_conjure_0 : decode cX3_conjure 0 = .ok (.aload_n 0, 1) := by decide +kernel
theorem dX3_conjure_1 : decode cX3_conjure 1 = .ok (.iconst 0, 1) := by decide +kernel
theorem dX3_conjure_2 : decode cX3_conjure 2 = .ok (.putfield 28, 3) := by decide +kernel
theorem dX3_conjure_5 : decode cX3_conjure 5 = .ok (.iload_n 1, 1) := by decide +kernel
theorem dX3_conjure_6 : decode cX3_conjure 6 = .ok (.iconst 1, 1) := by decide +kernel
theorem dX3_conjure_7 : decode cX3_conjure 7 = .ok (.bipush 20, 2) := by decide +kernel
theorem dX3_conjure_9 : decode cX3_conjure 9 = .ok (.invokestatic 35, 3) := by decide +kernel
theorem dX3_conjure_12 : decode cX3_conjure 12 = .ok (.ifCond .eq 24, 3) := by decide +kernel
theorem dX3_conjure_15 : decode cX3_conjure 15 = .ok (.iload_n 2, 1) := by decide +kernel
theorem dX3_conjure_16 : decode cX3_conjure 16 = .ok (.iconst 1, 1) := by decide +kernel
theorem dX3_conjure_17 : decode cX3_conjure 17 = .ok (.bipush 60, 2) := by decide +kernel
theorem dX3_conjure_19 : decode cX3_conjure 19 = .ok (.invokestatic 35, 3) := by decide +kernel
theorem dX3_conjure_22 : decode cX3_conjure 22 = .ok (.ifCond .eq 14, 3) := by decide +kernel
theorem dX3_conjure_25 : decode cX3_conjure 25 = .ok (.iload_n 3, 1) := by decide +kernel
theorem dX3_conjure_26 : decode cX3_conjure 26 = .ok (.iconst 1, 1) := by decide +kernel
theorem dX3_conjure_27 : decode cX3_conjure 27 = .ok (.sipush 200, 3) := by decide +kernel
theorem dX3_conjure_30 : decode cX3_conjure 30 = .ok (.invokestatic 35, 3) := by decide +kernel
theorem dX3_conjure_33 : decode cX3_conjure 33 = .ok (.ifCond .ne 9, 3) := by decide +kernel
theorem dX3_conjure_36 : decode cX3_conjure 36 = .ok (.aload_n 0, 1) := by decide +kernel
theorem dX3_conjure_37 : decode cX3_conjure 37 = .ok (.iconst 1, 1) := by decide +kernel
theorem dX3_conjure_38 : decode cX3_conjure 38 = .ok (.invokevirtual 88, 3) := by decide +kernel
theorem dX3_conjure_41 : decode cX3_conjure 41 = .ok (.ireturn, 1) := by decide +kernel
theorem dX3_conjure_42 : decode cX3_conjure 42 = .ok (.aload_n 0, 1) := by decide +kernel
theorem dX3_conjure_43 : decode cX3_conjure 43 = .ok (.getfield 32, 3) := by decide +kernel
theorem dX3_conjure_46 : decode cX3_conjure 46 = .ok (.bipush 40, 2) := by decide +kernel
theorem dX3_conjure_48 : decode cX3_conjure 48 = .ok (.if_icmp .ne 11, 3) := by decide +kernel
theorem dX3_conjure_51 : decode cX3_conjure 51 = .ok (.aload_n 0, 1) := by decide +kernel
theorem dX3_conjure_52 : decode cX3_conjure 52 = .ok (.iconst 2, 1) := by decide +kernel
theorem dX3_conjure_53 : decode cX3_conjure 53 = .ok (.invokevirtual 88, 3) := by decide +kernel
theorem dX3_conjure_56 : decode cX3_conjure 56 = .ok (.goto 12, 3) := by decide +kernel
theorem dX3_conjure_59 : decode cX3_conjure 59 = .ok (.aload_n 0, 1) := by decide +kernel
theorem dX3_conjure_60 : decode cX3_conjure 60 = .ok (.iload_n 1, 1) := by decide +kernel
theorem dX3_conjure_61 : decode cX3_conjure 61 = .ok (.iload_n 2, 1) := by decide +kernel
theorem dX3_conjure_62 : decode cX3_conjure 62 = .ok (.iload_n 3, 1) := by decide +kernel
theorem dX3_conjure_63 : decode cX3_conjure 63 = .ok (.iconst (-1), 1) := by decide +kernel
theorem dX3_conjure_64 : decode cX3_conjure 64 = .ok (.iconst (-1), 1) := by decide +kernel
theorem dX3_conjure_65 : decode cX3_conjure 65 = .ok (.invokevirtual 92, 3) := by decide +kernel
theorem dX3_conjure_68 : decode cX3_conjure 68 = .ok (.ireturn, 1) := by decide +kernel
theorem dX3_hang_0 : decode cX3_hang 0 = .ok (.aload_n 0, 1) := by decide +kernel
theorem dX3_hang_1 : decode cX3_hang 1 = .ok (.iconst 0, 1) := by decide +kernel
theorem dX3_hang_2 : decode cX3_hang 2 = .ok (.putfield 28, 3) := by decide +kernel
theorem dX3_hang_5 : decode cX3_hang 5 = .ok (.iload_n 1, 1) := by decide +kernel
theorem dX3_hang_6 : decode cX3_hang 6 = .ok (.iconst 1, 1) := by decide +kernel
theorem dX3_hang_7 : decode cX3_hang 7 = .ok (.bipush 20, 2) := by decide +kernel
theorem dX3_hang_9 : decode cX3_hang 9 = .ok (.invokestatic 35, 3) := by decide +kernel
theorem dX3_hang_12 : decode cX3_hang 12 = .ok (.ifCond .eq 19, 3) := by decide +kernel
theorem dX3_hang_15 : decode cX3_hang 15 = .ok (.iload_n 2, 1) := by decide +kernel
theorem dX3_hang_16 : decode cX3_hang 16 = .ok (.iconst 1, 1) := by decide +kernel
theorem dX3_hang_17 : decode cX3_hang 17 = .ok (.bipush 60, 2) := by decide +kernel
theorem dX3_hang_19 : decode cX3_hang 19 = .ok (.invokestatic 35, 3) := by decide +kernel
theorem dX3_hang_22 : decode cX3_hang 22 = .ok (.ifCond .eq 9, 3) := by decide +kernel
theorem dX3_hang_25 : decode cX3_hang 25 = .ok (.iload_n 3, 1) := by decide +kernel
theorem dX3_hang_26 : decode cX3_hang 26 = .ok (.iload 4, 2) := by decide +kernel
theorem dX3_hang_28 : decode cX3_hang 28 = .ok (.if_icmp .ne 9, 3) := by decide +kernel
theorem dX3_hang_31 : decode cX3_hang 31 = .ok (.aload_n 0, 1) := by decide +kernel
theorem dX3_hang_32 : decode cX3_hang 32 = .ok (.iconst 1, 1) := by decide +kernel
theorem dX3_hang_33 : decode cX3_hang 33 = .ok (.invokevirtual 88, 3) := by decide +kernel
theorem dX3_hang_36 : decode cX3_hang 36 = .ok (.ireturn, 1) := by decide +kernel
theorem dX3_hang_37 : decode cX3_hang 37 = .ok (.aload_n 0, 1) := by decide +kernel
theorem dX3_hang_38 : decode cX3_hang 38 = .ok (.iload_n 3, 1) := by decide +kernel
theorem dX3_hang_39 : decode cX3_hang 39 = .ok (.invokevirtual 96, 3) := by decide +kernel
theorem dX3_hang_42 : decode cX3_hang 42 = .ok (.ifCond .eq 18, 3) := by decide +kernel
theorem dX3_hang_45 : decode cX3_hang 45 = .ok (.iload 4, 2) := by decide +kernel
theorem dX3_hang_47 : decode cX3_hang 47 = .ok (.iconst (-1), 1) := by decide +kernel
theorem dX3_hang_48 : decode cX3_hang 48 = .ok (.if_icmp .eq 18, 3) := by decide +kernel
theorem dX3_hang_51 : decode cX3_hang 51 = .ok (.aload_n 0, 1) := by decide +kernel
theorem dX3_hang_52 : decode cX3_hang 52 = .ok (.iload 4, 2) := by decide +kernel
theorem dX3_hang_54 : decode cX3_hang 54 = .ok (.invokevirtual 96, 3) := by decide +kernel
theorem dX3_hang_57 : decode cX3_hang 57 = .ok (.ifCond .ne 9, 3) := by decide +kernel
theorem dX3_hang_60 : decode cX3_hang 60 = .ok (.aload_n 0, 1) := by decide +kernel
theorem dX3_hang_61 : decode cX3_hang 61 = .ok (.iconst 2, 1) := by decide +kernel
theorem dX3_hang_62 : decode cX3_hang 62 = .ok (.invokevirtual 88, 3) := by decide +kernel
theorem dX3_hang_65 : decode cX3_hang 65 = .ok (.ireturn, 1) := by decide +kernel
theorem dX3_hang_66 : decode cX3_hang 66 = .ok (.aload_n 0, 1) := by decide +kernel
theorem dX3_hang_67 : decode cX3_hang 67 = .ok (.getfield 32, 3) := by decide +kernel
theorem dX3_hang_70 : decode cX3_hang 70 = .ok (.bipush 40, 2) := by decide +kernel
theorem dX3_hang_72 : decode cX3_hang 72 = .ok (.if_icmp .eq 26, 3) := by decide +kernel
theorem dX3_hang_75 : decode cX3_hang 75 = .ok (.aload_n 0, 1) := by decide +kernel
theorem dX3_hang_76 : decode cX3_hang 76 = .ok (.iload_n 3, 1) := by decide +kernel
theorem dX3_hang_77 : decode cX3_hang 77 = .ok (.invokevirtual 43, 3) := by decide +kernel
theorem dX3_hang_80 : decode cX3_hang 80 = .ok (.ifCond .eq 18, 3) := by decide +kernel
theorem dX3_hang_83 : decode cX3_hang 83 = .ok (.iload 4, 2) := by decide +kernel
theorem dX3_hang_85 : decode cX3_hang 85 = .ok (.iconst (-1), 1) := by decide +kernel
theorem dX3_hang_86 : decode cX3_hang 86 = .ok (.if_icmp .eq 18, 3) := by decide +kernel
theorem dX3_hang_89 : decode cX3_hang 89 = .ok (.aload_n 0, 1) := by decide +kernel
theorem dX3_hang_90 : decode cX3_hang 90 = .ok (.iload 4, 2) := by decide +kernel
theorem dX3_hang_92 : decode cX3_hang 92 = .ok (.invokevirtual 43, 3) := by decide +kernel
theorem dX3_hang_95 : decode cX3_hang 95 = .ok (.ifCond .ne 9, 3) := by decide +kernel
theorem dX3_hang_98 : decode cX3_hang 98 = .ok (.aload_n 0, 1) := by decide +kernel
theorem dX3_hang_99 : decode cX3_hang 99 = .ok (.iconst 3, 1) := by decide +kernel
theorem dX3_hang_100 : decode cX3_hang 100 = .ok (.invokevirtual 88, 3) := by decide +kernel
theorem dX3_hang_103 : decode cX3_hang 103 = .ok (.ireturn, 1) := by decide +kernel
theorem dX3_hang_104 : decode cX3_hang 104 = .ok (.aload_n 0, 1) := by decide +kernel
theorem dX3_hang_105 : decode cX3_hang 105 = .ok (.iload_n 1, 1) := by decide +kernel
theorem dX3_hang_106 : decode cX3_hang 106 = .ok (.iload_n 2, 1) := by decide +kernel
theorem dX3_hang_107 : decode cX3_hang 107 = .ok (.iconst 0, 1) := by decide +kernel
theorem dX3_hang_108 : decode cX3_hang 108 = .ok (.iload_n 3, 1) := by decide +kernel
theorem dX3_hang_109 : decode cX3_hang 109 = .ok (.iload 4, 2) := by decide +kernel
theorem dX3_hang_111 : decode cX3_hang 111 = .ok (.invokevirtual 92, 3) := by decide +kernel
theorem dX3_hang_114 : decode cX3_hang 114 = .ok (.ireturn, 1) := by decide +kernel
theorem dX3_prop_0 : decode cX3_prop 0 = .ok (.aload_n 0, 1) := by decide +kernel
theorem dX3_prop_1 : decode cX3_prop 1 = .ok (.iconst 0, 1) := by decide +kernel
theorem dX3_prop_2 : decode cX3_prop 2 = .ok (.putfield 28, 3) := by decide +kernel
theorem dX3_prop_5 : decode cX3_prop 5 = .ok (.aload_n 0, 1) := by decide +kernel
theorem dX3_prop_6 : decode cX3_prop 6 = .ok (.iload_n 1, 1) := by decide +kernel
theorem dX3_prop_7 : decode cX3_prop 7 = .ok (.invokevirtual 96, 3) := by decide +kernel
theorem dX3_prop_10 : decode cX3_prop 10 = .ok (.ifCond .ne 9, 3) := by decide +kernel
theorem dX3_prop_13 : decode cX3_prop 13 = .ok (.aload_n 0, 1) := by decide +kernel
theorem dX3_prop_14 : decode cX3_prop 14 = .ok (.iconst 1, 1) := by decide +kernel
theorem dX3_prop_15 : decode cX3_prop 15 = .ok (.invokevirtual 88, 3) := by decide +kernel
theorem dX3_prop_18 : decode cX3_prop 18 = .ok (.ireturn, 1) := by decide +kernel
theorem dX3_prop_19 : decode cX3_prop 19 = .ok (.iload_n 2, 1) := by decide +kernel
theorem dX3_prop_20 : decode cX3_prop 20 = .ok (.iconst 0, 1) := by decide +kernel
theorem dX3_prop_21 : decode cX3_prop 21 = .ok (.bipush 60, 2) := by decide +kernel
theorem dX3_prop_23 : decode cX3_prop 23 = .ok (.invokestatic 35, 3) := by decide +kernel
theorem dX3_prop_26 : decode cX3_prop 26 = .ok (.ifCond .ne 9, 3) := by decide +kernel
theorem dX3_prop_29 : decode cX3_prop 29 = .ok (.aload_n 0, 1) := by decide +kernel
theorem dX3_prop_30 : decode cX3_prop 30 = .ok (.iconst 2, 1) := by decide +kernel
theorem dX3_prop_31 : decode cX3_prop 31 = .ok (.invokevirtual 88, 3) := by decide +kernel
theorem dX3_prop_34 : decode cX3_prop 34 = .ok (.ireturn, 1) := by decide +kernel
theorem dX3_prop_35 : decode cX3_prop 35 = .ok (.aload_n 0, 1) := by decide +kernel
theorem dX3_prop_36 : decode cX3_prop 36 = .ok (.iload_n 1, 1) := by decide +kernel
theorem dX3_prop_37 : decode cX3_prop 37 = .ok (.invokevirtual 43, 3) := by decide +kernel
theorem dX3_prop_40 : decode cX3_prop 40 = .ok (.ifCond .ne 9, 3) := by decide +kernel
theorem dX3_prop_43 : decode cX3_prop 43 = .ok (.aload_n 0, 1) := by decide +kernel
theorem dX3_prop_44 : decode cX3_prop 44 = .ok (.iconst 3, 1) := by decide +kernel
theorem dX3_prop_45 : decode cX3_prop 45 = .ok (.invokevirtual 88, 3) := by decide +kernel
theorem dX3_prop_48 : decode cX3_prop 48 = .ok (.ireturn, 1) := by decide +kernel
theorem dX3_prop_49 : decode cX3_prop 49 = .ok (.aload_n 0, 1) := by decide +kernel
theorem dX3_prop_50 : decode cX3_prop 50 = .ok (.invokevirtual 99, 3) := by decide +kernel
theorem dX3_prop_53 : decode cX3_prop 53 = .ok (.istore_n 3, 1) := by decide +kernel
theorem dX3_prop_54 : decode cX3_prop 54 = .ok (.aload_n 0, 1) := by decide +kernel
theorem dX3_prop_55 : decode cX3_prop 55 = .ok (.iload_n 1, 1) := by decide +kernel
theorem dX3_prop_56 : decode cX3_prop 56 = .ok (.bipush 6, 2) := by decide +kernel
theorem dX3_prop_58 : decode cX3_prop 58 = .ok (.iload_n 2, 1) := by decide +kernel
theorem dX3_prop_59 : decode cX3_prop 59 = .ok (.invokevirtual 56, 3) := by decide +kernel
theorem dX3_prop_62 : decode cX3_prop 62 = .ok (.aload_n 0, 1) := by decide +kernel
theorem dX3_prop_63 : decode cX3_prop 63 = .ok (.invokevirtual 85, 3) := by decide +kernel
theorem dX3_prop_66 : decode cX3_prop 66 = .ok (.iload_n 3, 1) := by decide +kernel
theorem dX3_prop_67 : decode cX3_prop 67 = .ok (.aload_n 0, 1) := by decide +kernel
theorem dX3_prop_68 : decode cX3_prop 68 = .ok (.invokevirtual 99, 3) := by decide +kernel
theorem dX3_prop_71 : decode cX3_prop 71 = .ok (.isub, 1) := by decide +kernel
theorem dX3_prop_72 : decode cX3_prop 72 = .ok (.ireturn, 1) := by decide +kernel
theorem dX3_renew_0 : decode cX3_renew 0 = .ok (.aload_n 0, 1) := by decide +kernel
theorem dX3_renew_1 : decode cX3_renew 1 = .ok (.iconst 0, 1) := by decide +kernel
theorem dX3_renew_2 : decode cX3_renew 2 = .ok (.putfield 28, 3) := by decide +kernel
theorem dX3_renew_5 : decode cX3_renew 5 = .ok (.aload_n 0, 1) := by decide +kernel
theorem dX3_renew_6 : decode cX3_renew 6 = .ok (.iload_n 1, 1) := by decide +kernel
theorem dX3_renew_7 : decode cX3_renew 7 = .ok (.invokevirtual 96, 3) := by decide +kernel
theorem dX3_renew_10 : decode cX3_renew 10 = .ok (.ifCond .ne 9, 3) := by decide +kernel
theorem dX3_renew_13 : decode cX3_renew 13 = .ok (.aload_n 0, 1) := by decide +kernel
theorem dX3_renew_14 : decode cX3_renew 14 = .ok (.iconst 1, 1) := by decide +kernel
theorem dX3_renew_15 : decode cX3_renew 15 = .ok (.invokevirtual 88, 3) := by decide +kernel
theorem dX3_renew_18 : decode cX3_renew 18 = .ok (.ireturn, 1) := by decide +kernel
theorem dX3_renew_19 : decode cX3_renew 19 = .ok (.iload_n 2, 1) := by decide +kernel
theorem dX3_renew_20 : decode cX3_renew 20 = .ok (.iconst 1, 1) := by decide +kernel
theorem dX3_renew_21 : decode cX3_renew 21 = .ok (.sipush 200, 3) := by decide +kernel
theorem dX3_renew_24 : decode cX3_renew 24 = .ok (.invokestatic 35, 3) := by decide +kernel
theorem dX3_renew_27 : decode cX3_renew 27 = .ok (.ifCond .ne 9, 3) := by decide +kernel
theorem dX3_renew_30 : decode cX3_renew 30 = .ok (.aload_n 0, 1) := by decide +kernel
theorem dX3_renew_31 : decode cX3_renew 31 = .ok (.iconst 2, 1) := by decide +kernel
theorem dX3_renew_32 : decode cX3_renew 32 = .ok (.invokevirtual 88, 3) := by decide +kernel
theorem dX3_renew_35 : decode cX3_renew 35 = .ok (.ireturn, 1) := by decide +kernel
theorem dX3_renew_36 : decode cX3_renew 36 = .ok (.aload_n 0, 1) := by decide +kernel
theorem dX3_renew_37 : decode cX3_renew 37 = .ok (.iload_n 1, 1) := by decide +kernel
theorem dX3_renew_38 : decode cX3_renew 38 = .ok (.iconst 3, 1) := by decide +kernel
theorem dX3_renew_39 : decode cX3_renew 39 = .ok (.invokevirtual 39, 3) := by decide +kernel
theorem dX3_renew_42 : decode cX3_renew 42 = .ok (.istore_n 3, 1) := by decide +kernel
theorem dX3_renew_43 : decode cX3_renew 43 = .ok (.aload_n 0, 1) := by decide +kernel
theorem dX3_renew_44 : decode cX3_renew 44 = .ok (.invokevirtual 73, 3) := by decide +kernel
theorem dX3_renew_47 : decode cX3_renew 47 = .ok (.iload_n 3, 1) := by decide +kernel
theorem dX3_renew_48 : decode cX3_renew 48 = .ok (.ifCond .eq 13, 3) := by decide +kernel
theorem dX3_renew_51 : decode cX3_renew 51 = .ok (.iload_n 2, 1) := by decide +kernel
theorem dX3_renew_52 : decode cX3_renew 52 = .ok (.aload_n 0, 1) := by decide +kernel
theorem dX3_renew_53 : decode cX3_renew 53 = .ok (.getfield 19, 3) := by decide +kernel
theorem dX3_renew_56 : decode cX3_renew 56 = .ok (.iload_n 1, 1) := by decide +kernel
theorem dX3_renew_57 : decode cX3_renew 57 = .ok (.iaload, 1) := by decide +kernel
theorem dX3_renew_58 : decode cX3_renew 58 = .ok (.if_icmp .ge 9, 3) := by decide +kernel
theorem dX3_renew_61 : decode cX3_renew 61 = .ok (.aload_n 0, 1) := by decide +kernel
theorem dX3_renew_62 : decode cX3_renew 62 = .ok (.iconst 3, 1) := by decide +kernel
theorem dX3_renew_63 : decode cX3_renew 63 = .ok (.invokevirtual 88, 3) := by decide +kernel
theorem dX3_renew_66 : decode cX3_renew 66 = .ok (.ireturn, 1) := by decide +kernel
theorem dX3_renew_67 : decode cX3_renew 67 = .ok (.aload_n 0, 1) := by decide +kernel
theorem dX3_renew_68 : decode cX3_renew 68 = .ok (.iload_n 1, 1) := by decide +kernel
theorem dX3_renew_69 : decode cX3_renew 69 = .ok (.iconst 3, 1) := by decide +kernel
theorem dX3_renew_70 : decode cX3_renew 70 = .ok (.iload_n 2, 1) := by decide +kernel
theorem dX3_renew_71 : decode cX3_renew 71 = .ok (.invokevirtual 56, 3) := by decide +kernel
theorem dX3_renew_74 : decode cX3_renew 74 = .ok (.iload_n 3, 1) := by decide +kernel
theorem dX3_renew_75 : decode cX3_renew 75 = .ok (.ireturn, 1) := by decide +kernel
theorem dX3_stair_0 : decode cX3_stair 0 = .ok (.aload_n 0, 1) := by decide +kernel
theorem dX3_stair_1 : decode cX3_stair 1 = .ok (.iconst 0, 1) := by decide +kernel
theorem dX3_stair_2 : decode cX3_stair 2 = .ok (.putfield 28, 3) := by decide +kernel
theorem dX3_stair_5 : decode cX3_stair 5 = .ok (.aload_n 0, 1) := by decide +kernel
theorem dX3_stair_6 : decode cX3_stair 6 = .ok (.iload_n 1, 1) := by decide +kernel
theorem dX3_stair_7 : decode cX3_stair 7 = .ok (.invokevirtual 96, 3) := by decide +kernel
theorem dX3_stair_10 : decode cX3_stair 10 = .ok (.ifCond .eq 11, 3) := by decide +kernel
theorem dX3_stair_13 : decode cX3_stair 13 = .ok (.aload_n 0, 1) := by decide +kernel
theorem dX3_stair_14 : decode cX3_stair 14 = .ok (.iload_n 2, 1) := by decide +kernel
theorem dX3_stair_15 : decode cX3_stair 15 = .ok (.invokevirtual 96, 3) := by decide +kernel
theorem dX3_stair_18 : decode cX3_stair 18 = .ok (.ifCond .ne 9, 3) := by decide +kernel
theorem dX3_stair_21 : decode cX3_stair 21 = .ok (.aload_n 0, 1) := by decide +kernel
theorem dX3_stair_22 : decode cX3_stair 22 = .ok (.iconst 1, 1) := by decide +kernel
theorem dX3_stair_23 : decode cX3_stair 23 = .ok (.invokevirtual 88, 3) := by decide +kernel
theorem dX3_stair_26 : decode cX3_stair 26 = .ok (.ireturn, 1) := by decide +kernel
theorem dX3_stair_27 : decode cX3_stair 27 = .ok (.iload_n 1, 1) := by decide +kernel
theorem dX3_stair_28 : decode cX3_stair 28 = .ok (.iload_n 2, 1) := by decide +kernel
theorem dX3_stair_29 : decode cX3_stair 29 = .ok (.if_icmp .ne 9, 3) := by decide +kernel
theorem dX3_stair_32 : decode cX3_stair 32 = .ok (.aload_n 0, 1) := by decide +kernel
theorem dX3_stair_33 : decode cX3_stair 33 = .ok (.iconst 2, 1) := by decide +kernel
theorem dX3_stair_34 : decode cX3_stair 34 = .ok (.invokevirtual 88, 3) := by decide +kernel
theorem dX3_stair_37 : decode cX3_stair 37 = .ok (.ireturn, 1) := by decide +kernel
theorem dX3_stair_38 : decode cX3_stair 38 = .ok (.aload_n 0, 1) := by decide +kernel
theorem dX3_stair_39 : decode cX3_stair 39 = .ok (.getfield 63, 3) := by decide +kernel
theorem dX3_stair_42 : decode cX3_stair 42 = .ok (.bipush 30, 2) := by decide +kernel
theorem dX3_stair_44 : decode cX3_stair 44 = .ok (.if_icmp .eq 19, 3) := by decide +kernel
theorem dX3_stair_47 : decode cX3_stair 47 = .ok (.aload_n 0, 1) := by decide +kernel
theorem dX3_stair_48 : decode cX3_stair 48 = .ok (.iload_n 1, 1) := by decide +kernel
theorem dX3_stair_49 : decode cX3_stair 49 = .ok (.invokevirtual 43, 3) := by decide +kernel
theorem dX3_stair_52 : decode cX3_stair 52 = .ok (.ifCond .eq 11, 3) := by decide +kernel
theorem dX3_stair_55 : decode cX3_stair 55 = .ok (.aload_n 0, 1) := by decide +kernel
theorem dX3_stair_56 : decode cX3_stair 56 = .ok (.iload_n 2, 1) := by decide +kernel
theorem dX3_stair_57 : decode cX3_stair 57 = .ok (.invokevirtual 43, 3) := by decide +kernel
theorem dX3_stair_60 : decode cX3_stair 60 = .ok (.ifCond .ne 9, 3) := by decide +kernel
theorem dX3_stair_63 : decode cX3_stair 63 = .ok (.aload_n 0, 1) := by decide +kernel
theorem dX3_stair_64 : decode cX3_stair 64 = .ok (.iconst 3, 1) := by decide +kernel
theorem dX3_stair_65 : decode cX3_stair 65 = .ok (.invokevirtual 88, 3) := by decide +kernel
theorem dX3_stair_68 : decode cX3_stair 68 = .ok (.ireturn, 1) := by decide +kernel
theorem dX3_stair_69 : decode cX3_stair 69 = .ok (.iconst 3, 1) := by decide +kernel
theorem dX3_stair_70 : decode cX3_stair 70 = .ok (.newarray .int, 2) := by decide +kernel
theorem dX3_stair_72 : decode cX3_stair 72 = .ok (.dup, 1) := by decide +kernel
theorem dX3_stair_73 : decode cX3_stair 73 = .ok (.iconst 0, 1) := by decide +kernel
theorem dX3_stair_74 : decode cX3_stair 74 = .ok (.iload_n 1, 1) := by decide +kernel
theorem dX3_stair_75 : decode cX3_stair 75 = .ok (.iastore, 1) := by decide +kernel
theorem dX3_stair_76 : decode cX3_stair 76 = .ok (.dup, 1) := by decide +kernel
theorem dX3_stair_77 : decode cX3_stair 77 = .ok (.iconst 1, 1) := by decide +kernel
theorem dX3_stair_78 : decode cX3_stair 78 = .ok (.iload_n 2, 1) := by decide +kernel
theorem dX3_stair_79 : decode cX3_stair 79 = .ok (.iastore, 1) := by decide +kernel
theorem dX3_stair_80 : decode cX3_stair 80 = .ok (.dup, 1) := by decide +kernel
theorem dX3_stair_81 : decode cX3_stair 81 = .ok (.iconst 2, 1) := by decide +kernel
theorem dX3_stair_82 : decode cX3_stair 82 = .ok (.iconst 0, 1) := by decide +kernel
theorem dX3_stair_83 : decode cX3_stair 83 = .ok (.iastore, 1) := by decide +kernel
theorem dX3_stair_84 : decode cX3_stair 84 = .ok (.astore_n 3, 1) := by decide +kernel
theorem dX3_stair_85 : decode cX3_stair 85 = .ok (.aload_n 3, 1) := by decide +kernel
theorem dX3_stair_86 : decode cX3_stair 86 = .ok (.iconst 0, 1) := by decide +kernel
theorem dX3_stair_87 : decode cX3_stair 87 = .ok (.aload_n 0, 1) := by decide +kernel
theorem dX3_stair_88 : decode cX3_stair 88 = .ok (.getfield 13, 3) := by decide +kernel
theorem dX3_stair_91 : decode cX3_stair 91 = .ok (.iconst 3, 1) := by decide +kernel
theorem dX3_stair_92 : decode cX3_stair 92 = .ok (.aload_n 0, 1) := by decide +kernel
theorem dX3_stair_93 : decode cX3_stair 93 = .ok (.getfield 63, 3) := by decide +kernel
theorem dX3_stair_96 : decode cX3_stair 96 = .ok (.imul, 1) := by decide +kernel
theorem dX3_stair_97 : decode cX3_stair 97 = .ok (.iconst 3, 1) := by decide +kernel
theorem dX3_stair_98 : decode cX3_stair 98 = .ok (.invokestatic 79, 3) := by decide +kernel
theorem dX3_stair_101 : decode cX3_stair 101 = .ok (.aload_n 0, 1) := by decide +kernel
theorem dX3_stair_102 : decode cX3_stair 102 = .ok (.dup, 1) := by decide +kernel
theorem dX3_stair_103 : decode cX3_stair 103 = .ok (.getfield 63, 3) := by decide +kernel
theorem dX3_stair_106 : decode cX3_stair 106 = .ok (.iconst 1, 1) := by decide +kernel
theorem dX3_stair_107 : decode cX3_stair 107 = .ok (.iadd, 1) := by decide +kernel
theorem dX3_stair_108 : decode cX3_stair 108 = .ok (.putfield 63, 3) := by decide +kernel
theorem dX3_stair_111 : decode cX3_stair 111 = .ok (.aload_n 0, 1) := by decide +kernel
theorem dX3_stair_112 : decode cX3_stair 112 = .ok (.getfield 63, 3) := by decide +kernel
theorem dX3_stair_115 : decode cX3_stair 115 = .ok (.iconst 1, 1) := by decide +kernel
theorem dX3_stair_116 : decode cX3_stair 116 = .ok (.isub, 1) := by decide +kernel
theorem dX3_stair_117 : decode cX3_stair 117 = .ok (.ireturn, 1) := by decide +kernel
theorem dX3_isStair_0 : decode cX3_isStair 0 = .ok (.iload_n 1, 1) := by decide +kernel
theorem dX3_isStair_1 : decode cX3_isStair 1 = .ok (.iconst 0, 1) := by decide +kernel
theorem dX3_isStair_2 : decode cX3_isStair 2 = .ok (.aload_n 0, 1) := by decide +kernel
theorem dX3_isStair_3 : decode cX3_isStair 3 = .ok (.getfield 63, 3) := by decide +kernel
theorem dX3_isStair_6 : decode cX3_isStair 6 = .ok (.iconst 1, 1) := by decide +kernel
theorem dX3_isStair_7 : decode cX3_isStair 7 = .ok (.isub, 1) := by decide +kernel
theorem dX3_isStair_8 : decode cX3_isStair 8 = .ok (.invokestatic 35, 3) := by decide +kernel
theorem dX3_isStair_11 : decode cX3_isStair 11 = .ok (.ireturn, 1) := by decide +kernel
theorem dX3_swap_0 : decode cX3_swap 0 = .ok (.aload_n 0, 1) := by decide +kernel
theorem dX3_swap_1 : decode cX3_swap 1 = .ok (.aload_n 0, 1) := by decide +kernel
theorem dX3_swap_2 : decode cX3_swap 2 = .ok (.iload_n 1, 1) := by decide +kernel
theorem dX3_swap_3 : decode cX3_swap 3 = .ok (.invokevirtual 103, 3) := by decide +kernel
theorem dX3_swap_6 : decode cX3_swap 6 = .ok (.ifCond .eq 11, 3) := by decide +kernel
theorem dX3_swap_9 : decode cX3_swap 9 = .ok (.aload_n 0, 1) := by decide +kernel
theorem dX3_swap_10 : decode cX3_swap 10 = .ok (.iload_n 2, 1) := by decide +kernel
theorem dX3_swap_11 : decode cX3_swap 11 = .ok (.invokevirtual 103, 3) := by decide +kernel
theorem dX3_swap_14 : decode cX3_swap 14 = .ok (.ifCond .ne 7, 3) := by decide +kernel
theorem dX3_swap_17 : decode cX3_swap 17 = .ok (.iconst 1, 1) := by decide +kernel
theorem dX3_swap_18 : decode cX3_swap 18 = .ok (.goto 33, 3) := by decide +kernel
theorem dX3_swap_21 : decode cX3_swap 21 = .ok (.iload_n 1, 1) := by decide +kernel
theorem dX3_swap_22 : decode cX3_swap 22 = .ok (.iload_n 2, 1) := by decide +kernel
theorem dX3_swap_23 : decode cX3_swap 23 = .ok (.if_icmp .ne 7, 3) := by decide +kernel
theorem dX3_swap_26 : decode cX3_swap 26 = .ok (.iconst 2, 1) := by decide +kernel
theorem dX3_swap_27 : decode cX3_swap 27 = .ok (.goto 24, 3) := by decide +kernel
theorem dX3_swap_30 : decode cX3_swap 30 = .ok (.aload_n 0, 1) := by decide +kernel
theorem dX3_swap_31 : decode cX3_swap 31 = .ok (.iload_n 1, 1) := by decide +kernel
theorem dX3_swap_32 : decode cX3_swap 32 = .ok (.iconst 2, 1) := by decide +kernel
theorem dX3_swap_33 : decode cX3_swap 33 = .ok (.invokevirtual 66, 3) := by decide +kernel
theorem dX3_swap_36 : decode cX3_swap 36 = .ok (.aload_n 0, 1) := by decide +kernel
theorem dX3_swap_37 : decode cX3_swap 37 = .ok (.iload_n 2, 1) := by decide +kernel
theorem dX3_swap_38 : decode cX3_swap 38 = .ok (.iconst 2, 1) := by decide +kernel
theorem dX3_swap_39 : decode cX3_swap 39 = .ok (.invokevirtual 66, 3) := by decide +kernel
theorem dX3_swap_42 : decode cX3_swap 42 = .ok (.iadd, 1) := by decide +kernel
theorem dX3_swap_43 : decode cX3_swap 43 = .ok (.ifCond .le 7, 3) := by decide +kernel
theorem dX3_swap_46 : decode cX3_swap 46 = .ok (.iconst 3, 1) := by decide +kernel
theorem dX3_swap_47 : decode cX3_swap 47 = .ok (.goto 4, 3) := by decide +kernel
theorem dX3_swap_50 : decode cX3_swap 50 = .ok (.iconst 0, 1) := by decide +kernel
theorem dX3_swap_51 : decode cX3_swap 51 = .ok (.putfield 28, 3) := by decide +kernel
theorem dX3_swap_54 : decode cX3_swap 54 = .ok (.aload_n 0, 1) := by decide +kernel
theorem dX3_swap_55 : decode cX3_swap 55 = .ok (.getfield 28, 3) := by decide +kernel
theorem dX3_swap_58 : decode cX3_swap 58 = .ok (.ifCond .ne 33, 3) := by decide +kernel
theorem dX3_swap_61 : decode cX3_swap 61 = .ok (.aload_n 0, 1) := by decide +kernel
theorem dX3_swap_62 : decode cX3_swap 62 = .ok (.iload_n 1, 1) := by decide +kernel
theorem dX3_swap_63 : decode cX3_swap 63 = .ok (.iconst 0, 1) := by decide +kernel
theorem dX3_swap_64 : decode cX3_swap 64 = .ok (.invokevirtual 66, 3) := by decide +kernel
theorem dX3_swap_67 : decode cX3_swap 67 = .ok (.aload_n 0, 1) := by decide +kernel
theorem dX3_swap_68 : decode cX3_swap 68 = .ok (.iload_n 2, 1) := by decide +kernel
theorem dX3_swap_69 : decode cX3_swap 69 = .ok (.iconst 1, 1) := by decide +kernel
theorem dX3_swap_70 : decode cX3_swap 70 = .ok (.invokevirtual 66, 3) := by decide +kernel
theorem dX3_swap_73 : decode cX3_swap 73 = .ok (.if_icmp .eq 18, 3) := by decide +kernel
theorem dX3_swap_76 : decode cX3_swap 76 = .ok (.aload_n 0, 1) := by decide +kernel
theorem dX3_swap_77 : decode cX3_swap 77 = .ok (.iload_n 2, 1) := by decide +kernel
theorem dX3_swap_78 : decode cX3_swap 78 = .ok (.iconst 0, 1) := by decide +kernel
theorem dX3_swap_79 : decode cX3_swap 79 = .ok (.invokevirtual 66, 3) := by decide +kernel
theorem dX3_swap_82 : decode cX3_swap 82 = .ok (.aload_n 0, 1) := by decide +kernel
theorem dX3_swap_83 : decode cX3_swap 83 = .ok (.iload_n 1, 1) := by decide +kernel
theorem dX3_swap_84 : decode cX3_swap 84 = .ok (.iconst 1, 1) := by decide +kernel
theorem dX3_swap_85 : decode cX3_swap 85 = .ok (.invokevirtual 66, 3) := by decide +kernel
theorem dX3_swap_88 : decode cX3_swap 88 = .ok (.if_icmp .ne 5, 3) := by decide +kernel
theorem dX3_swap_91 : decode cX3_swap 91 = .ok (.iconst 0, 1) := by decide +kernel
theorem dX3_swap_92 : decode cX3_swap 92 = .ok (.ireturn, 1) := by decide +kernel
theorem dX3_swap_93 : decode cX3_swap 93 = .ok (.aload_n 0, 1) := by decide +kernel
theorem dX3_swap_94 : decode cX3_swap 94 = .ok (.iload_n 1, 1) := by decide +kernel
theorem dX3_swap_95 : decode cX3_swap 95 = .ok (.iconst 1, 1) := by decide +kernel
theorem dX3_swap_96 : decode cX3_swap 96 = .ok (.invokevirtual 66, 3) := by decide +kernel
theorem dX3_swap_99 : decode cX3_swap 99 = .ok (.istore_n 3, 1) := by decide +kernel
theorem dX3_swap_100 : decode cX3_swap 100 = .ok (.aload_n 0, 1) := by decide +kernel
theorem dX3_swap_101 : decode cX3_swap 101 = .ok (.getfield 13, 3) := by decide +kernel
theorem dX3_swap_104 : decode cX3_swap 104 = .ok (.iconst 3, 1) := by decide +kernel
theorem dX3_swap_105 : decode cX3_swap 105 = .ok (.iload_n 1, 1) := by decide +kernel
theorem dX3_swap_106 : decode cX3_swap 106 = .ok (.imul, 1) := by decide +kernel
theorem dX3_swap_107 : decode cX3_swap 107 = .ok (.iconst 1, 1) := by decide +kernel
theorem dX3_swap_108 : decode cX3_swap 108 = .ok (.iadd, 1) := by decide +kernel
theorem dX3_swap_109 : decode cX3_swap 109 = .ok (.aload_n 0, 1) := by decide +kernel
theorem dX3_swap_110 : decode cX3_swap 110 = .ok (.iload_n 2, 1) := by decide +kernel
theorem dX3_swap_111 : decode cX3_swap 111 = .ok (.iconst 1, 1) := by decide +kernel
theorem dX3_swap_112 : decode cX3_swap 112 = .ok (.invokevirtual 66, 3) := by decide +kernel
theorem dX3_swap_115 : decode cX3_swap 115 = .ok (.iastore, 1) := by decide +kernel
theorem dX3_swap_116 : decode cX3_swap 116 = .ok (.aload_n 0, 1) := by decide +kernel
theorem dX3_swap_117 : decode cX3_swap 117 = .ok (.getfield 13, 3) := by decide +kernel
theorem dX3_swap_120 : decode cX3_swap 120 = .ok (.iconst 3, 1) := by decide +kernel
theorem dX3_swap_121 : decode cX3_swap 121 = .ok (.iload_n 2, 1) := by decide +kernel
theorem dX3_swap_122 : decode cX3_swap 122 = .ok (.imul, 1) := by decide +kernel
theorem dX3_swap_123 : decode cX3_swap 123 = .ok (.iconst 1, 1) := by decide +kernel
theorem dX3_swap_124 : decode cX3_swap 124 = .ok (.iadd, 1) := by decide +kernel
theorem dX3_swap_125 : decode cX3_swap 125 = .ok (.iload_n 3, 1) := by decide +kernel
theorem dX3_swap_126 : decode cX3_swap 126 = .ok (.iastore, 1) := by decide +kernel
theorem dX3_swap_127 : decode cX3_swap 127 = .ok (.iconst 1, 1) := by decide +kernel
theorem dX3_swap_128 : decode cX3_swap 128 = .ok (.ireturn, 1) := by decide +kernel
theorem dX3_joins_0 : decode cX3_joins 0 = .ok (.aload_n 0, 1) := by decide +kernel
theorem dX3_joins_1 : decode cX3_joins 1 = .ok (.iconst 0, 1) := by decide +kernel
theorem dX3_joins_2 : decode cX3_joins 2 = .ok (.putfield 28, 3) := by decide +kernel
theorem dX3_joins_5 : decode cX3_joins 5 = .ok (.aload_n 0, 1) := by decide +kernel
theorem dX3_joins_6 : decode cX3_joins 6 = .ok (.iload_n 1, 1) := by decide +kernel
theorem dX3_joins_7 : decode cX3_joins 7 = .ok (.invokevirtual 103, 3) := by decide +kernel
theorem dX3_joins_10 : decode cX3_joins 10 = .ok (.ifCond .eq 21, 3) := by decide +kernel
theorem dX3_joins_13 : decode cX3_joins 13 = .ok (.iload_n 2, 1) := by decide +kernel
theorem dX3_joins_14 : decode cX3_joins 14 = .ok (.iconst 0, 1) := by decide +kernel
theorem dX3_joins_15 : decode cX3_joins 15 = .ok (.iconst 2, 1) := by decide +kernel
theorem dX3_joins_16 : decode cX3_joins 16 = .ok (.invokestatic 35, 3) := by decide +kernel
theorem dX3_joins_19 : decode cX3_joins 19 = .ok (.ifCond .eq 12, 3) := by decide +kernel
theorem dX3_joins_22 : decode cX3_joins 22 = .ok (.aload_n 0, 1) := by decide +kernel
theorem dX3_joins_23 : decode cX3_joins 23 = .ok (.iload_n 1, 1) := by decide +kernel
theorem dX3_joins_24 : decode cX3_joins 24 = .ok (.iload_n 2, 1) := by decide +kernel
theorem dX3_joins_25 : decode cX3_joins 25 = .ok (.invokevirtual 66, 3) := by decide +kernel
theorem dX3_joins_28 : decode cX3_joins 28 = .ok (.goto 8, 3) := by decide +kernel
theorem dX3_joins_31 : decode cX3_joins 31 = .ok (.aload_n 0, 1) := by decide +kernel
theorem dX3_joins_32 : decode cX3_joins 32 = .ok (.iconst 1, 1) := by decide +kernel
theorem dX3_joins_33 : decode cX3_joins 33 = .ok (.invokevirtual 88, 3) := by decide +kernel
theorem dX3_joins_36 : decode cX3_joins 36 = .ok (.ireturn, 1) := by decide +kernel
theorem dX3_steps_0 : decode cX3_steps 0 = .ok (.aload_n 0, 1) := by decide +kernel
theorem dX3_steps_1 : decode cX3_steps 1 = .ok (.iconst 0, 1) := by decide +kernel
theorem dX3_steps_2 : decode cX3_steps 2 = .ok (.putfield 28, 3) := by decide +kernel
theorem dX3_steps_5 : decode cX3_steps 5 = .ok (.aload_n 0, 1) := by decide +kernel
theorem dX3_steps_6 : decode cX3_steps 6 = .ok (.iload_n 1, 1) := by decide +kernel
theorem dX3_steps_7 : decode cX3_steps 7 = .ok (.invokevirtual 96, 3) := by decide +kernel
theorem dX3_steps_10 : decode cX3_steps 10 = .ok (.ifCond .eq 11, 3) := by decide +kernel
theorem dX3_steps_13 : decode cX3_steps 13 = .ok (.aload_n 0, 1) := by decide +kernel
theorem dX3_steps_14 : decode cX3_steps 14 = .ok (.iload_n 2, 1) := by decide +kernel
theorem dX3_steps_15 : decode cX3_steps 15 = .ok (.invokevirtual 96, 3) := by decide +kernel
theorem dX3_steps_18 : decode cX3_steps 18 = .ok (.ifCond .ne 9, 3) := by decide +kernel
theorem dX3_steps_21 : decode cX3_steps 21 = .ok (.aload_n 0, 1) := by decide +kernel
theorem dX3_steps_22 : decode cX3_steps 22 = .ok (.iconst 1, 1) := by decide +kernel
theorem dX3_steps_23 : decode cX3_steps 23 = .ok (.invokevirtual 88, 3) := by decide +kernel
theorem dX3_steps_26 : decode cX3_steps 26 = .ok (.ireturn, 1) := by decide +kernel
theorem dX3_steps_27 : decode cX3_steps 27 = .ok (.aload_n 0, 1) := by decide +kernel
theorem dX3_steps_28 : decode cX3_steps 28 = .ok (.iload_n 1, 1) := by decide +kernel
theorem dX3_steps_29 : decode cX3_steps 29 = .ok (.invokevirtual 43, 3) := by decide +kernel
theorem dX3_steps_32 : decode cX3_steps 32 = .ok (.ifCond .eq 11, 3) := by decide +kernel
theorem dX3_steps_35 : decode cX3_steps 35 = .ok (.aload_n 0, 1) := by decide +kernel
theorem dX3_steps_36 : decode cX3_steps 36 = .ok (.iload_n 2, 1) := by decide +kernel
theorem dX3_steps_37 : decode cX3_steps 37 = .ok (.invokevirtual 43, 3) := by decide +kernel
theorem dX3_steps_40 : decode cX3_steps 40 = .ok (.ifCond .ne 5, 3) := by decide +kernel
theorem dX3_steps_43 : decode cX3_steps 43 = .ok (.iconst (-1), 1) := by decide +kernel
theorem dX3_steps_44 : decode cX3_steps 44 = .ok (.ireturn, 1) := by decide +kernel
theorem dX3_steps_45 : decode cX3_steps 45 = .ok (.iconst 0, 1) := by decide +kernel
theorem dX3_steps_46 : decode cX3_steps 46 = .ok (.istore_n 3, 1) := by decide +kernel
theorem dX3_steps_47 : decode cX3_steps 47 = .ok (.iload_n 3, 1) := by decide +kernel
theorem dX3_steps_48 : decode cX3_steps 48 = .ok (.aload_n 0, 1) := by decide +kernel
theorem dX3_steps_49 : decode cX3_steps 49 = .ok (.getfield 32, 3) := by decide +kernel
theorem dX3_steps_52 : decode cX3_steps 52 = .ok (.if_icmp .ge 25, 3) := by decide +kernel
theorem dX3_steps_55 : decode cX3_steps 55 = .ok (.aload_n 0, 1) := by decide +kernel
theorem dX3_steps_56 : decode cX3_steps 56 = .ok (.getfield 25, 3) := by decide +kernel
theorem dX3_steps_59 : decode cX3_steps 59 = .ok (.iload_n 3, 1) := by decide +kernel
theorem dX3_steps_60 : decode cX3_steps 60 = .ok (.iload_n 3, 1) := by decide +kernel
theorem dX3_steps_61 : decode cX3_steps 61 = .ok (.iload_n 1, 1) := by decide +kernel
theorem dX3_steps_62 : decode cX3_steps 62 = .ok (.if_icmp .ne 7, 3) := by decide +kernel
theorem dX3_steps_65 : decode cX3_steps 65 = .ok (.iconst 0, 1) := by decide +kernel
theorem dX3_steps_66 : decode cX3_steps 66 = .ok (.goto 4, 3) := by decide +kernel
theorem dX3_steps_69 : decode cX3_steps 69 = .ok (.iconst (-1), 1) := by decide +kernel
theorem dX3_steps_70 : decode cX3_steps 70 = .ok (.iastore, 1) := by decide +kernel
theorem dX3_steps_71 : decode cX3_steps 71 = .ok (.iinc 3 1, 3) := by decide +kernel
theorem dX3_steps_74 : decode cX3_steps 74 = .ok (.goto (-27), 3) := by decide +kernel
theorem dX3_steps_77 : decode cX3_steps 77 = .ok (.iconst 0, 1) := by decide +kernel
theorem dX3_steps_78 : decode cX3_steps 78 = .ok (.istore_n 3, 1) := by decide +kernel
theorem dX3_steps_79 : decode cX3_steps 79 = .ok (.iload_n 3, 1) := by decide +kernel
theorem dX3_steps_80 : decode cX3_steps 80 = .ok (.aload_n 0, 1) := by decide +kernel
theorem dX3_steps_81 : decode cX3_steps 81 = .ok (.getfield 32, 3) := by decide +kernel
theorem dX3_steps_84 : decode cX3_steps 84 = .ok (.if_icmp .ge 145, 3) := by decide +kernel
theorem dX3_steps_87 : decode cX3_steps 87 = .ok (.aload_n 0, 1) := by decide +kernel
theorem dX3_steps_88 : decode cX3_steps 88 = .ok (.getfield 25, 3) := by decide +kernel
theorem dX3_steps_91 : decode cX3_steps 91 = .ok (.iload_n 2, 1) := by decide +kernel
theorem dX3_steps_92 : decode cX3_steps 92 = .ok (.iaload, 1) := by decide +kernel
theorem dX3_steps_93 : decode cX3_steps 93 = .ok (.iconst (-1), 1) := by decide +kernel
theorem dX3_steps_94 : decode cX3_steps 94 = .ok (.if_icmp .ne 135, 3) := by decide +kernel
theorem dX3_steps_97 : decode cX3_steps 97 = .ok (.iconst 0, 1) := by decide +kernel
theorem dX3_steps_98 : decode cX3_steps 98 = .ok (.istore 4, 2) := by decide +kernel
theorem dX3_steps_100 : decode cX3_steps 100 = .ok (.iload 4, 2) := by decide +kernel
theorem dX3_steps_102 : decode cX3_steps 102 = .ok (.aload_n 0, 1) := by decide +kernel
theorem dX3_steps_103 : decode cX3_steps 103 = .ok (.getfield 63, 3) := by decide +kernel
theorem dX3_steps_106 : decode cX3_steps 106 = .ok (.if_icmp .ge 117, 3) := by decide +kernel
theorem dX3_steps_109 : decode cX3_steps 109 = .ok (.aload_n 0, 1) := by decide +kernel
theorem dX3_steps_110 : decode cX3_steps 110 = .ok (.iload 4, 2) := by decide +kernel
theorem dX3_steps_112 : decode cX3_steps 112 = .ok (.iconst 2, 1) := by decide +kernel
theorem dX3_steps_113 : decode cX3_steps 113 = .ok (.invokevirtual 66, 3) := by decide +kernel
theorem dX3_steps_116 : decode cX3_steps 116 = .ok (.iconst 1, 1) := by decide +kernel
theorem dX3_steps_117 : decode cX3_steps 117 = .ok (.if_icmp .ne 6, 3) := by decide +kernel
theorem dX3_steps_120 : decode cX3_steps 120 = .ok (.goto 97, 3) := by decide +kernel
theorem dX3_steps_123 : decode cX3_steps 123 = .ok (.aload_n 0, 1) := by decide +kernel
theorem dX3_steps_124 : decode cX3_steps 124 = .ok (.getfield 25, 3) := by decide +kernel
theorem dX3_steps_127 : decode cX3_steps 127 = .ok (.aload_n 0, 1) := by decide +kernel
theorem dX3_steps_128 : decode cX3_steps 128 = .ok (.iload 4, 2) := by decide +kernel
theorem dX3_steps_130 : decode cX3_steps 130 = .ok (.iconst 0, 1) := by decide +kernel
theorem dX3_steps_131 : decode cX3_steps 131 = .ok (.invokevirtual 66, 3) := by decide +kernel
theorem dX3_steps_134 : decode cX3_steps 134 = .ok (.iaload, 1) := by decide +kernel
theorem dX3_steps_135 : decode cX3_steps 135 = .ok (.iload_n 3, 1) := by decide +kernel
theorem dX3_steps_136 : decode cX3_steps 136 = .ok (.if_icmp .ne 34, 3) := by decide +kernel
theorem dX3_steps_139 : decode cX3_steps 139 = .ok (.aload_n 0, 1) := by decide +kernel
theorem dX3_steps_140 : decode cX3_steps 140 = .ok (.getfield 25, 3) := by decide +kernel
theorem dX3_steps_143 : decode cX3_steps 143 = .ok (.aload_n 0, 1) := by decide +kernel
theorem dX3_steps_144 : decode cX3_steps 144 = .ok (.iload 4, 2) := by decide +kernel
theorem dX3_steps_146 : decode cX3_steps 146 = .ok (.iconst 1, 1) := by decide +kernel
theorem dX3_steps_147 : decode cX3_steps 147 = .ok (.invokevirtual 66, 3) := by decide +kernel
theorem dX3_steps_150 : decode cX3_steps 150 = .ok (.iaload, 1) := by decide +kernel
theorem dX3_steps_151 : decode cX3_steps 151 = .ok (.iconst (-1), 1) := by decide +kernel
theorem dX3_steps_152 : decode cX3_steps 152 = .ok (.if_icmp .ne 18, 3) := by decide +kernel
theorem dX3_steps_155 : decode cX3_steps 155 = .ok (.aload_n 0, 1) := by decide +kernel
theorem dX3_steps_156 : decode cX3_steps 156 = .ok (.getfield 25, 3) := by decide +kernel
theorem dX3_steps_159 : decode cX3_steps 159 = .ok (.aload_n 0, 1) := by decide +kernel
theorem dX3_steps_160 : decode cX3_steps 160 = .ok (.iload 4, 2) := by decide +kernel
theorem dX3_steps_162 : decode cX3_steps 162 = .ok (.iconst 1, 1) := by decide +kernel
theorem dX3_steps_163 : decode cX3_steps 163 = .ok (.invokevirtual 66, 3) := by decide +kernel
theorem dX3_steps_166 : decode cX3_steps 166 = .ok (.iload_n 3, 1) := by decide +kernel
theorem dX3_steps_167 : decode cX3_steps 167 = .ok (.iconst 1, 1) := by decide +kernel
theorem dX3_steps_168 : decode cX3_steps 168 = .ok (.iadd, 1) := by decide +kernel
theorem dX3_steps_169 : decode cX3_steps 169 = .ok (.iastore, 1) := by decide +kernel
theorem dX3_steps_170 : decode cX3_steps 170 = .ok (.aload_n 0, 1) := by decide +kernel
theorem dX3_steps_171 : decode cX3_steps 171 = .ok (.getfield 25, 3) := by decide +kernel
theorem dX3_steps_174 : decode cX3_steps 174 = .ok (.aload_n 0, 1) := by decide +kernel
theorem dX3_steps_175 : decode cX3_steps 175 = .ok (.iload 4, 2) := by decide +kernel
theorem dX3_steps_177 : decode cX3_steps 177 = .ok (.iconst 1, 1) := by decide +kernel
theorem dX3_steps_178 : decode cX3_steps 178 = .ok (.invokevirtual 66, 3) := by decide +kernel
theorem dX3_steps_181 : decode cX3_steps 181 = .ok (.iaload, 1) := by decide +kernel
theorem dX3_steps_182 : decode cX3_steps 182 = .ok (.iload_n 3, 1) := by decide +kernel
theorem dX3_steps_183 : decode cX3_steps 183 = .ok (.if_icmp .ne 34, 3) := by decide +kernel
theorem dX3_steps_186 : decode cX3_steps 186 = .ok (.aload_n 0, 1) := by decide +kernel
theorem dX3_steps_187 : decode cX3_steps 187 = .ok (.getfield 25, 3) := by decide +kernel
theorem dX3_steps_190 : decode cX3_steps 190 = .ok (.aload_n 0, 1) := by decide +kernel
theorem dX3_steps_191 : decode cX3_steps 191 = .ok (.iload 4, 2) := by decide +kernel
theorem dX3_steps_193 : decode cX3_steps 193 = .ok (.iconst 0, 1) := by decide +kernel
theorem dX3_steps_194 : decode cX3_steps 194 = .ok (.invokevirtual 66, 3) := by decide +kernel
theorem dX3_steps_197 : decode cX3_steps 197 = .ok (.iaload, 1) := by decide +kernel
theorem dX3_steps_198 : decode cX3_steps 198 = .ok (.iconst (-1), 1) := by decide +kernel
theorem dX3_steps_199 : decode cX3_steps 199 = .ok (.if_icmp .ne 18, 3) := by decide +kernel
theorem dX3_steps_202 : decode cX3_steps 202 = .ok (.aload_n 0, 1) := by decide +kernel
theorem dX3_steps_203 : decode cX3_steps 203 = .ok (.getfield 25, 3) := by decide +kernel
theorem dX3_steps_206 : decode cX3_steps 206 = .ok (.aload_n 0, 1) := by decide +kernel
theorem dX3_steps_207 : decode cX3_steps 207 = .ok (.iload 4, 2) := by decide +kernel
theorem dX3_steps_209 : decode cX3_steps 209 = .ok (.iconst 0, 1) := by decide +kernel
theorem dX3_steps_210 : decode cX3_steps 210 = .ok (.invokevirtual 66, 3) := by decide +kernel
theorem dX3_steps_213 : decode cX3_steps 213 = .ok (.iload_n 3, 1) := by decide +kernel
theorem dX3_steps_214 : decode cX3_steps 214 = .ok (.iconst 1, 1) := by decide +kernel
theorem dX3_steps_215 : decode cX3_steps 215 = .ok (.iadd, 1) := by decide +kernel
theorem dX3_steps_216 : decode cX3_steps 216 = .ok (.iastore, 1) := by decide +kernel
theorem dX3_steps_217 : decode cX3_steps 217 = .ok (.iinc 4 1, 3) := by decide +kernel
theorem dX3_steps_220 : decode cX3_steps 220 = .ok (.goto (-120), 3) := by decide +kernel
theorem dX3_steps_223 : decode cX3_steps 223 = .ok (.iinc 3 1, 3) := by decide +kernel
theorem dX3_steps_226 : decode cX3_steps 226 = .ok (.goto (-147), 3) := by decide +kernel
theorem dX3_steps_229 : decode cX3_steps 229 = .ok (.aload_n 0, 1) := by decide +kernel
theorem dX3_steps_230 : decode cX3_steps 230 = .ok (.getfield 25, 3) := by decide +kernel
theorem dX3_steps_233 : decode cX3_steps 233 = .ok (.iload_n 2, 1) := by decide +kernel
theorem dX3_steps_234 : decode cX3_steps 234 = .ok (.iaload, 1) := by decide +kernel
theorem dX3_steps_235 : decode cX3_steps 235 = .ok (.ireturn, 1) := by decide +kernel
theorem dX3_holdsFrom_0 : decode cX3_holdsFrom 0 = .ok (.iconst 0, 1) := by decide +kernel
theorem dX3_holdsFrom_1 : decode cX3_holdsFrom 1 = .ok (.istore_n 2, 1) := by decide +kernel
theorem dX3_holdsFrom_2 : decode cX3_holdsFrom 2 = .ok (.iload_n 1, 1) := by decide +kernel
theorem dX3_holdsFrom_3 : decode cX3_holdsFrom 3 = .ok (.iconst 1, 1) := by decide +kernel
theorem dX3_holdsFrom_4 : decode cX3_holdsFrom 4 = .ok (.iadd, 1) := by decide +kernel
theorem dX3_holdsFrom_5 : decode cX3_holdsFrom 5 = .ok (.istore_n 3, 1) := by decide +kernel
theorem dX3_holdsFrom_6 : decode cX3_holdsFrom 6 = .ok (.iload_n 3, 1) := by decide +kernel
theorem dX3_holdsFrom_7 : decode cX3_holdsFrom 7 = .ok (.aload_n 0, 1) := by decide +kernel
theorem dX3_holdsFrom_8 : decode cX3_holdsFrom 8 = .ok (.getfield 32, 3) := by decide +kernel
theorem dX3_holdsFrom_11 : decode cX3_holdsFrom 11 = .ok (.if_icmp .ge 34, 3) := by decide +kernel
theorem dX3_holdsFrom_14 : decode cX3_holdsFrom 14 = .ok (.iload_n 2, 1) := by decide +kernel
theorem dX3_holdsFrom_15 : decode cX3_holdsFrom 15 = .ok (.aload_n 0, 1) := by decide +kernel
theorem dX3_holdsFrom_16 : decode cX3_holdsFrom 16 = .ok (.iload_n 3, 1) := by decide +kernel
theorem dX3_holdsFrom_17 : decode cX3_holdsFrom 17 = .ok (.invokevirtual 43, 3) := by decide +kernel
theorem dX3_holdsFrom_20 : decode cX3_holdsFrom 20 = .ok (.ifCond .eq 16, 3) := by decide +kernel
theorem dX3_holdsFrom_23 : decode cX3_holdsFrom 23 = .ok (.aload_n 0, 1) := by decide +kernel
theorem dX3_holdsFrom_24 : decode cX3_holdsFrom 24 = .ok (.iload_n 3, 1) := by decide +kernel
theorem dX3_holdsFrom_25 : decode cX3_holdsFrom 25 = .ok (.iload_n 1, 1) := by decide +kernel
theorem dX3_holdsFrom_26 : decode cX3_holdsFrom 26 = .ok (.invokevirtual 52, 3) := by decide +kernel
theorem dX3_holdsFrom_29 : decode cX3_holdsFrom 29 = .ok (.ifCond .eq 7, 3) := by decide +kernel
theorem dX3_holdsFrom_32 : decode cX3_holdsFrom 32 = .ok (.iconst 1, 1) := by decide +kernel
theorem dX3_holdsFrom_33 : decode cX3_holdsFrom 33 = .ok (.goto 4, 3) := by decide +kernel
theorem dX3_holdsFrom_36 : decode cX3_holdsFrom 36 = .ok (.iconst 0, 1) := by decide +kernel
theorem dX3_holdsFrom_37 : decode cX3_holdsFrom 37 = .ok (.iadd, 1) := by decide +kernel
theorem dX3_holdsFrom_38 : decode cX3_holdsFrom 38 = .ok (.istore_n 2, 1) := by decide +kernel
theorem dX3_holdsFrom_39 : decode cX3_holdsFrom 39 = .ok (.iinc 3 1, 3) := by decide +kernel
theorem dX3_holdsFrom_42 : decode cX3_holdsFrom 42 = .ok (.goto (-36), 3) := by decide +kernel
theorem dX3_holdsFrom_45 : decode cX3_holdsFrom 45 = .ok (.iload_n 2, 1) := by decide +kernel
theorem dX3_holdsFrom_46 : decode cX3_holdsFrom 46 = .ok (.ireturn, 1) := by decide +kernel
theorem dX3_stoneTold_0 : decode cX3_stoneTold 0 = .ok (.iload_n 2, 1) := by decide +kernel
theorem dX3_stoneTold_1 : decode cX3_stoneTold 1 = .ok (.tableswitch 71 7 9 #[27, 34, 53], 27) := by decide +kernel
theorem dX3_stoneTold_28 : decode cX3_stoneTold 28 = .ok (.aload_n 0, 1) := by decide +kernel
theorem dX3_stoneTold_29 : decode cX3_stoneTold 29 = .ok (.getfield 19, 3) := by decide +kernel
theorem dX3_stoneTold_32 : decode cX3_stoneTold 32 = .ok (.iload_n 1, 1) := by decide +kernel
theorem dX3_stoneTold_33 : decode cX3_stoneTold 33 = .ok (.iaload, 1) := by decide +kernel
theorem dX3_stoneTold_34 : decode cX3_stoneTold 34 = .ok (.ireturn, 1) := by decide +kernel
theorem dX3_stoneTold_35 : decode cX3_stoneTold 35 = .ok (.aload_n 0, 1) := by decide +kernel
theorem dX3_stoneTold_36 : decode cX3_stoneTold 36 = .ok (.iload_n 1, 1) := by decide +kernel
theorem dX3_stoneTold_37 : decode cX3_stoneTold 37 = .ok (.invokevirtual 43, 3) := by decide +kernel
theorem dX3_stoneTold_40 : decode cX3_stoneTold 40 = .ok (.ifCond .eq 12, 3) := by decide +kernel
theorem dX3_stoneTold_43 : decode cX3_stoneTold 43 = .ok (.aload_n 0, 1) := by decide +kernel
theorem dX3_stoneTold_44 : decode cX3_stoneTold 44 = .ok (.getfield 22, 3) := by decide +kernel
theorem dX3_stoneTold_47 : decode cX3_stoneTold 47 = .ok (.iload_n 1, 1) := by decide +kernel
theorem dX3_stoneTold_48 : decode cX3_stoneTold 48 = .ok (.iaload, 1) := by decide +kernel
theorem dX3_stoneTold_49 : decode cX3_stoneTold 49 = .ok (.goto 4, 3) := by decide +kernel
theorem dX3_stoneTold_52 : decode cX3_stoneTold 52 = .ok (.iconst 0, 1) := by decide +kernel
theorem dX3_stoneTold_53 : decode cX3_stoneTold 53 = .ok (.ireturn, 1) := by decide +kernel
theorem dX3_stoneTold_54 : decode cX3_stoneTold 54 = .ok (.aload_n 0, 1) := by decide +kernel
theorem dX3_stoneTold_55 : decode cX3_stoneTold 55 = .ok (.iload_n 1, 1) := by decide +kernel
theorem dX3_stoneTold_56 : decode cX3_stoneTold 56 = .ok (.invokevirtual 43, 3) := by decide +kernel
theorem dX3_stoneTold_59 : decode cX3_stoneTold 59 = .ok (.ifCond .eq 11, 3) := by decide +kernel
theorem dX3_stoneTold_62 : decode cX3_stoneTold 62 = .ok (.aload_n 0, 1) := by decide +kernel
theorem dX3_stoneTold_63 : decode cX3_stoneTold 63 = .ok (.iload_n 1, 1) := by decide +kernel
theorem dX3_stoneTold_64 : decode cX3_stoneTold 64 = .ok (.invokevirtual 106, 3) := by decide +kernel
theorem dX3_stoneTold_67 : decode cX3_stoneTold 67 = .ok (.goto 4, 3) := by decide +kernel
theorem dX3_stoneTold_70 : decode cX3_stoneTold 70 = .ok (.iconst 0, 1) := by decide +kernel
theorem dX3_stoneTold_71 : decode cX3_stoneTold 71 = .ok (.ireturn, 1) := by decide +kernel
theorem dX3_stoneTold_72 : decode cX3_stoneTold 72 = .ok (.aload_n 0, 1) := by decide +kernel
theorem dX3_stoneTold_73 : decode cX3_stoneTold 73 = .ok (.iload_n 1, 1) := by decide +kernel
theorem dX3_stoneTold_74 : decode cX3_stoneTold 74 = .ok (.iload_n 2, 1) := by decide +kernel
theorem dX3_stoneTold_75 : decode cX3_stoneTold 75 = .ok (.invokevirtual 39, 3) := by decide +kernel
theorem dX3_stoneTold_78 : decode cX3_stoneTold 78 = .ok (.ireturn, 1) := by decide +kernel
theorem dX3_stone__0 : decode cX3_stone_ 0 = .ok (.aload_n 0, 1) := by decide +kernel
theorem dX3_stone__1 : decode cX3_stone_ 1 = .ok (.iconst 0, 1) := by decide +kernel
theorem dX3_stone__2 : decode cX3_stone_ 2 = .ok (.putfield 28, 3) := by decide +kernel
theorem dX3_stone__5 : decode cX3_stone_ 5 = .ok (.aload_n 0, 1) := by decide +kernel
theorem dX3_stone__6 : decode cX3_stone_ 6 = .ok (.iload_n 1, 1) := by decide +kernel
theorem dX3_stone__7 : decode cX3_stone_ 7 = .ok (.invokevirtual 96, 3) := by decide +kernel
theorem dX3_stone__10 : decode cX3_stone_ 10 = .ok (.ifCond .eq 13, 3) := by decide +kernel
theorem dX3_stone__13 : decode cX3_stone_ 13 = .ok (.iload_n 2, 1) := by decide +kernel
theorem dX3_stone__14 : decode cX3_stone_ 14 = .ok (.iconst 0, 1) := by decide +kernel
theorem dX3_stone__15 : decode cX3_stone_ 15 = .ok (.bipush 9, 2) := by decide +kernel
theorem dX3_stone__17 : decode cX3_stone_ 17 = .ok (.invokestatic 35, 3) := by decide +kernel
theorem dX3_stone__20 : decode cX3_stone_ 20 = .ok (.ifCond .ne 9, 3) := by decide +kernel
theorem dX3_stone__23 : decode cX3_stone_ 23 = .ok (.aload_n 0, 1) := by decide +kernel
theorem dX3_stone__24 : decode cX3_stone_ 24 = .ok (.iconst 1, 1) := by decide +kernel
theorem dX3_stone__25 : decode cX3_stone_ 25 = .ok (.invokevirtual 88, 3) := by decide +kernel
theorem dX3_stone__28 : decode cX3_stone_ 28 = .ok (.ireturn, 1) := by decide +kernel
theorem dX3_stone__29 : decode cX3_stone_ 29 = .ok (.aload_n 0, 1) := by decide +kernel
theorem dX3_stone__30 : decode cX3_stone_ 30 = .ok (.invokevirtual 73, 3) := by decide +kernel
theorem dX3_stone__33 : decode cX3_stone_ 33 = .ok (.aload_n 0, 1) := by decide +kernel
theorem dX3_stone__34 : decode cX3_stone_ 34 = .ok (.iload_n 1, 1) := by decide +kernel
theorem dX3_stone__35 : decode cX3_stone_ 35 = .ok (.iload_n 2, 1) := by decide +kernel
theorem dX3_stone__36 : decode cX3_stone_ 36 = .ok (.invokevirtual 109, 3) := by decide +kernel
theorem dX3_stone__39 : decode cX3_stone_ 39 = .ok (.ireturn, 1) := by decide +kernel
theorem dX3_first_0 : decode cX3_first 0 = .ok (.aload_n 0, 1) := by decide +kernel
theorem dX3_first_1 : decode cX3_first 1 = .ok (.iconst 0, 1) := by decide +kernel
theorem dX3_first_2 : decode cX3_first 2 = .ok (.putfield 28, 3) := by decide +kernel
theorem dX3_first_5 : decode cX3_first 5 = .ok (.aload_n 0, 1) := by decide +kernel
theorem dX3_first_6 : decode cX3_first 6 = .ok (.iload_n 1, 1) := by decide +kernel
theorem dX3_first_7 : decode cX3_first 7 = .ok (.invokevirtual 96, 3) := by decide +kernel
theorem dX3_first_10 : decode cX3_first 10 = .ok (.ifCond .ne 9, 3) := by decide +kernel
theorem dX3_first_13 : decode cX3_first 13 = .ok (.aload_n 0, 1) := by decide +kernel
theorem dX3_first_14 : decode cX3_first 14 = .ok (.iconst 1, 1) := by decide +kernel
theorem dX3_first_15 : decode cX3_first 15 = .ok (.invokevirtual 88, 3) := by decide +kernel
theorem dX3_first_18 : decode cX3_first 18 = .ok (.ireturn, 1) := by decide +kernel
theorem dX3_first_19 : decode cX3_first 19 = .ok (.aload_n 0, 1) := by decide +kernel
theorem dX3_first_20 : decode cX3_first 20 = .ok (.iload_n 1, 1) := by decide +kernel
theorem dX3_first_21 : decode cX3_first 21 = .ok (.invokevirtual 43, 3) := by decide +kernel
theorem dX3_first_24 : decode cX3_first 24 = .ok (.ifCond .ne 5, 3) := by decide +kernel
theorem dX3_first_27 : decode cX3_first 27 = .ok (.iconst (-1), 1) := by decide +kernel
theorem dX3_first_28 : decode cX3_first 28 = .ok (.ireturn, 1) := by decide +kernel
theorem dX3_first_29 : decode cX3_first 29 = .ok (.iload_n 1, 1) := by decide +kernel
theorem dX3_first_30 : decode cX3_first 30 = .ok (.istore_n 2, 1) := by decide +kernel
theorem dX3_first_31 : decode cX3_first 31 = .ok (.aload_n 0, 1) := by decide +kernel
theorem dX3_first_32 : decode cX3_first 32 = .ok (.iload_n 2, 1) := by decide +kernel
theorem dX3_first_33 : decode cX3_first 33 = .ok (.iconst 4, 1) := by decide +kernel
theorem dX3_first_34 : decode cX3_first 34 = .ok (.invokevirtual 39, 3) := by decide +kernel
theorem dX3_first_37 : decode cX3_first 37 = .ok (.iconst (-1), 1) := by decide +kernel
theorem dX3_first_38 : decode cX3_first 38 = .ok (.if_icmp .eq 13, 3) := by decide +kernel
theorem dX3_first_41 : decode cX3_first 41 = .ok (.aload_n 0, 1) := by decide +kernel
theorem dX3_first_42 : decode cX3_first 42 = .ok (.iload_n 2, 1) := by decide +kernel
theorem dX3_first_43 : decode cX3_first 43 = .ok (.iconst 4, 1) := by decide +kernel
theorem dX3_first_44 : decode cX3_first 44 = .ok (.invokevirtual 39, 3) := by decide +kernel
theorem dX3_first_47 : decode cX3_first 47 = .ok (.istore_n 2, 1) := by decide +kernel
theorem dX3_first_48 : decode cX3_first 48 = .ok (.goto (-17), 3) := by decide +kernel
theorem dX3_first_51 : decode cX3_first 51 = .ok (.iload_n 2, 1) := by decide +kernel
theorem dX3_first_52 : decode cX3_first 52 = .ok (.ireturn, 1) := by decide +kernel
theorem dX3_counted_0 : decode cX3_counted 0 = .ok (.iconst 0, 1) := by decide +kernel
theorem dX3_counted_1 : decode cX3_counted 1 = .ok (.istore_n 2, 1) := by decide +kernel
theorem dX3_counted_2 : decode cX3_counted 2 = .ok (.iload_n 1, 1) := by decide +kernel
theorem dX3_counted_3 : decode cX3_counted 3 = .ok (.ifCond .ne 10, 3) := by decide +kernel
theorem dX3_counted_6 : decode cX3_counted 6 = .ok (.aload_n 0, 1) := by decide +kernel
theorem dX3_counted_7 : decode cX3_counted 7 = .ok (.getfield 16, 3) := by decide +kernel
theorem dX3_counted_10 : decode cX3_counted 10 = .ok (.iconst 0, 1) := by decide +kernel
theorem dX3_counted_11 : decode cX3_counted 11 = .ok (.iaload, 1) := by decide +kernel
theorem dX3_counted_12 : decode cX3_counted 12 = .ok (.ireturn, 1) := by decide +kernel
theorem dX3_counted_13 : decode cX3_counted 13 = .ok (.iload_n 1, 1) := by decide +kernel
theorem dX3_counted_14 : decode cX3_counted 14 = .ok (.iconst 1, 1) := by decide +kernel
theorem dX3_counted_15 : decode cX3_counted 15 = .ok (.if_icmp .ne 8, 3) := by decide +kernel
theorem dX3_counted_18 : decode cX3_counted 18 = .ok (.aload_n 0, 1) := by decide +kernel
theorem dX3_counted_19 : decode cX3_counted 19 = .ok (.getfield 32, 3) := by decide +kernel
theorem dX3_counted_22 : decode cX3_counted 22 = .ok (.ireturn, 1) := by decide +kernel
theorem dX3_counted_23 : decode cX3_counted 23 = .ok (.iconst 0, 1) := by decide +kernel
theorem dX3_counted_24 : decode cX3_counted 24 = .ok (.istore_n 3, 1) := by decide +kernel
theorem dX3_counted_25 : decode cX3_counted 25 = .ok (.iload_n 3, 1) := by decide +kernel
theorem dX3_counted_26 : decode cX3_counted 26 = .ok (.aload_n 0, 1) := by decide +kernel
theorem dX3_counted_27 : decode cX3_counted 27 = .ok (.getfield 63, 3) := by decide +kernel
theorem dX3_counted_30 : decode cX3_counted 30 = .ok (.if_icmp .ge 25, 3) := by decide +kernel
theorem dX3_counted_33 : decode cX3_counted 33 = .ok (.iload_n 1, 1) := by decide +kernel
theorem dX3_counted_34 : decode cX3_counted 34 = .ok (.iconst 4, 1) := by decide +kernel
theorem dX3_counted_35 : decode cX3_counted 35 = .ok (.if_icmp .ne 20, 3) := by decide +kernel
theorem dX3_counted_38 : decode cX3_counted 38 = .ok (.iload_n 2, 1) := by decide +kernel
theorem dX3_counted_39 : decode cX3_counted 39 = .ok (.iconst 1, 1) := by decide +kernel
theorem dX3_counted_40 : decode cX3_counted 40 = .ok (.aload_n 0, 1) := by decide +kernel
theorem dX3_counted_41 : decode cX3_counted 41 = .ok (.iload_n 3, 1) := by decide +kernel
theorem dX3_counted_42 : decode cX3_counted 42 = .ok (.iconst 2, 1) := by decide +kernel
theorem dX3_counted_43 : decode cX3_counted 43 = .ok (.invokevirtual 66, 3) := by decide +kernel
theorem dX3_counted_46 : decode cX3_counted 46 = .ok (.isub, 1) := by decide +kernel
theorem dX3_counted_47 : decode cX3_counted 47 = .ok (.iadd, 1) := by decide +kernel
theorem dX3_counted_48 : decode cX3_counted 48 = .ok (.istore_n 2, 1) := by decide +kernel
theorem dX3_counted_49 : decode cX3_counted 49 = .ok (.iinc 3 1, 3) := by decide +kernel
theorem dX3_counted_52 : decode cX3_counted 52 = .ok (.goto (-27), 3) := by decide +kernel
theorem dX3_counted_55 : decode cX3_counted 55 = .ok (.iconst 0, 1) := by decide +kernel
theorem dX3_counted_56 : decode cX3_counted 56 = .ok (.istore_n 3, 1) := by decide +kernel
theorem dX3_counted_57 : decode cX3_counted 57 = .ok (.iload_n 3, 1) := by decide +kernel
theorem dX3_counted_58 : decode cX3_counted 58 = .ok (.aload_n 0, 1) := by decide +kernel
theorem dX3_counted_59 : decode cX3_counted 59 = .ok (.getfield 32, 3) := by decide +kernel
theorem dX3_counted_62 : decode cX3_counted 62 = .ok (.if_icmp .ge 116, 3) := by decide +kernel
theorem dX3_counted_65 : decode cX3_counted 65 = .ok (.iload_n 1, 1) := by decide +kernel
theorem dX3_counted_66 : decode cX3_counted 66 = .ok (.iconst 4, 1) := by decide +kernel
theorem dX3_counted_67 : decode cX3_counted 67 = .ok (.if_icmp .eq 111, 3) := by decide +kernel
theorem dX3_counted_70 : decode cX3_counted 70 = .ok (.aload_n 0, 1) := by decide +kernel
theorem dX3_counted_71 : decode cX3_counted 71 = .ok (.iload_n 3, 1) := by decide +kernel
theorem dX3_counted_72 : decode cX3_counted 72 = .ok (.invokevirtual 43, 3) := by decide +kernel
theorem dX3_counted_75 : decode cX3_counted 75 = .ok (.ifCond .ne 6, 3) := by decide +kernel
theorem dX3_counted_78 : decode cX3_counted 78 = .ok (.goto 94, 3) := by decide +kernel
theorem dX3_counted_81 : decode cX3_counted 81 = .ok (.aload_n 0, 1) := by decide +kernel
theorem dX3_counted_82 : decode cX3_counted 82 = .ok (.iload_n 3, 1) := by decide +kernel
theorem dX3_counted_83 : decode cX3_counted 83 = .ok (.iconst 3, 1) := by decide +kernel
theorem dX3_counted_84 : decode cX3_counted 84 = .ok (.invokevirtual 39, 3) := by decide +kernel
theorem dX3_counted_87 : decode cX3_counted 87 = .ok (.ifCond .le 7, 3) := by decide +kernel
theorem dX3_counted_90 : decode cX3_counted 90 = .ok (.iconst 1, 1) := by decide +kernel
theorem dX3_counted_91 : decode cX3_counted 91 = .ok (.goto 4, 3) := by decide +kernel
theorem dX3_counted_94 : decode cX3_counted 94 = .ok (.iconst 0, 1) := by decide +kernel
theorem dX3_counted_95 : decode cX3_counted 95 = .ok (.istore 4, 2) := by decide +kernel
theorem dX3_counted_97 : decode cX3_counted 97 = .ok (.iload_n 2, 1) := by decide +kernel
theorem dX3_counted_98 : decode cX3_counted 98 = .ok (.iload_n 1, 1) := by decide +kernel
theorem dX3_counted_99 : decode cX3_counted 99 = .ok (.iconst 2, 1) := by decide +kernel
theorem dX3_counted_100 : decode cX3_counted 100 = .ok (.if_icmp .ne 7, 3) := by decide +kernel
theorem dX3_counted_103 : decode cX3_counted 103 = .ok (.iconst 1, 1) := by decide +kernel
theorem dX3_counted_104 : decode cX3_counted 104 = .ok (.goto 66, 3) := by decide +kernel
theorem dX3_counted_107 : decode cX3_counted 107 = .ok (.iload_n 1, 1) := by decide +kernel
theorem dX3_counted_108 : decode cX3_counted 108 = .ok (.iconst 3, 1) := by decide +kernel
theorem dX3_counted_109 : decode cX3_counted 109 = .ok (.if_icmp .ne 16, 3) := by decide +kernel
theorem dX3_counted_112 : decode cX3_counted 112 = .ok (.iload 4, 2) := by decide +kernel
theorem dX3_counted_114 : decode cX3_counted 114 = .ok (.ifCond .eq 7, 3) := by decide +kernel
theorem dX3_counted_117 : decode cX3_counted 117 = .ok (.iconst 1, 1) := by decide +kernel
theorem dX3_counted_118 : decode cX3_counted 118 = .ok (.goto 52, 3) := by decide +kernel
theorem dX3_counted_121 : decode cX3_counted 121 = .ok (.iconst 0, 1) := by decide +kernel
theorem dX3_counted_122 : decode cX3_counted 122 = .ok (.goto 48, 3) := by decide +kernel
theorem dX3_counted_125 : decode cX3_counted 125 = .ok (.iload_n 1, 1) := by decide +kernel
theorem dX3_counted_126 : decode cX3_counted 126 = .ok (.iconst 5, 1) := by decide +kernel
theorem dX3_counted_127 : decode cX3_counted 127 = .ok (.if_icmp .ne 12, 3) := by decide +kernel
theorem dX3_counted_130 : decode cX3_counted 130 = .ok (.aload_n 0, 1) := by decide +kernel
theorem dX3_counted_131 : decode cX3_counted 131 = .ok (.iload_n 3, 1) := by decide +kernel
theorem dX3_counted_132 : decode cX3_counted 132 = .ok (.iconst 3, 1) := by decide +kernel
theorem dX3_counted_133 : decode cX3_counted 133 = .ok (.invokevirtual 39, 3) := by decide +kernel
theorem dX3_counted_136 : decode cX3_counted 136 = .ok (.goto 34, 3) := by decide +kernel
theorem dX3_counted_139 : decode cX3_counted 139 = .ok (.iload_n 1, 1) := by decide +kernel
theorem dX3_counted_140 : decode cX3_counted 140 = .ok (.bipush 6, 2) := by decide +kernel
theorem dX3_counted_142 : decode cX3_counted 142 = .ok (.if_icmp .ne 13, 3) := by decide +kernel
theorem dX3_counted_145 : decode cX3_counted 145 = .ok (.aload_n 0, 1) := by decide +kernel
theorem dX3_counted_146 : decode cX3_counted 146 = .ok (.iload_n 3, 1) := by decide +kernel
theorem dX3_counted_147 : decode cX3_counted 147 = .ok (.bipush 6, 2) := by decide +kernel
theorem dX3_counted_149 : decode cX3_counted 149 = .ok (.invokevirtual 39, 3) := by decide +kernel
theorem dX3_counted_152 : decode cX3_counted 152 = .ok (.goto 18, 3) := by decide +kernel
theorem dX3_counted_155 : decode cX3_counted 155 = .ok (.iload 4, 2) := by decide +kernel
theorem dX3_counted_157 : decode cX3_counted 157 = .ok (.ifCond .eq 12, 3) := by decide +kernel
theorem dX3_counted_160 : decode cX3_counted 160 = .ok (.aload_n 0, 1) := by decide +kernel
theorem dX3_counted_161 : decode cX3_counted 161 = .ok (.getfield 19, 3) := by decide +kernel
theorem dX3_counted_164 : decode cX3_counted 164 = .ok (.iload_n 3, 1) := by decide +kernel
theorem dX3_counted_165 : decode cX3_counted 165 = .ok (.iaload, 1) := by decide +kernel
theorem dX3_counted_166 : decode cX3_counted 166 = .ok (.goto 4, 3) := by decide +kernel
theorem dX3_counted_169 : decode cX3_counted 169 = .ok (.iconst 0, 1) := by decide +kernel
theorem dX3_counted_170 : decode cX3_counted 170 = .ok (.iadd, 1) := by decide +kernel
theorem dX3_counted_171 : decode cX3_counted 171 = .ok (.istore_n 2, 1) := by decide +kernel
theorem dX3_counted_172 : decode cX3_counted 172 = .ok (.iinc 3 1, 3) := by decide +kernel
theorem dX3_counted_175 : decode cX3_counted 175 = .ok (.goto (-118), 3) := by decide +kernel
theorem dX3_counted_178 : decode cX3_counted 178 = .ok (.iload_n 2, 1) := by decide +kernel
theorem dX3_counted_179 : decode cX3_counted 179 = .ok (.ireturn, 1) := by decide +kernel
theorem dX3_count_0 : decode cX3_count 0 = .ok (.aload_n 0, 1) := by decide +kernel
theorem dX3_count_1 : decode cX3_count 1 = .ok (.iconst 0, 1) := by decide +kernel
theorem dX3_count_2 : decode cX3_count 2 = .ok (.putfield 28, 3) := by decide +kernel
theorem dX3_count_5 : decode cX3_count 5 = .ok (.iload_n 1, 1) := by decide +kernel
theorem dX3_count_6 : decode cX3_count 6 = .ok (.iconst 0, 1) := by decide +kernel
theorem dX3_count_7 : decode cX3_count 7 = .ok (.bipush 7, 2) := by decide +kernel
theorem dX3_count_9 : decode cX3_count 9 = .ok (.invokestatic 35, 3) := by decide +kernel
theorem dX3_count_12 : decode cX3_count 12 = .ok (.ifCond .ne 9, 3) := by decide +kernel
theorem dX3_count_15 : decode cX3_count 15 = .ok (.aload_n 0, 1) := by decide +kernel
theorem dX3_count_16 : decode cX3_count 16 = .ok (.iconst 1, 1) := by decide +kernel
theorem dX3_count_17 : decode cX3_count 17 = .ok (.invokevirtual 88, 3) := by decide +kernel
theorem dX3_count_20 : decode cX3_count 20 = .ok (.ireturn, 1) := by decide +kernel
theorem dX3_count_21 : decode cX3_count 21 = .ok (.aload_n 0, 1) := by decide +kernel
theorem dX3_count_22 : decode cX3_count 22 = .ok (.invokevirtual 73, 3) := by decide +kernel
theorem dX3_count_25 : decode cX3_count 25 = .ok (.aload_n 0, 1) := by decide +kernel
theorem dX3_count_26 : decode cX3_count 26 = .ok (.iload_n 1, 1) := by decide +kernel
theorem dX3_count_27 : decode cX3_count 27 = .ok (.invokevirtual 112, 3) := by decide +kernel
theorem dX3_count_30 : decode cX3_count 30 = .ok (.ireturn, 1) := by decide +kernel
theorem dX3_dayOn_0 : decode cX3_dayOn 0 = .ok (.iconst 0, 1) := by decide +kernel
theorem dX3_dayOn_1 : decode cX3_dayOn 1 = .ok (.istore_n 1, 1) := by decide +kernel
theorem dX3_dayOn_2 : decode cX3_dayOn 2 = .ok (.iload_n 1, 1) := by decide +kernel
theorem dX3_dayOn_3 : decode cX3_dayOn 3 = .ok (.aload_n 0, 1) := by decide +kernel
theorem dX3_dayOn_4 : decode cX3_dayOn 4 = .ok (.getfield 32, 3) := by decide +kernel
theorem dX3_dayOn_7 : decode cX3_dayOn 7 = .ok (.if_icmp .ge 27, 3) := by decide +kernel
theorem dX3_dayOn_10 : decode cX3_dayOn 10 = .ok (.aload_n 0, 1) := by decide +kernel
theorem dX3_dayOn_11 : decode cX3_dayOn 11 = .ok (.iload_n 1, 1) := by decide +kernel
theorem dX3_dayOn_12 : decode cX3_dayOn 12 = .ok (.iconst 3, 1) := by decide +kernel
theorem dX3_dayOn_13 : decode cX3_dayOn 13 = .ok (.iconst 0, 1) := by decide +kernel
theorem dX3_dayOn_14 : decode cX3_dayOn 14 = .ok (.aload_n 0, 1) := by decide +kernel
theorem dX3_dayOn_15 : decode cX3_dayOn 15 = .ok (.iload_n 1, 1) := by decide +kernel
theorem dX3_dayOn_16 : decode cX3_dayOn 16 = .ok (.iconst 3, 1) := by decide +kernel
theorem dX3_dayOn_17 : decode cX3_dayOn 17 = .ok (.invokevirtual 39, 3) := by decide +kernel
theorem dX3_dayOn_20 : decode cX3_dayOn 20 = .ok (.iconst 2, 1) := by decide +kernel
theorem dX3_dayOn_21 : decode cX3_dayOn 21 = .ok (.isub, 1) := by decide +kernel
theorem dX3_dayOn_22 : decode cX3_dayOn 22 = .ok (.invokestatic 47, 3) := by decide +kernel
theorem dX3_dayOn_25 : decode cX3_dayOn 25 = .ok (.invokevirtual 56, 3) := by decide +kernel
theorem dX3_dayOn_28 : decode cX3_dayOn 28 = .ok (.iinc 1 1, 3) := by decide +kernel
theorem dX3_dayOn_31 : decode cX3_dayOn 31 = .ok (.goto (-29), 3) := by decide +kernel
theorem dX3_dayOn_34 : decode cX3_dayOn 34 = .ok (.aload_n 0, 1) := by decide +kernel
theorem dX3_dayOn_35 : decode cX3_dayOn 35 = .ok (.invokevirtual 76, 3) := by decide +kernel
theorem dX3_dayOn_38 : decode cX3_dayOn 38 = .ok (.aload_n 0, 1) := by decide +kernel
theorem dX3_dayOn_39 : decode cX3_dayOn 39 = .ok (.invokevirtual 85, 3) := by decide +kernel
theorem dX3_dayOn_42 : decode cX3_dayOn 42 = .ok (.aload_n 0, 1) := by decide +kernel
theorem dX3_dayOn_43 : decode cX3_dayOn 43 = .ok (.getfield 16, 3) := by decide +kernel
theorem dX3_dayOn_46 : decode cX3_dayOn 46 = .ok (.iconst 0, 1) := by decide +kernel
theorem dX3_dayOn_47 : decode cX3_dayOn 47 = .ok (.dup2, 1) := by decide +kernel
theorem dX3_dayOn_48 : decode cX3_dayOn 48 = .ok (.iaload, 1) := by decide +kernel
theorem dX3_dayOn_49 : decode cX3_dayOn 49 = .ok (.iconst 1, 1) := by decide +kernel
theorem dX3_dayOn_50 : decode cX3_dayOn 50 = .ok (.iadd, 1) := by decide +kernel
theorem dX3_dayOn_51 : decode cX3_dayOn 51 = .ok (.iastore, 1) := by decide +kernel
theorem dX3_dayOn_52 : decode cX3_dayOn 52 = .ok (.return_, 1) := by decide +kernel
theorem dX3_daysOn_0 : decode cX3_daysOn 0 = .ok (.iconst 0, 1) := by decide +kernel
theorem dX3_daysOn_1 : decode cX3_daysOn 1 = .ok (.istore_n 2, 1) := by decide +kernel
theorem dX3_daysOn_2 : decode cX3_daysOn 2 = .ok (.iload_n 2, 1) := by decide +kernel
theorem dX3_daysOn_3 : decode cX3_daysOn 3 = .ok (.iload_n 1, 1) := by decide +kernel
theorem dX3_daysOn_4 : decode cX3_daysOn 4 = .ok (.if_icmp .ge 13, 3) := by decide +kernel
theorem dX3_daysOn_7 : decode cX3_daysOn 7 = .ok (.aload_n 0, 1) := by decide +kernel
theorem dX3_daysOn_8 : decode cX3_daysOn 8 = .ok (.invokevirtual 115, 3) := by decide +kernel
theorem dX3_daysOn_11 : decode cX3_daysOn 11 = .ok (.iinc 2 1, 3) := by decide +kernel
theorem dX3_daysOn_14 : decode cX3_daysOn 14 = .ok (.goto (-12), 3) := by decide +kernel
theorem dX3_daysOn_17 : decode cX3_daysOn 17 = .ok (.return_, 1) := by decide +kernel
theorem dX3_pass_0 : decode cX3_pass 0 = .ok (.aload_n 0, 1) := by decide +kernel
theorem dX3_pass_1 : decode cX3_pass 1 = .ok (.iconst 0, 1) := by decide +kernel
theorem dX3_pass_2 : decode cX3_pass 2 = .ok (.putfield 28, 3) := by decide +kernel
theorem dX3_pass_5 : decode cX3_pass 5 = .ok (.iload_n 1, 1) := by decide +kernel
theorem dX3_pass_6 : decode cX3_pass 6 = .ok (.iconst 1, 1) := by decide +kernel
theorem dX3_pass_7 : decode cX3_pass 7 = .ok (.bipush 120, 2) := by decide +kernel
theorem dX3_pass_9 : decode cX3_pass 9 = .ok (.invokestatic 35, 3) := by decide +kernel
theorem dX3_pass_12 : decode cX3_pass 12 = .ok (.ifCond .ne 9, 3) := by decide +kernel
theorem dX3_pass_15 : decode cX3_pass 15 = .ok (.aload_n 0, 1) := by decide +kernel
theorem dX3_pass_16 : decode cX3_pass 16 = .ok (.iconst 1, 1) := by decide +kernel
theorem dX3_pass_17 : decode cX3_pass 17 = .ok (.invokevirtual 88, 3) := by decide +kernel
theorem dX3_pass_20 : decode cX3_pass 20 = .ok (.ireturn, 1) := by decide +kernel
theorem dX3_pass_21 : decode cX3_pass 21 = .ok (.aload_n 0, 1) := by decide +kernel
theorem dX3_pass_22 : decode cX3_pass 22 = .ok (.invokevirtual 99, 3) := by decide +kernel
theorem dX3_pass_25 : decode cX3_pass 25 = .ok (.istore_n 2, 1) := by decide +kernel
theorem dX3_pass_26 : decode cX3_pass 26 = .ok (.aload_n 0, 1) := by decide +kernel
theorem dX3_pass_27 : decode cX3_pass 27 = .ok (.iload_n 1, 1) := by decide +kernel
theorem dX3_pass_28 : decode cX3_pass 28 = .ok (.invokevirtual 118, 3) := by decide +kernel
theorem dX3_pass_31 : decode cX3_pass 31 = .ok (.iload_n 2, 1) := by decide +kernel
theorem dX3_pass_32 : decode cX3_pass 32 = .ok (.aload_n 0, 1) := by decide +kernel
theorem dX3_pass_33 : decode cX3_pass 33 = .ok (.invokevirtual 99, 3) := by decide +kernel
theorem dX3_pass_36 : decode cX3_pass 36 = .ok (.isub, 1) := by decide +kernel
theorem dX3_pass_37 : decode cX3_pass 37 = .ok (.ireturn, 1) := by decide +kernel
theorem dX3_kept_0 : decode cX3_kept 0 = .ok (.iconst 3, 1) := by decide +kernel
theorem dX3_kept_1 : decode cX3_kept 1 = .ok (.anewarray 121, 3) := by decide +kernel
theorem dX3_kept_4 : decode cX3_kept 4 = .ok (.dup, 1) := by decide +kernel
theorem dX3_kept_5 : decode cX3_kept 5 = .ok (.iconst 0, 1) := by decide +kernel
theorem dX3_kept_6 : decode cX3_kept 6 = .ok (.aload_n 0, 1) := by decide +kernel
theorem dX3_kept_7 : decode cX3_kept 7 = .ok (.getfield 9, 3) := by decide +kernel
theorem dX3_kept_10 : decode cX3_kept 10 = .ok (.invokevirtual 122, 3) := by decide +kernel
theorem dX3_kept_13 : decode cX3_kept 13 = .ok (.checkcast 121, 3) := by decide +kernel
theorem dX3_kept_16 : decode cX3_kept 16 = .ok (.aastore, 1) := by decide +kernel
theorem dX3_kept_17 : decode cX3_kept 17 = .ok (.dup, 1) := by decide +kernel
theorem dX3_kept_18 : decode cX3_kept 18 = .ok (.iconst 1, 1) := by decide +kernel
theorem dX3_kept_19 : decode cX3_kept 19 = .ok (.aload_n 0, 1) := by decide +kernel
theorem dX3_kept_20 : decode cX3_kept 20 = .ok (.getfield 13, 3) := by decide +kernel
theorem dX3_kept_23 : decode cX3_kept 23 = .ok (.invokevirtual 122, 3) := by decide +kernel
theorem dX3_kept_26 : decode cX3_kept 26 = .ok (.checkcast 121, 3) := by decide +kernel
theorem dX3_kept_29 : decode cX3_kept 29 = .ok (.aastore, 1) := by decide +kernel
theorem dX3_kept_30 : decode cX3_kept 30 = .ok (.dup, 1) := by decide +kernel
theorem dX3_kept_31 : decode cX3_kept 31 = .ok (.iconst 2, 1) := by decide +kernel
theorem dX3_kept_32 : decode cX3_kept 32 = .ok (.aload_n 0, 1) := by decide +kernel
theorem dX3_kept_33 : decode cX3_kept 33 = .ok (.getfield 16, 3) := by decide +kernel
theorem dX3_kept_36 : decode cX3_kept 36 = .ok (.invokevirtual 122, 3) := by decide +kernel
theorem dX3_kept_39 : decode cX3_kept 39 = .ok (.checkcast 121, 3) := by decide +kernel
theorem dX3_kept_42 : decode cX3_kept 42 = .ok (.aastore, 1) := by decide +kernel
theorem dX3_kept_43 : decode cX3_kept 43 = .ok (.areturn, 1) := by decide +kernel
theorem dX3_bringBack_0 : decode cX3_bringBack 0 = .ok (.aload_n 1, 1) := by decide +kernel
theorem dX3_bringBack_1 : decode cX3_bringBack 1 = .ok (.iconst 0, 1) := by decide +kernel
theorem dX3_bringBack_2 : decode cX3_bringBack 2 = .ok (.aaload, 1) := by decide +kernel
theorem dX3_bringBack_3 : decode cX3_bringBack 3 = .ok (.iconst 0, 1) := by decide +kernel
theorem dX3_bringBack_4 : decode cX3_bringBack 4 = .ok (.aload_n 0, 1) := by decide +kernel
theorem dX3_bringBack_5 : decode cX3_bringBack 5 = .ok (.getfield 9, 3) := by decide +kernel
theorem dX3_bringBack_8 : decode cX3_bringBack 8 = .ok (.iconst 0, 1) := by decide +kernel
theorem dX3_bringBack_9 : decode cX3_bringBack 9 = .ok (.aload_n 0, 1) := by decide +kernel
theorem dX3_bringBack_10 : decode cX3_bringBack 10 = .ok (.getfield 9, 3) := by decide +kernel
theorem dX3_bringBack_13 : decode cX3_bringBack 13 = .ok (.arraylength, 1) := by decide +kernel
theorem dX3_bringBack_14 : decode cX3_bringBack 14 = .ok (.invokestatic 79, 3) := by decide +kernel
theorem dX3_bringBack_17 : decode cX3_bringBack 17 = .ok (.aload_n 1, 1) := by decide +kernel
theorem dX3_bringBack_18 : decode cX3_bringBack 18 = .ok (.iconst 1, 1) := by decide +kernel
theorem dX3_bringBack_19 : decode cX3_bringBack 19 = .ok (.aaload, 1) := by decide +kernel
theorem dX3_bringBack_20 : decode cX3_bringBack 20 = .ok (.iconst 0, 1) := by decide +kernel
theorem dX3_bringBack_21 : decode cX3_bringBack 21 = .ok (.aload_n 0, 1) := by decide +kernel
theorem dX3_bringBack_22 : decode cX3_bringBack 22 = .ok (.getfield 13, 3) := by decide +kernel
theorem dX3_bringBack_25 : decode cX3_bringBack 25 = .ok (.iconst 0, 1) := by decide +kernel
theorem dX3_bringBack_26 : decode cX3_bringBack 26 = .ok (.aload_n 0, 1) := by decide +kernel
theorem dX3_bringBack_27 : decode cX3_bringBack 27 = .ok (.getfield 13, 3) := by decide +kernel
theorem dX3_bringBack_30 : decode cX3_bringBack 30 = .ok (.arraylength, 1) := by decide +kernel
theorem dX3_bringBack_31 : decode cX3_bringBack 31 = .ok (.invokestatic 79, 3) := by decide +kernel
theorem dX3_bringBack_34 : decode cX3_bringBack 34 = .ok (.aload_n 0, 1) := by decide +kernel
theorem dX3_bringBack_35 : decode cX3_bringBack 35 = .ok (.getfield 16, 3) := by decide +kernel
theorem dX3_bringBack_38 : decode cX3_bringBack 38 = .ok (.iconst 0, 1) := by decide +kernel
theorem dX3_bringBack_39 : decode cX3_bringBack 39 = .ok (.aload_n 1, 1) := by decide +kernel
theorem dX3_bringBack_40 : decode cX3_bringBack 40 = .ok (.iconst 2, 1) := by decide +kernel
theorem dX3_bringBack_41 : decode cX3_bringBack 41 = .ok (.aaload, 1) := by decide +kernel
theorem dX3_bringBack_42 : decode cX3_bringBack 42 = .ok (.iconst 0, 1) := by decide +kernel
theorem dX3_bringBack_43 : decode cX3_bringBack 43 = .ok (.iaload, 1) := by decide +kernel
theorem dX3_bringBack_44 : decode cX3_bringBack 44 = .ok (.iastore, 1) := by decide +kernel
theorem dX3_bringBack_45 : decode cX3_bringBack 45 = .ok (.return_, 1) := by decide +kernel
theorem dX3_without_0 : decode cX3_without 0 = .ok (.aload_n 0, 1) := by decide +kernel
theorem dX3_without_1 : decode cX3_without 1 = .ok (.iconst 0, 1) := by decide +kernel
theorem dX3_without_2 : decode cX3_without 2 = .ok (.putfield 28, 3) := by decide +kernel
theorem dX3_without_5 : decode cX3_without 5 = .ok (.aload_n 0, 1) := by decide +kernel
theorem dX3_without_6 : decode cX3_without 6 = .ok (.iload_n 1, 1) := by decide +kernel
theorem dX3_without_7 : decode cX3_without 7 = .ok (.invokevirtual 96, 3) := by decide +kernel
theorem dX3_without_10 : decode cX3_without 10 = .ok (.ifCond .ne 9, 3) := by decide +kernel
theorem dX3_without_13 : decode cX3_without 13 = .ok (.aload_n 0, 1) := by decide +kernel
theorem dX3_without_14 : decode cX3_without 14 = .ok (.iconst 1, 1) := by decide +kernel
theorem dX3_without_15 : decode cX3_without 15 = .ok (.invokevirtual 88, 3) := by decide +kernel
theorem dX3_without_18 : decode cX3_without 18 = .ok (.ireturn, 1) := by decide +kernel
theorem dX3_without_19 : decode cX3_without 19 = .ok (.aload_n 0, 1) := by decide +kernel
theorem dX3_without_20 : decode cX3_without 20 = .ok (.invokevirtual 126, 3) := by decide +kernel
theorem dX3_without_23 : decode cX3_without 23 = .ok (.astore_n 2, 1) := by decide +kernel
theorem dX3_without_24 : decode cX3_without 24 = .ok (.aload_n 0, 1) := by decide +kernel
theorem dX3_without_25 : decode cX3_without 25 = .ok (.invokevirtual 99, 3) := by decide +kernel
theorem dX3_without_28 : decode cX3_without 28 = .ok (.istore_n 3, 1) := by decide +kernel
theorem dX3_without_29 : decode cX3_without 29 = .ok (.aload_n 0, 1) := by decide +kernel
theorem dX3_without_30 : decode cX3_without 30 = .ok (.iload_n 1, 1) := by decide +kernel
theorem dX3_without_31 : decode cX3_without 31 = .ok (.iconst 3, 1) := by decide +kernel
theorem dX3_without_32 : decode cX3_without 32 = .ok (.iconst 0, 1) := by decide +kernel
theorem dX3_without_33 : decode cX3_without 33 = .ok (.invokevirtual 56, 3) := by decide +kernel
theorem dX3_without_36 : decode cX3_without 36 = .ok (.aload_n 0, 1) := by decide +kernel
theorem dX3_without_37 : decode cX3_without 37 = .ok (.iload_n 1, 1) := by decide +kernel
theorem dX3_without_38 : decode cX3_without 38 = .ok (.iconst 4, 1) := by decide +kernel
theorem dX3_without_39 : decode cX3_without 39 = .ok (.iconst (-1), 1) := by decide +kernel
theorem dX3_without_40 : decode cX3_without 40 = .ok (.invokevirtual 56, 3) := by decide +kernel
theorem dX3_without_43 : decode cX3_without 43 = .ok (.aload_n 0, 1) := by decide +kernel
theorem dX3_without_44 : decode cX3_without 44 = .ok (.iload_n 1, 1) := by decide +kernel
theorem dX3_without_45 : decode cX3_without 45 = .ok (.iconst 5, 1) := by decide +kernel
theorem dX3_without_46 : decode cX3_without 46 = .ok (.iconst (-1), 1) := by decide +kernel
theorem dX3_without_47 : decode cX3_without 47 = .ok (.invokevirtual 56, 3) := by decide +kernel
theorem dX3_without_50 : decode cX3_without 50 = .ok (.aload_n 0, 1) := by decide +kernel
theorem dX3_without_51 : decode cX3_without 51 = .ok (.invokevirtual 76, 3) := by decide +kernel
theorem dX3_without_54 : decode cX3_without 54 = .ok (.aload_n 0, 1) := by decide +kernel
theorem dX3_without_55 : decode cX3_without 55 = .ok (.invokevirtual 85, 3) := by decide +kernel
theorem dX3_without_58 : decode cX3_without 58 = .ok (.iload_n 3, 1) := by decide +kernel
theorem dX3_without_59 : decode cX3_without 59 = .ok (.aload_n 0, 1) := by decide +kernel
theorem dX3_without_60 : decode cX3_without 60 = .ok (.invokevirtual 99, 3) := by decide +kernel
theorem dX3_without_63 : decode cX3_without 63 = .ok (.isub, 1) := by decide +kernel
theorem dX3_without_64 : decode cX3_without 64 = .ok (.istore 4, 2) := by decide +kernel
theorem dX3_without_66 : decode cX3_without 66 = .ok (.aload_n 0, 1) := by decide +kernel
theorem dX3_without_67 : decode cX3_without 67 = .ok (.aload_n 2, 1) := by decide +kernel
theorem dX3_without_68 : decode cX3_without 68 = .ok (.invokevirtual 130, 3) := by decide +kernel
theorem dX3_without_71 : decode cX3_without 71 = .ok (.iload 4, 2) := by decide +kernel
theorem dX3_without_73 : decode cX3_without 73 = .ok (.ireturn, 1) := by decide +kernel
theorem dX3_lasts_0 : decode cX3_lasts 0 = .ok (.aload_n 0, 1) := by decide +kernel
theorem dX3_lasts_1 : decode cX3_lasts 1 = .ok (.iconst 0, 1) := by decide +kernel
theorem dX3_lasts_2 : decode cX3_lasts 2 = .ok (.putfield 28, 3) := by decide +kernel
theorem dX3_lasts_5 : decode cX3_lasts 5 = .ok (.aload_n 0, 1) := by decide +kernel
theorem dX3_lasts_6 : decode cX3_lasts 6 = .ok (.iload_n 1, 1) := by decide +kernel
theorem dX3_lasts_7 : decode cX3_lasts 7 = .ok (.invokevirtual 96, 3) := by decide +kernel
theorem dX3_lasts_10 : decode cX3_lasts 10 = .ok (.ifCond .ne 9, 3) := by decide +kernel
theorem dX3_lasts_13 : decode cX3_lasts 13 = .ok (.aload_n 0, 1) := by decide +kernel
theorem dX3_lasts_14 : decode cX3_lasts 14 = .ok (.iconst 1, 1) := by decide +kernel
theorem dX3_lasts_15 : decode cX3_lasts 15 = .ok (.invokevirtual 88, 3) := by decide +kernel
theorem dX3_lasts_18 : decode cX3_lasts 18 = .ok (.ireturn, 1) := by decide +kernel
theorem dX3_lasts_19 : decode cX3_lasts 19 = .ok (.aload_n 0, 1) := by decide +kernel
theorem dX3_lasts_20 : decode cX3_lasts 20 = .ok (.invokevirtual 126, 3) := by decide +kernel
theorem dX3_lasts_23 : decode cX3_lasts 23 = .ok (.astore_n 2, 1) := by decide +kernel
theorem dX3_lasts_24 : decode cX3_lasts 24 = .ok (.iconst 0, 1) := by decide +kernel
theorem dX3_lasts_25 : decode cX3_lasts 25 = .ok (.istore_n 3, 1) := by decide +kernel
theorem dX3_lasts_26 : decode cX3_lasts 26 = .ok (.iload_n 3, 1) := by decide +kernel
theorem dX3_lasts_27 : decode cX3_lasts 27 = .ok (.bipush 120, 2) := by decide +kernel
theorem dX3_lasts_29 : decode cX3_lasts 29 = .ok (.if_icmp .ge 21, 3) := by decide +kernel
theorem dX3_lasts_32 : decode cX3_lasts 32 = .ok (.aload_n 0, 1) := by decide +kernel
theorem dX3_lasts_33 : decode cX3_lasts 33 = .ok (.iload_n 1, 1) := by decide +kernel
theorem dX3_lasts_34 : decode cX3_lasts 34 = .ok (.invokevirtual 43, 3) := by decide +kernel
theorem dX3_lasts_37 : decode cX3_lasts 37 = .ok (.ifCond .eq 13, 3) := by decide +kernel
theorem dX3_lasts_40 : decode cX3_lasts 40 = .ok (.aload_n 0, 1) := by decide +kernel
theorem dX3_lasts_41 : decode cX3_lasts 41 = .ok (.invokevirtual 115, 3) := by decide +kernel
theorem dX3_lasts_44 : decode cX3_lasts 44 = .ok (.iinc 3 1, 3) := by decide +kernel
theorem dX3_lasts_47 : decode cX3_lasts 47 = .ok (.goto (-21), 3) := by decide +kernel
theorem dX3_lasts_50 : decode cX3_lasts 50 = .ok (.aload_n 0, 1) := by decide +kernel
theorem dX3_lasts_51 : decode cX3_lasts 51 = .ok (.iload_n 1, 1) := by decide +kernel
theorem dX3_lasts_52 : decode cX3_lasts 52 = .ok (.invokevirtual 43, 3) := by decide +kernel
theorem dX3_lasts_55 : decode cX3_lasts 55 = .ok (.ifCond .eq 5, 3) := by decide +kernel
theorem dX3_lasts_58 : decode cX3_lasts 58 = .ok (.iconst (-1), 1) := by decide +kernel
theorem dX3_lasts_59 : decode cX3_lasts 59 = .ok (.istore_n 3, 1) := by decide +kernel
theorem dX3_lasts_60 : decode cX3_lasts 60 = .ok (.aload_n 0, 1) := by decide +kernel
theorem dX3_lasts_61 : decode cX3_lasts 61 = .ok (.aload_n 2, 1) := by decide +kernel
theorem dX3_lasts_62 : decode cX3_lasts 62 = .ok (.invokevirtual 130, 3) := by decide +kernel
theorem dX3_lasts_65 : decode cX3_lasts 65 = .ok (.iload_n 3, 1) := by decide +kernel
theorem dX3_lasts_66 : decode cX3_lasts 66 = .ok (.ireturn, 1) := by decide +kernel
theorem dX3_foresee_0 : decode cX3_foresee 0 = .ok (.aload_n 0, 1) := by decide +kernel
theorem dX3_foresee_1 : decode cX3_foresee 1 = .ok (.iconst 0, 1) := by decide +kernel
theorem dX3_foresee_2 : decode cX3_foresee 2 = .ok (.putfield 28, 3) := by decide +kernel
theorem dX3_foresee_5 : decode cX3_foresee 5 = .ok (.iload_n 1, 1) := by decide +kernel
theorem dX3_foresee_6 : decode cX3_foresee 6 = .ok (.iconst 1, 1) := by decide +kernel
theorem dX3_foresee_7 : decode cX3_foresee 7 = .ok (.bipush 120, 2) := by decide +kernel
theorem dX3_foresee_9 : decode cX3_foresee 9 = .ok (.invokestatic 35, 3) := by decide +kernel
theorem dX3_foresee_12 : decode cX3_foresee 12 = .ok (.ifCond .ne 9, 3) := by decide +kernel
theorem dX3_foresee_15 : decode cX3_foresee 15 = .ok (.aload_n 0, 1) := by decide +kernel
theorem dX3_foresee_16 : decode cX3_foresee 16 = .ok (.iconst 1, 1) := by decide +kernel
theorem dX3_foresee_17 : decode cX3_foresee 17 = .ok (.invokevirtual 88, 3) := by decide +kernel
theorem dX3_foresee_20 : decode cX3_foresee 20 = .ok (.ireturn, 1) := by decide +kernel
theorem dX3_foresee_21 : decode cX3_foresee 21 = .ok (.iload_n 2, 1) := by decide +kernel
theorem dX3_foresee_22 : decode cX3_foresee 22 = .ok (.iconst 0, 1) := by decide +kernel
theorem dX3_foresee_23 : decode cX3_foresee 23 = .ok (.iconst 2, 1) := by decide +kernel
theorem dX3_foresee_24 : decode cX3_foresee 24 = .ok (.invokestatic 35, 3) := by decide +kernel
theorem dX3_foresee_27 : decode cX3_foresee 27 = .ok (.ifCond .ne 9, 3) := by decide +kernel
theorem dX3_foresee_30 : decode cX3_foresee 30 = .ok (.aload_n 0, 1) := by decide +kernel
theorem dX3_foresee_31 : decode cX3_foresee 31 = .ok (.iconst 2, 1) := by decide +kernel
theorem dX3_foresee_32 : decode cX3_foresee 32 = .ok (.invokevirtual 88, 3) := by decide +kernel
theorem dX3_foresee_35 : decode cX3_foresee 35 = .ok (.ireturn, 1) := by decide +kernel
theorem dX3_foresee_36 : decode cX3_foresee 36 = .ok (.aload_n 0, 1) := by decide +kernel
theorem dX3_foresee_37 : decode cX3_foresee 37 = .ok (.invokevirtual 126, 3) := by decide +kernel
theorem dX3_foresee_40 : decode cX3_foresee 40 = .ok (.astore_n 3, 1) := by decide +kernel
theorem dX3_foresee_41 : decode cX3_foresee 41 = .ok (.aload_n 0, 1) := by decide +kernel
theorem dX3_foresee_42 : decode cX3_foresee 42 = .ok (.iload_n 1, 1) := by decide +kernel
theorem dX3_foresee_43 : decode cX3_foresee 43 = .ok (.invokevirtual 118, 3) := by decide +kernel
theorem dX3_foresee_46 : decode cX3_foresee 46 = .ok (.aload_n 0, 1) := by decide +kernel
theorem dX3_foresee_47 : decode cX3_foresee 47 = .ok (.iload_n 2, 1) := by decide +kernel
theorem dX3_foresee_48 : decode cX3_foresee 48 = .ok (.ifCond .ne 7, 3) := by decide +kernel
theorem dX3_foresee_51 : decode cX3_foresee 51 = .ok (.iconst 2, 1) := by decide +kernel
theorem dX3_foresee_52 : decode cX3_foresee 52 = .ok (.goto 13, 3) := by decide +kernel
theorem dX3_foresee_55 : decode cX3_foresee 55 = .ok (.iload_n 2, 1) := by decide +kernel
theorem dX3_foresee_56 : decode cX3_foresee 56 = .ok (.iconst 1, 1) := by decide +kernel
theorem dX3_foresee_57 : decode cX3_foresee 57 = .ok (.if_icmp .ne 7, 3) := by decide +kernel
theorem dX3_foresee_60 : decode cX3_foresee 60 = .ok (.iconst 4, 1) := by decide +kernel
theorem dX3_foresee_61 : decode cX3_foresee 61 = .ok (.goto 4, 3) := by decide +kernel
theorem dX3_foresee_64 : decode cX3_foresee 64 = .ok (.iconst 5, 1) := by decide +kernel
theorem dX3_foresee_65 : decode cX3_foresee 65 = .ok (.invokevirtual 112, 3) := by decide +kernel
theorem dX3_foresee_68 : decode cX3_foresee 68 = .ok (.istore 4, 2) := by decide +kernel
theorem dX3_foresee_70 : decode cX3_foresee 70 = .ok (.aload_n 0, 1) := by decide +kernel
theorem dX3_foresee_71 : decode cX3_foresee 71 = .ok (.aload_n 3, 1) := by decide +kernel
theorem dX3_foresee_72 : decode cX3_foresee 72 = .ok (.invokevirtual 130, 3) := by decide +kernel
theorem dX3_foresee_75 : decode cX3_foresee 75 = .ok (.iload 4, 2) := by decide +kernel
theorem dX3_foresee_77 : decode cX3_foresee 77 = .ok (.ireturn, 1) := by decide +kernel
theorem dX3_advise_0 : decode cX3_advise 0 = .ok (.aload_n 0, 1) := by decide +kernel
theorem dX3_advise_1 : decode cX3_advise 1 = .ok (.iconst 0, 1) := by decide +kernel
theorem dX3_advise_2 : decode cX3_advise 2 = .ok (.putfield 28, 3) := by decide +kernel
theorem dX3_advise_5 : decode cX3_advise 5 = .ok (.iload_n 1, 1) := by decide +kernel
theorem dX3_advise_6 : decode cX3_advise 6 = .ok (.iconst 1, 1) := by decide +kernel
theorem dX3_advise_7 : decode cX3_advise 7 = .ok (.bipush 60, 2) := by decide +kernel
theorem dX3_advise_9 : decode cX3_advise 9 = .ok (.invokestatic 35, 3) := by decide +kernel
theorem dX3_advise_12 : decode cX3_advise 12 = .ok (.ifCond .eq 13, 3) := by decide +kernel
theorem dX3_advise_15 : decode cX3_advise 15 = .ok (.iload_n 2, 1) := by decide +kernel
theorem dX3_advise_16 : decode cX3_advise 16 = .ok (.iconst 1, 1) := by decide +kernel
theorem dX3_advise_17 : decode cX3_advise 17 = .ok (.bipush 60, 2) := by decide +kernel
theorem dX3_advise_19 : decode cX3_advise 19 = .ok (.invokestatic 35, 3) := by decide +kernel
theorem dX3_advise_22 : decode cX3_advise 22 = .ok (.ifCond .ne 9, 3) := by decide +kernel
theorem dX3_advise_25 : decode cX3_advise 25 = .ok (.aload_n 0, 1) := by decide +kernel
theorem dX3_advise_26 : decode cX3_advise 26 = .ok (.iconst 1, 1) := by decide +kernel
theorem dX3_advise_27 : decode cX3_advise 27 = .ok (.invokevirtual 88, 3) := by decide +kernel
theorem dX3_advise_30 : decode cX3_advise 30 = .ok (.ireturn, 1) := by decide +kernel
theorem dX3_advise_31 : decode cX3_advise 31 = .ok (.aload_n 0, 1) := by decide +kernel
theorem dX3_advise_32 : decode cX3_advise 32 = .ok (.invokevirtual 126, 3) := by decide +kernel
theorem dX3_advise_35 : decode cX3_advise 35 = .ok (.astore_n 3, 1) := by decide +kernel
theorem dX3_advise_36 : decode cX3_advise 36 = .ok (.aload_n 0, 1) := by decide +kernel
theorem dX3_advise_37 : decode cX3_advise 37 = .ok (.iload_n 2, 1) := by decide +kernel
theorem dX3_advise_38 : decode cX3_advise 38 = .ok (.invokevirtual 118, 3) := by decide +kernel
theorem dX3_advise_41 : decode cX3_advise 41 = .ok (.iconst (-1), 1) := by decide +kernel
theorem dX3_advise_42 : decode cX3_advise 42 = .ok (.istore 4, 2) := by decide +kernel
theorem dX3_advise_44 : decode cX3_advise 44 = .ok (.aload_n 0, 1) := by decide +kernel
theorem dX3_advise_45 : decode cX3_advise 45 = .ok (.invokevirtual 99, 3) := by decide +kernel
theorem dX3_advise_48 : decode cX3_advise 48 = .ok (.istore 5, 2) := by decide +kernel
theorem dX3_advise_50 : decode cX3_advise 50 = .ok (.aload_n 0, 1) := by decide +kernel
theorem dX3_advise_51 : decode cX3_advise 51 = .ok (.aload_n 3, 1) := by decide +kernel
theorem dX3_advise_52 : decode cX3_advise 52 = .ok (.invokevirtual 130, 3) := by decide +kernel
theorem dX3_advise_55 : decode cX3_advise 55 = .ok (.iconst 0, 1) := by decide +kernel
theorem dX3_advise_56 : decode cX3_advise 56 = .ok (.istore 6, 2) := by decide +kernel
theorem dX3_advise_58 : decode cX3_advise 58 = .ok (.iload 6, 2) := by decide +kernel
theorem dX3_advise_60 : decode cX3_advise 60 = .ok (.aload_n 0, 1) := by decide +kernel
theorem dX3_advise_61 : decode cX3_advise 61 = .ok (.getfield 32, 3) := by decide +kernel
theorem dX3_advise_64 : decode cX3_advise 64 = .ok (.if_icmp .ge 82, 3) := by decide +kernel
theorem dX3_advise_67 : decode cX3_advise 67 = .ok (.aload_n 0, 1) := by decide +kernel
theorem dX3_advise_68 : decode cX3_advise 68 = .ok (.iload 6, 2) := by decide +kernel
theorem dX3_advise_70 : decode cX3_advise 70 = .ok (.invokevirtual 43, 3) := by decide +kernel
theorem dX3_advise_73 : decode cX3_advise 73 = .ok (.ifCond .ne 6, 3) := by decide +kernel
theorem dX3_advise_76 : decode cX3_advise 76 = .ok (.goto 64, 3) := by decide +kernel
theorem dX3_advise_79 : decode cX3_advise 79 = .ok (.aload_n 0, 1) := by decide +kernel
theorem dX3_advise_80 : decode cX3_advise 80 = .ok (.iload 6, 2) := by decide +kernel
theorem dX3_advise_82 : decode cX3_advise 82 = .ok (.bipush 6, 2) := by decide +kernel
theorem dX3_advise_84 : decode cX3_advise 84 = .ok (.bipush 60, 2) := by decide +kernel
theorem dX3_advise_86 : decode cX3_advise 86 = .ok (.aload_n 0, 1) := by decide +kernel
theorem dX3_advise_87 : decode cX3_advise 87 = .ok (.iload 6, 2) := by decide +kernel
theorem dX3_advise_89 : decode cX3_advise 89 = .ok (.bipush 6, 2) := by decide +kernel
theorem dX3_advise_91 : decode cX3_advise 91 = .ok (.invokevirtual 39, 3) := by decide +kernel
theorem dX3_advise_94 : decode cX3_advise 94 = .ok (.iload_n 1, 1) := by decide +kernel
theorem dX3_advise_95 : decode cX3_advise 95 = .ok (.iadd, 1) := by decide +kernel
theorem dX3_advise_96 : decode cX3_advise 96 = .ok (.invokestatic 134, 3) := by decide +kernel
theorem dX3_advise_99 : decode cX3_advise 99 = .ok (.invokevirtual 56, 3) := by decide +kernel
theorem dX3_advise_102 : decode cX3_advise 102 = .ok (.aload_n 0, 1) := by decide +kernel
theorem dX3_advise_103 : decode cX3_advise 103 = .ok (.invokevirtual 85, 3) := by decide +kernel
theorem dX3_advise_106 : decode cX3_advise 106 = .ok (.aload_n 0, 1) := by decide +kernel
theorem dX3_advise_107 : decode cX3_advise 107 = .ok (.iload_n 2, 1) := by decide +kernel
theorem dX3_advise_108 : decode cX3_advise 108 = .ok (.invokevirtual 118, 3) := by decide +kernel
theorem dX3_advise_111 : decode cX3_advise 111 = .ok (.aload_n 0, 1) := by decide +kernel
theorem dX3_advise_112 : decode cX3_advise 112 = .ok (.invokevirtual 99, 3) := by decide +kernel
theorem dX3_advise_115 : decode cX3_advise 115 = .ok (.istore 7, 2) := by decide +kernel
theorem dX3_advise_117 : decode cX3_advise 117 = .ok (.aload_n 0, 1) := by decide +kernel
theorem dX3_advise_118 : decode cX3_advise 118 = .ok (.aload_n 3, 1) := by decide +kernel
theorem dX3_advise_119 : decode cX3_advise 119 = .ok (.invokevirtual 130, 3) := by decide +kernel
theorem dX3_advise_122 : decode cX3_advise 122 = .ok (.iload 7, 2) := by decide +kernel
theorem dX3_advise_124 : decode cX3_advise 124 = .ok (.iload 5, 2) := by decide +kernel
theorem dX3_advise_126 : decode cX3_advise 126 = .ok (.if_icmp .gt 6, 3) := by decide +kernel
theorem dX3_advise_129 : decode cX3_advise 129 = .ok (.goto 11, 3) := by decide +kernel
theorem dX3_advise_132 : decode cX3_advise 132 = .ok (.iload 6, 2) := by decide +kernel
theorem dX3_advise_134 : decode cX3_advise 134 = .ok (.istore 4, 2) := by decide +kernel
theorem dX3_advise_136 : decode cX3_advise 136 = .ok (.iload 7, 2) := by decide +kernel
theorem dX3_advise_138 : decode cX3_advise 138 = .ok (.istore 5, 2) := by decide +kernel
theorem dX3_advise_140 : decode cX3_advise 140 = .ok (.iinc 6 1, 3) := by decide +kernel
theorem dX3_advise_143 : decode cX3_advise 143 = .ok (.goto (-85), 3) := by decide +kernel
theorem dX3_advise_146 : decode cX3_advise 146 = .ok (.iload 4, 2) := by decide +kernel
theorem dX3_advise_148 : decode cX3_advise 148 = .ok (.ireturn, 1) := by decide +kernel
theorem dX3_mean_0 : decode cX3_mean 0 = .ok (.aload_n 0, 1) := by decide +kernel
theorem dX3_mean_1 : decode cX3_mean 1 = .ok (.iconst 0, 1) := by decide +kernel
theorem dX3_mean_2 : decode cX3_mean 2 = .ok (.putfield 28, 3) := by decide +kernel
theorem dX3_mean_5 : decode cX3_mean 5 = .ok (.aload_n 0, 1) := by decide +kernel
theorem dX3_mean_6 : decode cX3_mean 6 = .ok (.invokevirtual 73, 3) := by decide +kernel
theorem dX3_mean_9 : decode cX3_mean 9 = .ok (.iconst 0, 1) := by decide +kernel
theorem dX3_mean_10 : decode cX3_mean 10 = .ok (.istore_n 1, 1) := by decide +kernel
theorem dX3_mean_11 : decode cX3_mean 11 = .ok (.iconst 0, 1) := by decide +kernel
theorem dX3_mean_12 : decode cX3_mean 12 = .ok (.istore_n 2, 1) := by decide +kernel
theorem dX3_mean_13 : decode cX3_mean 13 = .ok (.iload_n 2, 1) := by decide +kernel
theorem dX3_mean_14 : decode cX3_mean 14 = .ok (.aload_n 0, 1) := by decide +kernel
theorem dX3_mean_15 : decode cX3_mean 15 = .ok (.getfield 32, 3) := by decide +kernel
theorem dX3_mean_18 : decode cX3_mean 18 = .ok (.if_icmp .ge 18, 3) := by decide +kernel
theorem dX3_mean_21 : decode cX3_mean 21 = .ok (.iload_n 1, 1) := by decide +kernel
theorem dX3_mean_22 : decode cX3_mean 22 = .ok (.aload_n 0, 1) := by decide +kernel
theorem dX3_mean_23 : decode cX3_mean 23 = .ok (.getfield 19, 3) := by decide +kernel
theorem dX3_mean_26 : decode cX3_mean 26 = .ok (.iload_n 2, 1) := by decide +kernel
theorem dX3_mean_27 : decode cX3_mean 27 = .ok (.iaload, 1) := by decide +kernel
theorem dX3_mean_28 : decode cX3_mean 28 = .ok (.iadd, 1) := by decide +kernel
theorem dX3_mean_29 : decode cX3_mean 29 = .ok (.istore_n 1, 1) := by decide +kernel
theorem dX3_mean_30 : decode cX3_mean 30 = .ok (.iinc 2 1, 3) := by decide +kernel
theorem dX3_mean_33 : decode cX3_mean 33 = .ok (.goto (-20), 3) := by decide +kernel
theorem dX3_mean_36 : decode cX3_mean 36 = .ok (.aload_n 0, 1) := by decide +kernel
theorem dX3_mean_37 : decode cX3_mean 37 = .ok (.invokevirtual 99, 3) := by decide +kernel
theorem dX3_mean_40 : decode cX3_mean 40 = .ok (.ifCond .ne 7, 3) := by decide +kernel
theorem dX3_mean_43 : decode cX3_mean 43 = .ok (.dconst 0, 1) := by decide +kernel
theorem dX3_mean_44 : decode cX3_mean 44 = .ok (.goto 11, 3) := by decide +kernel
theorem dX3_mean_47 : decode cX3_mean 47 = .ok (.iload_n 1, 1) := by decide +kernel
theorem dX3_mean_48 : decode cX3_mean 48 = .ok (.i2d, 1) := by decide +kernel
theorem dX3_mean_49 : decode cX3_mean 49 = .ok (.aload_n 0, 1) := by decide +kernel
theorem dX3_mean_50 : decode cX3_mean 50 = .ok (.invokevirtual 99, 3) := by decide +kernel
theorem dX3_mean_53 : decode cX3_mean 53 = .ok (.i2d, 1) := by decide +kernel
theorem dX3_mean_54 : decode cX3_mean 54 = .ok (.ddiv, 1) := by decide +kernel
theorem dX3_mean_55 : decode cX3_mean 55 = .ok (.dreturn, 1) := by decide +kernel
theorem dX3_digest_0 : decode cX3_digest 0 = .ok (.aload_n 0, 1) := by decide +kernel
theorem dX3_digest_1 : decode cX3_digest 1 = .ok (.iconst 0, 1) := by decide +kernel
theorem dX3_digest_2 : decode cX3_digest 2 = .ok (.putfield 28, 3) := by decide +kernel
theorem dX3_digest_5 : decode cX3_digest 5 = .ok (.aload_n 0, 1) := by decide +kernel
theorem dX3_digest_6 : decode cX3_digest 6 = .ok (.invokevirtual 73, 3) := by decide +kernel
theorem dX3_digest_9 : decode cX3_digest 9 = .ok (.ldc2_w 137, 3) := by decide +kernel
theorem dX3_digest_12 : decode cX3_digest 12 = .ok (.lstore_n 1, 1) := by decide +kernel
theorem dX3_digest_13 : decode cX3_digest 13 = .ok (.iconst 0, 1) := by decide +kernel
theorem dX3_digest_14 : decode cX3_digest 14 = .ok (.istore_n 3, 1) := by decide +kernel
theorem dX3_digest_15 : decode cX3_digest 15 = .ok (.iload_n 3, 1) := by decide +kernel
theorem dX3_digest_16 : decode cX3_digest 16 = .ok (.bipush 8, 2) := by decide +kernel
theorem dX3_digest_18 : decode cX3_digest 18 = .ok (.if_icmp .ge 22, 3) := by decide +kernel
theorem dX3_digest_21 : decode cX3_digest 21 = .ok (.lload_n 1, 1) := by decide +kernel
theorem dX3_digest_22 : decode cX3_digest 22 = .ok (.ldc2_w 139, 3) := by decide +kernel
theorem dX3_digest_25 : decode cX3_digest 25 = .ok (.lmul, 1) := by decide +kernel
theorem dX3_digest_26 : decode cX3_digest 26 = .ok (.aload_n 0, 1) := by decide +kernel
theorem dX3_digest_27 : decode cX3_digest 27 = .ok (.iload_n 3, 1) := by decide +kernel
theorem dX3_digest_28 : decode cX3_digest 28 = .ok (.invokevirtual 112, 3) := by decide +kernel
theorem dX3_digest_31 : decode cX3_digest 31 = .ok (.i2l, 1) := by decide +kernel
theorem dX3_digest_32 : decode cX3_digest 32 = .ok (.ladd, 1) := by decide +kernel
theorem dX3_digest_33 : decode cX3_digest 33 = .ok (.lstore_n 1, 1) := by decide +kernel
theorem dX3_digest_34 : decode cX3_digest 34 = .ok (.iinc 3 1, 3) := by decide +kernel
theorem dX3_digest_37 : decode cX3_digest 37 = .ok (.goto (-22), 3) := by decide +kernel
theorem dX3_digest_40 : decode cX3_digest 40 = .ok (.iconst 0, 1) := by decide +kernel
theorem dX3_digest_41 : decode cX3_digest 41 = .ok (.istore_n 3, 1) := by decide +kernel
theorem dX3_digest_42 : decode cX3_digest 42 = .ok (.iload_n 3, 1) := by decide +kernel
theorem dX3_digest_43 : decode cX3_digest 43 = .ok (.aload_n 0, 1) := by decide +kernel
theorem dX3_digest_44 : decode cX3_digest 44 = .ok (.getfield 32, 3) := by decide +kernel
theorem dX3_digest_47 : decode cX3_digest 47 = .ok (.if_icmp .ge 40, 3) := by decide +kernel
theorem dX3_digest_50 : decode cX3_digest 50 = .ok (.iconst 0, 1) := by decide +kernel
theorem dX3_digest_51 : decode cX3_digest 51 = .ok (.istore 4, 2) := by decide +kernel
theorem dX3_digest_53 : decode cX3_digest 53 = .ok (.iload 4, 2) := by decide +kernel
theorem dX3_digest_55 : decode cX3_digest 55 = .ok (.bipush 10, 2) := by decide +kernel
theorem dX3_digest_57 : decode cX3_digest 57 = .ok (.if_icmp .ge 24, 3) := by decide +kernel
theorem dX3_digest_60 : decode cX3_digest 60 = .ok (.lload_n 1, 1) := by decide +kernel
theorem dX3_digest_61 : decode cX3_digest 61 = .ok (.ldc2_w 139, 3) := by decide +kernel
theorem dX3_digest_64 : decode cX3_digest 64 = .ok (.lmul, 1) := by decide +kernel
theorem dX3_digest_65 : decode cX3_digest 65 = .ok (.aload_n 0, 1) := by decide +kernel
theorem dX3_digest_66 : decode cX3_digest 66 = .ok (.iload_n 3, 1) := by decide +kernel
theorem dX3_digest_67 : decode cX3_digest 67 = .ok (.iload 4, 2) := by decide +kernel
theorem dX3_digest_69 : decode cX3_digest 69 = .ok (.invokevirtual 109, 3) := by decide +kernel
theorem dX3_digest_72 : decode cX3_digest 72 = .ok (.i2l, 1) := by decide +kernel
theorem dX3_digest_73 : decode cX3_digest 73 = .ok (.ladd, 1) := by decide +kernel
theorem dX3_digest_74 : decode cX3_digest 74 = .ok (.lstore_n 1, 1) := by decide +kernel
theorem dX3_digest_75 : decode cX3_digest 75 = .ok (.iinc 4 1, 3) := by decide +kernel
theorem dX3_digest_78 : decode cX3_digest 78 = .ok (.goto (-25), 3) := by decide +kernel
theorem dX3_digest_81 : decode cX3_digest 81 = .ok (.iinc 3 1, 3) := by decide +kernel
theorem dX3_digest_84 : decode cX3_digest 84 = .ok (.goto (-42), 3) := by decide +kernel
theorem dX3_digest_87 : decode cX3_digest 87 = .ok (.iconst 0, 1) := by decide +kernel
theorem dX3_digest_88 : decode cX3_digest 88 = .ok (.istore_n 3, 1) := by decide +kernel
theorem dX3_digest_89 : decode cX3_digest 89 = .ok (.iload_n 3, 1) := by decide +kernel
theorem dX3_digest_90 : decode cX3_digest 90 = .ok (.aload_n 0, 1) := by decide +kernel
theorem dX3_digest_91 : decode cX3_digest 91 = .ok (.getfield 63, 3) := by decide +kernel
theorem dX3_digest_94 : decode cX3_digest 94 = .ok (.if_icmp .ge 39, 3) := by decide +kernel
theorem dX3_digest_97 : decode cX3_digest 97 = .ok (.iconst 0, 1) := by decide +kernel
theorem dX3_digest_98 : decode cX3_digest 98 = .ok (.istore 4, 2) := by decide +kernel
theorem dX3_digest_100 : decode cX3_digest 100 = .ok (.iload 4, 2) := by decide +kernel
theorem dX3_digest_102 : decode cX3_digest 102 = .ok (.iconst 3, 1) := by decide +kernel
theorem dX3_digest_103 : decode cX3_digest 103 = .ok (.if_icmp .ge 24, 3) := by decide +kernel
theorem dX3_digest_106 : decode cX3_digest 106 = .ok (.lload_n 1, 1) := by decide +kernel
theorem dX3_digest_107 : decode cX3_digest 107 = .ok (.ldc2_w 139, 3) := by decide +kernel
theorem dX3_digest_110 : decode cX3_digest 110 = .ok (.lmul, 1) := by decide +kernel
theorem dX3_digest_111 : decode cX3_digest 111 = .ok (.aload_n 0, 1) := by decide +kernel
theorem dX3_digest_112 : decode cX3_digest 112 = .ok (.iload_n 3, 1) := by decide +kernel
theorem dX3_digest_113 : decode cX3_digest 113 = .ok (.iload 4, 2) := by decide +kernel
theorem dX3_digest_115 : decode cX3_digest 115 = .ok (.invokevirtual 66, 3) := by decide +kernel
theorem dX3_digest_118 : decode cX3_digest 118 = .ok (.i2l, 1) := by decide +kernel
theorem dX3_digest_119 : decode cX3_digest 119 = .ok (.ladd, 1) := by decide +kernel
theorem dX3_digest_120 : decode cX3_digest 120 = .ok (.lstore_n 1, 1) := by decide +kernel
theorem dX3_digest_121 : decode cX3_digest 121 = .ok (.iinc 4 1, 3) := by decide +kernel
theorem dX3_digest_124 : decode cX3_digest 124 = .ok (.goto (-24), 3) := by decide +kernel
theorem dX3_digest_127 : decode cX3_digest 127 = .ok (.iinc 3 1, 3) := by decide +kernel
theorem dX3_digest_130 : decode cX3_digest 130 = .ok (.goto (-41), 3) := by decide +kernel
theorem dX3_digest_133 : decode cX3_digest 133 = .ok (.lload_n 1, 1) := by decide +kernel
theorem dX3_digest_134 : decode cX3_digest 134 = .ok (.lreturn, 1) := by decide +kernel
end
section
/-- all words of the tables that hold in every later state -/
def gA : List Cond := lw_tbl.filter goodWord
theorem gA_tbl {w : Cond} (h : w ∈ gA) : w ∈ lw_tbl := (List.mem_filter.mp h).1
theorem gA_g {w : Cond} (h : w ∈ gA) : goodWord w = true := (List.mem_filter.mp h).2
abbrev wsY (y : MethodName) (b : ByteArray) (mL : Nat) (ret : Option FieldType) : List Cond := Cond.code y b mL ret :: gA
theorem gA_good {y : MethodName} {b : ByteArray} {mL : Nat} {ret : Option FieldType} (h : Cond.code y b mL ret ∈ gA) : GoodIn gA (wsY y b mL ret) := fun w hw => by
  rcases List.mem_cons.mp hw with rfl | hw
  · exact ⟨h, good_of_word (gA_g h)⟩
  · exact ⟨hw, good_of_word (gA_g hw)⟩
theorem tb_0 {w : Cond} (i : Nat) (h : (k2_sels lw_privs)[i]? = some w) : w ∈ lw_tbl := List.mem_append_left _ (List.mem_of_getElem? h)
theorem tb_1 {w : Cond} (i : Nat) (h : tables_1_1[i]? = some w) : w ∈ lw_tbl := List.mem_append_right _ (List.mem_append_left _ (List.mem_of_getElem? h))
theorem tb_2 {w : Cond} (i : Nat) (h : tables_1_2[i]? = some w) : w ∈ lw_tbl := List.mem_append_right _ (List.mem_append_right _ (List.mem_append_left _ (List.mem_of_getElem? h)))
theorem tb_3 {w : Cond} (i : Nat) (h : tables_1_3[i]? = some w) : w ∈ lw_tbl := List.mem_append_right _ (List.mem_append_right _ (List.mem_append_right _ (List.mem_append_left _ (List.mem_of_getElem? h))))
theorem tb_4 {w : Cond} (i : Nat) (h : tables_1_4[i]? = some w) : w ∈ lw_tbl := List.mem_append_right _ (List.mem_append_right _ (List.mem_append_right _ (List.mem_append_right _ (List.mem_of_getElem? h))))
theorem gA_of {w : Cond} (h : w ∈ lw_tbl) (hg : goodWord w = true) : w ∈ gA := List.mem_filter.mpr ⟨h, hg⟩
set_option maxRecDepth 8000 in
theorem g_0 : Cond.selects RX2 yX2_tellSky yX2_tellSky ∈ gA := gA_of (tb_0 0 rfl) rfl
set_option maxRecDepth 8000 in
theorem g_1 : Cond.selects RX1 yX1_countHeldBy yX1_countHeldBy ∈ gA := gA_of (tb_0 1 rfl) rfl
set_option maxRecDepth 8000 in
theorem g_2 : Cond.selects "java/lang/Throwable" ⟨"java/lang/Throwable", "fillInStackTrace", "(I)Ljava/lang/Throwable;"⟩ ⟨"java/lang/Throwable", "fillInStackTrace", "(I)Ljava/lang/Throwable;"⟩ ∈ gA := gA_of (tb_0 2 rfl) rfl
set_option maxRecDepth 8000 in
theorem g_3 : Cond.selects RX1 yX1_measure yX1_measure ∈ gA := gA_of (tb_0 3 rfl) rfl
set_option maxRecDepth 8000 in
theorem g_4 : Cond.selects RX1 yX1_bear yX1_bear ∈ gA := gA_of (tb_0 4 rfl) rfl
set_option maxRecDepth 8000 in
theorem g_5 : Cond.selects RX1 yX1_tearOverpulled yX1_tearOverpulled ∈ gA := gA_of (tb_0 5 rfl) rfl
set_option maxRecDepth 8000 in
theorem g_6 : Cond.selects RX1 yX1_tearHoldsFrom yX1_tearHoldsFrom ∈ gA := gA_of (tb_0 6 rfl) rfl
set_option maxRecDepth 8000 in
theorem g_7 : Cond.selects RX1 yX1_endOverloaded yX1_endOverloaded ∈ gA := gA_of (tb_0 7 rfl) rfl
set_option maxRecDepth 8000 in
theorem g_8 : Cond.selects RX1 yX1_endSpell yX1_endSpell ∈ gA := gA_of (tb_0 8 rfl) rfl
set_option maxRecDepth 8000 in
theorem g_9 : Cond.selects RX1 yX1_dropLoose yX1_dropLoose ∈ gA := gA_of (tb_0 9 rfl) rfl
set_option maxRecDepth 8000 in
theorem g_10 : Cond.selects RX0 yX0_reachFrom yX0_reachFrom ∈ gA := gA_of (tb_0 10 rfl) rfl
set_option maxRecDepth 8000 in
theorem g_11 : Cond.selects RX0 yX0_stepOver yX0_stepOver ∈ gA := gA_of (tb_0 11 rfl) rfl
set_option maxRecDepth 8000 in
theorem g_12 : Cond.selects RX1 yX1_fade yX1_fade ∈ gA := gA_of (tb_0 12 rfl) rfl
set_option maxRecDepth 8000 in
theorem g_13 : Cond.selects RX2 yX2_leftWithMore yX2_leftWithMore ∈ gA := gA_of (tb_0 13 rfl) rfl
set_option maxRecDepth 8000 in
theorem g_14 : Cond.selects RX3 yX3_fail yX3_fail ∈ gA := gA_of (tb_0 14 rfl) rfl
set_option maxRecDepth 8000 in
theorem g_15 : Cond.selects RX3 yX3_stone yX3_stone ∈ gA := gA_of (tb_0 15 rfl) rfl
set_option maxRecDepth 8000 in
theorem g_16 : Cond.selects RX3 yX3_giveWay yX3_giveWay ∈ gA := gA_of (tb_0 16 rfl) rfl
set_option maxRecDepth 8000 in
theorem g_17 : Cond.selects RX3 yX3_reckon yX3_reckon ∈ gA := gA_of (tb_0 17 rfl) rfl
set_option maxRecDepth 8000 in
theorem g_18 : Cond.selects RX3 yX3_hangs yX3_hangs ∈ gA := gA_of (tb_0 18 rfl) rfl
set_option maxRecDepth 8000 in
theorem g_19 : Cond.selects RX3 yX3_to yX3_to ∈ gA := gA_of (tb_0 19 rfl) rfl
set_option maxRecDepth 8000 in
theorem g_20 : Cond.selects RX3 yX3_tear yX3_tear ∈ gA := gA_of (tb_0 20 rfl) rfl
set_option maxRecDepth 8000 in
theorem g_21 : Cond.selects RX3 yX3_isHeldBy yX3_isHeldBy ∈ gA := gA_of (tb_0 21 rfl) rfl
set_option maxRecDepth 8000 in
theorem g_22 : Cond.selects RX3 yX3_put yX3_put ∈ gA := gA_of (tb_0 22 rfl) rfl
set_option maxRecDepth 8000 in
theorem g_23 : Cond.selects RX3 yX3_drop yX3_drop ∈ gA := gA_of (tb_0 23 rfl) rfl
set_option maxRecDepth 8000 in
theorem g_24 : Cond.selects RX3 yX3_fall yX3_fall ∈ gA := gA_of (tb_0 24 rfl) rfl
set_option maxRecDepth 8000 in
theorem g_25 : Cond.selects RX3 yX3_st yX3_st ∈ gA := gA_of (tb_0 25 rfl) rfl
set_option maxRecDepth 8000 in
theorem g_26 : Cond.selects RX3 yX3_isStone yX3_isStone ∈ gA := gA_of (tb_0 26 rfl) rfl
set_option maxRecDepth 8000 in
theorem g_27 : Cond.selects RX3 yX3_hanging yX3_hanging ∈ gA := gA_of (tb_0 27 rfl) rfl
set_option maxRecDepth 8000 in
theorem g_28 : Cond.selects RX3 yX3_isStair yX3_isStair ∈ gA := gA_of (tb_0 28 rfl) rfl
set_option maxRecDepth 8000 in
theorem g_29 : Cond.selects RX3 yX3_stoneTold yX3_stoneTold ∈ gA := gA_of (tb_0 29 rfl) rfl
set_option maxRecDepth 8000 in
theorem g_30 : Cond.selects RX3 yX3_holdsFrom yX3_holdsFrom ∈ gA := gA_of (tb_0 30 rfl) rfl
set_option maxRecDepth 8000 in
theorem g_31 : Cond.selects RX3 yX3_counted yX3_counted ∈ gA := gA_of (tb_0 31 rfl) rfl
set_option maxRecDepth 8000 in
theorem g_32 : Cond.selects RX3 yX3_daysOn yX3_daysOn ∈ gA := gA_of (tb_0 32 rfl) rfl
set_option maxRecDepth 8000 in
theorem g_33 : Cond.selects RX3 yX3_dayOn yX3_dayOn ∈ gA := gA_of (tb_0 33 rfl) rfl
set_option maxRecDepth 8000 in
theorem g_34 : Cond.selects RX3 yX3_kept yX3_kept ∈ gA := gA_of (tb_0 34 rfl) rfl
set_option maxRecDepth 8000 in
theorem g_35 : Cond.selects RX3 yX3_bringBack yX3_bringBack ∈ gA := gA_of (tb_0 35 rfl) rfl
set_option maxRecDepth 8000 in
theorem g_36 : Cond.initialized RL ∈ gA := gA_of (tb_1 0 rfl) rfl
set_option maxRecDepth 8000 in
theorem g_37 : Cond.initialized RX2 ∈ gA := gA_of (tb_1 1 rfl) rfl
set_option maxRecDepth 8000 in
theorem g_38 : Cond.initialized RX1 ∈ gA := gA_of (tb_1 2 rfl) rfl
set_option maxRecDepth 8000 in
theorem g_39 : Cond.initialized RX0 ∈ gA := gA_of (tb_1 3 rfl) rfl
set_option maxRecDepth 8000 in
theorem g_40 : Cond.initialized RX3 ∈ gA := gA_of (tb_1 4 rfl) rfl
set_option maxRecDepth 8000 in
theorem g_41 : Cond.initialized "java/lang/Throwable" ∈ gA := gA_of (tb_1 5 rfl) rfl
set_option maxRecDepth 8000 in
theorem g_42 : Cond.initialized "java/lang/Exception" ∈ gA := gA_of (tb_1 6 rfl) rfl
set_option maxRecDepth 8000 in
theorem g_43 : Cond.initialized "java/lang/RuntimeException" ∈ gA := gA_of (tb_1 7 rfl) rfl
set_option maxRecDepth 8000 in
theorem g_44 : Cond.initialized "java/lang/IllegalArgumentException" ∈ gA := gA_of (tb_1 8 rfl) rfl
set_option maxRecDepth 8000 in
theorem g_45 : Cond.initialized "java/lang/IllegalStateException" ∈ gA := gA_of (tb_1 9 rfl) rfl
set_option maxRecDepth 8000 in
theorem g_46 : Cond.initialized "java/lang/Math" ∈ gA := gA_of (tb_1 10 rfl) rfl
set_option maxRecDepth 8000 in
theorem g_47 : Cond.initialized "java/lang/System" ∈ gA := gA_of (tb_1 11 rfl) rfl
set_option maxRecDepth 8000 in
theorem g_48 : Cond.initialized "java/lang/IndexOutOfBoundsException" ∈ gA := gA_of (tb_1 12 rfl) rfl
set_option maxRecDepth 8000 in
theorem g_49 : Cond.classLink RL 8 RX2 ∈ gA := gA_of (tb_1 13 rfl) rfl
set_option maxRecDepth 8000 in
theorem g_50 : Cond.instantiable RX2 3 ∈ gA := gA_of (tb_1 14 rfl) rfl
set_option maxRecDepth 8000 in
theorem g_51 : Cond.methodLink RL 68 yX2_init ∈ gA := gA_of (tb_1 15 rfl) rfl
set_option maxRecDepth 8000 in
theorem g_52 : Cond.instanceMethod yX2_init ∈ gA := gA_of (tb_1 16 rfl) rfl
set_option maxRecDepth 8000 in
theorem g_53 : Cond.code yX2_init cX2_init 1 none ∈ gA := gA_of (tb_1 17 rfl) rfl
set_option maxRecDepth 8000 in
theorem g_54 : Cond.methodLink RX2 1 ⟨"java/lang/Object", "<init>", "()V"⟩ ∈ gA := gA_of (tb_1 18 rfl) rfl
set_option maxRecDepth 8000 in
theorem g_55 : Cond.instanceMethod ⟨"java/lang/Object", "<init>", "()V"⟩ ∈ gA := gA_of (tb_1 19 rfl) rfl
set_option maxRecDepth 8000 in
theorem g_56 : Cond.code ⟨"java/lang/Object", "<init>", "()V"⟩ object_method_1_code 1 none ∈ gA := gA_of (tb_1 20 rfl) rfl
set_option maxRecDepth 8000 in
theorem g_57 : Cond.classLink RX2 7 RX1 ∈ gA := gA_of (tb_1 21 rfl) rfl
set_option maxRecDepth 8000 in
theorem g_58 : Cond.instantiable RX1 13 ∈ gA := gA_of (tb_1 22 rfl) rfl
set_option maxRecDepth 8000 in
theorem t_59 : Cond.methodLinkNest RX2 9 yX1_init RX2 ∈ lw_tbl := tb_1 23 rfl
set_option maxRecDepth 8000 in
theorem g_60 : Cond.instanceMethod yX1_init ∈ gA := gA_of (tb_1 24 rfl) rfl
set_option maxRecDepth 8000 in
theorem g_61 : Cond.code yX1_init cX1_init 1 none ∈ gA := gA_of (tb_1 25 rfl) rfl
set_option maxRecDepth 8000 in
theorem g_62 : Cond.methodLink RX1 3 ⟨"java/lang/Object", "<init>", "()V"⟩ ∈ gA := gA_of (tb_1 26 rfl) rfl
set_option maxRecDepth 8000 in
theorem g_63 : Cond.fieldLink RX1 9 RX1 "weight" "[I" ∈ gA := gA_of (tb_1 27 rfl) rfl
set_option maxRecDepth 8000 in
theorem g_64 : Cond.fieldLink RX1 15 RX1 "strength" "[I" ∈ gA := gA_of (tb_1 28 rfl) rfl
set_option maxRecDepth 8000 in
theorem g_65 : Cond.fieldLink RX1 18 RX1 "prop" "[I" ∈ gA := gA_of (tb_1 29 rfl) rfl
set_option maxRecDepth 8000 in
theorem t_66 : Cond.fieldLinkNest RX2 175 RX1 "prop" "[I" RX2 ∈ lw_tbl := tb_1 30 rfl
set_option maxRecDepth 8000 in
theorem g_67 : Cond.fieldLink RX1 21 RX1 "power" "[I" ∈ gA := gA_of (tb_1 31 rfl) rfl
set_option maxRecDepth 8000 in
theorem t_68 : Cond.fieldLinkNest RX2 100 RX1 "power" "[I" RX2 ∈ lw_tbl := tb_1 32 rfl
set_option maxRecDepth 8000 in
theorem g_69 : Cond.fieldLink RX1 24 RX1 "firstHold" "[I" ∈ gA := gA_of (tb_1 33 rfl) rfl
set_option maxRecDepth 8000 in
theorem g_70 : Cond.fieldLink RX1 27 RX1 "secondHold" "[I" ∈ gA := gA_of (tb_1 34 rfl) rfl
set_option maxRecDepth 8000 in
theorem g_71 : Cond.fieldLink RX1 30 RX1 "hangs" "[Z" ∈ gA := gA_of (tb_1 35 rfl) rfl
set_option maxRecDepth 8000 in
theorem g_72 : Cond.fieldLink RX1 34 RX1 "load" "[I" ∈ gA := gA_of (tb_1 36 rfl) rfl
set_option maxRecDepth 8000 in
theorem t_73 : Cond.fieldLinkNest RX2 94 RX1 "load" "[I" RX2 ∈ lw_tbl := tb_1 37 rfl
set_option maxRecDepth 8000 in
theorem g_74 : Cond.fieldLink RX1 37 RX1 "pull" "[I" ∈ gA := gA_of (tb_1 38 rfl) rfl
set_option maxRecDepth 8000 in
theorem g_75 : Cond.fieldLink RX1 40 RX1 "hung" "I" ∈ gA := gA_of (tb_1 39 rfl) rfl
set_option maxRecDepth 8000 in
theorem t_76 : Cond.fieldLinkNest RX2 172 RX1 "hung" "I" RX2 ∈ lw_tbl := tb_1 40 rfl
set_option maxRecDepth 8000 in
theorem t_77 : Cond.fieldLinkNest RX2 81 RX1 "hanging" "I" RX2 ∈ lw_tbl := tb_1 41 rfl
set_option maxRecDepth 8000 in
theorem g_78 : Cond.fieldLink RX1 56 RX1 "hanging" "I" ∈ gA := gA_of (tb_1 42 rfl) rfl
set_option maxRecDepth 8000 in
theorem g_79 : Cond.fieldLink RX1 63 RX1 "day" "I" ∈ gA := gA_of (tb_1 43 rfl) rfl
set_option maxRecDepth 8000 in
theorem t_80 : Cond.fieldLinkNest RX2 191 RX1 "day" "I" RX2 ∈ lw_tbl := tb_1 44 rfl
set_option maxRecDepth 8000 in
theorem g_81 : Cond.fieldLink RX1 59 RX1 "stale" "Z" ∈ gA := gA_of (tb_1 45 rfl) rfl
set_option maxRecDepth 8000 in
theorem g_82 : Cond.laysFinal RX1 RX1 "weight" "[I" ∈ gA := gA_of (tb_1 46 rfl) rfl
set_option maxRecDepth 8000 in
theorem g_83 : Cond.soleField RX1 "weight" ∈ gA := gA_of (tb_1 47 rfl) rfl
set_option maxRecDepth 8000 in
theorem g_84 : Cond.laysFinal RX1 RX1 "strength" "[I" ∈ gA := gA_of (tb_1 48 rfl) rfl
set_option maxRecDepth 8000 in
theorem g_85 : Cond.soleField RX1 "strength" ∈ gA := gA_of (tb_1 49 rfl) rfl
set_option maxRecDepth 8000 in
theorem g_86 : Cond.laysFinal RX1 RX1 "prop" "[I" ∈ gA := gA_of (tb_1 50 rfl) rfl
set_option maxRecDepth 8000 in
theorem g_87 : Cond.soleField RX1 "prop" ∈ gA := gA_of (tb_1 51 rfl) rfl
set_option maxRecDepth 8000 in
theorem g_88 : Cond.laysFinal RX1 RX1 "power" "[I" ∈ gA := gA_of (tb_1 52 rfl) rfl
set_option maxRecDepth 8000 in
theorem g_89 : Cond.soleField RX1 "power" ∈ gA := gA_of (tb_1 53 rfl) rfl
set_option maxRecDepth 8000 in
theorem g_90 : Cond.laysFinal RX1 RX1 "firstHold" "[I" ∈ gA := gA_of (tb_1 54 rfl) rfl
set_option maxRecDepth 8000 in
theorem g_91 : Cond.soleField RX1 "firstHold" ∈ gA := gA_of (tb_1 55 rfl) rfl
set_option maxRecDepth 8000 in
theorem g_92 : Cond.laysFinal RX1 RX1 "secondHold" "[I" ∈ gA := gA_of (tb_1 56 rfl) rfl
set_option maxRecDepth 8000 in
theorem g_93 : Cond.soleField RX1 "secondHold" ∈ gA := gA_of (tb_1 57 rfl) rfl
set_option maxRecDepth 8000 in
theorem g_94 : Cond.laysFinal RX1 RX1 "hangs" "[Z" ∈ gA := gA_of (tb_1 58 rfl) rfl
set_option maxRecDepth 8000 in
theorem g_95 : Cond.soleField RX1 "hangs" ∈ gA := gA_of (tb_1 59 rfl) rfl
set_option maxRecDepth 8000 in
theorem g_96 : Cond.laysFinal RX1 RX1 "load" "[I" ∈ gA := gA_of (tb_1 60 rfl) rfl
set_option maxRecDepth 8000 in
theorem g_97 : Cond.soleField RX1 "load" ∈ gA := gA_of (tb_1 61 rfl) rfl
set_option maxRecDepth 8000 in
theorem g_98 : Cond.laysFinal RX1 RX1 "pull" "[I" ∈ gA := gA_of (tb_1 62 rfl) rfl
set_option maxRecDepth 8000 in
theorem g_99 : Cond.soleField RX1 "pull" ∈ gA := gA_of (tb_1 63 rfl) rfl
set_option maxRecDepth 8000 in
theorem g_100 : Cond.lays RX1 RX1 "hung" "I" ∈ gA := gA_of (tb_1 64 rfl) rfl
set_option maxRecDepth 8000 in
theorem g_101 : Cond.soleField RX1 "hung" ∈ gA := gA_of (tb_1 65 rfl) rfl
set_option maxRecDepth 8000 in
theorem g_102 : Cond.lays RX1 RX1 "hanging" "I" ∈ gA := gA_of (tb_1 66 rfl) rfl
set_option maxRecDepth 8000 in
theorem g_103 : Cond.soleField RX1 "hanging" ∈ gA := gA_of (tb_1 67 rfl) rfl
set_option maxRecDepth 8000 in
theorem g_104 : Cond.lays RX1 RX1 "day" "I" ∈ gA := gA_of (tb_1 68 rfl) rfl
set_option maxRecDepth 8000 in
theorem g_105 : Cond.soleField RX1 "day" ∈ gA := gA_of (tb_1 69 rfl) rfl
set_option maxRecDepth 8000 in
theorem g_106 : Cond.lays RX1 RX1 "stale" "Z" ∈ gA := gA_of (tb_1 70 rfl) rfl
set_option maxRecDepth 8000 in
theorem g_107 : Cond.soleField RX1 "stale" ∈ gA := gA_of (tb_1 71 rfl) rfl
set_option maxRecDepth 8000 in
theorem g_108 : Cond.superclass RX1 "java/lang/Object" ∈ gA := gA_of (tb_1 72 rfl) rfl
set_option maxRecDepth 8000 in
theorem g_109 : Cond.arrayClass .int ∈ gA := gA_of (tb_1 73 rfl) rfl
set_option maxRecDepth 8000 in
theorem g_110 : Cond.arrayClass .boolean ∈ gA := gA_of (tb_1 74 rfl) rfl
set_option maxRecDepth 8000 in
theorem g_111 : Cond.classLink RX2 19 RX0 ∈ gA := gA_of (tb_1 75 rfl) rfl
set_option maxRecDepth 8000 in
theorem g_112 : Cond.instantiable RX0 4 ∈ gA := gA_of (tb_1 76 rfl) rfl
set_option maxRecDepth 8000 in
theorem t_113 : Cond.methodLinkNest RX2 21 yX0_init RX2 ∈ lw_tbl := tb_1 77 rfl
set_option maxRecDepth 8000 in
theorem g_114 : Cond.instanceMethod yX0_init ∈ gA := gA_of (tb_1 78 rfl) rfl
set_option maxRecDepth 8000 in
theorem g_115 : Cond.code yX0_init cX0_init 1 none ∈ gA := gA_of (tb_1 79 rfl) rfl
set_option maxRecDepth 8000 in
theorem g_116 : Cond.methodLink RX0 3 ⟨"java/lang/Object", "<init>", "()V"⟩ ∈ gA := gA_of (tb_1 80 rfl) rfl
set_option maxRecDepth 8000 in
theorem g_117 : Cond.fieldLink RX0 9 RX0 "firstEnd" "[I" ∈ gA := gA_of (tb_1 81 rfl) rfl
set_option maxRecDepth 8000 in
theorem g_118 : Cond.fieldLink RX0 15 RX0 "secondEnd" "[I" ∈ gA := gA_of (tb_1 82 rfl) rfl
set_option maxRecDepth 8000 in
theorem g_119 : Cond.fieldLink RX0 18 RX0 "distance" "[I" ∈ gA := gA_of (tb_1 83 rfl) rfl
set_option maxRecDepth 8000 in
theorem g_120 : Cond.fieldLink RX0 21 RX0 "built" "I" ∈ gA := gA_of (tb_1 84 rfl) rfl
set_option maxRecDepth 8000 in
theorem t_121 : Cond.fieldLinkNest RX2 188 RX0 "built" "I" RX2 ∈ lw_tbl := tb_1 85 rfl
set_option maxRecDepth 8000 in
theorem g_122 : Cond.laysFinal RX0 RX0 "firstEnd" "[I" ∈ gA := gA_of (tb_1 86 rfl) rfl
set_option maxRecDepth 8000 in
theorem g_123 : Cond.soleField RX0 "firstEnd" ∈ gA := gA_of (tb_1 87 rfl) rfl
set_option maxRecDepth 8000 in
theorem g_124 : Cond.laysFinal RX0 RX0 "secondEnd" "[I" ∈ gA := gA_of (tb_1 88 rfl) rfl
set_option maxRecDepth 8000 in
theorem g_125 : Cond.soleField RX0 "secondEnd" ∈ gA := gA_of (tb_1 89 rfl) rfl
set_option maxRecDepth 8000 in
theorem g_126 : Cond.laysFinal RX0 RX0 "distance" "[I" ∈ gA := gA_of (tb_1 90 rfl) rfl
set_option maxRecDepth 8000 in
theorem g_127 : Cond.soleField RX0 "distance" ∈ gA := gA_of (tb_1 91 rfl) rfl
set_option maxRecDepth 8000 in
theorem g_128 : Cond.lays RX0 RX0 "built" "I" ∈ gA := gA_of (tb_1 92 rfl) rfl
set_option maxRecDepth 8000 in
theorem g_129 : Cond.soleField RX0 "built" ∈ gA := gA_of (tb_1 93 rfl) rfl
set_option maxRecDepth 8000 in
theorem g_130 : Cond.superclass RX0 "java/lang/Object" ∈ gA := gA_of (tb_1 94 rfl) rfl
set_option maxRecDepth 8000 in
theorem g_131 : Cond.fieldLink RX2 10 RX2 "sky" "LTowerDown$Stones;" ∈ gA := gA_of (tb_1 95 rfl) rfl
set_option maxRecDepth 8000 in
theorem g_132 : Cond.fieldLink RX2 16 RX2 "trial" "LTowerDown$Stones;" ∈ gA := gA_of (tb_1 96 rfl) rfl
set_option maxRecDepth 8000 in
theorem g_133 : Cond.fieldLink RX2 22 RX2 "stairs" "LTowerDown$Stairs;" ∈ gA := gA_of (tb_1 97 rfl) rfl
set_option maxRecDepth 8000 in
theorem g_134 : Cond.laysFinal RX2 RX2 "sky" "LTowerDown$Stones;" ∈ gA := gA_of (tb_1 98 rfl) rfl
set_option maxRecDepth 8000 in
theorem g_135 : Cond.soleField RX2 "sky" ∈ gA := gA_of (tb_1 99 rfl) rfl
set_option maxRecDepth 8000 in
theorem g_136 : Cond.laysFinal RX2 RX2 "trial" "LTowerDown$Stones;" ∈ gA := gA_of (tb_1 100 rfl) rfl
set_option maxRecDepth 8000 in
theorem g_137 : Cond.soleField RX2 "trial" ∈ gA := gA_of (tb_1 101 rfl) rfl
set_option maxRecDepth 8000 in
theorem g_138 : Cond.laysFinal RX2 RX2 "stairs" "LTowerDown$Stairs;" ∈ gA := gA_of (tb_1 102 rfl) rfl
set_option maxRecDepth 8000 in
theorem g_139 : Cond.soleField RX2 "stairs" ∈ gA := gA_of (tb_1 103 rfl) rfl
set_option maxRecDepth 8000 in
theorem g_140 : Cond.superclass RX2 "java/lang/Object" ∈ gA := gA_of (tb_1 104 rfl) rfl
set_option maxRecDepth 8000 in
theorem g_141 : Cond.methodLink RL 130 yX2_mean ∈ gA := gA_of (tb_1 105 rfl) rfl
set_option maxRecDepth 8000 in
theorem g_142 : Cond.instanceMethod yX2_mean ∈ gA := gA_of (tb_1 106 rfl) rfl
set_option maxRecDepth 8000 in
theorem g_143 : Cond.selects RX2 yX2_mean yX2_mean ∈ gA := gA_of (tb_1 107 rfl) rfl
set_option maxRecDepth 8000 in
theorem g_144 : Cond.code yX2_mean cX2_mean 1 (some .double) ∈ gA := gA_of (tb_1 108 rfl) rfl
set_option maxRecDepth 8000 in
theorem g_145 : Cond.methodLink RX2 181 yX1_sumOfLoads ∈ gA := gA_of (tb_1 109 rfl) rfl
set_option maxRecDepth 8000 in
theorem g_146 : Cond.instanceMethod yX1_sumOfLoads ∈ gA := gA_of (tb_1 110 rfl) rfl
set_option maxRecDepth 8000 in
theorem g_147 : Cond.selects RX1 yX1_sumOfLoads yX1_sumOfLoads ∈ gA := gA_of (tb_1 111 rfl) rfl
set_option maxRecDepth 8000 in
theorem g_148 : Cond.code yX1_sumOfLoads cX1_sumOfLoads 3 (some .int) ∈ gA := gA_of (tb_1 112 rfl) rfl
set_option maxRecDepth 8000 in
theorem g_149 : Cond.methodLink RL 135 yX2_digest ∈ gA := gA_of (tb_1 113 rfl) rfl
set_option maxRecDepth 8000 in
theorem g_150 : Cond.instanceMethod yX2_digest ∈ gA := gA_of (tb_1 114 rfl) rfl
set_option maxRecDepth 8000 in
theorem g_151 : Cond.selects RX2 yX2_digest yX2_digest ∈ gA := gA_of (tb_1 115 rfl) rfl
set_option maxRecDepth 8000 in
theorem g_152 : Cond.code yX2_digest cX2_digest 5 (some .long) ∈ gA := gA_of (tb_1 116 rfl) rfl
set_option maxRecDepth 8000 in
theorem g_153 : Cond.constantLong RX2 184 (971 : Int64) ∈ gA := gA_of (tb_1 117 rfl) rfl
set_option maxRecDepth 8000 in
theorem g_154 : Cond.constantLong RX2 186 (31 : Int64) ∈ gA := gA_of (tb_1 118 rfl) rfl
set_option maxRecDepth 8000 in
theorem g_155 : Cond.methodLink RX2 143 yX2_tellSky ∈ gA := gA_of (tb_1 119 rfl) rfl
set_option maxRecDepth 8000 in
theorem t_156 : Cond.privateMethod yX2_tellSky ∈ lw_tbl := tb_1 120 rfl
set_option maxRecDepth 8000 in
theorem g_157 : Cond.instanceMethod yX2_tellSky ∈ gA := gA_of (tb_1 121 rfl) rfl
set_option maxRecDepth 8000 in
theorem g_158 : Cond.code yX2_tellSky cX2_tellSky 2 (some .int) ∈ gA := gA_of (tb_1 122 rfl) rfl
set_option maxRecDepth 8000 in
theorem g_159 : Cond.methodLink RX2 194 yX1_countSpells ∈ gA := gA_of (tb_1 123 rfl) rfl
set_option maxRecDepth 8000 in
theorem g_160 : Cond.instanceMethod yX1_countSpells ∈ gA := gA_of (tb_1 124 rfl) rfl
set_option maxRecDepth 8000 in
theorem g_161 : Cond.selects RX1 yX1_countSpells yX1_countSpells ∈ gA := gA_of (tb_1 125 rfl) rfl
set_option maxRecDepth 8000 in
theorem g_162 : Cond.code yX1_countSpells cX1_countSpells 3 (some .int) ∈ gA := gA_of (tb_1 126 rfl) rfl
set_option maxRecDepth 8000 in
theorem g_163 : Cond.methodLink RX2 162 yX0_countLeft ∈ gA := gA_of (tb_1 127 rfl) rfl
set_option maxRecDepth 8000 in
theorem g_164 : Cond.instanceMethod yX0_countLeft ∈ gA := gA_of (tb_1 128 rfl) rfl
set_option maxRecDepth 8000 in
theorem g_165 : Cond.selects RX0 yX0_countLeft yX0_countLeft ∈ gA := gA_of (tb_1 129 rfl) rfl
set_option maxRecDepth 8000 in
theorem g_166 : Cond.code yX0_countLeft cX0_countLeft 4 (some .int) ∈ gA := gA_of (tb_1 130 rfl) rfl
set_option maxRecDepth 8000 in
theorem g_167 : Cond.methodLink RX0 38 yX0_isGone ∈ gA := gA_of (tb_1 131 rfl) rfl
set_option maxRecDepth 8000 in
theorem g_168 : Cond.instanceMethod yX0_isGone ∈ gA := gA_of (tb_1 132 rfl) rfl
set_option maxRecDepth 8000 in
theorem g_169 : Cond.selects RX0 yX0_isGone yX0_isGone ∈ gA := gA_of (tb_1 133 rfl) rfl
set_option maxRecDepth 8000 in
theorem g_170 : Cond.code yX0_isGone cX0_isGone 3 (some .boolean) ∈ gA := gA_of (tb_1 134 rfl) rfl
set_option maxRecDepth 8000 in
theorem g_171 : Cond.methodLink RX0 25 yX0_has ∈ gA := gA_of (tb_1 135 rfl) rfl
set_option maxRecDepth 8000 in
theorem g_172 : Cond.instanceMethod yX0_has ∈ gA := gA_of (tb_1 136 rfl) rfl
set_option maxRecDepth 8000 in
theorem g_173 : Cond.selects RX0 yX0_has yX0_has ∈ gA := gA_of (tb_1 137 rfl) rfl
set_option maxRecDepth 8000 in
theorem g_174 : Cond.code yX0_has cX0_has 2 (some .boolean) ∈ gA := gA_of (tb_1 138 rfl) rfl
set_option maxRecDepth 8000 in
theorem g_175 : Cond.methodLink RX0 29 yX1_isHanging ∈ gA := gA_of (tb_1 139 rfl) rfl
set_option maxRecDepth 8000 in
theorem g_176 : Cond.instanceMethod yX1_isHanging ∈ gA := gA_of (tb_1 140 rfl) rfl
set_option maxRecDepth 8000 in
theorem g_177 : Cond.selects RX1 yX1_isHanging yX1_isHanging ∈ gA := gA_of (tb_1 141 rfl) rfl
set_option maxRecDepth 8000 in
theorem g_178 : Cond.code yX1_isHanging cX1_isHanging 2 (some .boolean) ∈ gA := gA_of (tb_1 142 rfl) rfl
set_option maxRecDepth 8000 in
theorem g_179 : Cond.methodLink RX1 44 yX1_has ∈ gA := gA_of (tb_1 143 rfl) rfl
set_option maxRecDepth 8000 in
theorem g_180 : Cond.instanceMethod yX1_has ∈ gA := gA_of (tb_1 144 rfl) rfl
set_option maxRecDepth 8000 in
theorem g_181 : Cond.selects RX1 yX1_has yX1_has ∈ gA := gA_of (tb_1 145 rfl) rfl
set_option maxRecDepth 8000 in
theorem g_182 : Cond.code yX1_has cX1_has 2 (some .boolean) ∈ gA := gA_of (tb_1 146 rfl) rfl
set_option maxRecDepth 8000 in
theorem g_183 : Cond.methodLink RX2 166 yX1_sumOfPowers ∈ gA := gA_of (tb_1 147 rfl) rfl
set_option maxRecDepth 8000 in
theorem g_184 : Cond.instanceMethod yX1_sumOfPowers ∈ gA := gA_of (tb_1 148 rfl) rfl
set_option maxRecDepth 8000 in
theorem g_185 : Cond.selects RX1 yX1_sumOfPowers yX1_sumOfPowers ∈ gA := gA_of (tb_1 149 rfl) rfl
set_option maxRecDepth 8000 in
theorem g_186 : Cond.code yX1_sumOfPowers cX1_sumOfPowers 3 (some .int) ∈ gA := gA_of (tb_1 150 rfl) rfl
set_option maxRecDepth 8000 in
theorem g_187 : Cond.methodLink RX2 197 yX1_sumOfProps ∈ gA := gA_of (tb_1 151 rfl) rfl
set_option maxRecDepth 8000 in
theorem g_188 : Cond.instanceMethod yX1_sumOfProps ∈ gA := gA_of (tb_1 152 rfl) rfl
set_option maxRecDepth 8000 in
theorem g_189 : Cond.selects RX1 yX1_sumOfProps yX1_sumOfProps ∈ gA := gA_of (tb_1 153 rfl) rfl
set_option maxRecDepth 8000 in
theorem g_190 : Cond.code yX1_sumOfProps cX1_sumOfProps 3 (some .int) ∈ gA := gA_of (tb_1 154 rfl) rfl
set_option maxRecDepth 8000 in
theorem g_191 : Cond.methodLink RX2 200 yX1_sumOfSpelledLoads ∈ gA := gA_of (tb_1 155 rfl) rfl
set_option maxRecDepth 8000 in
theorem g_192 : Cond.instanceMethod yX1_sumOfSpelledLoads ∈ gA := gA_of (tb_1 156 rfl) rfl
set_option maxRecDepth 8000 in
theorem g_193 : Cond.selects RX1 yX1_sumOfSpelledLoads yX1_sumOfSpelledLoads ∈ gA := gA_of (tb_1 157 rfl) rfl
set_option maxRecDepth 8000 in
theorem g_194 : Cond.code yX1_sumOfSpelledLoads cX1_sumOfSpelledLoads 3 (some .int) ∈ gA := gA_of (tb_1 158 rfl) rfl
set_option maxRecDepth 8000 in
theorem g_195 : Cond.methodLink RX2 135 yX1_tell ∈ gA := gA_of (tb_1 159 rfl) rfl
set_option maxRecDepth 8000 in
theorem g_196 : Cond.instanceMethod yX1_tell ∈ gA := gA_of (tb_1 160 rfl) rfl
set_option maxRecDepth 8000 in
theorem g_197 : Cond.selects RX1 yX1_tell yX1_tell ∈ gA := gA_of (tb_1 161 rfl) rfl
set_option maxRecDepth 8000 in
theorem g_198 : Cond.code yX1_tell cX1_tell 3 (some .int) ∈ gA := gA_of (tb_1 162 rfl) rfl
set_option maxRecDepth 8000 in
theorem g_199 : Cond.methodLink RX1 104 yX1_countHeldBy ∈ gA := gA_of (tb_1 163 rfl) rfl
set_option maxRecDepth 8000 in
theorem t_200 : Cond.privateMethod yX1_countHeldBy ∈ lw_tbl := tb_1 164 rfl
set_option maxRecDepth 8000 in
theorem g_201 : Cond.instanceMethod yX1_countHeldBy ∈ gA := gA_of (tb_1 165 rfl) rfl
set_option maxRecDepth 8000 in
theorem g_202 : Cond.code yX1_countHeldBy cX1_countHeldBy 4 (some .int) ∈ gA := gA_of (tb_1 166 rfl) rfl
set_option maxRecDepth 8000 in
theorem g_203 : Cond.methodLink RX2 126 yX0_tell ∈ gA := gA_of (tb_1 167 rfl) rfl
set_option maxRecDepth 8000 in
theorem g_204 : Cond.instanceMethod yX0_tell ∈ gA := gA_of (tb_1 168 rfl) rfl
set_option maxRecDepth 8000 in
theorem g_205 : Cond.selects RX0 yX0_tell yX0_tell ∈ gA := gA_of (tb_1 169 rfl) rfl
set_option maxRecDepth 8000 in
theorem g_206 : Cond.code yX0_tell cX0_tell 4 (some .int) ∈ gA := gA_of (tb_1 170 rfl) rfl
set_option maxRecDepth 8000 in
theorem g_207 : Cond.methodLink RL 72 yL_conjure ∈ gA := gA_of (tb_1 171 rfl) rfl
set_option maxRecDepth 8000 in
theorem g_208 : Cond.static yL_conjure ∈ gA := gA_of (tb_1 172 rfl) rfl
set_option maxRecDepth 8000 in
theorem g_209 : Cond.codeWith yL_conjure cL_conjure 6 (some .int) [(0, 12, 15, 13), (0, 12, 19, 15)] ∈ gA := gA_of (tb_1 173 rfl) rfl
set_option maxRecDepth 8000 in
theorem g_210 : Cond.classLink RL 13 "java/lang/IllegalArgumentException" ∈ gA := gA_of (tb_1 174 rfl) rfl
set_option maxRecDepth 8000 in
theorem g_211 : Cond.classLink RL 15 "java/lang/IllegalStateException" ∈ gA := gA_of (tb_1 175 rfl) rfl
set_option maxRecDepth 8000 in
theorem g_212 : Cond.methodLink RL 7 yX2_conjure ∈ gA := gA_of (tb_1 176 rfl) rfl
set_option maxRecDepth 8000 in
theorem g_213 : Cond.instanceMethod yX2_conjure ∈ gA := gA_of (tb_1 177 rfl) rfl
set_option maxRecDepth 8000 in
theorem g_214 : Cond.selects RX2 yX2_conjure yX2_conjure ∈ gA := gA_of (tb_1 178 rfl) rfl
set_option maxRecDepth 8000 in
theorem g_215 : Cond.code yX2_conjure cX2_conjure 5 (some .int) ∈ gA := gA_of (tb_1 179 rfl) rfl
set_option maxRecDepth 8000 in
theorem g_216 : Cond.methodLink RX2 26 yX2_isBody ∈ gA := gA_of (tb_1 180 rfl) rfl
set_option maxRecDepth 8000 in
theorem g_217 : Cond.static yX2_isBody ∈ gA := gA_of (tb_1 181 rfl) rfl
set_option maxRecDepth 8000 in
theorem g_218 : Cond.code yX2_isBody cX2_isBody 2 (some .boolean) ∈ gA := gA_of (tb_1 182 rfl) rfl
set_option maxRecDepth 8000 in
theorem g_219 : Cond.methodLink RX2 30 yX2_isWithin ∈ gA := gA_of (tb_1 183 rfl) rfl
set_option maxRecDepth 8000 in
theorem g_220 : Cond.static yX2_isWithin ∈ gA := gA_of (tb_1 184 rfl) rfl
set_option maxRecDepth 8000 in
theorem g_221 : Cond.code yX2_isWithin cX2_isWithin 3 (some .boolean) ∈ gA := gA_of (tb_1 185 rfl) rfl
set_option maxRecDepth 8000 in
theorem g_222 : Cond.classLink RX2 34 "java/lang/IllegalArgumentException" ∈ gA := gA_of (tb_1 186 rfl) rfl
set_option maxRecDepth 8000 in
theorem g_223 : Cond.instantiable "java/lang/IllegalArgumentException" 6 ∈ gA := gA_of (tb_1 187 rfl) rfl
set_option maxRecDepth 8000 in
theorem t_224 : Cond.castable "java/lang/IllegalArgumentException" "java/lang/IllegalArgumentException" ∈ lw_tbl := tb_1 188 rfl
set_option maxRecDepth 8000 in
theorem t_225 : Cond.declares ⟨"java/lang/RuntimeException", "<init>", "()V"⟩ ∈ lw_tbl := tb_1 189 rfl
set_option maxRecDepth 8000 in
theorem t_226 : Cond.declares ⟨"java/lang/RuntimeException", "<init>", "(Ljava/lang/String;)V"⟩ ∈ lw_tbl := tb_1 190 rfl
set_option maxRecDepth 8000 in
theorem t_227 : Cond.declares ⟨"java/lang/Exception", "<init>", "()V"⟩ ∈ lw_tbl := tb_1 191 rfl
set_option maxRecDepth 8000 in
theorem t_228 : Cond.declares ⟨"java/lang/Exception", "<init>", "(Ljava/lang/String;)V"⟩ ∈ lw_tbl := tb_1 192 rfl
set_option maxRecDepth 8000 in
theorem t_229 : Cond.declares ⟨"java/lang/Throwable", "<init>", "()V"⟩ ∈ lw_tbl := tb_1 193 rfl
set_option maxRecDepth 8000 in
theorem t_230 : Cond.declares ⟨"java/lang/Throwable", "<init>", "(Ljava/lang/String;)V"⟩ ∈ lw_tbl := tb_1 194 rfl
set_option maxRecDepth 8000 in
theorem g_231 : Cond.selects "java/lang/IllegalArgumentException" ⟨"java/lang/Throwable", "fillInStackTrace", "(I)Ljava/lang/Throwable;"⟩ ⟨"java/lang/Throwable", "fillInStackTrace", "(I)Ljava/lang/Throwable;"⟩ ∈ gA := gA_of (tb_1 195 rfl) rfl
set_option maxRecDepth 8000 in
theorem g_232 : Cond.selects "java/lang/IllegalArgumentException" ⟨"java/lang/Throwable", "fillInStackTrace", "()Ljava/lang/Throwable;"⟩ ⟨"java/lang/Throwable", "fillInStackTrace", "()Ljava/lang/Throwable;"⟩ ∈ gA := gA_of (tb_1 196 rfl) rfl
set_option maxRecDepth 8000 in
theorem g_233 : Cond.lays "java/lang/IllegalArgumentException" "java/lang/Throwable" "cause" "Ljava/lang/Throwable;" ∈ gA := gA_of (tb_1 197 rfl) rfl
set_option maxRecDepth 8000 in
theorem g_234 : Cond.lays "java/lang/Throwable" "java/lang/Throwable" "cause" "Ljava/lang/Throwable;" ∈ gA := gA_of (tb_1 198 rfl) rfl
set_option maxRecDepth 8000 in
theorem g_235 : Cond.lays "java/lang/IllegalArgumentException" "java/lang/Throwable" "stackTrace" "[Ljava/lang/StackTraceElement;" ∈ gA := gA_of (tb_1 199 rfl) rfl
set_option maxRecDepth 8000 in
theorem g_236 : Cond.lays "java/lang/Throwable" "java/lang/Throwable" "stackTrace" "[Ljava/lang/StackTraceElement;" ∈ gA := gA_of (tb_1 200 rfl) rfl
set_option maxRecDepth 8000 in
theorem g_237 : Cond.lays "java/lang/IllegalArgumentException" "java/lang/Throwable" "suppressedExceptions" "Ljava/util/List;" ∈ gA := gA_of (tb_1 201 rfl) rfl
set_option maxRecDepth 8000 in
theorem g_238 : Cond.lays "java/lang/Throwable" "java/lang/Throwable" "suppressedExceptions" "Ljava/util/List;" ∈ gA := gA_of (tb_1 202 rfl) rfl
set_option maxRecDepth 8000 in
theorem g_239 : Cond.lays "java/lang/IllegalArgumentException" "java/lang/Throwable" "detailMessage" "Ljava/lang/String;" ∈ gA := gA_of (tb_1 203 rfl) rfl
set_option maxRecDepth 8000 in
theorem g_240 : Cond.lays "java/lang/Throwable" "java/lang/Throwable" "detailMessage" "Ljava/lang/String;" ∈ gA := gA_of (tb_1 204 rfl) rfl
set_option maxRecDepth 8000 in
theorem g_241 : Cond.lays "java/lang/IllegalArgumentException" "java/lang/Throwable" "backtrace" "Ljava/lang/Object;" ∈ gA := gA_of (tb_1 205 rfl) rfl
set_option maxRecDepth 8000 in
theorem g_242 : Cond.lays "java/lang/Throwable" "java/lang/Throwable" "backtrace" "Ljava/lang/Object;" ∈ gA := gA_of (tb_1 206 rfl) rfl
set_option maxRecDepth 8000 in
theorem g_243 : Cond.fieldLink "java/lang/Throwable" 198 "java/lang/Throwable" "backtrace" "Ljava/lang/Object;" ∈ gA := gA_of (tb_1 207 rfl) rfl
set_option maxRecDepth 8000 in
theorem g_244 : Cond.superclass "java/lang/Throwable" "java/lang/Object" ∈ gA := gA_of (tb_1 208 rfl) rfl
set_option maxRecDepth 8000 in
theorem g_245 : Cond.instanceMethod ⟨"java/lang/Throwable", "<init>", "()V"⟩ ∈ gA := gA_of (tb_1 209 rfl) rfl
set_option maxRecDepth 8000 in
theorem g_246 : Cond.code ⟨"java/lang/Throwable", "<init>", "()V"⟩ prog_15_method_1_code 1 none ∈ gA := gA_of (tb_1 210 rfl) rfl
set_option maxRecDepth 8000 in
theorem g_247 : Cond.methodLink "java/lang/Throwable" 1 ⟨"java/lang/Object", "<init>", "()V"⟩ ∈ gA := gA_of (tb_1 211 rfl) rfl
set_option maxRecDepth 8000 in
theorem g_248 : Cond.fieldLink "java/lang/Throwable" 13 "java/lang/Throwable" "UNASSIGNED_STACK" "[Ljava/lang/StackTraceElement;" ∈ gA := gA_of (tb_1 212 rfl) rfl
set_option maxRecDepth 8000 in
theorem t_249 : Cond.laysStatic "java/lang/Throwable" "UNASSIGNED_STACK" "[Ljava/lang/StackTraceElement;" ∈ lw_tbl := tb_1 213 rfl
set_option maxRecDepth 8000 in
theorem g_250 : Cond.fieldLink "java/lang/Throwable" 20 "java/lang/Throwable" "SUPPRESSED_SENTINEL" "Ljava/util/List;" ∈ gA := gA_of (tb_1 214 rfl) rfl
set_option maxRecDepth 8000 in
theorem t_251 : Cond.laysStatic "java/lang/Throwable" "SUPPRESSED_SENTINEL" "Ljava/util/List;" ∈ lw_tbl := tb_1 215 rfl
set_option maxRecDepth 8000 in
theorem g_252 : Cond.methodLink "java/lang/Throwable" 27 ⟨"java/lang/Throwable", "fillInStackTrace", "()Ljava/lang/Throwable;"⟩ ∈ gA := gA_of (tb_1 216 rfl) rfl
set_option maxRecDepth 8000 in
theorem g_253 : Cond.instanceMethod ⟨"java/lang/Throwable", "fillInStackTrace", "()Ljava/lang/Throwable;"⟩ ∈ gA := gA_of (tb_1 217 rfl) rfl
set_option maxRecDepth 8000 in
theorem g_254 : Cond.sameMethod "java/lang/Throwable" "java/lang/Throwable" "fillInStackTrace" "()Ljava/lang/Throwable;" ∈ gA := gA_of (tb_1 218 rfl) rfl
set_option maxRecDepth 8000 in
theorem g_255 : Cond.selects "java/lang/IllegalStateException" ⟨"java/lang/Throwable", "fillInStackTrace", "()Ljava/lang/Throwable;"⟩ ⟨"java/lang/Throwable", "fillInStackTrace", "()Ljava/lang/Throwable;"⟩ ∈ gA := gA_of (tb_1 219 rfl) rfl
set_option maxRecDepth 8000 in
theorem g_256 : Cond.selects "java/lang/IndexOutOfBoundsException" ⟨"java/lang/Throwable", "fillInStackTrace", "()Ljava/lang/Throwable;"⟩ ⟨"java/lang/Throwable", "fillInStackTrace", "()Ljava/lang/Throwable;"⟩ ∈ gA := gA_of (tb_1 220 rfl) rfl
set_option maxRecDepth 8000 in
theorem g_257 : Cond.codeSync ⟨"java/lang/Throwable", "fillInStackTrace", "()Ljava/lang/Throwable;"⟩ prog_15_method_18_code 1 (Option.some (.object "java/lang/Throwable")) ∈ gA := gA_of (tb_1 221 rfl) rfl
set_option maxRecDepth 8000 in
theorem g_258 : Cond.methodLink "java/lang/Throwable" 202 ⟨"java/lang/Throwable", "fillInStackTrace", "(I)Ljava/lang/Throwable;"⟩ ∈ gA := gA_of (tb_1 222 rfl) rfl
set_option maxRecDepth 8000 in
theorem t_259 : Cond.privateMethod ⟨"java/lang/Throwable", "fillInStackTrace", "(I)Ljava/lang/Throwable;"⟩ ∈ lw_tbl := tb_1 223 rfl
set_option maxRecDepth 8000 in
theorem g_260 : Cond.instanceMethod ⟨"java/lang/Throwable", "fillInStackTrace", "(I)Ljava/lang/Throwable;"⟩ ∈ gA := gA_of (tb_1 224 rfl) rfl
set_option maxRecDepth 8000 in
theorem g_261 : Cond.instantiable "java/lang/Throwable" 6 ∈ gA := gA_of (tb_1 225 rfl) rfl
set_option maxRecDepth 8000 in
theorem g_262 : Cond.native ⟨"java/lang/Throwable", "fillInStackTrace", "(I)Ljava/lang/Throwable;"⟩ ∈ gA := gA_of (tb_1 226 rfl) rfl
set_option maxRecDepth 8000 in
theorem t_263 : Cond.stringRef RX2 36 "no such weight, strength or power" ∈ lw_tbl := tb_1 227 rfl
set_option maxRecDepth 8000 in
theorem g_264 : Cond.methodLink RX2 38 ⟨"java/lang/IllegalArgumentException", "<init>", "(Ljava/lang/String;)V"⟩ ∈ gA := gA_of (tb_1 228 rfl) rfl
set_option maxRecDepth 8000 in
theorem g_265 : Cond.instanceMethod ⟨"java/lang/IllegalArgumentException", "<init>", "(Ljava/lang/String;)V"⟩ ∈ gA := gA_of (tb_1 229 rfl) rfl
set_option maxRecDepth 8000 in
theorem g_266 : Cond.code ⟨"java/lang/IllegalArgumentException", "<init>", "(Ljava/lang/String;)V"⟩ prog_8_method_2_code 2 none ∈ gA := gA_of (tb_1 230 rfl) rfl
set_option maxRecDepth 8000 in
theorem g_267 : Cond.methodLink "java/lang/IllegalArgumentException" 7 ⟨"java/lang/RuntimeException", "<init>", "(Ljava/lang/String;)V"⟩ ∈ gA := gA_of (tb_1 231 rfl) rfl
set_option maxRecDepth 8000 in
theorem g_268 : Cond.instanceMethod ⟨"java/lang/RuntimeException", "<init>", "(Ljava/lang/String;)V"⟩ ∈ gA := gA_of (tb_1 232 rfl) rfl
set_option maxRecDepth 8000 in
theorem g_269 : Cond.code ⟨"java/lang/RuntimeException", "<init>", "(Ljava/lang/String;)V"⟩ prog_12_method_2_code 2 none ∈ gA := gA_of (tb_1 233 rfl) rfl
set_option maxRecDepth 8000 in
theorem g_270 : Cond.methodLink "java/lang/RuntimeException" 7 ⟨"java/lang/Exception", "<init>", "(Ljava/lang/String;)V"⟩ ∈ gA := gA_of (tb_1 234 rfl) rfl
set_option maxRecDepth 8000 in
theorem g_271 : Cond.instanceMethod ⟨"java/lang/Exception", "<init>", "(Ljava/lang/String;)V"⟩ ∈ gA := gA_of (tb_1 235 rfl) rfl
set_option maxRecDepth 8000 in
theorem g_272 : Cond.code ⟨"java/lang/Exception", "<init>", "(Ljava/lang/String;)V"⟩ prog_7_method_2_code 2 none ∈ gA := gA_of (tb_1 236 rfl) rfl
set_option maxRecDepth 8000 in
theorem g_273 : Cond.methodLink "java/lang/Exception" 7 ⟨"java/lang/Throwable", "<init>", "(Ljava/lang/String;)V"⟩ ∈ gA := gA_of (tb_1 237 rfl) rfl
set_option maxRecDepth 8000 in
theorem g_274 : Cond.instanceMethod ⟨"java/lang/Throwable", "<init>", "(Ljava/lang/String;)V"⟩ ∈ gA := gA_of (tb_1 238 rfl) rfl
set_option maxRecDepth 8000 in
theorem g_275 : Cond.code ⟨"java/lang/Throwable", "<init>", "(Ljava/lang/String;)V"⟩ prog_15_method_2_code 2 none ∈ gA := gA_of (tb_1 239 rfl) rfl
set_option maxRecDepth 8000 in
theorem g_277 : Cond.fieldLink "java/lang/Throwable" 31 "java/lang/Throwable" "detailMessage" "Ljava/lang/String;" ∈ gA := gA_of (tb_2 1 rfl) rfl
set_option maxRecDepth 8000 in
theorem g_278 : Cond.fieldLink "java/lang/Throwable" 7 "java/lang/Throwable" "cause" "Ljava/lang/Throwable;" ∈ gA := gA_of (tb_2 2 rfl) rfl
set_option maxRecDepth 8000 in
theorem g_279 : Cond.fieldLink "java/lang/Throwable" 17 "java/lang/Throwable" "stackTrace" "[Ljava/lang/StackTraceElement;" ∈ gA := gA_of (tb_2 3 rfl) rfl
set_option maxRecDepth 8000 in
theorem g_280 : Cond.fieldLink "java/lang/Throwable" 24 "java/lang/Throwable" "suppressedExceptions" "Ljava/util/List;" ∈ gA := gA_of (tb_2 4 rfl) rfl
set_option maxRecDepth 8000 in
theorem g_281 : Cond.soleField "java/lang/Throwable" "backtrace" ∈ gA := gA_of (tb_2 5 rfl) rfl
set_option maxRecDepth 8000 in
theorem g_282 : Cond.soleField "java/lang/Throwable" "detailMessage" ∈ gA := gA_of (tb_2 6 rfl) rfl
set_option maxRecDepth 8000 in
theorem g_283 : Cond.soleField "java/lang/Throwable" "cause" ∈ gA := gA_of (tb_2 7 rfl) rfl
set_option maxRecDepth 8000 in
theorem g_284 : Cond.soleField "java/lang/Throwable" "stackTrace" ∈ gA := gA_of (tb_2 8 rfl) rfl
set_option maxRecDepth 8000 in
theorem g_285 : Cond.lays "java/lang/IllegalArgumentException" "java/lang/Throwable" "depth" "I" ∈ gA := gA_of (tb_2 9 rfl) rfl
set_option maxRecDepth 8000 in
theorem g_286 : Cond.soleField "java/lang/Throwable" "depth" ∈ gA := gA_of (tb_2 10 rfl) rfl
set_option maxRecDepth 8000 in
theorem g_287 : Cond.soleField "java/lang/Throwable" "suppressedExceptions" ∈ gA := gA_of (tb_2 11 rfl) rfl
set_option maxRecDepth 8000 in
theorem g_288 : Cond.superclass "java/lang/IllegalArgumentException" "java/lang/RuntimeException" ∈ gA := gA_of (tb_2 12 rfl) rfl
set_option maxRecDepth 8000 in
theorem g_289 : Cond.arrayClass .byte ∈ gA := gA_of (tb_2 13 rfl) rfl
set_option maxRecDepth 8000 in
theorem g_290 : Cond.methodLink RX2 41 yX1_isFull ∈ gA := gA_of (tb_2 14 rfl) rfl
set_option maxRecDepth 8000 in
theorem g_291 : Cond.instanceMethod yX1_isFull ∈ gA := gA_of (tb_2 15 rfl) rfl
set_option maxRecDepth 8000 in
theorem g_292 : Cond.selects RX1 yX1_isFull yX1_isFull ∈ gA := gA_of (tb_2 16 rfl) rfl
set_option maxRecDepth 8000 in
theorem g_293 : Cond.code yX1_isFull cX1_isFull 1 (some .boolean) ∈ gA := gA_of (tb_2 17 rfl) rfl
set_option maxRecDepth 8000 in
theorem g_294 : Cond.classLink RX2 45 "java/lang/IllegalStateException" ∈ gA := gA_of (tb_2 18 rfl) rfl
set_option maxRecDepth 8000 in
theorem g_295 : Cond.instantiable "java/lang/IllegalStateException" 6 ∈ gA := gA_of (tb_2 19 rfl) rfl
set_option maxRecDepth 8000 in
theorem t_296 : Cond.castable "java/lang/IllegalStateException" "java/lang/IllegalStateException" ∈ lw_tbl := tb_2 20 rfl
set_option maxRecDepth 8000 in
theorem g_297 : Cond.selects "java/lang/IllegalStateException" ⟨"java/lang/Throwable", "fillInStackTrace", "(I)Ljava/lang/Throwable;"⟩ ⟨"java/lang/Throwable", "fillInStackTrace", "(I)Ljava/lang/Throwable;"⟩ ∈ gA := gA_of (tb_2 21 rfl) rfl
set_option maxRecDepth 8000 in
theorem g_298 : Cond.lays "java/lang/IllegalStateException" "java/lang/Throwable" "cause" "Ljava/lang/Throwable;" ∈ gA := gA_of (tb_2 22 rfl) rfl
set_option maxRecDepth 8000 in
theorem g_299 : Cond.lays "java/lang/IllegalStateException" "java/lang/Throwable" "stackTrace" "[Ljava/lang/StackTraceElement;" ∈ gA := gA_of (tb_2 23 rfl) rfl
set_option maxRecDepth 8000 in
theorem g_300 : Cond.lays "java/lang/IllegalStateException" "java/lang/Throwable" "suppressedExceptions" "Ljava/util/List;" ∈ gA := gA_of (tb_2 24 rfl) rfl
set_option maxRecDepth 8000 in
theorem g_301 : Cond.lays "java/lang/IllegalStateException" "java/lang/Throwable" "detailMessage" "Ljava/lang/String;" ∈ gA := gA_of (tb_2 25 rfl) rfl
set_option maxRecDepth 8000 in
theorem g_302 : Cond.lays "java/lang/IllegalStateException" "java/lang/Throwable" "backtrace" "Ljava/lang/Object;" ∈ gA := gA_of (tb_2 26 rfl) rfl
set_option maxRecDepth 8000 in
theorem t_303 : Cond.stringRef RX2 47 "no more stones" ∈ lw_tbl := tb_2 27 rfl
set_option maxRecDepth 8000 in
theorem g_304 : Cond.methodLink RX2 49 ⟨"java/lang/IllegalStateException", "<init>", "(Ljava/lang/String;)V"⟩ ∈ gA := gA_of (tb_2 28 rfl) rfl
set_option maxRecDepth 8000 in
theorem g_305 : Cond.instanceMethod ⟨"java/lang/IllegalStateException", "<init>", "(Ljava/lang/String;)V"⟩ ∈ gA := gA_of (tb_2 29 rfl) rfl
set_option maxRecDepth 8000 in
theorem g_306 : Cond.code ⟨"java/lang/IllegalStateException", "<init>", "(Ljava/lang/String;)V"⟩ prog_9_method_2_code 2 none ∈ gA := gA_of (tb_2 30 rfl) rfl
set_option maxRecDepth 8000 in
theorem g_307 : Cond.methodLink "java/lang/IllegalStateException" 7 ⟨"java/lang/RuntimeException", "<init>", "(Ljava/lang/String;)V"⟩ ∈ gA := gA_of (tb_2 31 rfl) rfl
set_option maxRecDepth 8000 in
theorem g_308 : Cond.lays "java/lang/IllegalStateException" "java/lang/Throwable" "depth" "I" ∈ gA := gA_of (tb_2 32 rfl) rfl
set_option maxRecDepth 8000 in
theorem g_309 : Cond.superclass "java/lang/IllegalStateException" "java/lang/RuntimeException" ∈ gA := gA_of (tb_2 33 rfl) rfl
set_option maxRecDepth 8000 in
theorem g_310 : Cond.methodLink RX2 50 yX1_addBySpell ∈ gA := gA_of (tb_2 34 rfl) rfl
set_option maxRecDepth 8000 in
theorem g_311 : Cond.instanceMethod yX1_addBySpell ∈ gA := gA_of (tb_2 35 rfl) rfl
set_option maxRecDepth 8000 in
theorem g_312 : Cond.selects RX1 yX1_addBySpell yX1_addBySpell ∈ gA := gA_of (tb_2 36 rfl) rfl
set_option maxRecDepth 8000 in
theorem g_313 : Cond.code yX1_addBySpell cX1_addBySpell 5 (some .int) ∈ gA := gA_of (tb_2 37 rfl) rfl
set_option maxRecDepth 8000 in
theorem g_314 : Cond.methodLink RX1 48 yX1_addByHolds ∈ gA := gA_of (tb_2 38 rfl) rfl
set_option maxRecDepth 8000 in
theorem g_315 : Cond.instanceMethod yX1_addByHolds ∈ gA := gA_of (tb_2 39 rfl) rfl
set_option maxRecDepth 8000 in
theorem g_316 : Cond.selects RX1 yX1_addByHolds yX1_addByHolds ∈ gA := gA_of (tb_2 40 rfl) rfl
set_option maxRecDepth 8000 in
theorem g_317 : Cond.code yX1_addByHolds cX1_addByHolds 6 (some .int) ∈ gA := gA_of (tb_2 41 rfl) rfl
set_option maxRecDepth 8000 in
theorem g_318 : Cond.methodLink RX1 52 yX1_isFull ∈ gA := gA_of (tb_2 42 rfl) rfl
set_option maxRecDepth 8000 in
theorem g_319 : Cond.methodLink RX2 54 yX1_giveWay ∈ gA := gA_of (tb_2 43 rfl) rfl
set_option maxRecDepth 8000 in
theorem g_320 : Cond.instanceMethod yX1_giveWay ∈ gA := gA_of (tb_2 44 rfl) rfl
set_option maxRecDepth 8000 in
theorem g_321 : Cond.selects RX1 yX1_giveWay yX1_giveWay ∈ gA := gA_of (tb_2 45 rfl) rfl
set_option maxRecDepth 8000 in
theorem g_322 : Cond.code yX1_giveWay cX1_giveWay 3 none ∈ gA := gA_of (tb_2 46 rfl) rfl
set_option maxRecDepth 8000 in
theorem g_323 : Cond.methodLink RX1 66 yX1_measure ∈ gA := gA_of (tb_2 47 rfl) rfl
set_option maxRecDepth 8000 in
theorem t_324 : Cond.privateMethod yX1_measure ∈ lw_tbl := tb_2 48 rfl
set_option maxRecDepth 8000 in
theorem g_325 : Cond.instanceMethod yX1_measure ∈ gA := gA_of (tb_2 49 rfl) rfl
set_option maxRecDepth 8000 in
theorem g_326 : Cond.code yX1_measure cX1_measure 2 none ∈ gA := gA_of (tb_2 50 rfl) rfl
set_option maxRecDepth 8000 in
theorem g_327 : Cond.methodLink RX1 78 ⟨"java/lang/Math", "max", "(II)I"⟩ ∈ gA := gA_of (tb_2 51 rfl) rfl
set_option maxRecDepth 8000 in
theorem g_328 : Cond.static ⟨"java/lang/Math", "max", "(II)I"⟩ ∈ gA := gA_of (tb_2 52 rfl) rfl
set_option maxRecDepth 8000 in
theorem g_329 : Cond.code ⟨"java/lang/Math", "max", "(II)I"⟩ prog_11_method_65_code 2 (some .int) ∈ gA := gA_of (tb_2 53 rfl) rfl
set_option maxRecDepth 8000 in
theorem g_330 : Cond.methodLink RX1 84 yX1_bear ∈ gA := gA_of (tb_2 54 rfl) rfl
set_option maxRecDepth 8000 in
theorem t_331 : Cond.privateMethod yX1_bear ∈ lw_tbl := tb_2 55 rfl
set_option maxRecDepth 8000 in
theorem g_332 : Cond.instanceMethod yX1_bear ∈ gA := gA_of (tb_2 56 rfl) rfl
set_option maxRecDepth 8000 in
theorem g_333 : Cond.code yX1_bear cX1_bear 3 none ∈ gA := gA_of (tb_2 57 rfl) rfl
set_option maxRecDepth 8000 in
theorem g_334 : Cond.methodLink RX1 69 yX1_tearOverpulled ∈ gA := gA_of (tb_2 58 rfl) rfl
set_option maxRecDepth 8000 in
theorem t_335 : Cond.privateMethod yX1_tearOverpulled ∈ lw_tbl := tb_2 59 rfl
set_option maxRecDepth 8000 in
theorem g_336 : Cond.instanceMethod yX1_tearOverpulled ∈ gA := gA_of (tb_2 60 rfl) rfl
set_option maxRecDepth 8000 in
theorem g_337 : Cond.code yX1_tearOverpulled cX1_tearOverpulled 2 none ∈ gA := gA_of (tb_2 61 rfl) rfl
set_option maxRecDepth 8000 in
theorem g_338 : Cond.methodLink RX1 88 yX1_tearHoldsFrom ∈ gA := gA_of (tb_2 62 rfl) rfl
set_option maxRecDepth 8000 in
theorem t_339 : Cond.privateMethod yX1_tearHoldsFrom ∈ lw_tbl := tb_2 63 rfl
set_option maxRecDepth 8000 in
theorem g_340 : Cond.instanceMethod yX1_tearHoldsFrom ∈ gA := gA_of (tb_2 64 rfl) rfl
set_option maxRecDepth 8000 in
theorem g_341 : Cond.code yX1_tearHoldsFrom cX1_tearHoldsFrom 3 none ∈ gA := gA_of (tb_2 65 rfl) rfl
set_option maxRecDepth 8000 in
theorem g_342 : Cond.methodLink RX1 72 yX1_endOverloaded ∈ gA := gA_of (tb_2 66 rfl) rfl
set_option maxRecDepth 8000 in
theorem t_343 : Cond.privateMethod yX1_endOverloaded ∈ lw_tbl := tb_2 67 rfl
set_option maxRecDepth 8000 in
theorem g_344 : Cond.instanceMethod yX1_endOverloaded ∈ gA := gA_of (tb_2 68 rfl) rfl
set_option maxRecDepth 8000 in
theorem g_345 : Cond.code yX1_endOverloaded cX1_endOverloaded 2 none ∈ gA := gA_of (tb_2 69 rfl) rfl
set_option maxRecDepth 8000 in
theorem g_346 : Cond.methodLink RX1 92 yX1_endSpell ∈ gA := gA_of (tb_2 70 rfl) rfl
set_option maxRecDepth 8000 in
theorem t_347 : Cond.privateMethod yX1_endSpell ∈ lw_tbl := tb_2 71 rfl
set_option maxRecDepth 8000 in
theorem g_348 : Cond.instanceMethod yX1_endSpell ∈ gA := gA_of (tb_2 72 rfl) rfl
set_option maxRecDepth 8000 in
theorem g_349 : Cond.code yX1_endSpell cX1_endSpell 2 none ∈ gA := gA_of (tb_2 73 rfl) rfl
set_option maxRecDepth 8000 in
theorem g_350 : Cond.methodLink RX1 75 yX1_dropLoose ∈ gA := gA_of (tb_2 74 rfl) rfl
set_option maxRecDepth 8000 in
theorem t_351 : Cond.privateMethod yX1_dropLoose ∈ lw_tbl := tb_2 75 rfl
set_option maxRecDepth 8000 in
theorem g_352 : Cond.instanceMethod yX1_dropLoose ∈ gA := gA_of (tb_2 76 rfl) rfl
set_option maxRecDepth 8000 in
theorem g_353 : Cond.code yX1_dropLoose cX1_dropLoose 2 none ∈ gA := gA_of (tb_2 77 rfl) rfl
set_option maxRecDepth 8000 in
theorem g_354 : Cond.methodLink RL 82 yL_hang ∈ gA := gA_of (tb_2 78 rfl) rfl
set_option maxRecDepth 8000 in
theorem g_355 : Cond.static yL_hang ∈ gA := gA_of (tb_2 79 rfl) rfl
set_option maxRecDepth 8000 in
theorem g_356 : Cond.codeWith yL_hang cL_hang 7 (some .int) [(0, 14, 17, 13), (0, 14, 21, 21), (0, 14, 25, 15)] ∈ gA := gA_of (tb_2 80 rfl) rfl
set_option maxRecDepth 8000 in
theorem g_357 : Cond.classLink RL 21 "java/lang/IndexOutOfBoundsException" ∈ gA := gA_of (tb_2 81 rfl) rfl
set_option maxRecDepth 8000 in
theorem g_358 : Cond.methodLink RL 17 yX2_hang ∈ gA := gA_of (tb_2 82 rfl) rfl
set_option maxRecDepth 8000 in
theorem g_359 : Cond.instanceMethod yX2_hang ∈ gA := gA_of (tb_2 83 rfl) rfl
set_option maxRecDepth 8000 in
theorem g_360 : Cond.selects RX2 yX2_hang yX2_hang ∈ gA := gA_of (tb_2 84 rfl) rfl
set_option maxRecDepth 8000 in
theorem g_361 : Cond.code yX2_hang cX2_hang 6 (some .int) ∈ gA := gA_of (tb_2 85 rfl) rfl
set_option maxRecDepth 8000 in
theorem t_362 : Cond.stringRef RX2 57 "no such weight or strength, or both stones are the same" ∈ lw_tbl := tb_2 86 rfl
set_option maxRecDepth 8000 in
theorem g_363 : Cond.methodLink RX2 59 yX1_has ∈ gA := gA_of (tb_2 87 rfl) rfl
set_option maxRecDepth 8000 in
theorem g_364 : Cond.classLink RX2 63 "java/lang/IndexOutOfBoundsException" ∈ gA := gA_of (tb_2 88 rfl) rfl
set_option maxRecDepth 8000 in
theorem g_365 : Cond.instantiable "java/lang/IndexOutOfBoundsException" 6 ∈ gA := gA_of (tb_2 89 rfl) rfl
set_option maxRecDepth 8000 in
theorem t_366 : Cond.castable "java/lang/IndexOutOfBoundsException" "java/lang/IndexOutOfBoundsException" ∈ lw_tbl := tb_2 90 rfl
set_option maxRecDepth 8000 in
theorem g_367 : Cond.selects "java/lang/IndexOutOfBoundsException" ⟨"java/lang/Throwable", "fillInStackTrace", "(I)Ljava/lang/Throwable;"⟩ ⟨"java/lang/Throwable", "fillInStackTrace", "(I)Ljava/lang/Throwable;"⟩ ∈ gA := gA_of (tb_2 91 rfl) rfl
set_option maxRecDepth 8000 in
theorem g_368 : Cond.lays "java/lang/IndexOutOfBoundsException" "java/lang/Throwable" "cause" "Ljava/lang/Throwable;" ∈ gA := gA_of (tb_2 92 rfl) rfl
set_option maxRecDepth 8000 in
theorem g_369 : Cond.lays "java/lang/IndexOutOfBoundsException" "java/lang/Throwable" "stackTrace" "[Ljava/lang/StackTraceElement;" ∈ gA := gA_of (tb_2 93 rfl) rfl
set_option maxRecDepth 8000 in
theorem g_370 : Cond.lays "java/lang/IndexOutOfBoundsException" "java/lang/Throwable" "suppressedExceptions" "Ljava/util/List;" ∈ gA := gA_of (tb_2 94 rfl) rfl
set_option maxRecDepth 8000 in
theorem g_371 : Cond.lays "java/lang/IndexOutOfBoundsException" "java/lang/Throwable" "detailMessage" "Ljava/lang/String;" ∈ gA := gA_of (tb_2 95 rfl) rfl
set_option maxRecDepth 8000 in
theorem g_372 : Cond.lays "java/lang/IndexOutOfBoundsException" "java/lang/Throwable" "backtrace" "Ljava/lang/Object;" ∈ gA := gA_of (tb_2 96 rfl) rfl
set_option maxRecDepth 8000 in
theorem t_373 : Cond.stringRef RX2 65 "no such stone" ∈ lw_tbl := tb_2 97 rfl
set_option maxRecDepth 8000 in
theorem g_374 : Cond.methodLink RX2 67 ⟨"java/lang/IndexOutOfBoundsException", "<init>", "(Ljava/lang/String;)V"⟩ ∈ gA := gA_of (tb_2 98 rfl) rfl
set_option maxRecDepth 8000 in
theorem g_375 : Cond.instanceMethod ⟨"java/lang/IndexOutOfBoundsException", "<init>", "(Ljava/lang/String;)V"⟩ ∈ gA := gA_of (tb_2 99 rfl) rfl
set_option maxRecDepth 8000 in
theorem g_376 : Cond.code ⟨"java/lang/IndexOutOfBoundsException", "<init>", "(Ljava/lang/String;)V"⟩ prog_10_method_2_code 2 none ∈ gA := gA_of (tb_2 100 rfl) rfl
set_option maxRecDepth 8000 in
theorem g_377 : Cond.methodLink "java/lang/IndexOutOfBoundsException" 7 ⟨"java/lang/RuntimeException", "<init>", "(Ljava/lang/String;)V"⟩ ∈ gA := gA_of (tb_2 101 rfl) rfl
set_option maxRecDepth 8000 in
theorem g_378 : Cond.lays "java/lang/IndexOutOfBoundsException" "java/lang/Throwable" "depth" "I" ∈ gA := gA_of (tb_2 102 rfl) rfl
set_option maxRecDepth 8000 in
theorem g_379 : Cond.superclass "java/lang/IndexOutOfBoundsException" "java/lang/RuntimeException" ∈ gA := gA_of (tb_2 103 rfl) rfl
set_option maxRecDepth 8000 in
theorem g_380 : Cond.methodLink RX2 68 yX1_isHanging ∈ gA := gA_of (tb_2 104 rfl) rfl
set_option maxRecDepth 8000 in
theorem t_381 : Cond.stringRef RX2 71 "no more stones, or one of them has fallen" ∈ lw_tbl := tb_2 105 rfl
set_option maxRecDepth 8000 in
theorem g_382 : Cond.methodLink RX2 73 yX1_addByHolds ∈ gA := gA_of (tb_2 106 rfl) rfl
set_option maxRecDepth 8000 in
theorem g_383 : Cond.methodLink RL 86 yL_prop ∈ gA := gA_of (tb_2 107 rfl) rfl
set_option maxRecDepth 8000 in
theorem g_384 : Cond.static yL_prop ∈ gA := gA_of (tb_2 108 rfl) rfl
set_option maxRecDepth 8000 in
theorem g_385 : Cond.codeWith yL_prop cL_prop 5 (some .int) [(0, 10, 13, 21), (0, 10, 17, 13), (0, 10, 21, 15)] ∈ gA := gA_of (tb_2 109 rfl) rfl
set_option maxRecDepth 8000 in
theorem g_386 : Cond.methodLink RL 23 yX2_prop ∈ gA := gA_of (tb_2 110 rfl) rfl
set_option maxRecDepth 8000 in
theorem g_387 : Cond.instanceMethod yX2_prop ∈ gA := gA_of (tb_2 111 rfl) rfl
set_option maxRecDepth 8000 in
theorem g_388 : Cond.selects RX2 yX2_prop yX2_prop ∈ gA := gA_of (tb_2 112 rfl) rfl
set_option maxRecDepth 8000 in
theorem g_389 : Cond.code yX2_prop cX2_prop 4 (some .int) ∈ gA := gA_of (tb_2 113 rfl) rfl
set_option maxRecDepth 8000 in
theorem t_390 : Cond.stringRef RX2 77 "no such prop" ∈ lw_tbl := tb_2 114 rfl
set_option maxRecDepth 8000 in
theorem t_391 : Cond.stringRef RX2 79 "it has fallen" ∈ lw_tbl := tb_2 115 rfl
set_option maxRecDepth 8000 in
theorem g_392 : Cond.methodLink RX2 85 yX1_setProp ∈ gA := gA_of (tb_2 116 rfl) rfl
set_option maxRecDepth 8000 in
theorem g_393 : Cond.instanceMethod yX1_setProp ∈ gA := gA_of (tb_2 117 rfl) rfl
set_option maxRecDepth 8000 in
theorem g_394 : Cond.selects RX1 yX1_setProp yX1_setProp ∈ gA := gA_of (tb_2 118 rfl) rfl
set_option maxRecDepth 8000 in
theorem g_395 : Cond.code yX1_setProp cX1_setProp 3 none ∈ gA := gA_of (tb_2 119 rfl) rfl
set_option maxRecDepth 8000 in
theorem g_396 : Cond.methodLink RL 90 yL_renew ∈ gA := gA_of (tb_2 120 rfl) rfl
set_option maxRecDepth 8000 in
theorem g_397 : Cond.static yL_renew ∈ gA := gA_of (tb_2 121 rfl) rfl
set_option maxRecDepth 8000 in
theorem g_398 : Cond.codeWith yL_renew cL_renew 5 (some .int) [(0, 10, 13, 21), (0, 10, 17, 13), (0, 10, 21, 15)] ∈ gA := gA_of (tb_2 122 rfl) rfl
set_option maxRecDepth 8000 in
theorem g_399 : Cond.methodLink RL 27 yX2_renew ∈ gA := gA_of (tb_2 123 rfl) rfl
set_option maxRecDepth 8000 in
theorem g_400 : Cond.instanceMethod yX2_renew ∈ gA := gA_of (tb_2 124 rfl) rfl
set_option maxRecDepth 8000 in
theorem g_401 : Cond.selects RX2 yX2_renew yX2_renew ∈ gA := gA_of (tb_2 125 rfl) rfl
set_option maxRecDepth 8000 in
theorem g_402 : Cond.code yX2_renew cX2_renew 4 (some .int) ∈ gA := gA_of (tb_2 126 rfl) rfl
set_option maxRecDepth 8000 in
theorem t_403 : Cond.stringRef RX2 89 "no such power" ∈ lw_tbl := tb_2 127 rfl
set_option maxRecDepth 8000 in
theorem g_404 : Cond.methodLink RX2 91 yX1_hasSpell ∈ gA := gA_of (tb_2 128 rfl) rfl
set_option maxRecDepth 8000 in
theorem g_405 : Cond.instanceMethod yX1_hasSpell ∈ gA := gA_of (tb_2 129 rfl) rfl
set_option maxRecDepth 8000 in
theorem g_406 : Cond.selects RX1 yX1_hasSpell yX1_hasSpell ∈ gA := gA_of (tb_2 130 rfl) rfl
set_option maxRecDepth 8000 in
theorem g_407 : Cond.code yX1_hasSpell cX1_hasSpell 2 (some .boolean) ∈ gA := gA_of (tb_2 131 rfl) rfl
set_option maxRecDepth 8000 in
theorem t_408 : Cond.stringRef RX2 98 "it does not hang by a spell, or the power is less than its load" ∈ lw_tbl := tb_2 132 rfl
set_option maxRecDepth 8000 in
theorem g_409 : Cond.methodLink RL 93 yL_stair ∈ gA := gA_of (tb_2 133 rfl) rfl
set_option maxRecDepth 8000 in
theorem g_410 : Cond.static yL_stair ∈ gA := gA_of (tb_2 134 rfl) rfl
set_option maxRecDepth 8000 in
theorem g_411 : Cond.codeWith yL_stair cL_stair 5 (some .int) [(0, 10, 13, 21), (0, 10, 17, 13), (0, 10, 21, 15)] ∈ gA := gA_of (tb_2 135 rfl) rfl
set_option maxRecDepth 8000 in
theorem g_412 : Cond.methodLink RL 30 yX2_stair ∈ gA := gA_of (tb_2 136 rfl) rfl
set_option maxRecDepth 8000 in
theorem g_413 : Cond.instanceMethod yX2_stair ∈ gA := gA_of (tb_2 137 rfl) rfl
set_option maxRecDepth 8000 in
theorem g_414 : Cond.selects RX2 yX2_stair yX2_stair ∈ gA := gA_of (tb_2 138 rfl) rfl
set_option maxRecDepth 8000 in
theorem g_415 : Cond.code yX2_stair cX2_stair 3 (some .int) ∈ gA := gA_of (tb_2 139 rfl) rfl
set_option maxRecDepth 8000 in
theorem t_416 : Cond.stringRef RX2 103 "both are the same" ∈ lw_tbl := tb_2 140 rfl
set_option maxRecDepth 8000 in
theorem g_417 : Cond.methodLink RX2 105 yX0_isFull ∈ gA := gA_of (tb_2 141 rfl) rfl
set_option maxRecDepth 8000 in
theorem g_418 : Cond.instanceMethod yX0_isFull ∈ gA := gA_of (tb_2 142 rfl) rfl
set_option maxRecDepth 8000 in
theorem g_419 : Cond.selects RX0 yX0_isFull yX0_isFull ∈ gA := gA_of (tb_2 143 rfl) rfl
set_option maxRecDepth 8000 in
theorem g_420 : Cond.code yX0_isFull cX0_isFull 1 (some .boolean) ∈ gA := gA_of (tb_2 144 rfl) rfl
set_option maxRecDepth 8000 in
theorem t_421 : Cond.stringRef RX2 106 "no more stairs, or one of them has fallen" ∈ lw_tbl := tb_2 145 rfl
set_option maxRecDepth 8000 in
theorem g_422 : Cond.methodLink RX2 108 yX0_add ∈ gA := gA_of (tb_2 146 rfl) rfl
set_option maxRecDepth 8000 in
theorem g_423 : Cond.instanceMethod yX0_add ∈ gA := gA_of (tb_2 147 rfl) rfl
set_option maxRecDepth 8000 in
theorem g_424 : Cond.selects RX0 yX0_add yX0_add ∈ gA := gA_of (tb_2 148 rfl) rfl
set_option maxRecDepth 8000 in
theorem g_425 : Cond.code yX0_add cX0_add 4 (some .int) ∈ gA := gA_of (tb_2 149 rfl) rfl
set_option maxRecDepth 8000 in
theorem g_426 : Cond.methodLink RX0 34 yX0_isFull ∈ gA := gA_of (tb_2 150 rfl) rfl
set_option maxRecDepth 8000 in
theorem g_427 : Cond.methodLink RL 96 yL_swap ∈ gA := gA_of (tb_2 151 rfl) rfl
set_option maxRecDepth 8000 in
theorem g_428 : Cond.static yL_swap ∈ gA := gA_of (tb_2 152 rfl) rfl
set_option maxRecDepth 8000 in
theorem g_429 : Cond.codeWith yL_swap cL_swap 5 (some .int) [(0, 17, 20, 21), (0, 17, 24, 13), (0, 17, 28, 15)] ∈ gA := gA_of (tb_2 153 rfl) rfl
set_option maxRecDepth 8000 in
theorem g_430 : Cond.methodLink RL 33 yX2_swap ∈ gA := gA_of (tb_2 154 rfl) rfl
set_option maxRecDepth 8000 in
theorem g_431 : Cond.instanceMethod yX2_swap ∈ gA := gA_of (tb_2 155 rfl) rfl
set_option maxRecDepth 8000 in
theorem g_432 : Cond.selects RX2 yX2_swap yX2_swap ∈ gA := gA_of (tb_2 156 rfl) rfl
set_option maxRecDepth 8000 in
theorem g_433 : Cond.code yX2_swap cX2_swap 3 (some .boolean) ∈ gA := gA_of (tb_2 157 rfl) rfl
set_option maxRecDepth 8000 in
theorem g_434 : Cond.methodLink RX2 112 yX0_has ∈ gA := gA_of (tb_2 158 rfl) rfl
set_option maxRecDepth 8000 in
theorem t_435 : Cond.stringRef RX2 113 "no such stair" ∈ lw_tbl := tb_2 159 rfl
set_option maxRecDepth 8000 in
theorem g_436 : Cond.methodLink RX2 115 yX0_isGone ∈ gA := gA_of (tb_2 160 rfl) rfl
set_option maxRecDepth 8000 in
theorem t_437 : Cond.stringRef RX2 119 "one of them is gone" ∈ lw_tbl := tb_2 161 rfl
set_option maxRecDepth 8000 in
theorem g_438 : Cond.methodLink RX2 121 yX0_exchangeEnds ∈ gA := gA_of (tb_2 162 rfl) rfl
set_option maxRecDepth 8000 in
theorem g_439 : Cond.instanceMethod yX0_exchangeEnds ∈ gA := gA_of (tb_2 163 rfl) rfl
set_option maxRecDepth 8000 in
theorem g_440 : Cond.selects RX0 yX0_exchangeEnds yX0_exchangeEnds ∈ gA := gA_of (tb_2 164 rfl) rfl
set_option maxRecDepth 8000 in
theorem g_441 : Cond.code yX0_exchangeEnds cX0_exchangeEnds 4 (some .boolean) ∈ gA := gA_of (tb_2 165 rfl) rfl
set_option maxRecDepth 8000 in
theorem g_442 : Cond.methodLink RL 99 yL_joins ∈ gA := gA_of (tb_2 166 rfl) rfl
set_option maxRecDepth 8000 in
theorem g_443 : Cond.static yL_joins ∈ gA := gA_of (tb_2 167 rfl) rfl
set_option maxRecDepth 8000 in
theorem g_444 : Cond.codeWith yL_joins cL_joins 5 (some .int) [(0, 10, 13, 21)] ∈ gA := gA_of (tb_2 168 rfl) rfl
set_option maxRecDepth 8000 in
theorem g_445 : Cond.methodLink RL 37 yX2_joins ∈ gA := gA_of (tb_2 169 rfl) rfl
set_option maxRecDepth 8000 in
theorem g_446 : Cond.instanceMethod yX2_joins ∈ gA := gA_of (tb_2 170 rfl) rfl
set_option maxRecDepth 8000 in
theorem g_447 : Cond.selects RX2 yX2_joins yX2_joins ∈ gA := gA_of (tb_2 171 rfl) rfl
set_option maxRecDepth 8000 in
theorem g_448 : Cond.code yX2_joins cX2_joins 3 (some .int) ∈ gA := gA_of (tb_2 172 rfl) rfl
set_option maxRecDepth 8000 in
theorem t_449 : Cond.stringRef RX2 124 "no such stair, or nothing to tell" ∈ lw_tbl := tb_2 173 rfl
set_option maxRecDepth 8000 in
theorem g_450 : Cond.methodLink RL 102 yL_steps ∈ gA := gA_of (tb_2 174 rfl) rfl
set_option maxRecDepth 8000 in
theorem g_451 : Cond.static yL_steps ∈ gA := gA_of (tb_2 175 rfl) rfl
set_option maxRecDepth 8000 in
theorem g_452 : Cond.codeWith yL_steps cL_steps 5 (some .int) [(0, 10, 13, 21)] ∈ gA := gA_of (tb_2 176 rfl) rfl
set_option maxRecDepth 8000 in
theorem g_453 : Cond.methodLink RL 40 yX2_steps ∈ gA := gA_of (tb_2 177 rfl) rfl
set_option maxRecDepth 8000 in
theorem g_454 : Cond.instanceMethod yX2_steps ∈ gA := gA_of (tb_2 178 rfl) rfl
set_option maxRecDepth 8000 in
theorem g_455 : Cond.selects RX2 yX2_steps yX2_steps ∈ gA := gA_of (tb_2 179 rfl) rfl
set_option maxRecDepth 8000 in
theorem g_456 : Cond.code yX2_steps cX2_steps 3 (some .int) ∈ gA := gA_of (tb_2 180 rfl) rfl
set_option maxRecDepth 8000 in
theorem g_457 : Cond.methodLink RX2 130 yX0_fewestSteps ∈ gA := gA_of (tb_2 181 rfl) rfl
set_option maxRecDepth 8000 in
theorem g_458 : Cond.instanceMethod yX0_fewestSteps ∈ gA := gA_of (tb_2 182 rfl) rfl
set_option maxRecDepth 8000 in
theorem g_459 : Cond.selects RX0 yX0_fewestSteps yX0_fewestSteps ∈ gA := gA_of (tb_2 183 rfl) rfl
set_option maxRecDepth 8000 in
theorem g_460 : Cond.code yX0_fewestSteps cX0_fewestSteps 6 (some .int) ∈ gA := gA_of (tb_2 184 rfl) rfl
set_option maxRecDepth 8000 in
theorem g_461 : Cond.methodLink RX0 42 yX1_has ∈ gA := gA_of (tb_2 185 rfl) rfl
set_option maxRecDepth 8000 in
theorem g_462 : Cond.methodLink RX0 43 yX0_reachFrom ∈ gA := gA_of (tb_2 186 rfl) rfl
set_option maxRecDepth 8000 in
theorem t_463 : Cond.privateMethod yX0_reachFrom ∈ lw_tbl := tb_2 187 rfl
set_option maxRecDepth 8000 in
theorem g_464 : Cond.instanceMethod yX0_reachFrom ∈ gA := gA_of (tb_2 188 rfl) rfl
set_option maxRecDepth 8000 in
theorem g_465 : Cond.code yX0_reachFrom cX0_reachFrom 5 (some .boolean) ∈ gA := gA_of (tb_2 189 rfl) rfl
set_option maxRecDepth 8000 in
theorem g_466 : Cond.methodLink RX0 46 yX0_stepOver ∈ gA := gA_of (tb_2 190 rfl) rfl
set_option maxRecDepth 8000 in
theorem t_467 : Cond.privateMethod yX0_stepOver ∈ lw_tbl := tb_2 191 rfl
set_option maxRecDepth 8000 in
theorem g_468 : Cond.instanceMethod yX0_stepOver ∈ gA := gA_of (tb_2 192 rfl) rfl
set_option maxRecDepth 8000 in
theorem g_469 : Cond.code yX0_stepOver cX0_stepOver 4 (some .boolean) ∈ gA := gA_of (tb_2 193 rfl) rfl
set_option maxRecDepth 8000 in
theorem g_470 : Cond.methodLink RX0 50 yX0_isPlace ∈ gA := gA_of (tb_2 194 rfl) rfl
set_option maxRecDepth 8000 in
theorem g_471 : Cond.static yX0_isPlace ∈ gA := gA_of (tb_2 195 rfl) rfl
set_option maxRecDepth 8000 in
theorem g_472 : Cond.code yX0_isPlace cX0_isPlace 1 (some .boolean) ∈ gA := gA_of (tb_2 196 rfl) rfl
set_option maxRecDepth 8000 in
theorem g_473 : Cond.methodLink RL 105 yL_stone ∈ gA := gA_of (tb_2 197 rfl) rfl
set_option maxRecDepth 8000 in
theorem g_474 : Cond.static yL_stone ∈ gA := gA_of (tb_2 198 rfl) rfl
set_option maxRecDepth 8000 in
theorem g_475 : Cond.codeWith yL_stone cL_stone 5 (some .int) [(0, 10, 13, 21)] ∈ gA := gA_of (tb_2 199 rfl) rfl
set_option maxRecDepth 8000 in
theorem g_476 : Cond.methodLink RL 43 yX2_stone ∈ gA := gA_of (tb_2 200 rfl) rfl
set_option maxRecDepth 8000 in
theorem g_477 : Cond.instanceMethod yX2_stone ∈ gA := gA_of (tb_2 201 rfl) rfl
set_option maxRecDepth 8000 in
theorem g_478 : Cond.selects RX2 yX2_stone yX2_stone ∈ gA := gA_of (tb_2 202 rfl) rfl
set_option maxRecDepth 8000 in
theorem g_479 : Cond.code yX2_stone cX2_stone 3 (some .int) ∈ gA := gA_of (tb_2 203 rfl) rfl
set_option maxRecDepth 8000 in
theorem t_480 : Cond.stringRef RX2 133 "no such stone, or nothing to tell" ∈ lw_tbl := tb_2 204 rfl
set_option maxRecDepth 8000 in
theorem g_481 : Cond.methodLink RL 108 yL_first ∈ gA := gA_of (tb_2 205 rfl) rfl
set_option maxRecDepth 8000 in
theorem g_482 : Cond.static yL_first ∈ gA := gA_of (tb_2 206 rfl) rfl
set_option maxRecDepth 8000 in
theorem g_483 : Cond.codeWith yL_first cL_first 4 (some .int) [(0, 9, 12, 21)] ∈ gA := gA_of (tb_2 207 rfl) rfl
set_option maxRecDepth 8000 in
theorem g_484 : Cond.methodLink RL 46 yX2_first ∈ gA := gA_of (tb_2 208 rfl) rfl
set_option maxRecDepth 8000 in
theorem g_485 : Cond.instanceMethod yX2_first ∈ gA := gA_of (tb_2 209 rfl) rfl
set_option maxRecDepth 8000 in
theorem g_486 : Cond.selects RX2 yX2_first yX2_first ∈ gA := gA_of (tb_2 210 rfl) rfl
set_option maxRecDepth 8000 in
theorem g_487 : Cond.code yX2_first cX2_first 2 (some .int) ∈ gA := gA_of (tb_2 211 rfl) rfl
set_option maxRecDepth 8000 in
theorem g_488 : Cond.methodLink RX2 137 yX1_topOf ∈ gA := gA_of (tb_2 212 rfl) rfl
set_option maxRecDepth 8000 in
theorem g_489 : Cond.instanceMethod yX1_topOf ∈ gA := gA_of (tb_2 213 rfl) rfl
set_option maxRecDepth 8000 in
theorem g_490 : Cond.selects RX1 yX1_topOf yX1_topOf ∈ gA := gA_of (tb_2 214 rfl) rfl
set_option maxRecDepth 8000 in
theorem g_491 : Cond.code yX1_topOf cX1_topOf 4 (some .int) ∈ gA := gA_of (tb_2 215 rfl) rfl
set_option maxRecDepth 8000 in
theorem g_492 : Cond.methodLink RL 112 yL_count ∈ gA := gA_of (tb_2 216 rfl) rfl
set_option maxRecDepth 8000 in
theorem g_493 : Cond.static yL_count ∈ gA := gA_of (tb_2 217 rfl) rfl
set_option maxRecDepth 8000 in
theorem g_494 : Cond.codeWith yL_count cL_count 4 (some .int) [(0, 9, 12, 21)] ∈ gA := gA_of (tb_2 218 rfl) rfl
set_option maxRecDepth 8000 in
theorem g_495 : Cond.methodLink RL 50 yX2_count ∈ gA := gA_of (tb_2 219 rfl) rfl
set_option maxRecDepth 8000 in
theorem g_496 : Cond.instanceMethod yX2_count ∈ gA := gA_of (tb_2 220 rfl) rfl
set_option maxRecDepth 8000 in
theorem g_497 : Cond.selects RX2 yX2_count yX2_count ∈ gA := gA_of (tb_2 221 rfl) rfl
set_option maxRecDepth 8000 in
theorem g_498 : Cond.code yX2_count cX2_count 2 (some .int) ∈ gA := gA_of (tb_2 222 rfl) rfl
set_option maxRecDepth 8000 in
theorem t_499 : Cond.stringRef RX2 141 "nothing to tell" ∈ lw_tbl := tb_2 223 rfl
set_option maxRecDepth 8000 in
theorem g_500 : Cond.methodLink RL 115 yL_pass ∈ gA := gA_of (tb_2 224 rfl) rfl
set_option maxRecDepth 8000 in
theorem g_501 : Cond.static yL_pass ∈ gA := gA_of (tb_2 225 rfl) rfl
set_option maxRecDepth 8000 in
theorem g_502 : Cond.codeWith yL_pass cL_pass 4 (some .int) [(0, 9, 12, 13)] ∈ gA := gA_of (tb_2 226 rfl) rfl
set_option maxRecDepth 8000 in
theorem g_503 : Cond.methodLink RL 53 yX2_pass ∈ gA := gA_of (tb_2 227 rfl) rfl
set_option maxRecDepth 8000 in
theorem g_504 : Cond.instanceMethod yX2_pass ∈ gA := gA_of (tb_2 228 rfl) rfl
set_option maxRecDepth 8000 in
theorem g_505 : Cond.selects RX2 yX2_pass yX2_pass ∈ gA := gA_of (tb_2 229 rfl) rfl
set_option maxRecDepth 8000 in
theorem g_506 : Cond.code yX2_pass cX2_pass 3 (some .int) ∈ gA := gA_of (tb_2 230 rfl) rfl
set_option maxRecDepth 8000 in
theorem t_507 : Cond.stringRef RX2 146 "no such days" ∈ lw_tbl := tb_2 231 rfl
set_option maxRecDepth 8000 in
theorem g_508 : Cond.methodLink RX2 148 yX1_liveDays ∈ gA := gA_of (tb_2 232 rfl) rfl
set_option maxRecDepth 8000 in
theorem g_509 : Cond.instanceMethod yX1_liveDays ∈ gA := gA_of (tb_2 233 rfl) rfl
set_option maxRecDepth 8000 in
theorem g_510 : Cond.selects RX1 yX1_liveDays yX1_liveDays ∈ gA := gA_of (tb_2 234 rfl) rfl
set_option maxRecDepth 8000 in
theorem g_511 : Cond.code yX1_liveDays cX1_liveDays 3 none ∈ gA := gA_of (tb_2 235 rfl) rfl
set_option maxRecDepth 8000 in
theorem g_512 : Cond.methodLink RX1 98 yX1_liveDay ∈ gA := gA_of (tb_2 236 rfl) rfl
set_option maxRecDepth 8000 in
theorem g_513 : Cond.instanceMethod yX1_liveDay ∈ gA := gA_of (tb_2 237 rfl) rfl
set_option maxRecDepth 8000 in
theorem g_514 : Cond.selects RX1 yX1_liveDay yX1_liveDay ∈ gA := gA_of (tb_2 238 rfl) rfl
set_option maxRecDepth 8000 in
theorem g_515 : Cond.code yX1_liveDay cX1_liveDay 1 none ∈ gA := gA_of (tb_2 239 rfl) rfl
set_option maxRecDepth 8000 in
theorem g_516 : Cond.methodLink RX1 101 yX1_fade ∈ gA := gA_of (tb_3 0 rfl) rfl
set_option maxRecDepth 8000 in
theorem t_517 : Cond.privateMethod yX1_fade ∈ lw_tbl := tb_3 1 rfl
set_option maxRecDepth 8000 in
theorem g_518 : Cond.instanceMethod yX1_fade ∈ gA := gA_of (tb_3 2 rfl) rfl
set_option maxRecDepth 8000 in
theorem g_519 : Cond.code yX1_fade cX1_fade 2 none ∈ gA := gA_of (tb_3 3 rfl) rfl
set_option maxRecDepth 8000 in
theorem g_520 : Cond.methodLink RX1 95 yX1_giveWay ∈ gA := gA_of (tb_3 4 rfl) rfl
set_option maxRecDepth 8000 in
theorem g_521 : Cond.methodLink RL 118 yL_without ∈ gA := gA_of (tb_3 5 rfl) rfl
set_option maxRecDepth 8000 in
theorem g_522 : Cond.static yL_without ∈ gA := gA_of (tb_3 6 rfl) rfl
set_option maxRecDepth 8000 in
theorem g_523 : Cond.codeWith yL_without cL_without 4 (some .int) [(0, 9, 12, 21)] ∈ gA := gA_of (tb_3 7 rfl) rfl
set_option maxRecDepth 8000 in
theorem g_524 : Cond.methodLink RL 56 yX2_without ∈ gA := gA_of (tb_3 8 rfl) rfl
set_option maxRecDepth 8000 in
theorem g_525 : Cond.instanceMethod yX2_without ∈ gA := gA_of (tb_3 9 rfl) rfl
set_option maxRecDepth 8000 in
theorem g_526 : Cond.selects RX2 yX2_without yX2_without ∈ gA := gA_of (tb_3 10 rfl) rfl
set_option maxRecDepth 8000 in
theorem g_527 : Cond.code yX2_without cX2_without 2 (some .int) ∈ gA := gA_of (tb_3 11 rfl) rfl
set_option maxRecDepth 8000 in
theorem g_528 : Cond.methodLink RX2 152 yX1_copyFrom ∈ gA := gA_of (tb_3 12 rfl) rfl
set_option maxRecDepth 8000 in
theorem g_529 : Cond.instanceMethod yX1_copyFrom ∈ gA := gA_of (tb_3 13 rfl) rfl
set_option maxRecDepth 8000 in
theorem g_530 : Cond.selects RX1 yX1_copyFrom yX1_copyFrom ∈ gA := gA_of (tb_3 14 rfl) rfl
set_option maxRecDepth 8000 in
theorem g_531 : Cond.code yX1_copyFrom cX1_copyFrom 3 none ∈ gA := gA_of (tb_3 15 rfl) rfl
set_option maxRecDepth 8000 in
theorem g_532 : Cond.methodLink RX2 156 yX1_cutLoose ∈ gA := gA_of (tb_3 16 rfl) rfl
set_option maxRecDepth 8000 in
theorem g_533 : Cond.instanceMethod yX1_cutLoose ∈ gA := gA_of (tb_3 17 rfl) rfl
set_option maxRecDepth 8000 in
theorem g_534 : Cond.selects RX1 yX1_cutLoose yX1_cutLoose ∈ gA := gA_of (tb_3 18 rfl) rfl
set_option maxRecDepth 8000 in
theorem g_535 : Cond.code yX1_cutLoose cX1_cutLoose 2 none ∈ gA := gA_of (tb_3 19 rfl) rfl
set_option maxRecDepth 8000 in
theorem g_536 : Cond.methodLink RL 121 yL_lasts ∈ gA := gA_of (tb_3 20 rfl) rfl
set_option maxRecDepth 8000 in
theorem g_537 : Cond.static yL_lasts ∈ gA := gA_of (tb_3 21 rfl) rfl
set_option maxRecDepth 8000 in
theorem g_538 : Cond.codeWith yL_lasts cL_lasts 4 (some .int) [(0, 9, 12, 21)] ∈ gA := gA_of (tb_3 22 rfl) rfl
set_option maxRecDepth 8000 in
theorem g_539 : Cond.methodLink RL 59 yX2_lasts ∈ gA := gA_of (tb_3 23 rfl) rfl
set_option maxRecDepth 8000 in
theorem g_540 : Cond.instanceMethod yX2_lasts ∈ gA := gA_of (tb_3 24 rfl) rfl
set_option maxRecDepth 8000 in
theorem g_541 : Cond.selects RX2 yX2_lasts yX2_lasts ∈ gA := gA_of (tb_3 25 rfl) rfl
set_option maxRecDepth 8000 in
theorem g_542 : Cond.code yX2_lasts cX2_lasts 3 (some .int) ∈ gA := gA_of (tb_3 26 rfl) rfl
set_option maxRecDepth 8000 in
theorem g_543 : Cond.methodLink RX2 159 yX1_liveDay ∈ gA := gA_of (tb_3 27 rfl) rfl
set_option maxRecDepth 8000 in
theorem g_544 : Cond.methodLink RL 124 yL_foresee ∈ gA := gA_of (tb_3 28 rfl) rfl
set_option maxRecDepth 8000 in
theorem g_545 : Cond.static yL_foresee ∈ gA := gA_of (tb_3 29 rfl) rfl
set_option maxRecDepth 8000 in
theorem g_546 : Cond.codeWith yL_foresee cL_foresee 5 (some .int) [(0, 10, 13, 13), (0, 10, 17, 21)] ∈ gA := gA_of (tb_3 30 rfl) rfl
set_option maxRecDepth 8000 in
theorem g_547 : Cond.methodLink RL 62 yX2_foresee ∈ gA := gA_of (tb_3 31 rfl) rfl
set_option maxRecDepth 8000 in
theorem g_548 : Cond.instanceMethod yX2_foresee ∈ gA := gA_of (tb_3 32 rfl) rfl
set_option maxRecDepth 8000 in
theorem g_549 : Cond.selects RX2 yX2_foresee yX2_foresee ∈ gA := gA_of (tb_3 33 rfl) rfl
set_option maxRecDepth 8000 in
theorem g_550 : Cond.code yX2_foresee cX2_foresee 3 (some .int) ∈ gA := gA_of (tb_3 34 rfl) rfl
set_option maxRecDepth 8000 in
theorem g_551 : Cond.methodLink RL 127 yL_advise ∈ gA := gA_of (tb_3 35 rfl) rfl
set_option maxRecDepth 8000 in
theorem g_552 : Cond.static yL_advise ∈ gA := gA_of (tb_3 36 rfl) rfl
set_option maxRecDepth 8000 in
theorem g_553 : Cond.codeWith yL_advise cL_advise 5 (some .int) [(0, 10, 13, 13)] ∈ gA := gA_of (tb_3 37 rfl) rfl
set_option maxRecDepth 8000 in
theorem g_554 : Cond.methodLink RL 65 yX2_advise ∈ gA := gA_of (tb_3 38 rfl) rfl
set_option maxRecDepth 8000 in
theorem g_555 : Cond.instanceMethod yX2_advise ∈ gA := gA_of (tb_3 39 rfl) rfl
set_option maxRecDepth 8000 in
theorem g_556 : Cond.selects RX2 yX2_advise yX2_advise ∈ gA := gA_of (tb_3 40 rfl) rfl
set_option maxRecDepth 8000 in
theorem g_557 : Cond.code yX2_advise cX2_advise 7 (some .int) ∈ gA := gA_of (tb_3 41 rfl) rfl
set_option maxRecDepth 8000 in
theorem t_558 : Cond.stringRef RX2 170 "no such prop or days" ∈ lw_tbl := tb_3 42 rfl
set_option maxRecDepth 8000 in
theorem g_559 : Cond.methodLink RX2 178 yX2_leftWithMore ∈ gA := gA_of (tb_3 43 rfl) rfl
set_option maxRecDepth 8000 in
theorem t_560 : Cond.privateMethod yX2_leftWithMore ∈ lw_tbl := tb_3 44 rfl
set_option maxRecDepth 8000 in
theorem g_561 : Cond.instanceMethod yX2_leftWithMore ∈ gA := gA_of (tb_3 45 rfl) rfl
set_option maxRecDepth 8000 in
theorem g_562 : Cond.code yX2_leftWithMore cX2_leftWithMore 4 (some .int) ∈ gA := gA_of (tb_3 46 rfl) rfl
set_option maxRecDepth 8000 in
theorem g_563 : Cond.methodLink RX2 203 ⟨"java/lang/Math", "min", "(II)I"⟩ ∈ gA := gA_of (tb_3 47 rfl) rfl
set_option maxRecDepth 8000 in
theorem g_564 : Cond.static ⟨"java/lang/Math", "min", "(II)I"⟩ ∈ gA := gA_of (tb_3 48 rfl) rfl
set_option maxRecDepth 8000 in
theorem g_565 : Cond.code ⟨"java/lang/Math", "min", "(II)I"⟩ prog_11_method_69_code 2 (some .int) ∈ gA := gA_of (tb_3 49 rfl) rfl
set_option maxRecDepth 8000 in
theorem g_566 : Cond.classLink RL 69 RX3 ∈ gA := gA_of (tb_3 50 rfl) rfl
set_option maxRecDepth 8000 in
theorem g_567 : Cond.instantiable RX3 9 ∈ gA := gA_of (tb_3 51 rfl) rfl
set_option maxRecDepth 8000 in
theorem g_568 : Cond.methodLink RL 71 yX3_init ∈ gA := gA_of (tb_3 52 rfl) rfl
set_option maxRecDepth 8000 in
theorem g_569 : Cond.instanceMethod yX3_init ∈ gA := gA_of (tb_3 53 rfl) rfl
set_option maxRecDepth 8000 in
theorem g_570 : Cond.code yX3_init cX3_init 1 none ∈ gA := gA_of (tb_3 54 rfl) rfl
set_option maxRecDepth 8000 in
theorem g_571 : Cond.methodLink RX3 1 ⟨"java/lang/Object", "<init>", "()V"⟩ ∈ gA := gA_of (tb_3 55 rfl) rfl
set_option maxRecDepth 8000 in
theorem g_572 : Cond.fieldLink RX3 28 RX3 "thrown" "I" ∈ gA := gA_of (tb_3 56 rfl) rfl
set_option maxRecDepth 8000 in
theorem g_573 : Cond.fieldLink RX3 32 RX3 "stones" "I" ∈ gA := gA_of (tb_3 57 rfl) rfl
set_option maxRecDepth 8000 in
theorem g_574 : Cond.fieldLink RX3 63 RX3 "stairs" "I" ∈ gA := gA_of (tb_3 58 rfl) rfl
set_option maxRecDepth 8000 in
theorem g_575 : Cond.fieldLink RX3 9 RX3 "tower" "[I" ∈ gA := gA_of (tb_3 59 rfl) rfl
set_option maxRecDepth 8000 in
theorem g_576 : Cond.fieldLink RX3 13 RX3 "ways" "[I" ∈ gA := gA_of (tb_3 60 rfl) rfl
set_option maxRecDepth 8000 in
theorem g_577 : Cond.fieldLink RX3 16 RX3 "day" "[I" ∈ gA := gA_of (tb_3 61 rfl) rfl
set_option maxRecDepth 8000 in
theorem g_578 : Cond.fieldLink RX3 19 RX3 "loads" "[I" ∈ gA := gA_of (tb_3 62 rfl) rfl
set_option maxRecDepth 8000 in
theorem g_579 : Cond.fieldLink RX3 22 RX3 "pulls" "[I" ∈ gA := gA_of (tb_3 63 rfl) rfl
set_option maxRecDepth 8000 in
theorem g_580 : Cond.fieldLink RX3 25 RX3 "away" "[I" ∈ gA := gA_of (tb_3 64 rfl) rfl
set_option maxRecDepth 8000 in
theorem g_581 : Cond.lays RX3 RX3 "thrown" "I" ∈ gA := gA_of (tb_3 65 rfl) rfl
set_option maxRecDepth 8000 in
theorem g_582 : Cond.soleField RX3 "thrown" ∈ gA := gA_of (tb_3 66 rfl) rfl
set_option maxRecDepth 8000 in
theorem g_583 : Cond.lays RX3 RX3 "stones" "I" ∈ gA := gA_of (tb_3 67 rfl) rfl
set_option maxRecDepth 8000 in
theorem g_584 : Cond.soleField RX3 "stones" ∈ gA := gA_of (tb_3 68 rfl) rfl
set_option maxRecDepth 8000 in
theorem g_585 : Cond.lays RX3 RX3 "stairs" "I" ∈ gA := gA_of (tb_3 69 rfl) rfl
set_option maxRecDepth 8000 in
theorem g_586 : Cond.soleField RX3 "stairs" ∈ gA := gA_of (tb_3 70 rfl) rfl
set_option maxRecDepth 8000 in
theorem g_587 : Cond.laysFinal RX3 RX3 "tower" "[I" ∈ gA := gA_of (tb_3 71 rfl) rfl
set_option maxRecDepth 8000 in
theorem g_588 : Cond.soleField RX3 "tower" ∈ gA := gA_of (tb_3 72 rfl) rfl
set_option maxRecDepth 8000 in
theorem g_589 : Cond.laysFinal RX3 RX3 "ways" "[I" ∈ gA := gA_of (tb_3 73 rfl) rfl
set_option maxRecDepth 8000 in
theorem g_590 : Cond.soleField RX3 "ways" ∈ gA := gA_of (tb_3 74 rfl) rfl
set_option maxRecDepth 8000 in
theorem g_591 : Cond.laysFinal RX3 RX3 "day" "[I" ∈ gA := gA_of (tb_3 75 rfl) rfl
set_option maxRecDepth 8000 in
theorem g_592 : Cond.soleField RX3 "day" ∈ gA := gA_of (tb_3 76 rfl) rfl
set_option maxRecDepth 8000 in
theorem g_593 : Cond.laysFinal RX3 RX3 "loads" "[I" ∈ gA := gA_of (tb_3 77 rfl) rfl
set_option maxRecDepth 8000 in
theorem g_594 : Cond.soleField RX3 "loads" ∈ gA := gA_of (tb_3 78 rfl) rfl
set_option maxRecDepth 8000 in
theorem g_595 : Cond.laysFinal RX3 RX3 "pulls" "[I" ∈ gA := gA_of (tb_3 79 rfl) rfl
set_option maxRecDepth 8000 in
theorem g_596 : Cond.soleField RX3 "pulls" ∈ gA := gA_of (tb_3 80 rfl) rfl
set_option maxRecDepth 8000 in
theorem g_597 : Cond.laysFinal RX3 RX3 "away" "[I" ∈ gA := gA_of (tb_3 81 rfl) rfl
set_option maxRecDepth 8000 in
theorem g_598 : Cond.soleField RX3 "away" ∈ gA := gA_of (tb_3 82 rfl) rfl
set_option maxRecDepth 8000 in
theorem g_599 : Cond.superclass RX3 "java/lang/Object" ∈ gA := gA_of (tb_3 83 rfl) rfl
set_option maxRecDepth 8000 in
theorem g_600 : Cond.methodLink RL 78 yX3_thrown ∈ gA := gA_of (tb_3 84 rfl) rfl
set_option maxRecDepth 8000 in
theorem g_601 : Cond.instanceMethod yX3_thrown ∈ gA := gA_of (tb_3 85 rfl) rfl
set_option maxRecDepth 8000 in
theorem g_602 : Cond.selects RX3 yX3_thrown yX3_thrown ∈ gA := gA_of (tb_3 86 rfl) rfl
set_option maxRecDepth 8000 in
theorem g_603 : Cond.code yX3_thrown cX3_thrown 1 (some .int) ∈ gA := gA_of (tb_3 87 rfl) rfl
set_option maxRecDepth 8000 in
theorem g_604 : Cond.methodLink RL 77 yX3_conjure ∈ gA := gA_of (tb_3 88 rfl) rfl
set_option maxRecDepth 8000 in
theorem g_605 : Cond.instanceMethod yX3_conjure ∈ gA := gA_of (tb_3 89 rfl) rfl
set_option maxRecDepth 8000 in
theorem g_606 : Cond.selects RX3 yX3_conjure yX3_conjure ∈ gA := gA_of (tb_3 90 rfl) rfl
set_option maxRecDepth 8000 in
theorem g_607 : Cond.code yX3_conjure cX3_conjure 4 (some .int) ∈ gA := gA_of (tb_3 91 rfl) rfl
set_option maxRecDepth 8000 in
theorem g_608 : Cond.methodLink RX3 35 yX3_isIn ∈ gA := gA_of (tb_3 92 rfl) rfl
set_option maxRecDepth 8000 in
theorem g_609 : Cond.static yX3_isIn ∈ gA := gA_of (tb_3 93 rfl) rfl
set_option maxRecDepth 8000 in
theorem g_610 : Cond.code yX3_isIn cX3_isIn 3 (some .boolean) ∈ gA := gA_of (tb_3 94 rfl) rfl
set_option maxRecDepth 8000 in
theorem g_611 : Cond.methodLink RX3 88 yX3_fail ∈ gA := gA_of (tb_3 95 rfl) rfl
set_option maxRecDepth 8000 in
theorem t_612 : Cond.privateMethod yX3_fail ∈ lw_tbl := tb_3 96 rfl
set_option maxRecDepth 8000 in
theorem g_613 : Cond.instanceMethod yX3_fail ∈ gA := gA_of (tb_3 97 rfl) rfl
set_option maxRecDepth 8000 in
theorem g_614 : Cond.code yX3_fail cX3_fail 2 (some .int) ∈ gA := gA_of (tb_3 98 rfl) rfl
set_option maxRecDepth 8000 in
theorem g_615 : Cond.methodLink RX3 92 yX3_stone ∈ gA := gA_of (tb_3 99 rfl) rfl
set_option maxRecDepth 8000 in
theorem t_616 : Cond.privateMethod yX3_stone ∈ lw_tbl := tb_3 100 rfl
set_option maxRecDepth 8000 in
theorem g_617 : Cond.instanceMethod yX3_stone ∈ gA := gA_of (tb_3 101 rfl) rfl
set_option maxRecDepth 8000 in
theorem g_618 : Cond.code yX3_stone cX3_stone 7 (some .int) ∈ gA := gA_of (tb_3 102 rfl) rfl
set_option maxRecDepth 8000 in
theorem g_619 : Cond.methodLink RX3 79 ⟨"java/lang/System", "arraycopy", "(Ljava/lang/Object;ILjava/lang/Object;II)V"⟩ ∈ gA := gA_of (tb_3 103 rfl) rfl
set_option maxRecDepth 8000 in
theorem g_620 : Cond.static ⟨"java/lang/System", "arraycopy", "(Ljava/lang/Object;ILjava/lang/Object;II)V"⟩ ∈ gA := gA_of (tb_3 104 rfl) rfl
set_option maxRecDepth 8000 in
theorem g_621 : Cond.native ⟨"java/lang/System", "arraycopy", "(Ljava/lang/Object;ILjava/lang/Object;II)V"⟩ ∈ gA := gA_of (tb_3 105 rfl) rfl
set_option maxRecDepth 8000 in
theorem g_622 : Cond.methodLink RX3 85 yX3_giveWay ∈ gA := gA_of (tb_3 106 rfl) rfl
set_option maxRecDepth 8000 in
theorem t_623 : Cond.privateMethod yX3_giveWay ∈ lw_tbl := tb_3 107 rfl
set_option maxRecDepth 8000 in
theorem g_624 : Cond.instanceMethod yX3_giveWay ∈ gA := gA_of (tb_3 108 rfl) rfl
set_option maxRecDepth 8000 in
theorem g_625 : Cond.code yX3_giveWay cX3_giveWay 3 none ∈ gA := gA_of (tb_3 109 rfl) rfl
set_option maxRecDepth 8000 in
theorem g_626 : Cond.methodLink RX3 73 yX3_reckon ∈ gA := gA_of (tb_3 110 rfl) rfl
set_option maxRecDepth 8000 in
theorem t_627 : Cond.privateMethod yX3_reckon ∈ lw_tbl := tb_3 111 rfl
set_option maxRecDepth 8000 in
theorem g_628 : Cond.instanceMethod yX3_reckon ∈ gA := gA_of (tb_3 112 rfl) rfl
set_option maxRecDepth 8000 in
theorem g_629 : Cond.code yX3_reckon cX3_reckon 3 none ∈ gA := gA_of (tb_3 113 rfl) rfl
set_option maxRecDepth 8000 in
theorem g_630 : Cond.methodLink RX3 43 yX3_hangs ∈ gA := gA_of (tb_3 114 rfl) rfl
set_option maxRecDepth 8000 in
theorem t_631 : Cond.privateMethod yX3_hangs ∈ lw_tbl := tb_3 115 rfl
set_option maxRecDepth 8000 in
theorem g_632 : Cond.instanceMethod yX3_hangs ∈ gA := gA_of (tb_3 116 rfl) rfl
set_option maxRecDepth 8000 in
theorem g_633 : Cond.code yX3_hangs cX3_hangs 2 (some .boolean) ∈ gA := gA_of (tb_3 117 rfl) rfl
set_option maxRecDepth 8000 in
theorem g_634 : Cond.methodLink RX3 39 yX3_to ∈ gA := gA_of (tb_3 118 rfl) rfl
set_option maxRecDepth 8000 in
theorem t_635 : Cond.privateMethod yX3_to ∈ lw_tbl := tb_3 119 rfl
set_option maxRecDepth 8000 in
theorem g_636 : Cond.instanceMethod yX3_to ∈ gA := gA_of (tb_3 120 rfl) rfl
set_option maxRecDepth 8000 in
theorem g_637 : Cond.code yX3_to cX3_to 3 (some .int) ∈ gA := gA_of (tb_3 121 rfl) rfl
set_option maxRecDepth 8000 in
theorem g_638 : Cond.methodLink RX3 47 ⟨"java/lang/Math", "max", "(II)I"⟩ ∈ gA := gA_of (tb_3 122 rfl) rfl
set_option maxRecDepth 8000 in
theorem g_639 : Cond.methodLink RX3 60 yX3_tear ∈ gA := gA_of (tb_3 123 rfl) rfl
set_option maxRecDepth 8000 in
theorem t_640 : Cond.privateMethod yX3_tear ∈ lw_tbl := tb_3 124 rfl
set_option maxRecDepth 8000 in
theorem g_641 : Cond.instanceMethod yX3_tear ∈ gA := gA_of (tb_3 125 rfl) rfl
set_option maxRecDepth 8000 in
theorem g_642 : Cond.code yX3_tear cX3_tear 4 (some .boolean) ∈ gA := gA_of (tb_3 126 rfl) rfl
set_option maxRecDepth 8000 in
theorem g_643 : Cond.methodLink RX3 52 yX3_isHeldBy ∈ gA := gA_of (tb_3 127 rfl) rfl
set_option maxRecDepth 8000 in
theorem t_644 : Cond.privateMethod yX3_isHeldBy ∈ lw_tbl := tb_3 128 rfl
set_option maxRecDepth 8000 in
theorem g_645 : Cond.instanceMethod yX3_isHeldBy ∈ gA := gA_of (tb_3 129 rfl) rfl
set_option maxRecDepth 8000 in
theorem g_646 : Cond.code yX3_isHeldBy cX3_isHeldBy 3 (some .boolean) ∈ gA := gA_of (tb_3 130 rfl) rfl
set_option maxRecDepth 8000 in
theorem g_647 : Cond.methodLink RX3 56 yX3_put ∈ gA := gA_of (tb_3 131 rfl) rfl
set_option maxRecDepth 8000 in
theorem t_648 : Cond.privateMethod yX3_put ∈ lw_tbl := tb_3 132 rfl
set_option maxRecDepth 8000 in
theorem g_649 : Cond.instanceMethod yX3_put ∈ gA := gA_of (tb_3 133 rfl) rfl
set_option maxRecDepth 8000 in
theorem g_650 : Cond.code yX3_put cX3_put 4 none ∈ gA := gA_of (tb_3 134 rfl) rfl
set_option maxRecDepth 8000 in
theorem g_651 : Cond.methodLink RX3 76 yX3_drop ∈ gA := gA_of (tb_3 135 rfl) rfl
set_option maxRecDepth 8000 in
theorem t_652 : Cond.privateMethod yX3_drop ∈ lw_tbl := tb_3 136 rfl
set_option maxRecDepth 8000 in
theorem g_653 : Cond.instanceMethod yX3_drop ∈ gA := gA_of (tb_3 137 rfl) rfl
set_option maxRecDepth 8000 in
theorem g_654 : Cond.code yX3_drop cX3_drop 2 none ∈ gA := gA_of (tb_3 138 rfl) rfl
set_option maxRecDepth 8000 in
theorem g_655 : Cond.methodLink RX3 69 yX3_fall ∈ gA := gA_of (tb_3 139 rfl) rfl
set_option maxRecDepth 8000 in
theorem t_656 : Cond.privateMethod yX3_fall ∈ lw_tbl := tb_3 140 rfl
set_option maxRecDepth 8000 in
theorem g_657 : Cond.instanceMethod yX3_fall ∈ gA := gA_of (tb_3 141 rfl) rfl
set_option maxRecDepth 8000 in
theorem g_658 : Cond.code yX3_fall cX3_fall 3 none ∈ gA := gA_of (tb_3 142 rfl) rfl
set_option maxRecDepth 8000 in
theorem g_659 : Cond.methodLink RX3 66 yX3_st ∈ gA := gA_of (tb_3 143 rfl) rfl
set_option maxRecDepth 8000 in
theorem t_660 : Cond.privateMethod yX3_st ∈ lw_tbl := tb_3 144 rfl
set_option maxRecDepth 8000 in
theorem g_661 : Cond.instanceMethod yX3_st ∈ gA := gA_of (tb_3 145 rfl) rfl
set_option maxRecDepth 8000 in
theorem g_662 : Cond.code yX3_st cX3_st 3 (some .int) ∈ gA := gA_of (tb_3 146 rfl) rfl
set_option maxRecDepth 8000 in
theorem g_663 : Cond.methodLink RL 85 yX3_hang ∈ gA := gA_of (tb_3 147 rfl) rfl
set_option maxRecDepth 8000 in
theorem g_664 : Cond.instanceMethod yX3_hang ∈ gA := gA_of (tb_3 148 rfl) rfl
set_option maxRecDepth 8000 in
theorem g_665 : Cond.selects RX3 yX3_hang yX3_hang ∈ gA := gA_of (tb_3 149 rfl) rfl
set_option maxRecDepth 8000 in
theorem g_666 : Cond.code yX3_hang cX3_hang 5 (some .int) ∈ gA := gA_of (tb_3 150 rfl) rfl
set_option maxRecDepth 8000 in
theorem g_667 : Cond.methodLink RX3 96 yX3_isStone ∈ gA := gA_of (tb_3 151 rfl) rfl
set_option maxRecDepth 8000 in
theorem t_668 : Cond.privateMethod yX3_isStone ∈ lw_tbl := tb_3 152 rfl
set_option maxRecDepth 8000 in
theorem g_669 : Cond.instanceMethod yX3_isStone ∈ gA := gA_of (tb_3 153 rfl) rfl
set_option maxRecDepth 8000 in
theorem g_670 : Cond.code yX3_isStone cX3_isStone 2 (some .boolean) ∈ gA := gA_of (tb_3 154 rfl) rfl
set_option maxRecDepth 8000 in
theorem g_671 : Cond.methodLink RL 89 yX3_prop ∈ gA := gA_of (tb_3 155 rfl) rfl
set_option maxRecDepth 8000 in
theorem g_672 : Cond.instanceMethod yX3_prop ∈ gA := gA_of (tb_3 156 rfl) rfl
set_option maxRecDepth 8000 in
theorem g_673 : Cond.selects RX3 yX3_prop yX3_prop ∈ gA := gA_of (tb_3 157 rfl) rfl
set_option maxRecDepth 8000 in
theorem g_674 : Cond.code yX3_prop cX3_prop 4 (some .int) ∈ gA := gA_of (tb_3 158 rfl) rfl
set_option maxRecDepth 8000 in
theorem g_675 : Cond.methodLink RX3 99 yX3_hanging ∈ gA := gA_of (tb_3 159 rfl) rfl
set_option maxRecDepth 8000 in
theorem t_676 : Cond.privateMethod yX3_hanging ∈ lw_tbl := tb_3 160 rfl
set_option maxRecDepth 8000 in
theorem g_677 : Cond.instanceMethod yX3_hanging ∈ gA := gA_of (tb_3 161 rfl) rfl
set_option maxRecDepth 8000 in
theorem g_678 : Cond.code yX3_hanging cX3_hanging 3 (some .int) ∈ gA := gA_of (tb_3 162 rfl) rfl
set_option maxRecDepth 8000 in
theorem g_679 : Cond.methodLink RL 92 yX3_renew ∈ gA := gA_of (tb_3 163 rfl) rfl
set_option maxRecDepth 8000 in
theorem g_680 : Cond.instanceMethod yX3_renew ∈ gA := gA_of (tb_3 164 rfl) rfl
set_option maxRecDepth 8000 in
theorem g_681 : Cond.selects RX3 yX3_renew yX3_renew ∈ gA := gA_of (tb_3 165 rfl) rfl
set_option maxRecDepth 8000 in
theorem g_682 : Cond.code yX3_renew cX3_renew 4 (some .int) ∈ gA := gA_of (tb_3 166 rfl) rfl
set_option maxRecDepth 8000 in
theorem g_683 : Cond.methodLink RL 95 yX3_stair ∈ gA := gA_of (tb_3 167 rfl) rfl
set_option maxRecDepth 8000 in
theorem g_684 : Cond.instanceMethod yX3_stair ∈ gA := gA_of (tb_3 168 rfl) rfl
set_option maxRecDepth 8000 in
theorem g_685 : Cond.selects RX3 yX3_stair yX3_stair ∈ gA := gA_of (tb_3 169 rfl) rfl
set_option maxRecDepth 8000 in
theorem g_686 : Cond.code yX3_stair cX3_stair 4 (some .int) ∈ gA := gA_of (tb_3 170 rfl) rfl
set_option maxRecDepth 8000 in
theorem g_687 : Cond.methodLink RL 98 yX3_swap ∈ gA := gA_of (tb_3 171 rfl) rfl
set_option maxRecDepth 8000 in
theorem g_688 : Cond.instanceMethod yX3_swap ∈ gA := gA_of (tb_3 172 rfl) rfl
set_option maxRecDepth 8000 in
theorem g_689 : Cond.selects RX3 yX3_swap yX3_swap ∈ gA := gA_of (tb_3 173 rfl) rfl
set_option maxRecDepth 8000 in
theorem g_690 : Cond.code yX3_swap cX3_swap 4 (some .boolean) ∈ gA := gA_of (tb_3 174 rfl) rfl
set_option maxRecDepth 8000 in
theorem g_691 : Cond.methodLink RX3 103 yX3_isStair ∈ gA := gA_of (tb_3 175 rfl) rfl
set_option maxRecDepth 8000 in
theorem t_692 : Cond.privateMethod yX3_isStair ∈ lw_tbl := tb_3 176 rfl
set_option maxRecDepth 8000 in
theorem g_693 : Cond.instanceMethod yX3_isStair ∈ gA := gA_of (tb_3 177 rfl) rfl
set_option maxRecDepth 8000 in
theorem g_694 : Cond.code yX3_isStair cX3_isStair 2 (some .boolean) ∈ gA := gA_of (tb_3 178 rfl) rfl
set_option maxRecDepth 8000 in
theorem g_695 : Cond.methodLink RL 101 yX3_joins ∈ gA := gA_of (tb_3 179 rfl) rfl
set_option maxRecDepth 8000 in
theorem g_696 : Cond.instanceMethod yX3_joins ∈ gA := gA_of (tb_3 180 rfl) rfl
set_option maxRecDepth 8000 in
theorem g_697 : Cond.selects RX3 yX3_joins yX3_joins ∈ gA := gA_of (tb_3 181 rfl) rfl
set_option maxRecDepth 8000 in
theorem g_698 : Cond.code yX3_joins cX3_joins 3 (some .int) ∈ gA := gA_of (tb_3 182 rfl) rfl
set_option maxRecDepth 8000 in
theorem g_699 : Cond.methodLink RL 104 yX3_steps ∈ gA := gA_of (tb_3 183 rfl) rfl
set_option maxRecDepth 8000 in
theorem g_700 : Cond.instanceMethod yX3_steps ∈ gA := gA_of (tb_3 184 rfl) rfl
set_option maxRecDepth 8000 in
theorem g_701 : Cond.selects RX3 yX3_steps yX3_steps ∈ gA := gA_of (tb_3 185 rfl) rfl
set_option maxRecDepth 8000 in
theorem g_702 : Cond.code yX3_steps cX3_steps 5 (some .int) ∈ gA := gA_of (tb_3 186 rfl) rfl
set_option maxRecDepth 8000 in
theorem g_703 : Cond.methodLink RL 107 yX3_stone_ ∈ gA := gA_of (tb_3 187 rfl) rfl
set_option maxRecDepth 8000 in
theorem g_704 : Cond.instanceMethod yX3_stone_ ∈ gA := gA_of (tb_3 188 rfl) rfl
set_option maxRecDepth 8000 in
theorem g_705 : Cond.selects RX3 yX3_stone_ yX3_stone_ ∈ gA := gA_of (tb_3 189 rfl) rfl
set_option maxRecDepth 8000 in
theorem g_706 : Cond.code yX3_stone_ cX3_stone_ 3 (some .int) ∈ gA := gA_of (tb_3 190 rfl) rfl
set_option maxRecDepth 8000 in
theorem g_707 : Cond.methodLink RX3 109 yX3_stoneTold ∈ gA := gA_of (tb_3 191 rfl) rfl
set_option maxRecDepth 8000 in
theorem t_708 : Cond.privateMethod yX3_stoneTold ∈ lw_tbl := tb_3 192 rfl
set_option maxRecDepth 8000 in
theorem g_709 : Cond.instanceMethod yX3_stoneTold ∈ gA := gA_of (tb_3 193 rfl) rfl
set_option maxRecDepth 8000 in
theorem g_710 : Cond.code yX3_stoneTold cX3_stoneTold 3 (some .int) ∈ gA := gA_of (tb_3 194 rfl) rfl
set_option maxRecDepth 8000 in
theorem g_711 : Cond.methodLink RX3 106 yX3_holdsFrom ∈ gA := gA_of (tb_3 195 rfl) rfl
set_option maxRecDepth 8000 in
theorem t_712 : Cond.privateMethod yX3_holdsFrom ∈ lw_tbl := tb_3 196 rfl
set_option maxRecDepth 8000 in
theorem g_713 : Cond.instanceMethod yX3_holdsFrom ∈ gA := gA_of (tb_3 197 rfl) rfl
set_option maxRecDepth 8000 in
theorem g_714 : Cond.code yX3_holdsFrom cX3_holdsFrom 4 (some .int) ∈ gA := gA_of (tb_3 198 rfl) rfl
set_option maxRecDepth 8000 in
theorem g_715 : Cond.methodLink RL 111 yX3_first ∈ gA := gA_of (tb_3 199 rfl) rfl
set_option maxRecDepth 8000 in
theorem g_716 : Cond.instanceMethod yX3_first ∈ gA := gA_of (tb_3 200 rfl) rfl
set_option maxRecDepth 8000 in
theorem g_717 : Cond.selects RX3 yX3_first yX3_first ∈ gA := gA_of (tb_3 201 rfl) rfl
set_option maxRecDepth 8000 in
theorem g_718 : Cond.code yX3_first cX3_first 3 (some .int) ∈ gA := gA_of (tb_3 202 rfl) rfl
set_option maxRecDepth 8000 in
theorem g_719 : Cond.methodLink RL 114 yX3_count ∈ gA := gA_of (tb_3 203 rfl) rfl
set_option maxRecDepth 8000 in
theorem g_720 : Cond.instanceMethod yX3_count ∈ gA := gA_of (tb_3 204 rfl) rfl
set_option maxRecDepth 8000 in
theorem g_721 : Cond.selects RX3 yX3_count yX3_count ∈ gA := gA_of (tb_3 205 rfl) rfl
set_option maxRecDepth 8000 in
theorem g_722 : Cond.code yX3_count cX3_count 2 (some .int) ∈ gA := gA_of (tb_3 206 rfl) rfl
set_option maxRecDepth 8000 in
theorem g_723 : Cond.methodLink RX3 112 yX3_counted ∈ gA := gA_of (tb_3 207 rfl) rfl
set_option maxRecDepth 8000 in
theorem t_724 : Cond.privateMethod yX3_counted ∈ lw_tbl := tb_3 208 rfl
set_option maxRecDepth 8000 in
theorem g_725 : Cond.instanceMethod yX3_counted ∈ gA := gA_of (tb_3 209 rfl) rfl
set_option maxRecDepth 8000 in
theorem g_726 : Cond.code yX3_counted cX3_counted 5 (some .int) ∈ gA := gA_of (tb_3 210 rfl) rfl
set_option maxRecDepth 8000 in
theorem g_727 : Cond.methodLink RL 117 yX3_pass ∈ gA := gA_of (tb_3 211 rfl) rfl
set_option maxRecDepth 8000 in
theorem g_728 : Cond.instanceMethod yX3_pass ∈ gA := gA_of (tb_3 212 rfl) rfl
set_option maxRecDepth 8000 in
theorem g_729 : Cond.selects RX3 yX3_pass yX3_pass ∈ gA := gA_of (tb_3 213 rfl) rfl
set_option maxRecDepth 8000 in
theorem g_730 : Cond.code yX3_pass cX3_pass 3 (some .int) ∈ gA := gA_of (tb_3 214 rfl) rfl
set_option maxRecDepth 8000 in
theorem g_731 : Cond.methodLink RX3 118 yX3_daysOn ∈ gA := gA_of (tb_3 215 rfl) rfl
set_option maxRecDepth 8000 in
theorem t_732 : Cond.privateMethod yX3_daysOn ∈ lw_tbl := tb_3 216 rfl
set_option maxRecDepth 8000 in
theorem g_733 : Cond.instanceMethod yX3_daysOn ∈ gA := gA_of (tb_3 217 rfl) rfl
set_option maxRecDepth 8000 in
theorem g_734 : Cond.code yX3_daysOn cX3_daysOn 3 none ∈ gA := gA_of (tb_3 218 rfl) rfl
set_option maxRecDepth 8000 in
theorem g_735 : Cond.methodLink RX3 115 yX3_dayOn ∈ gA := gA_of (tb_3 219 rfl) rfl
set_option maxRecDepth 8000 in
theorem t_736 : Cond.privateMethod yX3_dayOn ∈ lw_tbl := tb_3 220 rfl
set_option maxRecDepth 8000 in
theorem g_737 : Cond.instanceMethod yX3_dayOn ∈ gA := gA_of (tb_3 221 rfl) rfl
set_option maxRecDepth 8000 in
theorem g_738 : Cond.code yX3_dayOn cX3_dayOn 2 none ∈ gA := gA_of (tb_3 222 rfl) rfl
set_option maxRecDepth 8000 in
theorem g_739 : Cond.methodLink RL 120 yX3_without ∈ gA := gA_of (tb_3 223 rfl) rfl
set_option maxRecDepth 8000 in
theorem g_740 : Cond.instanceMethod yX3_without ∈ gA := gA_of (tb_3 224 rfl) rfl
set_option maxRecDepth 8000 in
theorem g_741 : Cond.selects RX3 yX3_without yX3_without ∈ gA := gA_of (tb_3 225 rfl) rfl
set_option maxRecDepth 8000 in
theorem g_742 : Cond.code yX3_without cX3_without 5 (some .int) ∈ gA := gA_of (tb_3 226 rfl) rfl
set_option maxRecDepth 8000 in
theorem g_743 : Cond.methodLink RX3 126 yX3_kept ∈ gA := gA_of (tb_3 227 rfl) rfl
set_option maxRecDepth 8000 in
theorem t_744 : Cond.privateMethod yX3_kept ∈ lw_tbl := tb_3 228 rfl
set_option maxRecDepth 8000 in
theorem g_745 : Cond.instanceMethod yX3_kept ∈ gA := gA_of (tb_3 229 rfl) rfl
set_option maxRecDepth 8000 in
theorem g_746 : Cond.code yX3_kept cX3_kept 1 (Option.some (.array (.array .int))) ∈ gA := gA_of (tb_3 230 rfl) rfl
set_option maxRecDepth 8000 in
theorem g_747 : Cond.classLink RX3 121 "[I" ∈ gA := gA_of (tb_3 231 rfl) rfl
set_option maxRecDepth 8000 in
theorem t_748 : Cond.arrayOver (.array .int) ∈ lw_tbl := tb_3 232 rfl
set_option maxRecDepth 8000 in
theorem g_749 : Cond.methodLink RX3 122 ⟨"[I", "clone", "()Ljava/lang/Object;"⟩ ∈ gA := gA_of (tb_3 233 rfl) rfl
set_option maxRecDepth 8000 in
theorem g_750 : Cond.sameMethod "[I" "java/lang/Object" "clone" "()Ljava/lang/Object;" ∈ gA := gA_of (tb_3 234 rfl) rfl
set_option maxRecDepth 8000 in
theorem g_751 : Cond.native ⟨"java/lang/Object", "clone", "()Ljava/lang/Object;"⟩ ∈ gA := gA_of (tb_3 235 rfl) rfl
set_option maxRecDepth 8000 in
theorem g_752 : Cond.instanceMethod ⟨"java/lang/Object", "clone", "()Ljava/lang/Object;"⟩ ∈ gA := gA_of (tb_3 236 rfl) rfl
set_option maxRecDepth 8000 in
theorem g_753 : Cond.selects "[I" ⟨"[I", "clone", "()Ljava/lang/Object;"⟩ ⟨"java/lang/Object", "clone", "()Ljava/lang/Object;"⟩ ∈ gA := gA_of (tb_3 237 rfl) rfl
set_option maxRecDepth 8000 in
theorem t_754 : Cond.castable "[I" "java/lang/Cloneable" ∈ lw_tbl := tb_3 238 rfl
set_option maxRecDepth 8000 in
theorem g_755 : Cond.methodLink RX3 130 yX3_bringBack ∈ gA := gA_of (tb_3 239 rfl) rfl
set_option maxRecDepth 8000 in
theorem t_756 : Cond.privateMethod yX3_bringBack ∈ lw_tbl := tb_4 0 rfl
set_option maxRecDepth 8000 in
theorem g_757 : Cond.instanceMethod yX3_bringBack ∈ gA := gA_of (tb_4 1 rfl) rfl
set_option maxRecDepth 8000 in
theorem g_758 : Cond.code yX3_bringBack cX3_bringBack 2 none ∈ gA := gA_of (tb_4 2 rfl) rfl
set_option maxRecDepth 8000 in
theorem g_759 : Cond.methodLink RL 123 yX3_lasts ∈ gA := gA_of (tb_4 3 rfl) rfl
set_option maxRecDepth 8000 in
theorem g_760 : Cond.instanceMethod yX3_lasts ∈ gA := gA_of (tb_4 4 rfl) rfl
set_option maxRecDepth 8000 in
theorem g_761 : Cond.selects RX3 yX3_lasts yX3_lasts ∈ gA := gA_of (tb_4 5 rfl) rfl
set_option maxRecDepth 8000 in
theorem g_762 : Cond.code yX3_lasts cX3_lasts 4 (some .int) ∈ gA := gA_of (tb_4 6 rfl) rfl
set_option maxRecDepth 8000 in
theorem g_763 : Cond.methodLink RL 126 yX3_foresee ∈ gA := gA_of (tb_4 7 rfl) rfl
set_option maxRecDepth 8000 in
theorem g_764 : Cond.instanceMethod yX3_foresee ∈ gA := gA_of (tb_4 8 rfl) rfl
set_option maxRecDepth 8000 in
theorem g_765 : Cond.selects RX3 yX3_foresee yX3_foresee ∈ gA := gA_of (tb_4 9 rfl) rfl
set_option maxRecDepth 8000 in
theorem g_766 : Cond.code yX3_foresee cX3_foresee 5 (some .int) ∈ gA := gA_of (tb_4 10 rfl) rfl
set_option maxRecDepth 8000 in
theorem g_767 : Cond.methodLink RL 129 yX3_advise ∈ gA := gA_of (tb_4 11 rfl) rfl
set_option maxRecDepth 8000 in
theorem g_768 : Cond.instanceMethod yX3_advise ∈ gA := gA_of (tb_4 12 rfl) rfl
set_option maxRecDepth 8000 in
theorem g_769 : Cond.selects RX3 yX3_advise yX3_advise ∈ gA := gA_of (tb_4 13 rfl) rfl
set_option maxRecDepth 8000 in
theorem g_770 : Cond.code yX3_advise cX3_advise 8 (some .int) ∈ gA := gA_of (tb_4 14 rfl) rfl
set_option maxRecDepth 8000 in
theorem g_771 : Cond.methodLink RX3 134 ⟨"java/lang/Math", "min", "(II)I"⟩ ∈ gA := gA_of (tb_4 15 rfl) rfl
set_option maxRecDepth 8000 in
theorem g_772 : Cond.methodLink RL 134 yX3_mean ∈ gA := gA_of (tb_4 16 rfl) rfl
set_option maxRecDepth 8000 in
theorem g_773 : Cond.instanceMethod yX3_mean ∈ gA := gA_of (tb_4 17 rfl) rfl
set_option maxRecDepth 8000 in
theorem g_774 : Cond.selects RX3 yX3_mean yX3_mean ∈ gA := gA_of (tb_4 18 rfl) rfl
set_option maxRecDepth 8000 in
theorem g_775 : Cond.code yX3_mean cX3_mean 3 (some .double) ∈ gA := gA_of (tb_4 19 rfl) rfl
set_option maxRecDepth 8000 in
theorem g_776 : Cond.methodLink RL 139 yX3_digest ∈ gA := gA_of (tb_4 20 rfl) rfl
set_option maxRecDepth 8000 in
theorem g_777 : Cond.instanceMethod yX3_digest ∈ gA := gA_of (tb_4 21 rfl) rfl
set_option maxRecDepth 8000 in
theorem g_778 : Cond.selects RX3 yX3_digest yX3_digest ∈ gA := gA_of (tb_4 22 rfl) rfl
set_option maxRecDepth 8000 in
theorem g_779 : Cond.code yX3_digest cX3_digest 5 (some .long) ∈ gA := gA_of (tb_4 23 rfl) rfl
set_option maxRecDepth 8000 in
theorem g_780 : Cond.constantLong RX3 137 (971 : Int64) ∈ gA := gA_of (tb_4 24 rfl) rfl
set_option maxRecDepth 8000 in
theorem g_781 : Cond.constantLong RX3 139 (31 : Int64) ∈ gA := gA_of (tb_4 25 rfl) rfl
set_option maxRecDepth 8000 in
theorem g_782 : Cond.arrayClass .long ∈ gA := gA_of (tb_4 26 rfl) rfl
set_option maxRecDepth 8000 in
theorem g_783 : Cond.sameMethod "java/lang/Throwable" "java/lang/Throwable" "fillInStackTrace" "(I)Ljava/lang/Throwable;" ∈ gA := gA_of (tb_4 27 rfl) rfl
end
section
/-! WORLDS BY INDEX: a method's world is a list of cells; a reference is a place in that list; h gives the addresses. G: the numbers of the classes (G.1) and of the array classes (G.2: 0 int, 1 boolean, 2 long, 3 arrays of int). -/
abbrev gG : Type := va_G × (Nat → ClassId)
def gTy (G : gG) : List (ClassId × FieldType) := [(G.2 0, .int), (G.2 1, .boolean), (G.2 2, .long), (G.2 3, .array .int)]
abbrev cls : List vw_C := [(RX0, TX0, 4), (RX1, TX1, 13), (RX2, TX2, 3), (RX3, TX3, 9)]
def kV (h : Nat → Nat) (v : Value) : Value := match v with
  | .ref a => .ref (h a)
  | v => v
def kA (h : Nat → Nat) (x : vp_A) : vp_A := match x with
  | (n, .inr (.inr (.inr (.inr f)))) => (n, .inr (.inr (.inr (.inr (fun j => (f j).map h)))))
  | x => x
def kE (G : gG) (h : Nat → Nat) (e : va_E) : va_E := match e with
  | .inl (i, x) => .inl (G.2 i, kA h x)
  | .inr (ci, fs) => .inr (ci, fs.map (kV h))
def kW (G : gG) (h : Nat → Nat) (ws : List va_E) : va_W := ws.mapIdx (fun k e => (h k, kE G h e))
/-- renumbering by a list of places -/
def rN (is : List Nat) (j : Nat) : Nat := is.getD j 0
def rV (is : List Nat) (v : Value) : Value := match v with
  | .ref a => .ref (rN is a)
  | v => v
def rE (is : List Nat) (e : va_E) : va_E := match e with
  | .inl (i, x) => .inl (i, kA (rN is) x)
  | .inr (ci, fs) => .inr (ci, fs.map (rV is))
theorem kV_rV (h : Nat → Nat) (is : List Nat) (v : Value) : kV h (rV is v) = kV (fun j => h (rN is j)) v := by cases v <;> rfl
theorem kA_kA (h g : Nat → Nat) (x : vp_A) : kA h (kA g x) = kA (fun j => h (g j)) x := by
  obtain ⟨n, f | f | f | f | f⟩ := x
  · rfl
  · rfl
  · rfl
  · rfl
  · show (n, _) = (n, _)
    simp only [Option.map_map]
    rfl
theorem kE_rE (G : gG) (h : Nat → Nat) (is : List Nat) (e : va_E) : kE G h (rE is e) = kE G (fun j => h (rN is j)) e := by
  cases e with
  | inl a => obtain ⟨i, x⟩ := a; exact congrArg (fun z => Sum.inl (G.2 i, z)) (kA_kA h (rN is) x)
  | inr o =>
    obtain ⟨ci, fs⟩ := o
    show Sum.inr (ci, _) = Sum.inr (ci, _)
    rw [List.map_map]
    congr 2
    apply List.map_congr_left
    intro v _
    exact kV_rV h is v
theorem kV_cat (h : Nat → Nat) (v : Value) : (kV h v).category = v.category := by cases v <;> rfl
theorem kW_get (G : gG) (h : Nat → Nat) (ws : List va_E) (i : Nat) : (kW G h ws)[i]? = (ws[i]?).map (fun e => (h i, kE G h e)) := by simp [kW, List.getElem?_mapIdx]
theorem kW_len (G : gG) (h : Nat → Nat) (ws : List va_E) : (kW G h ws).length = ws.length := by simp [kW]
theorem kW_at {G : gG} {h : Nat → Nat} {ws : List va_E} {i : Nat} {e : va_E} (he : ws[i]? = some e) : (kW G h ws)[i]? = some (h i, kE G h e) := by rw [kW_get, he]; rfl
theorem kW_of {G : gG} {h : Nat → Nat} {ws : List va_E} {i : Nat} {q : Nat × va_E} (hq : (kW G h ws)[i]? = some q) : ∃ e, ws[i]? = some e ∧ q = (h i, kE G h e) := by
  rw [kW_get] at hq
  cases he : ws[i]? with
  | none => rw [he] at hq; cases hq
  | some e => rw [he] at hq; exact ⟨e, rfl, (Option.some.inj hq).symm⟩
theorem kW_set (G : gG) (h : Nat → Nat) (ws : List va_E) (i : Nat) (e : va_E) : (kW G h ws).set i (h i, kE G h e) = kW G h (ws.set i e) := by
  apply List.ext_getElem?
  intro j
  rw [List.getElem?_set, kW_get, kW_get, List.getElem?_set, kW_len]
  by_cases hj : i = j
  · subst hj
    by_cases hl : i < ws.length <;> simp [hl]
  · simp [hj]
/-- worlds that agree: the same length -/
theorem kD_len {A : Nat → Prop} {G : gG} {h : Nat → Nat} {ws ws' : List va_E} (hD : va_D A (kW G h ws)) (hl : ws'.length = ws.length) : va_D A (kW G h ws') := by
  have key : ∀ (k : Nat) (q : Nat × va_E), (kW G h ws')[k]? = some q → ∃ q', (kW G h ws)[k]? = some q' ∧ q'.1 = q.1 := by
    intro k q hk
    obtain ⟨e, he, rfl⟩ := kW_of hk
    have hlt : k < ws.length := by rw [← hl]; exact (List.getElem?_eq_some_iff.mp he).1
    exact ⟨_, kW_at (List.getElem?_eq_getElem hlt), rfl⟩
  refine ⟨fun i j x y hx hy hxy => ?_, fun k q hk => ?_⟩
  · obtain ⟨x', a1, a2⟩ := key i x hx
    obtain ⟨y', b1, b2⟩ := key j y hy
    exact hD.1 i j x' y' a1 b1 (by rw [a2, b2]; exact hxy)
  · obtain ⟨q', a1, a2⟩ := key k q hk
    rw [← a2]
    exact hD.2 k q' a1
def lk : List (Nat × Value) → Nat → Option Value
  | [], _ => none
  | (a, v) :: t, i => if a = i then some v else lk t i
theorem lk_mem : ∀ {L : List (Nat × Value)} {i : Nat} {v : Value}, lk L i = some v → (i, v) ∈ L
  | [], _, _, h => by cases h
  | (a, w) :: t, i, v, h => by
    unfold lk at h
    by_cases ha : a = i
    · rw [if_pos ha] at h
      cases h
      subst ha
      exact List.mem_cons_self
    · rw [if_neg ha] at h
      exact List.mem_cons_of_mem _ (lk_mem h)
abbrev kL (h : Nat → Nat) (L : List (Nat × Value)) : List (Nat × Value) := L.map (fun q => (q.1, kV h q.2))
theorem lk_at {ls : Array Slot} {nL : Nat} {h : Nat → Nat} {L : List (Nat × Value)} {i : Nat} {v : Value} (hl : lv_has ls nL (kL h L)) (hk : lk L i = some v) : ls[i]? = some (.val (kV h v)) :=
  hl.2.2 (i, kV h v) (List.mem_map.mpr ⟨(i, v), lk_mem hk, rfl⟩)
def stL (i : Nat) (v : Value) (L : List (Nat × Value)) : List (Nat × Value) := (i, v) :: L.filter (fun q => !(q.1 == i) && !(q.1 + 1 == i && q.2.category == 2))
theorem stL_k (h : Nat → Nat) (i : Nat) (v : Value) (L : List (Nat × Value)) : (i, kV h v) :: (kL h L).filter (fun q => !(q.1 == i) && !(q.1 + 1 == i && q.2.category == 2)) = kL h (stL i v L) := by
  unfold stL kL
  rw [List.map_cons, List.filter_map]
  congr 2
  apply List.filter_congr
  intro q _
  show (_ && !(_ && (kV h q.2).category == 2)) = _
  rw [kV_cat]
def stL2 (i : Nat) (v : Value) (L : List (Nat × Value)) : List (Nat × Value) := (i, v) :: L.filter (fun q => !(q.1 == i) && (!(q.1 == i + 1) && !(q.1 + 1 == i && q.2.category == 2)))
theorem stL2_k (h : Nat → Nat) (i : Nat) (v : Value) (L : List (Nat × Value)) : (i, kV h v) :: (kL h L).filter (fun q => !(q.1 == i) && (!(q.1 == i + 1) && !(q.1 + 1 == i && q.2.category == 2))) = kL h (stL2 i v L) := by
  unfold stL2 kL
  rw [List.map_cons, List.filter_map]
  congr 2
  apply List.filter_congr
  intro q _
  show (_ && (_ && !(_ && (kV h q.2).category == 2))) = _
  rw [kV_cat]
def Cx (p : Program) (s : State) (m : MethodId) (args : Array Value) (c : Code) (cc : ByteArray) (nL : Nat) (own : String) (G : gG) (A : Nat → Prop) : Prop :=
  p.tables.exec = Jvm.exec ∧ c.code = cc ∧ c.maxLocals = nL ∧ s.vm.findClass own = some m.cls ∧ (∀ w ∈ gA, w.before args s = true) ∧ va_K G.1 cls (gTy G) s ∧ (∀ q : Nat, s.heap.size ≤ q → A q)
def Z (p : Program) (l : Launch) (e : Env) (R : Room) (s : State) (m : MethodId) (args : Array Value) (below : List Frame) (meth : Method) (c : Code) (nL : Nat) (G : gG) (A : Nat → Prop) (h : Nat → Nat) (Q : State → Prop) (k n : Nat) (ws : List va_E) (pc : Nat) (L : List (Nat × Value)) (st : List Value) : Prop :=
  ∀ (H : Heap) (locs : List Loc) (ls : Array Slot), va_P G.1 cls (kW G h ws) H → va_D A (kW G h ws) → va_S A s.heap H locs → lv_has ls nL (kL h L) → W p l e R s m args below meth c H locs k n Q (F0 m pc ls (st.map (kV h)))
def cK (Cn : String) (T : u_T) (N ci : Nat) (ty : Nat → FieldType) : Prop := (∀ w ∈ u_ws Cn T N, w ∈ gA) ∧ cls[ci]? = some (Cn, T, N) ∧ (∀ k, k < N → parseFieldDescriptor (T k).2.2.1 = some (ty k)) ∧ (∀ a, a < N → ∀ b, b < N → a ≠ b → (T a).2.1 ≠ (T b).2.1)
theorem gA_mem {ws : List Cond} (h : ws.all (fun w => decide (w ∈ gA)) = true) : ∀ w ∈ ws, w ∈ gA := fun w hw => by
  have h1 := List.all_eq_true.mp h w hw
  simpa using h1
theorem K0 : cK RX0 TX0 4 0 tyX0 := ⟨gA_mem (by decide +kernel), rfl, tyX0_ok, nmX0⟩
theorem K1 : cK RX1 TX1 13 1 tyX1 := ⟨gA_mem (by decide +kernel), rfl, tyX1_ok, nmX1⟩
theorem K2 : cK RX2 TX2 3 2 tyX2 := ⟨gA_mem (by decide +kernel), rfl, tyX2_ok, nmX2⟩
theorem K3 : cK RX3 TX3 9 3 tyX3 := ⟨gA_mem (by decide +kernel), rfl, tyX3_ok, nmX3⟩
section ZR
variable {p : Program} {l : Launch} {e : Env} {R : Room} {s : State} {m : MethodId} {args : Array Value} {below : List Frame} {meth : Method} {c : Code} {cc : ByteArray} {nL : Nat} {own : String} {G : gG} {A : Nat → Prop} {h : Nat → Nat} {Q : State → Prop} {k n : Nat} {ws ws' : List va_E} {pc : Nat} {L L' : List (Nat × Value)} {st : List Value}
theorem Z_widen {k' n' : Nat} (h1 : k ≤ k') (h2 : n ≤ n') (kk : Z p l e R s m args below meth c nL G A h Q k' n' ws pc L st) : Z p l e R s m args below meth c nL G A h Q k n ws pc L st := fun H locs ls hP hD hS hl => W.widen h1 h2 (kk H locs ls hP hD hS hl)
theorem Z_sub (hL : ∀ q ∈ L', q ∈ L) (kk : Z p l e R s m args below meth c nL G A h Q k n ws pc L' st) : Z p l e R s m args below meth c nL G A h Q k n ws pc L st := fun H locs ls hP hD hS hl => kk H locs ls hP hD hS ⟨hl.1, hl.2.1, fun q hq => by
  obtain ⟨r, hr, rfl⟩ := List.mem_map.mp hq
  exact hl.2.2 _ (List.mem_map.mpr ⟨r, hL r hr, rfl⟩)⟩
theorem Z_iconst (C : Cx p s m args c cc nL own G A) {z : Int} {v : Int32} (d : decode cc pc = .ok (.iconst z, 1)) (hv : Int32.ofInt z = v) (kk : Z p l e R s m args below meth c nL G A h Q k n ws (pc + 1) L (.int v :: st)) : Z p l e R s m args below meth c nL G A h Q k n ws pc L st := fun H locs ls hP hD hS hl => lv_iconst C.1 C.2.1 d hv (kk H locs ls hP hD hS hl)
theorem Z_bipush (C : Cx p s m args c cc nL own G A) {z : Int} {v : Int32} (d : decode cc pc = .ok (.bipush z, 2)) (hv : (Int8.ofInt z).toInt32 = v) (kk : Z p l e R s m args below meth c nL G A h Q k n ws (pc + 2) L (.int v :: st)) : Z p l e R s m args below meth c nL G A h Q k n ws pc L st := fun H locs ls hP hD hS hl => lv_bipush C.1 C.2.1 d hv (kk H locs ls hP hD hS hl)
theorem Z_sipush (C : Cx p s m args c cc nL own G A) {z : Int} {v : Int32} (d : decode cc pc = .ok (.sipush z, 3)) (hv : (Int16.ofInt z).toInt32 = v) (kk : Z p l e R s m args below meth c nL G A h Q k n ws (pc + 3) L (.int v :: st)) : Z p l e R s m args below meth c nL G A h Q k n ws pc L st := fun H locs ls hP hD hS hl => lv_sipush C.1 C.2.1 d hv (kk H locs ls hP hD hS hl)
theorem Z_lconst (C : Cx p s m args c cc nL own G A) {z : Fin 2} {v : Int64} (d : decode cc pc = .ok (.lconst z, 1)) (hv : Int64.ofNat (z : Nat) = v) (kk : Z p l e R s m args below meth c nL G A h Q k n ws (pc + 1) L (.long v :: st)) : Z p l e R s m args below meth c nL G A h Q k n ws pc L st := fun H locs ls hP hD hS hl => lv_lconst C.1 C.2.1 d hv (kk H locs ls hP hD hS hl)
theorem Z_ldc2 (C : Cx p s m args c cc nL own G A) {index : Nat} {v : Int64} (d : decode cc pc = .ok (.ldc2_w index, 3)) (hc : Jvm.Cond.constantLong own index v ∈ gA) (kk : Z p l e R s m args below meth c nL G A h Q k n ws (pc + 3) L (.long v :: st)) : Z p l e R s m args below meth c nL G A h Q k n ws pc L st := fun H locs ls hP hD hS hl => lv_ldc2 C.1 C.2.1 C.2.2.2.1 (C.2.2.2.2.1 _ hc) d (kk H locs ls hP hD hS hl)
theorem Z_iload_n (C : Cx p s m args c cc nL own G A) {kf : Fin 4} {i : Nat} {x : Int32} (d : decode cc pc = .ok (.iload_n kf, 1)) (hi : (kf : Nat) = i) (hk : lk L i = some (.int x)) (kk : Z p l e R s m args below meth c nL G A h Q k n ws (pc + 1) L (.int x :: st)) : Z p l e R s m args below meth c nL G A h Q k n ws pc L st := fun H locs ls hP hD hS hl => lv_iload_n C.1 C.2.1 d hi (lk_at hl hk) (kk H locs ls hP hD hS hl)
theorem Z_iload (C : Cx p s m args c cc nL own G A) {i : Nat} {x : Int32} (d : decode cc pc = .ok (.iload i, 2)) (hk : lk L i = some (.int x)) (kk : Z p l e R s m args below meth c nL G A h Q k n ws (pc + 2) L (.int x :: st)) : Z p l e R s m args below meth c nL G A h Q k n ws pc L st := fun H locs ls hP hD hS hl => lv_iload C.1 C.2.1 d (lk_at hl hk) (kk H locs ls hP hD hS hl)
theorem Z_lload_n (C : Cx p s m args c cc nL own G A) {kf : Fin 4} {i : Nat} {x : Int64} (d : decode cc pc = .ok (.lload_n kf, 1)) (hi : (kf : Nat) = i) (hk : lk L i = some (.long x)) (kk : Z p l e R s m args below meth c nL G A h Q k n ws (pc + 1) L (.long x :: st)) : Z p l e R s m args below meth c nL G A h Q k n ws pc L st := fun H locs ls hP hD hS hl => lv_lload_n C.1 C.2.1 d hi (lk_at hl hk) (kk H locs ls hP hD hS hl)
theorem Z_aload_n (C : Cx p s m args c cc nL own G A) {kf : Fin 4} {i : Nat} {x : Nat} (d : decode cc pc = .ok (.aload_n kf, 1)) (hi : (kf : Nat) = i) (hk : lk L i = some (.ref x)) (kk : Z p l e R s m args below meth c nL G A h Q k n ws (pc + 1) L (.ref x :: st)) : Z p l e R s m args below meth c nL G A h Q k n ws pc L st := fun H locs ls hP hD hS hl => lv_aload_n C.1 C.2.1 d hi (lk_at hl hk) (kk H locs ls hP hD hS hl)
theorem Z_aload (C : Cx p s m args c cc nL own G A) {i : Nat} {x : Nat} (d : decode cc pc = .ok (.aload i, 2)) (hk : lk L i = some (.ref x)) (kk : Z p l e R s m args below meth c nL G A h Q k n ws (pc + 2) L (.ref x :: st)) : Z p l e R s m args below meth c nL G A h Q k n ws pc L st := fun H locs ls hP hD hS hl => lv_aload C.1 C.2.1 d (lk_at hl hk) (kk H locs ls hP hD hS hl)
theorem Z_istore_n (C : Cx p s m args c cc nL own G A) {kf : Fin 4} {i : Nat} {x : Int32} (d : decode cc pc = .ok (.istore_n kf, 1)) (hi : (kf : Nat) = i) (hn : i < nL) (hL : stL i (.int x) L = L') (kk : Z p l e R s m args below meth c nL G A h Q k n ws (pc + 1) L' st) : Z p l e R s m args below meth c nL G A h Q k n ws pc L (.int x :: st) := fun H locs ls hP hD hS hl => lv_istore_n (lv' := kL h L') C.1 C.2.1 d hi hl hn (by subst hL; exact stL_k h i (.int x) L) (fun ls hl => kk H locs ls hP hD hS hl)
theorem Z_istore (C : Cx p s m args c cc nL own G A) {i : Nat} {x : Int32} (d : decode cc pc = .ok (.istore i, 2)) (hn : i < nL) (hL : stL i (.int x) L = L') (kk : Z p l e R s m args below meth c nL G A h Q k n ws (pc + 2) L' st) : Z p l e R s m args below meth c nL G A h Q k n ws pc L (.int x :: st) := fun H locs ls hP hD hS hl => lv_istore (lv' := kL h L') C.1 C.2.1 d hl hn (by subst hL; exact stL_k h i (.int x) L) (fun ls hl => kk H locs ls hP hD hS hl)
theorem Z_lstore_n (C : Cx p s m args c cc nL own G A) {kf : Fin 4} {i : Nat} {x : Int64} (d : decode cc pc = .ok (.lstore_n kf, 1)) (hi : (kf : Nat) = i) (hn : i + 1 < nL) (hL : stL2 i (.long x) L = L') (kk : Z p l e R s m args below meth c nL G A h Q k n ws (pc + 1) L' st) : Z p l e R s m args below meth c nL G A h Q k n ws pc L (.long x :: st) := fun H locs ls hP hD hS hl => lv_lstore_n (lv' := kL h L') C.1 C.2.1 d hi hl hn (by subst hL; exact stL2_k h i (.long x) L) (fun ls hl => kk H locs ls hP hD hS hl)
theorem Z_astore_n (C : Cx p s m args c cc nL own G A) {kf : Fin 4} {i : Nat} {x : Nat} (d : decode cc pc = .ok (.astore_n kf, 1)) (hi : (kf : Nat) = i) (hn : i < nL) (hL : stL i (.ref x) L = L') (kk : Z p l e R s m args below meth c nL G A h Q k n ws (pc + 1) L' st) : Z p l e R s m args below meth c nL G A h Q k n ws pc L (.ref x :: st) := fun H locs ls hP hD hS hl => lv_astore_n (lv' := kL h L') C.1 C.2.1 d hi hl hn (by subst hL; exact stL_k h i (.ref x) L) (fun ls hl => kk H locs ls hP hD hS hl)
theorem Z_astore (C : Cx p s m args c cc nL own G A) {i : Nat} {x : Nat} (d : decode cc pc = .ok (.astore i, 2)) (hn : i < nL) (hL : stL i (.ref x) L = L') (kk : Z p l e R s m args below meth c nL G A h Q k n ws (pc + 2) L' st) : Z p l e R s m args below meth c nL G A h Q k n ws pc L (.ref x :: st) := fun H locs ls hP hD hS hl => lv_astore (lv' := kL h L') C.1 C.2.1 d hl hn (by subst hL; exact stL_k h i (.ref x) L) (fun ls hl => kk H locs ls hP hD hS hl)
theorem lk_pos : ∀ {L : List (Nat × Value)} {i : Nat} {v : Value}, lk L i = some v → ∃ j : Nat, L[j]? = some (i, v) := fun hk => List.getElem?_of_mem (lk_mem hk)
theorem Z_iinc (C : Cx p s m args c cc nL own G A) {i : Nat} {z : Int} {x v : Int32} (d : decode cc pc = .ok (.iinc i z, 3)) (hk : lk L i = some (.int x)) (hv : x + Int32.ofInt z = v) (hn : i < nL) (hL : stL i (.int v) L = L') (kk : Z p l e R s m args below meth c nL G A h Q k n ws (pc + 3) L' st) : Z p l e R s m args below meth c nL G A h Q k n ws pc L st := fun H locs ls hP hD hS hl => by
  obtain ⟨j, hj⟩ := lk_pos hk
  exact lv_iinc (lv' := kL h L') C.1 C.2.1 d hl (k := j) (x := x) (by rw [List.getElem?_map, hj]; rfl) hv hn (by subst hL; exact stL_k h i (.int v) L) (fun ls hl => kk H locs ls hP hD hS hl)
theorem Z_iadd (C : Cx p s m args c cc nL own G A) {x y v : Int32} (d : decode cc pc = .ok (.iadd, 1)) (hv : x + y = v) (kk : Z p l e R s m args below meth c nL G A h Q k n ws (pc + 1) L (.int v :: st)) : Z p l e R s m args below meth c nL G A h Q k n ws pc L (.int y :: .int x :: st) := fun H locs ls hP hD hS hl => lv_iadd C.1 C.2.1 d (by subst hv; exact kk H locs ls hP hD hS hl)
theorem Z_isub (C : Cx p s m args c cc nL own G A) {x y v : Int32} (d : decode cc pc = .ok (.isub, 1)) (hv : x - y = v) (kk : Z p l e R s m args below meth c nL G A h Q k n ws (pc + 1) L (.int v :: st)) : Z p l e R s m args below meth c nL G A h Q k n ws pc L (.int y :: .int x :: st) := fun H locs ls hP hD hS hl => lv_isub C.1 C.2.1 d (by subst hv; exact kk H locs ls hP hD hS hl)
theorem Z_imul (C : Cx p s m args c cc nL own G A) {x y v : Int32} (d : decode cc pc = .ok (.imul, 1)) (hv : x * y = v) (kk : Z p l e R s m args below meth c nL G A h Q k n ws (pc + 1) L (.int v :: st)) : Z p l e R s m args below meth c nL G A h Q k n ws pc L (.int y :: .int x :: st) := fun H locs ls hP hD hS hl => lv_imul C.1 C.2.1 d (by subst hv; exact kk H locs ls hP hD hS hl)
theorem Z_idiv (C : Cx p s m args c cc nL own G A) {x y v : Int32} (d : decode cc pc = .ok (.idiv, 1)) (hne : ¬ y = 0) (hv : x / y = v) (kk : Z p l e R s m args below meth c nL G A h Q k n ws (pc + 1) L (.int v :: st)) : Z p l e R s m args below meth c nL G A h Q k n ws pc L (.int y :: .int x :: st) := fun H locs ls hP hD hS hl => lv_idiv C.1 C.2.1 d hne (by subst hv; exact kk H locs ls hP hD hS hl)
theorem Z_iand (C : Cx p s m args c cc nL own G A) {x y v : Int32} (d : decode cc pc = .ok (.iand, 1)) (hv : x &&& y = v) (kk : Z p l e R s m args below meth c nL G A h Q k n ws (pc + 1) L (.int v :: st)) : Z p l e R s m args below meth c nL G A h Q k n ws pc L (.int y :: .int x :: st) := fun H locs ls hP hD hS hl => lv_iand C.1 C.2.1 d (by subst hv; exact kk H locs ls hP hD hS hl)
theorem Z_ior (C : Cx p s m args c cc nL own G A) {x y v : Int32} (d : decode cc pc = .ok (.ior, 1)) (hv : x ||| y = v) (kk : Z p l e R s m args below meth c nL G A h Q k n ws (pc + 1) L (.int v :: st)) : Z p l e R s m args below meth c nL G A h Q k n ws pc L (.int y :: .int x :: st) := fun H locs ls hP hD hS hl => lv_ior C.1 C.2.1 d (by subst hv; exact kk H locs ls hP hD hS hl)
theorem Z_ladd (C : Cx p s m args c cc nL own G A) {x y v : Int64} (d : decode cc pc = .ok (.ladd, 1)) (hv : x + y = v) (kk : Z p l e R s m args below meth c nL G A h Q k n ws (pc + 1) L (.long v :: st)) : Z p l e R s m args below meth c nL G A h Q k n ws pc L (.long y :: .long x :: st) := fun H locs ls hP hD hS hl => lv_ladd C.1 C.2.1 d (by subst hv; exact kk H locs ls hP hD hS hl)
theorem Z_lmul (C : Cx p s m args c cc nL own G A) {x y v : Int64} (d : decode cc pc = .ok (.lmul, 1)) (hv : x * y = v) (kk : Z p l e R s m args below meth c nL G A h Q k n ws (pc + 1) L (.long v :: st)) : Z p l e R s m args below meth c nL G A h Q k n ws pc L (.long y :: .long x :: st) := fun H locs ls hP hD hS hl => lv_lmul C.1 C.2.1 d (by subst hv; exact kk H locs ls hP hD hS hl)
theorem Z_i2l (C : Cx p s m args c cc nL own G A) {x : Int32} {v : Int64} (d : decode cc pc = .ok (.i2l, 1)) (hv : x.toInt64 = v) (kk : Z p l e R s m args below meth c nL G A h Q k n ws (pc + 1) L (.long v :: st)) : Z p l e R s m args below meth c nL G A h Q k n ws pc L (.int x :: st) := fun H locs ls hP hD hS hl => lv_i2l C.1 C.2.1 d hv (kk H locs ls hP hD hS hl)
theorem Z_dup (C : Cx p s m args c cc nL own G A) {v : Value} (d : decode cc pc = .ok (.dup, 1)) (hc : v.category = 1) (kk : Z p l e R s m args below meth c nL G A h Q k n ws (pc + 1) L (v :: v :: st)) : Z p l e R s m args below meth c nL G A h Q k n ws pc L (v :: st) := fun H locs ls hP hD hS hl => lv_dup C.1 C.2.1 d (by rw [kV_cat]; exact hc) (kk H locs ls hP hD hS hl)
theorem Z_pop (C : Cx p s m args c cc nL own G A) {v : Value} (d : decode cc pc = .ok (.pop, 1)) (hc : v.category = 1) (kk : Z p l e R s m args below meth c nL G A h Q k n ws (pc + 1) L st) : Z p l e R s m args below meth c nL G A h Q k n ws pc L (v :: st) := fun H locs ls hP hD hS hl => lv_pop C.1 C.2.1 d (by rw [kV_cat]; exact hc) (kk H locs ls hP hD hS hl)
theorem Z_dup_x1 (C : Cx p s m args c cc nL own G A) {v w : Value} (d : decode cc pc = .ok (.dup_x1, 1)) (hc : v.category = 1) (hc2 : w.category = 1) (kk : Z p l e R s m args below meth c nL G A h Q k n ws (pc + 1) L (v :: w :: v :: st)) : Z p l e R s m args below meth c nL G A h Q k n ws pc L (v :: w :: st) := fun H locs ls hP hD hS hl => lv_dup_x1 C.1 C.2.1 d (by rw [kV_cat]; exact hc) (by rw [kV_cat]; exact hc2) (kk H locs ls hP hD hS hl)
theorem Z_dup2_11 (C : Cx p s m args c cc nL own G A) {v w : Value} (d : decode cc pc = .ok (.dup2, 1)) (hc : v.category = 1) (hc2 : w.category = 1) (kk : Z p l e R s m args below meth c nL G A h Q k n ws (pc + 1) L (v :: w :: v :: w :: st)) : Z p l e R s m args below meth c nL G A h Q k n ws pc L (v :: w :: st) := fun H locs ls hP hD hS hl => lv_dup2_11 C.1 C.2.1 d (by rw [kV_cat]; exact hc) (by rw [kV_cat]; exact hc2) (kk H locs ls hP hD hS hl)
theorem Z_goto (C : Cx p s m args c cc nL own G A) {off : Int} (tgt : Nat) (d : decode cc pc = .ok (.goto off, 3)) (ht : (pc : Int) + off = (tgt : Int)) (kk : Z p l e R s m args below meth c nL G A h Q k n ws tgt L st) : Z p l e R s m args below meth c nL G A h Q k n ws pc L st := fun H locs ls hP hD hS hl => lv_goto C.1 C.2.1 d ht (kk H locs ls hP hD hS hl)
theorem Z_if_eq (C : Cx p s m args c cc nL own G A) {x : Int32} {off : Int} (tgt : Nat) (d : decode cc pc = .ok (.ifCond .eq off, 3)) (ht : (pc : Int) + off = (tgt : Int)) (kt : x = 0 → Z p l e R s m args below meth c nL G A h Q k n ws tgt L st) (kf : ¬ x = 0 → Z p l e R s m args below meth c nL G A h Q k n ws (pc + 3) L st) : Z p l e R s m args below meth c nL G A h Q k n ws pc L (.int x :: st) := fun H locs ls hP hD hS hl => lv_if_eq C.1 C.2.1 d ht (fun q => kt q H locs ls hP hD hS hl) (fun q => kf q H locs ls hP hD hS hl)
theorem Z_icmp_eq (C : Cx p s m args c cc nL own G A) {x y : Int32} {off : Int} (tgt : Nat) (d : decode cc pc = .ok (.if_icmp .eq off, 3)) (ht : (pc : Int) + off = (tgt : Int)) (kt : x = y → Z p l e R s m args below meth c nL G A h Q k n ws tgt L st) (kf : ¬ x = y → Z p l e R s m args below meth c nL G A h Q k n ws (pc + 3) L st) : Z p l e R s m args below meth c nL G A h Q k n ws pc L (.int y :: .int x :: st) := fun H locs ls hP hD hS hl => lv_icmp_eq C.1 C.2.1 d ht (fun q => kt q H locs ls hP hD hS hl) (fun q => kf q H locs ls hP hD hS hl)
theorem Z_if_ne (C : Cx p s m args c cc nL own G A) {x : Int32} {off : Int} (tgt : Nat) (d : decode cc pc = .ok (.ifCond .ne off, 3)) (ht : (pc : Int) + off = (tgt : Int)) (kt : ¬ x = 0 → Z p l e R s m args below meth c nL G A h Q k n ws tgt L st) (kf : x = 0 → Z p l e R s m args below meth c nL G A h Q k n ws (pc + 3) L st) : Z p l e R s m args below meth c nL G A h Q k n ws pc L (.int x :: st) := fun H locs ls hP hD hS hl => lv_if_ne C.1 C.2.1 d ht (fun q => kt q H locs ls hP hD hS hl) (fun q => kf q H locs ls hP hD hS hl)
theorem Z_icmp_ne (C : Cx p s m args c cc nL own G A) {x y : Int32} {off : Int} (tgt : Nat) (d : decode cc pc = .ok (.if_icmp .ne off, 3)) (ht : (pc : Int) + off = (tgt : Int)) (kt : ¬ x = y → Z p l e R s m args below meth c nL G A h Q k n ws tgt L st) (kf : x = y → Z p l e R s m args below meth c nL G A h Q k n ws (pc + 3) L st) : Z p l e R s m args below meth c nL G A h Q k n ws pc L (.int y :: .int x :: st) := fun H locs ls hP hD hS hl => lv_icmp_ne C.1 C.2.1 d ht (fun q => kt q H locs ls hP hD hS hl) (fun q => kf q H locs ls hP hD hS hl)
theorem Z_if_lt (C : Cx p s m args c cc nL own G A) {x : Int32} {off : Int} (tgt : Nat) (d : decode cc pc = .ok (.ifCond .lt off, 3)) (ht : (pc : Int) + off = (tgt : Int)) (kt : x < 0 → Z p l e R s m args below meth c nL G A h Q k n ws tgt L st) (kf : ¬ x < 0 → Z p l e R s m args below meth c nL G A h Q k n ws (pc + 3) L st) : Z p l e R s m args below meth c nL G A h Q k n ws pc L (.int x :: st) := fun H locs ls hP hD hS hl => lv_if_lt C.1 C.2.1 d ht (fun q => kt q H locs ls hP hD hS hl) (fun q => kf q H locs ls hP hD hS hl)
theorem Z_icmp_lt (C : Cx p s m args c cc nL own G A) {x y : Int32} {off : Int} (tgt : Nat) (d : decode cc pc = .ok (.if_icmp .lt off, 3)) (ht : (pc : Int) + off = (tgt : Int)) (kt : x < y → Z p l e R s m args below meth c nL G A h Q k n ws tgt L st) (kf : ¬ x < y → Z p l e R s m args below meth c nL G A h Q k n ws (pc + 3) L st) : Z p l e R s m args below meth c nL G A h Q k n ws pc L (.int y :: .int x :: st) := fun H locs ls hP hD hS hl => lv_icmp_lt C.1 C.2.1 d ht (fun q => kt q H locs ls hP hD hS hl) (fun q => kf q H locs ls hP hD hS hl)
theorem Z_if_ge (C : Cx p s m args c cc nL own G A) {x : Int32} {off : Int} (tgt : Nat) (d : decode cc pc = .ok (.ifCond .ge off, 3)) (ht : (pc : Int) + off = (tgt : Int)) (kt : 0 ≤ x → Z p l e R s m args below meth c nL G A h Q k n ws tgt L st) (kf : ¬ 0 ≤ x → Z p l e R s m args below meth c nL G A h Q k n ws (pc + 3) L st) : Z p l e R s m args below meth c nL G A h Q k n ws pc L (.int x :: st) := fun H locs ls hP hD hS hl => lv_if_ge C.1 C.2.1 d ht (fun q => kt q H locs ls hP hD hS hl) (fun q => kf q H locs ls hP hD hS hl)
theorem Z_icmp_ge (C : Cx p s m args c cc nL own G A) {x y : Int32} {off : Int} (tgt : Nat) (d : decode cc pc = .ok (.if_icmp .ge off, 3)) (ht : (pc : Int) + off = (tgt : Int)) (kt : y ≤ x → Z p l e R s m args below meth c nL G A h Q k n ws tgt L st) (kf : ¬ y ≤ x → Z p l e R s m args below meth c nL G A h Q k n ws (pc + 3) L st) : Z p l e R s m args below meth c nL G A h Q k n ws pc L (.int y :: .int x :: st) := fun H locs ls hP hD hS hl => lv_icmp_ge C.1 C.2.1 d ht (fun q => kt q H locs ls hP hD hS hl) (fun q => kf q H locs ls hP hD hS hl)
theorem Z_if_gt (C : Cx p s m args c cc nL own G A) {x : Int32} {off : Int} (tgt : Nat) (d : decode cc pc = .ok (.ifCond .gt off, 3)) (ht : (pc : Int) + off = (tgt : Int)) (kt : 0 < x → Z p l e R s m args below meth c nL G A h Q k n ws tgt L st) (kf : ¬ 0 < x → Z p l e R s m args below meth c nL G A h Q k n ws (pc + 3) L st) : Z p l e R s m args below meth c nL G A h Q k n ws pc L (.int x :: st) := fun H locs ls hP hD hS hl => lv_if_gt C.1 C.2.1 d ht (fun q => kt q H locs ls hP hD hS hl) (fun q => kf q H locs ls hP hD hS hl)
theorem Z_icmp_gt (C : Cx p s m args c cc nL own G A) {x y : Int32} {off : Int} (tgt : Nat) (d : decode cc pc = .ok (.if_icmp .gt off, 3)) (ht : (pc : Int) + off = (tgt : Int)) (kt : y < x → Z p l e R s m args below meth c nL G A h Q k n ws tgt L st) (kf : ¬ y < x → Z p l e R s m args below meth c nL G A h Q k n ws (pc + 3) L st) : Z p l e R s m args below meth c nL G A h Q k n ws pc L (.int y :: .int x :: st) := fun H locs ls hP hD hS hl => lv_icmp_gt C.1 C.2.1 d ht (fun q => kt q H locs ls hP hD hS hl) (fun q => kf q H locs ls hP hD hS hl)
theorem Z_if_le (C : Cx p s m args c cc nL own G A) {x : Int32} {off : Int} (tgt : Nat) (d : decode cc pc = .ok (.ifCond .le off, 3)) (ht : (pc : Int) + off = (tgt : Int)) (kt : x ≤ 0 → Z p l e R s m args below meth c nL G A h Q k n ws tgt L st) (kf : ¬ x ≤ 0 → Z p l e R s m args below meth c nL G A h Q k n ws (pc + 3) L st) : Z p l e R s m args below meth c nL G A h Q k n ws pc L (.int x :: st) := fun H locs ls hP hD hS hl => lv_if_le C.1 C.2.1 d ht (fun q => kt q H locs ls hP hD hS hl) (fun q => kf q H locs ls hP hD hS hl)
theorem Z_icmp_le (C : Cx p s m args c cc nL own G A) {x y : Int32} {off : Int} (tgt : Nat) (d : decode cc pc = .ok (.if_icmp .le off, 3)) (ht : (pc : Int) + off = (tgt : Int)) (kt : x ≤ y → Z p l e R s m args below meth c nL G A h Q k n ws tgt L st) (kf : ¬ x ≤ y → Z p l e R s m args below meth c nL G A h Q k n ws (pc + 3) L st) : Z p l e R s m args below meth c nL G A h Q k n ws pc L (.int y :: .int x :: st) := fun H locs ls hP hD hS hl => lv_icmp_le C.1 C.2.1 d ht (fun q => kt q H locs ls hP hD hS hl) (fun q => kf q H locs ls hP hD hS hl)
end ZR
end
section
section ZS
variable {p : Program} {l : Launch} {e : Env} {R : Room} {s : State} {m : MethodId} {args : Array Value} {below : List Frame} {meth : Method} {c : Code} {cc : ByteArray} {nL : Nat} {own : String} {G : gG} {A : Nat → Prop} {h : Nat → Nat} {Q : State → Prop} {k n : Nat} {ws ws' : List va_E} {pc : Nat} {L L' : List (Nat × Value)} {st : List Value}
theorem Z_get (C : Cx p s m args c cc nL own G A) {Cn ref : String} {T : u_T} {N ci : Nat} {ty : Nat → FieldType} (K : cK Cn T N ci ty) {index q : Nat} (j : Nat) {fs : List Value} {v : Value} (d : decode cc pc = .ok (.getfield index, 3)) (he : ws[q]? = some (.inr (ci, fs))) (hj : j < N) (hlink : Cond.fieldLink own index ref (T j).2.1 (T j).2.2.1 ∈ gA) (hr : (T j).1 = ref) (hv : fs[j]? = some v) (kk : Z p l e R s m args below meth c nL G A h Q k n ws (pc + 3) L (v :: st)) : Z p l e R s m args below meth c nL G A h Q k n ws pc L (.ref q :: st) := fun H locs ls hP hD hS hl =>
  va_get (D := G.1) (ci := ci) (v := kV h v) (C := Cn) (T := T) (N := N) C.1 C.2.1 C.2.2.2.2.1 K.1 C.2.2.2.1 C.2.2.2.2.2.1 hP q (kW_at he) K.2.1 j hj (C.2.2.2.2.1 _ hlink) (fun _ h9 => by rw [← hr]; exact h9) (by rw [List.getElem?_map, hv]; rfl) d (kk H locs ls hP hD hS hl)
theorem Z_put (C : Cx p s m args c cc nL own G A) {Cn ref : String} {T : u_T} {N ci : Nat} {ty : Nat → FieldType} (K : cK Cn T N ci ty) {index q : Nat} (j : Nat) {fs : List Value} {v : Value} {ty1 : FieldType} (d : decode cc pc = .ok (.putfield index, 3)) (he : ws[q]? = some (.inr (ci, fs))) (hj : j < N) (hlink : Cond.fieldLink own index ref (T j).2.1 (T j).2.2.1 ∈ gA) (hr : (T j).1 = ref) (hfin : (T j).2.2.2 = false) (hd : parseFieldDescriptor (T j).2.2.1 = some ty1) (hn : narrow ty1 (kV h v) = kV h v) (hfit : fits ty1 (kV h v) = true) (hl1 : j < fs.length) (hw : ws.set q (.inr (ci, fs.set j v)) = ws') (kk : Z p l e R s m args below meth c nL G A h Q k n ws' (pc + 3) L st) : Z p l e R s m args below meth c nL G A h Q k n ws pc L (v :: .ref q :: st) := fun H locs ls hP hD hS hl =>
  va_put (D := G.1) (ci := ci) (v := kV h v) (C := Cn) (T := T) (N := N) C.1 C.2.1 C.2.2.2.2.1 K.1 ty K.2.2.1 K.2.2.2 C.2.2.2.1 C.2.2.2.2.2.1 hP hD hS q (kW_at he) K.2.1 j hj (C.2.2.2.2.1 _ hlink) (fun _ h9 => by rw [← hr]; exact h9) hfin hd hn hfit (by rw [List.length_map]; exact hl1) d (fun H1 locs1 hP1 hD1 hS1 => by
    have e1 : (kW G h ws).set q (h q, .inr (ci, (fs.map (kV h)).set j (kV h v))) = kW G h ws' := by
      rw [← List.map_set, ← hw]
      exact kW_set G h ws q (.inr (ci, fs.set j v))
    rw [e1] at hP1 hD1
    exact kk H1 locs1 ls hP1 hD1 hS1 hl)
theorem Z_putF (C : Cx p s m args c cc nL own G A) (hin : meth.name = "<init>") {Cn ref : String} {T : u_T} {N ci : Nat} {ty : Nat → FieldType} (K : cK Cn T N ci ty) {index q : Nat} (j : Nat) {fs : List Value} {v : Value} {ty1 : FieldType} (d : decode cc pc = .ok (.putfield index, 3)) (he : ws[q]? = some (.inr (ci, fs))) (hj : j < N) (hlink : Cond.fieldLink own index ref (T j).2.1 (T j).2.2.1 ∈ gA) (hr : (T j).1 = ref) (hfin : (T j).2.2.2 = true) (hdecl : (T j).1 = own) (hd : parseFieldDescriptor (T j).2.2.1 = some ty1) (hn : narrow ty1 (kV h v) = kV h v) (hfit : fits ty1 (kV h v) = true) (hl1 : j < fs.length) (hw : ws.set q (.inr (ci, fs.set j v)) = ws') (kk : Z p l e R s m args below meth c nL G A h Q k n ws' (pc + 3) L st) : Z p l e R s m args below meth c nL G A h Q k n ws pc L (v :: .ref q :: st) := fun H locs ls hP hD hS hl =>
  va_putF (D := G.1) (ci := ci) (v := kV h v) (C := Cn) (T := T) (N := N) C.1 C.2.1 C.2.2.2.2.1 K.1 ty K.2.2.1 K.2.2.2 C.2.2.2.1 C.2.2.2.2.2.1 hP hD hS q (kW_at he) K.2.1 j hj (C.2.2.2.2.1 _ hlink) (fun _ h9 => by rw [← hr]; exact h9) hfin hin hdecl hd hn hfit (by rw [List.length_map]; exact hl1) d (fun H1 locs1 hP1 hD1 hS1 => by
    have e1 : (kW G h ws).set q (h q, .inr (ci, (fs.map (kV h)).set j (kV h v))) = kW G h ws' := by
      rw [← List.map_set, ← hw]
      exact kW_set G h ws q (.inr (ci, fs.set j v))
    rw [e1] at hP1 hD1
    exact kk H1 locs1 ls hP1 hD1 hS1 hl)
theorem Z_iald (C : Cx p s m args c cc nL own G A) {q N : Nat} {f : Nat → Int32} {i v : Int32} (d : decode cc pc = .ok (.iaload, 1)) (he : ws[q]? = some (.inl (0, N, .inl f))) (hin : vp_in i N) (hv : f i.toNatClampNeg = v) (kk : Z p l e R s m args below meth c nL G A h Q k n ws (pc + 1) L (.int v :: st)) : Z p l e R s m args below meth c nL G A h Q k n ws pc L (.int i :: .ref q :: st) := fun H locs ls hP hD hS hl =>
  va_iald (D := G.1) C.1 C.2.1 C.2.2.2.2.2.1 hP q 0 (kW_at he) rfl hin d (by rw [hv]; exact kk H locs ls hP hD hS hl)
theorem Z_zald (C : Cx p s m args c cc nL own G A) {q N : Nat} {f : Nat → Int32} {i v : Int32} (d : decode cc pc = .ok (.baload, 1)) (he : ws[q]? = some (.inl (1, N, .inl f))) (hin : vp_in i N) (hv : f i.toNatClampNeg = v) (kk : Z p l e R s m args below meth c nL G A h Q k n ws (pc + 1) L (.int v :: st)) : Z p l e R s m args below meth c nL G A h Q k n ws pc L (.int i :: .ref q :: st) := fun H locs ls hP hD hS hl =>
  va_zald (D := G.1) C.1 C.2.1 C.2.2.2.2.2.1 hP q 1 (kW_at he) rfl hin d (by rw [hv]; exact kk H locs ls hP hD hS hl)
theorem Z_lald (C : Cx p s m args c cc nL own G A) {q N : Nat} {f : Nat → Int64} {i : Int32} {v : Int64} (d : decode cc pc = .ok (.laload, 1)) (he : ws[q]? = some (.inl (2, N, .inr (.inl f)))) (hin : vp_in i N) (hv : f i.toNatClampNeg = v) (kk : Z p l e R s m args below meth c nL G A h Q k n ws (pc + 1) L (.long v :: st)) : Z p l e R s m args below meth c nL G A h Q k n ws pc L (.int i :: .ref q :: st) := fun H locs ls hP hD hS hl =>
  va_lald (D := G.1) C.1 C.2.1 C.2.2.2.2.2.1 hP q 2 (kW_at he) rfl hin d (by rw [hv]; exact kk H locs ls hP hD hS hl)
theorem Z_iast (C : Cx p s m args c cc nL own G A) {q N : Nat} {f f' : Nat → Int32} {i x : Int32} (d : decode cc pc = .ok (.iastore, 1)) (he : ws[q]? = some (.inl (0, N, .inl f))) (hin : vp_in i N) (hf : upd f i.toNatClampNeg x = f') (hw : ws.set q (.inl (0, N, .inl f')) = ws') (kk : Z p l e R s m args below meth c nL G A h Q k n ws' (pc + 1) L st) : Z p l e R s m args below meth c nL G A h Q k n ws pc L (.int x :: .int i :: .ref q :: st) := fun H locs ls hP hD hS hl =>
  va_iast (D := G.1) C.1 C.2.1 C.2.2.2.2.2.1 hP hD hS q 0 (kW_at he) rfl hin d (fun H1 locs1 hP1 hD1 hS1 => by
    have e1 : (kW G h ws).set q (h q, .inl (G.2 0, N, .inl (upd f i.toNatClampNeg x))) = kW G h ws' := by
      rw [hf, ← hw]
      exact kW_set G h ws q (.inl (0, N, .inl f'))
    rw [e1] at hP1 hD1
    exact kk H1 locs1 ls hP1 hD1 hS1 hl)
theorem Z_zast (C : Cx p s m args c cc nL own G A) {q N : Nat} {f f' : Nat → Int32} {i x : Int32} (d : decode cc pc = .ok (.bastore, 1)) (he : ws[q]? = some (.inl (1, N, .inl f))) (hin : vp_in i N) (hf : upd f i.toNatClampNeg (vp_nar .boolean x) = f') (hw : ws.set q (.inl (1, N, .inl f')) = ws') (kk : Z p l e R s m args below meth c nL G A h Q k n ws' (pc + 1) L st) : Z p l e R s m args below meth c nL G A h Q k n ws pc L (.int x :: .int i :: .ref q :: st) := fun H locs ls hP hD hS hl =>
  va_zast (D := G.1) C.1 C.2.1 C.2.2.2.2.2.1 hP hD hS q 1 (kW_at he) rfl hin d (fun H1 locs1 hP1 hD1 hS1 => by
    have e1 : (kW G h ws).set q (h q, .inl (G.2 1, N, .inl (upd f i.toNatClampNeg (vp_nar .boolean x)))) = kW G h ws' := by
      rw [hf, ← hw]
      exact kW_set G h ws q (.inl (1, N, .inl f'))
    rw [e1] at hP1 hD1
    exact kk H1 locs1 ls hP1 hD1 hS1 hl)
theorem Z_last (C : Cx p s m args c cc nL own G A) {q N : Nat} {f f' : Nat → Int64} {i : Int32} {x : Int64} (d : decode cc pc = .ok (.lastore, 1)) (he : ws[q]? = some (.inl (2, N, .inr (.inl f)))) (hin : vp_in i N) (hf : vp_updL f i.toNatClampNeg x = f') (hw : ws.set q (.inl (2, N, .inr (.inl f'))) = ws') (kk : Z p l e R s m args below meth c nL G A h Q k n ws' (pc + 1) L st) : Z p l e R s m args below meth c nL G A h Q k n ws pc L (.long x :: .int i :: .ref q :: st) := fun H locs ls hP hD hS hl =>
  va_last (D := G.1) C.1 C.2.1 C.2.2.2.2.2.1 hP hD hS q 2 (kW_at he) rfl hin d (fun H1 locs1 hP1 hD1 hS1 => by
    have e1 : (kW G h ws).set q (h q, .inl (G.2 2, N, .inr (.inl (vp_updL f i.toNatClampNeg x)))) = kW G h ws' := by
      rw [hf, ← hw]
      exact kW_set G h ws q (.inl (2, N, .inr (.inl f')))
    rw [e1] at hP1 hD1
    exact kk H1 locs1 ls hP1 hD1 hS1 hl)
theorem kA_1 (h : Nat → Nat) (x : vp_A) : (kA h x).1 = x.1 := by obtain ⟨N, f | f | f | f | f⟩ := x <;> rfl
theorem Z_alen (C : Cx p s m args c cc nL own G A) {q i : Nat} {x : vp_A} {v : Int32} (d : decode cc pc = .ok (.arraylength, 1)) (he : ws[q]? = some (.inl (i, x))) {ty1 : FieldType} (hi : (gTy G)[i]? = some (G.2 i, ty1)) (hv : Int32.ofNat x.1 = v) (kk : Z p l e R s m args below meth c nL G A h Q k n ws (pc + 1) L (.int v :: st)) : Z p l e R s m args below meth c nL G A h Q k n ws pc L (.ref q :: st) := fun H locs ls hP hD hS hl =>
  va_alen (D := G.1) C.1 C.2.1 C.2.2.2.2.2.1 hP q i (kW_at he) hi (by rw [kA_1]; exact hv) d (kk H locs ls hP hD hS hl)
theorem Z_mmax (C : Cx p s m args c cc nL own G A) {index : Nat} {x y v : Int32} (d : decode cc pc = .ok (.invokestatic index, 3)) (hlink : Cond.methodLink own index Lib.Math.max.name ∈ gA) (h2 : Cond.static Lib.Math.max.name ∈ gA) (h3 : Cond.initialized "java/lang/Math" ∈ gA) (h4 : Cond.code Lib.Math.max.name Lib.Math.max.code 2 (some .int) ∈ gA) (hf : 1 ≤ R.frames) (hlo : (st.map fun v => v.category).sum + 13 ≤ R.locals) (hcs : k ≤ R.cells ∧ n ≤ R.slots) (hv : (if x < y then y else x) = v) (kk : Z p l e R s m args below meth c nL G A h Q k n ws (pc + 3) L (.int v :: st)) : Z p l e R s m args below meth c nL G A h Q k n ws pc L (.int y :: .int x :: st) := fun H locs ls hP hD hS hl =>
  va_mmax C.1 C.2.1 (C.2.2.1.trans hl.1.symm) C.2.2.2.1 (C.2.2.2.2.1 _ hlink) (C.2.2.2.2.1 _ h2) (C.2.2.2.2.1 _ h3) (C.2.2.2.2.1 _ h4) hf (by
    have : ((st.map (kV h)).map fun v => v.category) = st.map fun v => v.category := by rw [List.map_map]; exact List.map_congr_left (fun v _ => kV_cat h v)
    rw [this]; exact hlo) hcs.1 hcs.2 d (by rw [hv]; exact kk H locs ls hP hD hS hl)
theorem Z_mmin (C : Cx p s m args c cc nL own G A) {index : Nat} {x y v : Int32} (d : decode cc pc = .ok (.invokestatic index, 3)) (hlink : Cond.methodLink own index Lib.Math.min.name ∈ gA) (h2 : Cond.static Lib.Math.min.name ∈ gA) (h3 : Cond.initialized "java/lang/Math" ∈ gA) (h4 : Cond.code Lib.Math.min.name Lib.Math.min.code 2 (some .int) ∈ gA) (hf : 1 ≤ R.frames) (hlo : (st.map fun v => v.category).sum + 13 ≤ R.locals) (hcs : k ≤ R.cells ∧ n ≤ R.slots) (hv : (if y < x then y else x) = v) (kk : Z p l e R s m args below meth c nL G A h Q k n ws (pc + 3) L (.int v :: st)) : Z p l e R s m args below meth c nL G A h Q k n ws pc L (.int y :: .int x :: st) := fun H locs ls hP hD hS hl =>
  va_mmin C.1 C.2.1 (C.2.2.1.trans hl.1.symm) C.2.2.2.1 (C.2.2.2.2.1 _ hlink) (C.2.2.2.2.1 _ h2) (C.2.2.2.2.1 _ h3) (C.2.2.2.2.1 _ h4) hf (by
    have : ((st.map (kV h)).map fun v => v.category) = st.map fun v => v.category := by rw [List.map_map]; exact List.map_congr_left (fun v _ => kV_cat h v)
    rw [this]; exact hlo) hcs.1 hcs.2 d (by rw [hv]; exact kk H locs ls hP hD hS hl)
end ZS
/-- the nest's words, that hold in every later state too -/
def nF : List (String × Nat × String × String × String × String) := [(RX2, 175, RX1, "prop", "[I", RX2), (RX2, 100, RX1, "power", "[I", RX2), (RX2, 94, RX1, "load", "[I", RX2), (RX2, 172, RX1, "hung", "I", RX2), (RX2, 81, RX1, "hanging", "I", RX2)]
/-- a contract: the method y returns r, its world ws becomes ws'; mc cells of ms slots are new, and of no world -/
def gRm (d mc ms : Nat) : Room := { frames := d, cells := mc, slots := ms, locals := 30 * d }
def gB (G : gG) (h : Nat → Nat) (sz : Nat) (ws : List va_E) (U : State) : Prop := U.heap.size = sz ∧ va_P G.1 cls (kW G h ws) U.heap ∧ va_K G.1 cls (gTy G) U ∧ va_D (fun _ => True) (kW G h ws)
def gQ (G : gG) (h : Nat → Nat) (A : Nat → Prop) (r : Option Value) (ws' : List va_E) : Array Value → State → Outcome → State → Prop := fun _ st oc t => (oc = .returned (r.map (kV h)) ∧ va_P G.1 cls (kW G h ws') t.heap) ∧ va_F A st t
def CT (y : MethodName) (b : ByteArray) (mL : Nat) (ret : Option FieldType) (d mc ms : Nat) (av : List Value) (ws : List va_E) (r : Option Value) (ws' : List va_E) : Prop :=
  ∀ (l : Launch) (G : gG) (h : Nat → Nat) (sz : Nat), Met l y (wsY y b mL ret) (gRm d mc ms) (va_Pc (av.map (kV h)) (gB G h sz ws)) (gQ G h (va_A (kW G h ws) sz) r ws') mc ms (va_A (kW G h ws) sz)
theorem CT_of {y : MethodName} {b : ByteArray} {mL : Nat} {ret : Option FieldType} {d mc ms : Nat} {av : List Value} {ws : List va_E} {r : Option Value} {ws' : List va_E} {L : List (Nat × Value)} (hy : plainName y.cls = true) (hL : ∀ h, lv_args 0 (av.map (kV h)) = kL h L) (hsl : ∀ h, (lg_sl (av.map (kV h))).length ≤ mL)
    (body : ∀ (p : Program) (l : Launch) (e : Env) (s : State) (m : MethodId) (args : Array Value) (below : List Frame) (meth : Method) (c : Code) (G : gG) (h : Nat → Nat) (A : Nat → Prop), Cx p s m args c b mL y.cls G A → meth.sig.returnType = ret → meth.locks = false → meth.name = y.name →
      Z p l e (gRm d mc ms) s m args below meth c mL G A h (MQ below (gQ G h A r ws') args s mc ms A) 0 0 ws 0 L []) : CT y b mL ret d mc ms av ws r ws' := by
  intro l G h sz
  refine Met.ofW (cc := b) (maxL := mL) (ret := ret) hy rfl ?_
  intro p e s m args below meth c s₁ B hml hv
  obtain ⟨rfl, hsz, hP, hK, hD0⟩ := hv
  have hx := B.exec
  have hb := B.bytes
  have hr := B.returns
  have hts := atoms_spec (ws := wsY y b mL ret) B.pre
  have hown : s.vm.findClass y.cls = some m.cls := findClass_of_methodNamed B.named
  have hlocks := B.notSynchronized
  have hin : meth.name = y.name := (name_of_methodNamed B.named B.method).1
  subst hsz
  have hD := hD0.self (sz := s.heap.size)
  generalize hAe : va_A (kW G h ws) s.heap.size = A at hD ⊢
  have hA : ∀ q : Nat, s.heap.size ≤ q → A q := fun q h => by rw [← hAe]; exact Or.inr h
  have hl := lv_entry (av.map (kV h)) (n := mL) (hsl h)
  rw [lg_entry_eq]
  rw [hL h] at hl
  exact body p l e s m _ below meth c G h A ⟨hx, hb, hml, hown, fun w hw => hts w (List.mem_cons_of_mem _ hw), hK, hA⟩ hr hlocks hin s.heap [] _ hP hD va_S.rf hl
section ZE
variable {p : Program} {l : Launch} {e : Env} {R : Room} {s : State} {m : MethodId} {args : Array Value} {below : List Frame} {meth : Method} {c : Code} {cc : ByteArray} {nL : Nat} {own : String} {G : gG} {A : Nat → Prop} {h : Nat → Nat} {k n : Nat} {ws ws' : List va_E} {pc : Nat} {L : List (Nat × Value)} {r : Option Value}
theorem Z_iret (C : Cx p s m args c cc nL own G A) (hr : meth.sig.returnType = some .int) (hlk : meth.locks = false) {v : Int32} (d : decode cc pc = .ok (.ireturn, 1)) (hv : r = some (.int v)) (hw : ws = ws') : Z p l e R s m args below meth c nL G A h (MQ below (gQ G h A r ws') args s k n A) k n ws pc L [.int v] := fun H locs ls hP hD hS hl => by
  subst hw; subst hv
  exact W.iret C.1 C.2.1 hr (fun t ht _ => ⟨⟨rfl, by rw [ht]; exact hP⟩, hS.F ht⟩) hS.2.2 d (hlocks := hlk)
theorem Z_zret (C : Cx p s m args c cc nL own G A) (hr : meth.sig.returnType = some .boolean) (hlk : meth.locks = false) {v : Int32} (d : decode cc pc = .ok (.ireturn, 1)) (hn : narrow .boolean (.int v) = .int v) (hv : r = some (.int v)) (hw : ws = ws') : Z p l e R s m args below meth c nL G A h (MQ below (gQ G h A r ws') args s k n A) k n ws pc L [.int v] := fun H locs ls hP hD hS hl => by
  subst hw; subst hv
  exact W.zret C.1 C.2.1 hr hn (fun t ht _ => ⟨⟨rfl, by rw [ht]; exact hP⟩, hS.F ht⟩) hS.2.2 d (hlocks := hlk)
theorem Z_vret (C : Cx p s m args c cc nL own G A) (hr : meth.sig.returnType = none) (hlk : meth.locks = false) (d : decode cc pc = .ok (.return_, 1)) (hv : r = none) (hw : ws = ws') : Z p l e R s m args below meth c nL G A h (MQ below (gQ G h A r ws') args s k n A) k n ws pc L [] := fun H locs ls hP hD hS hl => by
  subst hw; subst hv
  exact W.vret C.1 C.2.1 hr (fun t ht _ => ⟨⟨rfl, by rw [ht]; exact hP⟩, hS.F ht⟩) hS.2.2 d (hlocks := hlk)
theorem Z_lret (C : Cx p s m args c cc nL own G A) (hr : meth.sig.returnType = some .long) (hlk : meth.locks = false) {v : Int64} (d : decode cc pc = .ok (.lreturn, 1)) (hv : r = some (.long v)) (hw : ws = ws') : Z p l e R s m args below meth c nL G A h (MQ below (gQ G h A r ws') args s k n A) k n ws pc L [.long v] := fun H locs ls hP hD hS hl => by
  subst hw; subst hv
  exact W.lret C.1 C.2.1 hr (fun t ht _ => ⟨⟨rfl, by rw [ht]; exact hP⟩, hS.F ht⟩) hS.2.2 d (hlocks := hlk)
end ZE
end
section
/-- from place n on, only places of 'is' differ -/
def outW (n : Nat) (is : List Nat) (ws ws' : List va_E) : Prop := ∀ i, n + i ∉ is → ws'[i]? = ws[i]?
theorem outR (n : Nat) (is : List Nat) (ws : List va_E) : outW n is ws ws := fun _ _ => rfl
theorem outS {n : Nat} {is : List Nat} {a ws ws' : List va_E} (m : Nat) (hm : a.length = m) (h : outW (n + m) is ws ws') : outW n is (a ++ ws) (a ++ ws') := by
  intro i hi
  by_cases hl : i < m
  · rw [List.getElem?_append_left (by omega), List.getElem?_append_left (by omega)]
  · rw [List.getElem?_append_right (by omega), List.getElem?_append_right (by omega)]
    exact h (i - a.length) (by rw [show n + m + (i - a.length) = n + i by omega]; exact hi)
theorem outI {n : Nat} {is : List Nat} {a a' ws ws' : List va_E} (m : Nat) (hm : a.length = m) (hm' : a'.length = m) (hin : (List.range m).all (fun i => is.contains (n + i)) = true) (h : outW (n + m) is ws ws') : outW n is (a ++ ws) (a' ++ ws') := by
  intro i hi
  by_cases hl : i < m
  · exact absurd (List.contains_iff_mem.mp (List.all_eq_true.mp hin i (List.mem_range.mpr hl))) hi
  · rw [List.getElem?_append_right (by omega), List.getElem?_append_right (by omega), hm, hm']
    exact h (i - m) (by rw [show n + m + (i - m) = n + i by omega]; exact hi)
theorem outL {n : Nat} {is : List Nat} {a a' : List va_E} (m : Nat) (hm : a.length = m) (hm' : a'.length = m) (hin : (List.range m).all (fun i => is.contains (n + i)) = true) : outW n is a a' := by
  intro i hi
  by_cases hl : i < m
  · exact absurd (List.contains_iff_mem.mp (List.all_eq_true.mp hin i (List.mem_range.mpr hl))) hi
  · rw [List.getElem?_eq_none (by omega), List.getElem?_eq_none (by omega)]
/-- the callee's world is a part of the caller's, renumbered -/
def subW (is : List Nat) (ws cws : List va_E) : Prop := is.map (fun i => ws[i]?) = (cws.map (rE is)).map some
theorem subW_at {is : List Nat} {ws cws : List va_E} (hs : subW is ws cws) {j : Nat} {e : va_E} (hj : cws[j]? = some e) : is[j]? = some (rN is j) ∧ ws[rN is j]? = some (rE is e) := by
  have h1 : (is.map (fun i => ws[i]?))[j]? = some (some (rE is e)) := by rw [show is.map (fun i => ws[i]?) = _ from hs]; simp [hj]
  rw [List.getElem?_map] at h1
  cases hi : is[j]? with
  | none => rw [hi] at h1; cases h1
  | some i =>
    rw [hi] at h1
    have hr : rN is j = i := by simp [rN, List.getD, hi]
    rw [hr]
    exact ⟨rfl, Option.some.inj h1⟩
theorem subW_len {is : List Nat} {ws cws : List va_E} (hs : subW is ws cws) : is.length = cws.length := by
  have := congrArg List.length (show is.map (fun i => ws[i]?) = _ from hs)
  simpa using this
theorem subW_k {G : gG} {h : Nat → Nat} {is : List Nat} {ws cws : List va_E} (hs : subW is ws cws) (j : Nat) (q : Nat × va_E) (hq : (kW G (fun j => h (rN is j)) cws)[j]? = some q) : (kW G h ws)[rN is j]? = some q := by
  obtain ⟨e, he, rfl⟩ := kW_of hq
  obtain ⟨-, h2⟩ := subW_at hs he
  rw [kW_at h2, kE_rE]
theorem subW_D {A : Nat → Prop} {G : gG} {h : Nat → Nat} {is : List Nat} {ws cws : List va_E} (hs : subW is ws cws) (hnd : va_nd is = true) (hD : va_D A (kW G h ws)) : va_D A (kW G (fun j => h (rN is j)) cws) := by
  refine hD.by (rN is) (subW_k hs) (fun i j hi hj e => ?_)
  rw [kW_len, ← subW_len hs] at hi hj
  have a1 : is[i]? = some (rN is i) := by simp [rN, List.getD, hi]
  have a2 : is[j]? = some (rN is j) := by simp [rN, List.getD, hj]
  rw [← e] at a2
  exact va_nd_inj is hnd i j _ a1 a2
theorem subW_back {A : Nat → Prop} {G : gG} {h : Nat → Nat} {is : List Nat} {ws ws' cws cws' : List va_E} {H H1 : Heap} (hs : subW is ws cws) (hs' : subW is ws' cws') (h2 : outW 0 is ws ws') (hP : va_P G.1 cls (kW G h ws) H) (hD : va_D A (kW G h ws)) (hP1 : va_P G.1 cls (kW G (fun j => h (rN is j)) cws') H1) (hk : ∀ q : Nat, q < H.size → ¬ va_A (kW G (fun j => h (rN is j)) cws) H.size q → H1[q]? = H[q]?) : va_P G.1 cls (kW G h ws') H1 := by
  intro i q hq
  obtain ⟨e, he, rfl⟩ := kW_of hq
  by_cases hi : i ∈ is
  · obtain ⟨j, hj⟩ := List.getElem?_of_mem hi
    have hlt : j < is.length := (List.getElem?_eq_some_iff.mp hj).1
    rw [subW_len hs'] at hlt
    obtain ⟨a1, a2⟩ := subW_at hs' (List.getElem?_eq_getElem hlt)
    have hr : rN is j = i := Option.some.inj (a1.symm.trans hj)
    rw [hr, he] at a2
    have h3 := hP1 j _ (kW_at (List.getElem?_eq_getElem hlt))
    rw [← kE_rE, ← Option.some.inj a2, hr] at h3
    exact h3
  · have hw : ws[i]? = some e := by rw [← h2 i (by rw [Nat.zero_add]; exact hi)]; exact he
    have h3 := hP i _ (kW_at hw)
    refine h3.kept (hk _ h3.lt (fun z => ?_))
    rcases z with ⟨j, e', z⟩ | z
    · have z2 := subW_k hs j _ z
      have hij : rN is j = i := hD.1 _ _ _ _ z2 (kW_at hw) rfl
      obtain ⟨e0, he0, -⟩ := kW_of z
      obtain ⟨a1, -⟩ := subW_at hs he0
      rw [hij] at a1
      exact hi (List.mem_of_getElem? a1)
    · exact absurd h3.lt (Nat.not_lt.mpr z)
/-- what a call of the instance method y takes of the tables -/
def mV (y : MethodName) (b : ByteArray) (mL : Nat) (ret : Option FieldType) (nA : Nat) : Prop := Cond.instanceMethod y ∈ gA ∧ Cond.selects y.cls y y ∈ gA ∧ Cond.initialized y.cls ∈ gA ∧ Cond.code y b mL ret ∈ gA ∧ (y.cls = y.cls ∧ y.cls ≠ "java/lang/invoke/MethodHandle" ∧ y.cls ≠ "java/lang/invoke/VarHandle" ∧ (parseMethodDescriptor y.desc).map (fun d => d.parameters.length) = some nA)
def mS (y : MethodName) (b : ByteArray) (mL : Nat) (ret : Option FieldType) (nA : Nat) : Prop := Cond.static y ∈ gA ∧ Cond.initialized y.cls ∈ gA ∧ Cond.code y b mL ret ∈ gA ∧ (y.cls = y.cls ∧ y.cls ≠ "java/lang/invoke/MethodHandle" ∧ y.cls ≠ "java/lang/invoke/VarHandle" ∧ (parseMethodDescriptor y.desc).map (fun d => d.parameters.length) = some nA)
theorem gB_blind (G : gG) (h : Nat → Nat) (sz : Nat) (cws : List va_E) (av : List Value) : FrameBlind (va_Pc av (gB G h sz cws)) := fun a U g mk q => by
  obtain ⟨q0, q1, qP, qK, qD⟩ := q
  exact ⟨q0, q1, qP, va_K.moved (u := U) (U := U.calling g mk a) (Vm.Alike.refl U.vm) qK, qD⟩
section ZC
variable {p : Program} {l : Launch} {e : Env} {R : Room} {s : State} {m : MethodId} {args : Array Value} {below : List Frame} {meth : Method} {c : Code} {cc : ByteArray} {nL : Nat} {own : String} {G : gG} {A : Nat → Prop} {h : Nat → Nat} {Q : State → Prop} {k n : Nat} {ws ws' : List va_E} {pc : Nat} {L : List (Nat × Value)} {st st' rest : List Value}
theorem kst_cat (h : Nat → Nat) (st : List Value) : ((st.map (kV h)).map fun v => v.category) = st.map fun v => v.category := by rw [List.map_map]; exact List.map_congr_left (fun v _ => kV_cat h v)
theorem kst_r (h : Nat → Nat) (is : List Nat) (As : List Value) : (As.map (rV is)).map (kV h) = As.map (kV (fun j => h (rN is j))) := by rw [List.map_map]; exact List.map_congr_left (fun v _ => kV_rV h is v)
theorem Z_ws {σ : Type} (f : σ → List va_E) (x : σ) (kk : ∀ X, X = x → Z p l e R s m args below meth c nL G A h Q k n (f X) pc L st) : Z p l e R s m args below meth c nL G A h Q k n (f x) pc L st := kk x rfl
/-- behind a run: the caller's world -/
theorem Z_back {is : List Nat} {cws cws' : List va_E} {r : Option Value} {H : Heap} {locs : List Loc} {ls : Array Slot} {mc ms : Nat} {a : Array Value} {st0 : List Value} (C : Cx p s m args c cc nL own G A) (hP : va_P G.1 cls (kW G h ws) H) (hD : va_D A (kW G h ws)) (hS : va_S A s.heap H locs) (hl : lv_has ls nL (kL h L)) (hs : subW is ws cws) (hs' : subW is ws' cws') (h2 : outW 0 is ws ws') {NW : Nat} (hNW : ws.length = NW) (hNW' : ws'.length = NW)
    (hr : va_Run p l e R s m args below meth c H locs k n mc ms (F0 m pc ls st0) (rest.map (kV h)) (gQ G (fun j => h (rN is j)) (va_A (kW G (fun j => h (rN is j)) cws) H.size) r cws' a) (va_A (kW G (fun j => h (rN is j)) cws) H.size)) (hst : (r.map (rV is)).toList ++ rest = st')
    (kk : Z p l e R s m args below meth c nL G A h Q (k + mc) (n + ms) ws' (pc + 3) L st') : W p l e R s m args below meth c H locs k n Q (F0 m pc ls st0) := by
  have hF : ∀ q, va_A (kW G (fun j => h (rN is j)) cws) H.size q → A q := fun q hq => by
    rcases hq with ⟨j, e', z⟩ | z
    · exact hD.2 _ _ (subW_k hs j _ z)
    · exact C.2.2.2.2.2.2 q (Nat.le_trans hS.1 z)
  intro T hT X
  obtain ⟨v, st₀, t, T', L9, h0, X', hL, e1, e2, ⟨⟨hv, hP1⟩, hz, hk⟩, st9⟩ := hr T hT X
  have hv' : v = r.map (kV (fun j => h (rN is j))) := by injection hv
  subst hv'
  rw [h0] at hz hk
  rw [← e1] at hP1 hz hk
  obtain ⟨t2, a1, b1⟩ := kk T'.heap (locs ++ L9) ls (subW_back hs hs' h2 hP hD hP1 hk) (kD_len hD (hNW'.trans hNW.symm))
    ⟨Nat.le_trans hS.1 hz, fun q h1 h2 => by rw [hk q (Nat.lt_of_lt_of_le h1 hS.1) (fun z => h2 (hF q z))]; exact hS.2.1 q h1 h2, fun q hq => by
      rcases List.mem_append.mp hq with h | h
      · exact hS.2.2 q h
      · exact hF _ (hL q h)⟩ hl T' rfl X'
  have est : st'.map (kV h) = (r.map (kV (fun j => h (rN is j)))).toList ++ rest.map (kV h) := by
    rw [← hst, List.map_append]
    congr 1
    cases r with
    | none => rfl
    | some v => exact congrArg (fun z => [z]) (kV_rV h is v)
  rw [est] at a1
  exact ⟨t2, st9 t2 a1, b1⟩
theorem Z_callV (C : Cx p s m args c cc nL own G A) {y : MethodName} {b : ByteArray} {mL dd mc ms nA index ci N : Nat} {ret : Option FieldType} {As : List Value} {cws cws' : List va_E} {r : Option Value} {T : u_T} {ty : Nat → FieldType} {fs : List Value} (is : List Nat) (hc : CT y b mL ret dd mc ms (.ref 0 :: As) cws r cws') (M : mV y b mL ret nA) (K : cK y.cls T N ci ty) (hm : Cond.methodLink own index y ∈ gA) (d : decode cc pc = .ok (.invokevirtual index, 3)) (hst : (As.map (rV is)).reverse ++ .ref (rN is 0) :: rest = st) (hs : subW is ws cws) (hs' : subW is ws' cws') (h2 : outW 0 is ws ws') {NW : Nat} (hNW : ws.length = NW) (hNW' : ws'.length = NW) (hrc : cws[0]? = some (.inr (ci, fs))) (hnA : As.length = nA) (hnd : va_nd is = true) (hR : dd + 1 ≤ R.frames ∧ 8 + (mL + 11) + 30 * dd ≤ R.locals) (hcs : k + mc ≤ R.cells ∧ n + ms ≤ R.slots) (hW : (rest.map fun v => v.category).sum ≤ 8) (hst' : (r.map (rV is)).toList ++ rest = st')
    (kk : Z p l e R s m args below meth c nL G A h Q (k + mc) (n + ms) ws' (pc + 3) L st') : Z p l e R s m args below meth c nL G A h Q k n ws pc L st := fun H locs ls hP hD hS hl => by
  obtain ⟨M1, M2, M3, M4, M5⟩ := M
  have hts := C.2.2.2.2.1
  have hG : GoodIn gA (wsV own index y.cls y (wsY y b mL ret)) := fun w hw => by
    rcases List.mem_append.mp (show w ∈ [Cond.methodLink own index y, Cond.instanceMethod y, Cond.selects y.cls y y, Cond.initialized y.cls] ++ wsY y b mL ret from hw) with hw | hw
    · have hw' : w ∈ gA := by
        simp only [List.mem_cons, List.not_mem_nil, or_false] at hw
        rcases hw with rfl | rfl | rfl | rfl
        · exact hm
        · exact M1
        · exact M2
        · exact M3
      exact ⟨hw', good_of_word (gA_g hw')⟩
    · exact gA_good M4 w hw
  have hcw : CallW R s args own y.cls index y b mL ret (wsY y b mL ret) (gRm dd mc ms) mc ms nA := cwV nA hts hG rfl rfl rfl M5 hR
  have hDc := subW_D hs hnd hD
  have hPc : va_P G.1 cls (kW G (fun j => h (rN is j)) cws) H := hP.by (rN is) (subW_k hs)
  refine Z_back C hP hD hS hl hs hs' h2 hNW hNW' (va_runV (As := As.map (kV (fun j => h (rN is j)))) (b := h (rN is 0)) ⟨C.1, C.2.1, C.2.2.1, C.2.2.2.1, hts⟩ (hc l G (fun j => h (rN is j)) H.size) hcw ⟨gB_blind _ _ _ _ _, va_recv C.2.2.2.2.2.1 hPc K.2.1 (kW_at hrc), fun U hU hW => ⟨rfl, by rw [hU], by rw [hU]; exact hPc, va_K.moved hW.alike C.2.2.2.2.2.1, hDc.weaken (fun _ _ _ _ => trivial)⟩⟩ rfl (by rw [List.length_map]; exact hnA) hl.1 ?_ (lv_room (by rw [kst_cat]; exact hW)) d hcs) hst' kk
  show st.map (kV h) = _
  rw [← hst, List.map_append, List.map_reverse, kst_r]
  rfl
theorem Z_callS (C : Cx p s m args c cc nL own G A) {y : MethodName} {b : ByteArray} {mL dd mc ms nA index : Nat} {ret : Option FieldType} {As : List Value} {cws cws' : List va_E} {r : Option Value} (is : List Nat) (hc : CT y b mL ret dd mc ms As cws r cws') (M : mS y b mL ret nA) (hm : Cond.methodLink own index y ∈ gA) (d : decode cc pc = .ok (.invokestatic index, 3)) (hst : (As.map (rV is)).reverse ++ rest = st) (hs : subW is ws cws) (hs' : subW is ws' cws') (h2 : outW 0 is ws ws') {NW : Nat} (hNW : ws.length = NW) (hNW' : ws'.length = NW) (hnA : As.length = nA) (hnd : va_nd is = true) (hR : dd + 1 ≤ R.frames ∧ 8 + (mL + 11) + 30 * dd ≤ R.locals) (hcs : k + mc ≤ R.cells ∧ n + ms ≤ R.slots) (hW : (rest.map fun v => v.category).sum ≤ 8) (hst' : (r.map (rV is)).toList ++ rest = st')
    (kk : Z p l e R s m args below meth c nL G A h Q (k + mc) (n + ms) ws' (pc + 3) L st') : Z p l e R s m args below meth c nL G A h Q k n ws pc L st := fun H locs ls hP hD hS hl => by
  obtain ⟨M1, M2, M3, M5⟩ := M
  have hts := C.2.2.2.2.1
  have hG : GoodIn gA (va_wsS own index y (wsY y b mL ret)) := fun w hw => by
    rcases List.mem_append.mp (show w ∈ [Cond.methodLink own index y, Cond.static y, Cond.initialized y.cls] ++ wsY y b mL ret from hw) with hw | hw
    · have hw' : w ∈ gA := by
        simp only [List.mem_cons, List.not_mem_nil, or_false] at hw
        rcases hw with rfl | rfl | rfl
        · exact hm
        · exact M1
        · exact M2
      exact ⟨hw', good_of_word (gA_g hw')⟩
    · exact gA_good M3 w hw
  have hcw := va_cwS (R := R) (args := args) (index := index) (mc := mc) (ms := ms) (rm := gRm dd mc ms) nA hts hG rfl rfl rfl M5.2 hR
  have hDc := subW_D hs hnd hD
  have hPc : va_P G.1 cls (kW G (fun j => h (rN is j)) cws) H := hP.by (rN is) (subW_k hs)
  refine Z_back C hP hD hS hl hs hs' h2 hNW hNW' (va_runS (As := As.map (kV (fun j => h (rN is j)))) ⟨C.1, C.2.1, C.2.2.1, C.2.2.2.1, hts⟩ (hc l G (fun j => h (rN is j)) H.size) hcw ⟨gB_blind _ _ _ _ _, fun U hU hW => ⟨rfl, by rw [hU], by rw [hU]; exact hPc, va_K.moved hW.alike C.2.2.2.2.2.1, hDc.weaken (fun _ _ _ _ => trivial)⟩⟩ rfl (by rw [List.length_map]; exact hnA) hl.1 ?_ (lv_room (by rw [kst_cat]; exact hW)) d hcs) hst' kk
  show st.map (kV h) = _
  rw [← hst, List.map_append, List.map_reverse, kst_r]
end ZC
end
section
theorem m_X2_mean : mV yX2_mean cX2_mean 1 (some .double) 0 := ⟨g_142, g_143, g_37, g_144, by decide +kernel⟩
theorem m_X1_sumOfLoads : mV yX1_sumOfLoads cX1_sumOfLoads 3 (some .int) 0 := ⟨g_146, g_147, g_38, g_148, by decide +kernel⟩
theorem m_X2_digest : mV yX2_digest cX2_digest 5 (some .long) 0 := ⟨g_150, g_151, g_37, g_152, by decide +kernel⟩
theorem m_X2_tellSky : mV yX2_tellSky cX2_tellSky 2 (some .int) 1 := ⟨g_157, g_0, g_37, g_158, by decide +kernel⟩
theorem m_X1_countSpells : mV yX1_countSpells cX1_countSpells 3 (some .int) 0 := ⟨g_160, g_161, g_38, g_162, by decide +kernel⟩
theorem m_X0_countLeft : mV yX0_countLeft cX0_countLeft 4 (some .int) 1 := ⟨g_164, g_165, g_39, g_166, by decide +kernel⟩
theorem m_X0_isGone : mV yX0_isGone cX0_isGone 3 (some .boolean) 2 := ⟨g_168, g_169, g_39, g_170, by decide +kernel⟩
theorem m_X0_has : mV yX0_has cX0_has 2 (some .boolean) 1 := ⟨g_172, g_173, g_39, g_174, by decide +kernel⟩
theorem m_X1_isHanging : mV yX1_isHanging cX1_isHanging 2 (some .boolean) 1 := ⟨g_176, g_177, g_38, g_178, by decide +kernel⟩
theorem m_X1_has : mV yX1_has cX1_has 2 (some .boolean) 1 := ⟨g_180, g_181, g_38, g_182, by decide +kernel⟩
theorem m_X1_sumOfPowers : mV yX1_sumOfPowers cX1_sumOfPowers 3 (some .int) 0 := ⟨g_184, g_185, g_38, g_186, by decide +kernel⟩
theorem m_X1_sumOfProps : mV yX1_sumOfProps cX1_sumOfProps 3 (some .int) 0 := ⟨g_188, g_189, g_38, g_190, by decide +kernel⟩
theorem m_X1_sumOfSpelledLoads : mV yX1_sumOfSpelledLoads cX1_sumOfSpelledLoads 3 (some .int) 0 := ⟨g_192, g_193, g_38, g_194, by decide +kernel⟩
theorem m_X1_tell : mV yX1_tell cX1_tell 3 (some .int) 2 := ⟨g_196, g_197, g_38, g_198, by decide +kernel⟩
theorem m_X1_countHeldBy : mV yX1_countHeldBy cX1_countHeldBy 4 (some .int) 1 := ⟨g_201, g_1, g_38, g_202, by decide +kernel⟩
theorem m_X0_tell : mV yX0_tell cX0_tell 4 (some .int) 3 := ⟨g_204, g_205, g_39, g_206, by decide +kernel⟩
theorem m_X2_conjure : mV yX2_conjure cX2_conjure 5 (some .int) 3 := ⟨g_213, g_214, g_37, g_215, by decide +kernel⟩
theorem m_X2_isBody : mS yX2_isBody cX2_isBody 2 (some .boolean) 2 := ⟨g_217, g_37, g_218, by decide +kernel⟩
theorem m_X2_isWithin : mS yX2_isWithin cX2_isWithin 3 (some .boolean) 3 := ⟨g_220, g_37, g_221, by decide +kernel⟩
theorem m_X1_isFull : mV yX1_isFull cX1_isFull 1 (some .boolean) 0 := ⟨g_291, g_292, g_38, g_293, by decide +kernel⟩
theorem m_X1_addBySpell : mV yX1_addBySpell cX1_addBySpell 5 (some .int) 3 := ⟨g_311, g_312, g_38, g_313, by decide +kernel⟩
theorem m_X1_addByHolds : mV yX1_addByHolds cX1_addByHolds 6 (some .int) 4 := ⟨g_315, g_316, g_38, g_317, by decide +kernel⟩
theorem m_X1_giveWay : mV yX1_giveWay cX1_giveWay 3 none 0 := ⟨g_320, g_321, g_38, g_322, by decide +kernel⟩
theorem m_X1_measure : mV yX1_measure cX1_measure 2 none 0 := ⟨g_325, g_3, g_38, g_326, by decide +kernel⟩
theorem m_X1_bear : mV yX1_bear cX1_bear 3 none 2 := ⟨g_332, g_4, g_38, g_333, by decide +kernel⟩
theorem m_X1_tearOverpulled : mV yX1_tearOverpulled cX1_tearOverpulled 2 none 0 := ⟨g_336, g_5, g_38, g_337, by decide +kernel⟩
theorem m_X1_tearHoldsFrom : mV yX1_tearHoldsFrom cX1_tearHoldsFrom 3 none 1 := ⟨g_340, g_6, g_38, g_341, by decide +kernel⟩
theorem m_X1_endOverloaded : mV yX1_endOverloaded cX1_endOverloaded 2 none 0 := ⟨g_344, g_7, g_38, g_345, by decide +kernel⟩
theorem m_X1_endSpell : mV yX1_endSpell cX1_endSpell 2 none 1 := ⟨g_348, g_8, g_38, g_349, by decide +kernel⟩
theorem m_X1_dropLoose : mV yX1_dropLoose cX1_dropLoose 2 none 0 := ⟨g_352, g_9, g_38, g_353, by decide +kernel⟩
theorem m_X2_hang : mV yX2_hang cX2_hang 6 (some .int) 4 := ⟨g_359, g_360, g_37, g_361, by decide +kernel⟩
theorem m_X2_prop : mV yX2_prop cX2_prop 4 (some .int) 2 := ⟨g_387, g_388, g_37, g_389, by decide +kernel⟩
theorem m_X1_setProp : mV yX1_setProp cX1_setProp 3 none 2 := ⟨g_393, g_394, g_38, g_395, by decide +kernel⟩
theorem m_X2_renew : mV yX2_renew cX2_renew 4 (some .int) 2 := ⟨g_400, g_401, g_37, g_402, by decide +kernel⟩
theorem m_X1_hasSpell : mV yX1_hasSpell cX1_hasSpell 2 (some .boolean) 1 := ⟨g_405, g_406, g_38, g_407, by decide +kernel⟩
theorem m_X2_stair : mV yX2_stair cX2_stair 3 (some .int) 2 := ⟨g_413, g_414, g_37, g_415, by decide +kernel⟩
theorem m_X0_isFull : mV yX0_isFull cX0_isFull 1 (some .boolean) 0 := ⟨g_418, g_419, g_39, g_420, by decide +kernel⟩
theorem m_X0_add : mV yX0_add cX0_add 4 (some .int) 2 := ⟨g_423, g_424, g_39, g_425, by decide +kernel⟩
theorem m_X2_swap : mV yX2_swap cX2_swap 3 (some .boolean) 2 := ⟨g_431, g_432, g_37, g_433, by decide +kernel⟩
theorem m_X0_exchangeEnds : mV yX0_exchangeEnds cX0_exchangeEnds 4 (some .boolean) 2 := ⟨g_439, g_440, g_39, g_441, by decide +kernel⟩
theorem m_X2_joins : mV yX2_joins cX2_joins 3 (some .int) 2 := ⟨g_446, g_447, g_37, g_448, by decide +kernel⟩
theorem m_X2_steps : mV yX2_steps cX2_steps 3 (some .int) 2 := ⟨g_454, g_455, g_37, g_456, by decide +kernel⟩
theorem m_X0_fewestSteps : mV yX0_fewestSteps cX0_fewestSteps 6 (some .int) 3 := ⟨g_458, g_459, g_39, g_460, by decide +kernel⟩
theorem m_X0_reachFrom : mV yX0_reachFrom cX0_reachFrom 5 (some .boolean) 2 := ⟨g_464, g_10, g_39, g_465, by decide +kernel⟩
theorem m_X0_stepOver : mV yX0_stepOver cX0_stepOver 4 (some .boolean) 3 := ⟨g_468, g_11, g_39, g_469, by decide +kernel⟩
theorem m_X0_isPlace : mS yX0_isPlace cX0_isPlace 1 (some .boolean) 1 := ⟨g_471, g_39, g_472, by decide +kernel⟩
theorem m_X2_stone : mV yX2_stone cX2_stone 3 (some .int) 2 := ⟨g_477, g_478, g_37, g_479, by decide +kernel⟩
theorem m_X2_first : mV yX2_first cX2_first 2 (some .int) 1 := ⟨g_485, g_486, g_37, g_487, by decide +kernel⟩
theorem m_X1_topOf : mV yX1_topOf cX1_topOf 4 (some .int) 1 := ⟨g_489, g_490, g_38, g_491, by decide +kernel⟩
theorem m_X2_count : mV yX2_count cX2_count 2 (some .int) 1 := ⟨g_496, g_497, g_37, g_498, by decide +kernel⟩
theorem m_X2_pass : mV yX2_pass cX2_pass 3 (some .int) 1 := ⟨g_504, g_505, g_37, g_506, by decide +kernel⟩
theorem m_X1_liveDays : mV yX1_liveDays cX1_liveDays 3 none 1 := ⟨g_509, g_510, g_38, g_511, by decide +kernel⟩
theorem m_X1_liveDay : mV yX1_liveDay cX1_liveDay 1 none 0 := ⟨g_513, g_514, g_38, g_515, by decide +kernel⟩
theorem m_X1_fade : mV yX1_fade cX1_fade 2 none 0 := ⟨g_518, g_12, g_38, g_519, by decide +kernel⟩
theorem m_X2_without : mV yX2_without cX2_without 2 (some .int) 1 := ⟨g_525, g_526, g_37, g_527, by decide +kernel⟩
theorem m_X1_copyFrom : mV yX1_copyFrom cX1_copyFrom 3 none 1 := ⟨g_529, g_530, g_38, g_531, by decide +kernel⟩
theorem m_X1_cutLoose : mV yX1_cutLoose cX1_cutLoose 2 none 1 := ⟨g_533, g_534, g_38, g_535, by decide +kernel⟩
theorem m_X2_lasts : mV yX2_lasts cX2_lasts 3 (some .int) 1 := ⟨g_540, g_541, g_37, g_542, by decide +kernel⟩
theorem m_X2_foresee : mV yX2_foresee cX2_foresee 3 (some .int) 2 := ⟨g_548, g_549, g_37, g_550, by decide +kernel⟩
theorem m_X2_advise : mV yX2_advise cX2_advise 7 (some .int) 2 := ⟨g_555, g_556, g_37, g_557, by decide +kernel⟩
theorem m_X2_leftWithMore : mV yX2_leftWithMore cX2_leftWithMore 4 (some .int) 3 := ⟨g_561, g_13, g_37, g_562, by decide +kernel⟩
theorem m_X3_thrown : mV yX3_thrown cX3_thrown 1 (some .int) 0 := ⟨g_601, g_602, g_40, g_603, by decide +kernel⟩
theorem m_X3_conjure : mV yX3_conjure cX3_conjure 4 (some .int) 3 := ⟨g_605, g_606, g_40, g_607, by decide +kernel⟩
theorem m_X3_isIn : mS yX3_isIn cX3_isIn 3 (some .boolean) 3 := ⟨g_609, g_40, g_610, by decide +kernel⟩
theorem m_X3_fail : mV yX3_fail cX3_fail 2 (some .int) 1 := ⟨g_613, g_14, g_40, g_614, by decide +kernel⟩
theorem m_X3_stone : mV yX3_stone cX3_stone 7 (some .int) 5 := ⟨g_617, g_15, g_40, g_618, by decide +kernel⟩
theorem m_X3_giveWay : mV yX3_giveWay cX3_giveWay 3 none 0 := ⟨g_624, g_16, g_40, g_625, by decide +kernel⟩
theorem m_X3_reckon : mV yX3_reckon cX3_reckon 3 none 0 := ⟨g_628, g_17, g_40, g_629, by decide +kernel⟩
theorem m_X3_hangs : mV yX3_hangs cX3_hangs 2 (some .boolean) 1 := ⟨g_632, g_18, g_40, g_633, by decide +kernel⟩
theorem m_X3_to : mV yX3_to cX3_to 3 (some .int) 2 := ⟨g_636, g_19, g_40, g_637, by decide +kernel⟩
theorem m_X3_tear : mV yX3_tear cX3_tear 4 (some .boolean) 1 := ⟨g_641, g_20, g_40, g_642, by decide +kernel⟩
theorem m_X3_isHeldBy : mV yX3_isHeldBy cX3_isHeldBy 3 (some .boolean) 2 := ⟨g_645, g_21, g_40, g_646, by decide +kernel⟩
theorem m_X3_put : mV yX3_put cX3_put 4 none 3 := ⟨g_649, g_22, g_40, g_650, by decide +kernel⟩
theorem m_X3_drop : mV yX3_drop cX3_drop 2 none 0 := ⟨g_653, g_23, g_40, g_654, by decide +kernel⟩
theorem m_X3_fall : mV yX3_fall cX3_fall 3 none 1 := ⟨g_657, g_24, g_40, g_658, by decide +kernel⟩
theorem m_X3_st : mV yX3_st cX3_st 3 (some .int) 2 := ⟨g_661, g_25, g_40, g_662, by decide +kernel⟩
theorem m_X3_hang : mV yX3_hang cX3_hang 5 (some .int) 4 := ⟨g_664, g_665, g_40, g_666, by decide +kernel⟩
theorem m_X3_isStone : mV yX3_isStone cX3_isStone 2 (some .boolean) 1 := ⟨g_669, g_26, g_40, g_670, by decide +kernel⟩
theorem m_X3_prop : mV yX3_prop cX3_prop 4 (some .int) 2 := ⟨g_672, g_673, g_40, g_674, by decide +kernel⟩
theorem m_X3_hanging : mV yX3_hanging cX3_hanging 3 (some .int) 0 := ⟨g_677, g_27, g_40, g_678, by decide +kernel⟩
theorem m_X3_renew : mV yX3_renew cX3_renew 4 (some .int) 2 := ⟨g_680, g_681, g_40, g_682, by decide +kernel⟩
theorem m_X3_stair : mV yX3_stair cX3_stair 4 (some .int) 2 := ⟨g_684, g_685, g_40, g_686, by decide +kernel⟩
theorem m_X3_swap : mV yX3_swap cX3_swap 4 (some .boolean) 2 := ⟨g_688, g_689, g_40, g_690, by decide +kernel⟩
theorem m_X3_isStair : mV yX3_isStair cX3_isStair 2 (some .boolean) 1 := ⟨g_693, g_28, g_40, g_694, by decide +kernel⟩
theorem m_X3_joins : mV yX3_joins cX3_joins 3 (some .int) 2 := ⟨g_696, g_697, g_40, g_698, by decide +kernel⟩
theorem m_X3_steps : mV yX3_steps cX3_steps 5 (some .int) 2 := ⟨g_700, g_701, g_40, g_702, by decide +kernel⟩
theorem m_X3_stone_ : mV yX3_stone_ cX3_stone_ 3 (some .int) 2 := ⟨g_704, g_705, g_40, g_706, by decide +kernel⟩
theorem m_X3_stoneTold : mV yX3_stoneTold cX3_stoneTold 3 (some .int) 2 := ⟨g_709, g_29, g_40, g_710, by decide +kernel⟩
theorem m_X3_holdsFrom : mV yX3_holdsFrom cX3_holdsFrom 4 (some .int) 1 := ⟨g_713, g_30, g_40, g_714, by decide +kernel⟩
theorem m_X3_first : mV yX3_first cX3_first 3 (some .int) 1 := ⟨g_716, g_717, g_40, g_718, by decide +kernel⟩
theorem m_X3_count : mV yX3_count cX3_count 2 (some .int) 1 := ⟨g_720, g_721, g_40, g_722, by decide +kernel⟩
theorem m_X3_counted : mV yX3_counted cX3_counted 5 (some .int) 1 := ⟨g_725, g_31, g_40, g_726, by decide +kernel⟩
theorem m_X3_pass : mV yX3_pass cX3_pass 3 (some .int) 1 := ⟨g_728, g_729, g_40, g_730, by decide +kernel⟩
theorem m_X3_daysOn : mV yX3_daysOn cX3_daysOn 3 none 1 := ⟨g_733, g_32, g_40, g_734, by decide +kernel⟩
theorem m_X3_dayOn : mV yX3_dayOn cX3_dayOn 2 none 0 := ⟨g_737, g_33, g_40, g_738, by decide +kernel⟩
theorem m_X3_without : mV yX3_without cX3_without 5 (some .int) 1 := ⟨g_740, g_741, g_40, g_742, by decide +kernel⟩
theorem m_X3_bringBack : mV yX3_bringBack cX3_bringBack 2 none 1 := ⟨g_757, g_35, g_40, g_758, by decide +kernel⟩
theorem m_X3_lasts : mV yX3_lasts cX3_lasts 4 (some .int) 1 := ⟨g_760, g_761, g_40, g_762, by decide +kernel⟩
theorem m_X3_foresee : mV yX3_foresee cX3_foresee 5 (some .int) 2 := ⟨g_764, g_765, g_40, g_766, by decide +kernel⟩
theorem m_X3_advise : mV yX3_advise cX3_advise 8 (some .int) 2 := ⟨g_768, g_769, g_40, g_770, by decide +kernel⟩
theorem m_X3_mean : mV yX3_mean cX3_mean 3 (some .double) 0 := ⟨g_773, g_774, g_40, g_775, by decide +kernel⟩
theorem m_X3_digest : mV yX3_digest cX3_digest 5 (some .long) 0 := ⟨g_777, g_778, g_40, g_779, by decide +kernel⟩
end
section
/-! WHAT A STATE IS: the stones of one sky as eight rows of numbers (0 weight, 1 strength, 2 prop, 3 power, 4 first hold, 5 second hold, 6 load, 7 pull), who hangs, three numbers (0 hung, 1 hanging, 2 day), stale -/
abbrev St : Type := (Nat → Nat → Int32) × (Nat → Bool) × (Nat → Int32) × Bool
def bI (b : Bool) : Int32 := if b then 1 else 0
abbrev uA (S : St) (k j : Nat) (v : Int32) : St := (fun k' => if k' = k then upd (S.1 k) j v else S.1 k', S.2)
abbrev uH (S : St) (j : Nat) (b : Bool) : St := (S.1, (fun j' => if j' = j then b else S.2.1 j'), S.2.2)
abbrev uI (S : St) (k : Nat) (v : Int32) : St := (S.1, S.2.1, (fun k' => if k' = k then v else S.2.2.1 k'), S.2.2.2)
abbrev uS (S : St) (b : Bool) : St := (S.1, S.2.1, S.2.2.1, b)
abbrev stW (b : Nat) (S : St) : List va_E := [.inr (1, [.ref (b + 1), .ref (b + 2), .ref (b + 3), .ref (b + 4), .ref (b + 5), .ref (b + 6), .ref (b + 7), .ref (b + 8), .ref (b + 9), .int (S.2.2.1 0), .int (S.2.2.1 1), .int (S.2.2.1 2), .int (bI S.2.2.2)]), .inl (0, 40, .inl (S.1 0)), .inl (0, 40, .inl (S.1 1)), .inl (0, 40, .inl (S.1 2)), .inl (0, 40, .inl (S.1 3)), .inl (0, 40, .inl (S.1 4)), .inl (0, 40, .inl (S.1 5)), .inl (1, 40, .inl (fun j => bI (S.2.1 j))), .inl (0, 40, .inl (S.1 6)), .inl (0, 40, .inl (S.1 7))]
theorem bI_t : bI true = 1 := rfl
theorem bI_f : bI false = 0 := rfl
theorem bI_0 {b : Bool} : bI b = 0 ↔ b = false := by cases b <;> decide
theorem bI_n0 {b : Bool} : ¬ bI b = 0 ↔ b = true := by cases b <;> decide
theorem bI_nar (b : Bool) : narrow .boolean (.int (bI b)) = .int (bI b) := by cases b <;> rfl
theorem bI_vp (b : Bool) : vp_nar .boolean (bI b) = bI b := by cases b <;> rfl
theorem bI_fit (b : Bool) : fits .boolean (.int (bI b)) = true := by cases b <;> rfl
theorem upd_bI (f : Nat → Bool) (j : Nat) (b : Bool) : upd (fun i => bI (f i)) j (vp_nar .boolean (bI b)) = fun i => bI (if i = j then b else f i) := by
  rw [bI_vp]
  funext i
  by_cases h : i = j <;> simp [upd, h]
/-- a loop upwards -/
def fr {σ : Type} (f : Nat → σ → σ) : Nat → σ → σ
  | 0, s => s
  | n + 1, s => f n (fr f n s)
/-- a loop downwards: from n - 1 to 0 -/
def frD {σ : Type} (f : Nat → σ → σ) : Nat → σ → σ
  | 0, s => s
  | n + 1, s => frD f n (f n s)
theorem Zfor {σ : Type} (W : Nat → σ → Prop) (I : Nat → σ → Prop) (f : Nat → σ → σ) (n : Nat) (s0 : σ) (h0 : I 0 s0) (hI : ∀ i s, i < n → I i s → I (i + 1) (f i s)) (hx : ∀ s, I n s → s = fr f n s0 → W n s) (hs : ∀ i s, i < n → I i s → I (i + 1) (f i s) → W (i + 1) (f i s) → W i s) : W 0 s0 := by
  have key : ∀ d i s, i + d = n → I i s → s = fr f i s0 → W i s := by
    intro d
    induction d with
    | zero =>
      intro i s hi h e
      obtain rfl : i = n := by omega
      exact hx s h e
    | succ d ih =>
      intro i s hi h e
      have hi' := hI i s (by omega) h
      exact hs i s (by omega) h hi' (ih (i + 1) (f i s) (by omega) hi' (by rw [e]; rfl))
  exact key n 0 s0 (by omega) h0 rfl
theorem ge_no {H : Int32} {n i : Nat} (hn : H = nI n) (h40 : n ≤ 40) (hi : i < n) : ¬ H ≤ nI i := by rw [hn]; exact nI_ge hi (by omega)
theorem ge_yes {H : Int32} {n : Nat} (hn : H = nI n) : H ≤ nI n := by rw [hn]; exact Int32.le_refl _
theorem ix_of {H x : Int32} {n : Nat} (hn : H = nI n) (h40 : n ≤ 40) (h1 : ¬ x < 0) (h2 : ¬ H ≤ x) : ∃ j : Nat, j < n ∧ x = nI j := by
  obtain ⟨j, hj, rfl⟩ := nI_of h1
  rw [hn] at h2
  exact ⟨j, Nat.not_le.mp (fun q => h2 (nI_le q hj)), rfl⟩
section ZN
variable {p : Program} {l : Launch} {e : Env} {R : Room} {s : State} {m : MethodId} {args : Array Value} {below : List Frame} {meth : Method} {c : Code} {cc : ByteArray} {nL : Nat} {own : String} {G : gG} {A : Nat → Prop} {h : Nat → Nat} {Q : State → Prop} {k n : Nat} {ws ws' : List va_E} {pc : Nat} {L L' : List (Nat × Value)} {st : List Value}
theorem Z_iaN (C : Cx p s m args c cc nL own G A) {q N j : Nat} {f : Nat → Int32} {v : Int32} (d : decode cc pc = .ok (.iaload, 1)) (he : ws[q]? = some (.inl (0, N, .inl f))) (hj : j < N) (hN : N < 2 ^ 31) (hv : f j = v) (kk : Z p l e R s m args below meth c nL G A h Q k n ws (pc + 1) L (.int v :: st)) : Z p l e R s m args below meth c nL G A h Q k n ws pc L (.int (nI j) :: .ref q :: st) := Z_iald C d he (vp_in_nI hj hN) (by rw [nI_clamp (Nat.lt_trans hj hN)]; exact hv) kk
theorem Z_zaN (C : Cx p s m args c cc nL own G A) {q N j : Nat} {f : Nat → Int32} {v : Int32} (d : decode cc pc = .ok (.baload, 1)) (he : ws[q]? = some (.inl (1, N, .inl f))) (hj : j < N) (hN : N < 2 ^ 31) (hv : f j = v) (kk : Z p l e R s m args below meth c nL G A h Q k n ws (pc + 1) L (.int v :: st)) : Z p l e R s m args below meth c nL G A h Q k n ws pc L (.int (nI j) :: .ref q :: st) := Z_zald C d he (vp_in_nI hj hN) (by rw [nI_clamp (Nat.lt_trans hj hN)]; exact hv) kk
theorem Z_isN (C : Cx p s m args c cc nL own G A) {q N j : Nat} {f : Nat → Int32} {x : Int32} (d : decode cc pc = .ok (.iastore, 1)) (he : ws[q]? = some (.inl (0, N, .inl f))) (hj : j < N) (hN : N < 2 ^ 31) (hw : ws.set q (.inl (0, N, .inl (upd f j x))) = ws') (kk : Z p l e R s m args below meth c nL G A h Q k n ws' (pc + 1) L st) : Z p l e R s m args below meth c nL G A h Q k n ws pc L (.int x :: .int (nI j) :: .ref q :: st) := Z_iast C d he (vp_in_nI hj hN) (by rw [nI_clamp (Nat.lt_trans hj hN)]) hw kk
theorem Z_zsN (C : Cx p s m args c cc nL own G A) {q N j : Nat} {f : Nat → Bool} {b : Bool} {x : Int32} (d : decode cc pc = .ok (.bastore, 1)) (he : ws[q]? = some (.inl (1, N, .inl (fun i => bI (f i))))) (hx : x = bI b) (hj : j < N) (hN : N < 2 ^ 31) (hw : ws.set q (.inl (1, N, .inl (fun i => bI (if i = j then b else f i)))) = ws') (kk : Z p l e R s m args below meth c nL G A h Q k n ws' (pc + 1) L st) : Z p l e R s m args below meth c nL G A h Q k n ws pc L (.int x :: .int (nI j) :: .ref q :: st) := Z_zast C d he (vp_in_nI hj hN) (by rw [nI_clamp (Nat.lt_trans hj hN), hx, upd_bI]) hw kk
end ZN
end
section
/-! what the methods of the stones do, in numbers -/
def ix (x : Int32) : Nat := x.toNatClampNeg
theorem ix_nI {j : Nat} (h : j < 2 ^ 31) : ix (nI j) = j := nI_clamp h
abbrev nn (S : St) : Nat := ix (S.2.2.1 0)
theorem nn_eq {S : St} {n : Nat} (hn : S.2.2.1 0 = nI n) (h40 : n ≤ 40) : nn S = n := by unfold nn; rw [hn]; exact ix_nI (by omega)
theorem nI_inc (i : Nat) : nI i + Int32.ofInt 1 = nI (i + 1) := nI_1 i
def dn : Nat → Int32
  | 0 => -1
  | n + 1 => nI n
theorem dn_dec (i : Nat) : nI i + Int32.ofInt (-1) = dn i := by
  cases i with
  | zero => decide
  | succ n => exact pk_m1 n
theorem dn_sub (i : Nat) : nI i - 1 = dn i := by
  cases i with
  | zero => decide
  | succ n => exact nI_pred n
def mx (x y : Int32) : Int32 := if x < y then y else x
def mn (x y : Int32) : Int32 := if y < x then y else x
def hasB (S : St) (x : Int32) : Bool := !decide (x < 0) && !decide (S.2.2.1 0 ≤ x)
theorem has_ix {S : St} {x : Int32} {n : Nat} (hn : S.2.2.1 0 = nI n) (h40 : n ≤ 40) (h : hasB S x = true) : ∃ j : Nat, j < n ∧ x = nI j := by
  simp only [hasB, Bool.and_eq_true, Bool.not_eq_true', decide_eq_false_iff_not] at h
  exact ix_of hn h40 h.1 h.2
theorem has_nI {S : St} {n j : Nat} (hn : S.2.2.1 0 = nI n) (h40 : n ≤ 40) (hj : j < n) : hasB S (nI j) = true := by
  simp only [hasB, Bool.and_eq_true, Bool.not_eq_true', decide_eq_false_iff_not]
  exact ⟨nI_pos (by omega), by rw [hn]; exact nI_ge hj (by omega)⟩
def isFullB (S : St) : Bool := !decide (S.2.2.1 0 < 40)
def hangsB (S : St) (x : Int32) : Bool := hasB S x && S.2.1 (ix x)
def hasSpellB (S : St) (x : Int32) : Bool := hasB S x && !decide (S.1 3 (ix x) ≤ 0)
def bear (S : St) (x y : Int32) : St := if hasB S x then uA S 7 (ix x) (S.1 7 (ix x) + y) else S
def endSpell (S : St) (x : Int32) : St := if hasB S x then uS (uA S 3 (ix x) 0) true else S
def tear1 (x : Int32) (i : Nat) (S : St) : St := if S.1 4 i = x then uS (uA (uA S 4 i (S.1 5 i)) 5 i (-1)) true else if S.1 5 i = x then uS (uA S 5 i (-1)) true else S
def tearF (S : St) (x : Int32) : St := fr (tear1 x) (nn S) S
def tearO1 (i : Nat) (S : St) : St := if S.1 7 i ≤ S.1 1 i then S else tearF S (nI i)
def tearO (S : St) : St := fr tearO1 (nn S) S
def endO1 (i : Nat) (S : St) : St := if S.1 3 i ≤ 0 then S else if S.1 6 i ≤ S.1 3 i then S else endSpell S (nI i)
def endO (S : St) : St := fr endO1 (nn S) S
def meas0 (i : Nat) (S : St) : St := uA S 7 i 0
def measL (i : Nat) (S : St) : Int32 := if S.2.1 i then mx 0 (S.1 0 i + S.1 7 i - S.1 2 i) else 0
def measB (i : Nat) (S : St) : St := if S.1 5 i = -1 then bear S (S.1 4 i) (S.1 6 i) else bear (bear S (S.1 4 i) ((S.1 6 i + 1) / 2)) ((bear S (S.1 4 i) ((S.1 6 i + 1) / 2)).1 5 i) ((bear S (S.1 4 i) ((S.1 6 i + 1) / 2)).1 6 i / 2)
def meas1 (i : Nat) (S : St) : St := measB i (uA S 6 i (measL i S))
def measure (S : St) : St := uS (frD meas1 (nn S) (fr meas0 (nn S) S)) false
def drop1 (i : Nat) (S : St) : St := if S.2.1 i then if 0 < S.1 3 i then S else if S.1 4 i = -1 then tearF (uS (uI (uH S i false) 1 (S.2.2.1 1 - 1)) true) (nI i) else S else S
def dropL (S : St) : St := fr drop1 (nn S) S
theorem hk_bear (S : St) (x y : Int32) : (bear S x y).2.2.1 0 = S.2.2.1 0 := by unfold bear; split <;> rfl
theorem hk_endSpell (S : St) (x : Int32) : (endSpell S x).2.2.1 0 = S.2.2.1 0 := by unfold endSpell; split <;> rfl
theorem hk_tear1 (x : Int32) (i : Nat) (S : St) : (tear1 x i S).2.2.1 0 = S.2.2.1 0 := by unfold tear1; split; rfl; split <;> rfl
theorem hk_fr {f : Nat → St → St} (h : ∀ i S, (f i S).2.2.1 0 = S.2.2.1 0) (n : Nat) (S : St) : (fr f n S).2.2.1 0 = S.2.2.1 0 := by
  induction n with
  | zero => rfl
  | succ n ih => exact (h n _).trans ih
theorem hk_frD {f : Nat → St → St} (h : ∀ i S, (f i S).2.2.1 0 = S.2.2.1 0) (n : Nat) (S : St) : (frD f n S).2.2.1 0 = S.2.2.1 0 := by
  induction n generalizing S with
  | zero => rfl
  | succ n ih => exact (ih _).trans (h n _)
theorem hk_tearF (S : St) (x : Int32) : (tearF S x).2.2.1 0 = S.2.2.1 0 := hk_fr (hk_tear1 x) _ _
theorem hk_tearO1 (i : Nat) (S : St) : (tearO1 i S).2.2.1 0 = S.2.2.1 0 := by unfold tearO1; split; rfl; exact hk_tearF _ _
theorem hk_tearO (S : St) : (tearO S).2.2.1 0 = S.2.2.1 0 := hk_fr hk_tearO1 _ _
theorem hk_endO1 (i : Nat) (S : St) : (endO1 i S).2.2.1 0 = S.2.2.1 0 := by unfold endO1; split; rfl; split; rfl; exact hk_endSpell _ _
theorem hk_endO (S : St) : (endO S).2.2.1 0 = S.2.2.1 0 := hk_fr hk_endO1 _ _
theorem hk_measB (i : Nat) (S : St) : (measB i S).2.2.1 0 = S.2.2.1 0 := by
  unfold measB; split
  · exact hk_bear _ _ _
  · exact (hk_bear _ _ _).trans (hk_bear _ _ _)
theorem hk_meas1 (i : Nat) (S : St) : (meas1 i S).2.2.1 0 = S.2.2.1 0 := hk_measB _ _
theorem hk_measure (S : St) : (measure S).2.2.1 0 = S.2.2.1 0 := (hk_frD hk_meas1 _ _).trans (hk_fr (f := meas0) (fun _ _ => rfl) _ _)
theorem hk_drop1 (i : Nat) (S : St) : (drop1 i S).2.2.1 0 = S.2.2.1 0 := by
  unfold drop1; split
  · split
    · rfl
    · split
      · exact hk_tearF _ _
      · rfl
  · rfl
theorem hk_dropL (S : St) : (dropL S).2.2.1 0 = S.2.2.1 0 := hk_fr hk_drop1 _ _
theorem ZforD {σ : Type} (W : Nat → σ → Prop) (I : Nat → σ → Prop) (f : Nat → σ → σ) (n : Nat) (s0 : σ) (h0 : I n s0) (hI : ∀ i s, i < n → I (i + 1) s → I i (f i s)) (hx : ∀ s, I 0 s → s = frD f n s0 → W 0 s) (hs : ∀ i s, i < n → I (i + 1) s → I i (f i s) → W i (f i s) → W (i + 1) s) : W n s0 := by
  have key : ∀ i s, i ≤ n → I i s → frD f i s = frD f n s0 → W i s := by
    intro i
    induction i with
    | zero => intro s _ h e; exact hx s h e
    | succ i ih =>
      intro s hi h e
      have hi' := hI i s (by omega) h
      exact hs i s (by omega) h hi' (ih (f i s) (by omega) hi' (by rw [← e]; rfl))
  exact key n s0 (Nat.le_refl n) h0 rfl
end
section
set_option maxHeartbeats 4000000 in
set_option maxRecDepth 20000 in
theorem c_X1_has (S : St) (x : Int32) : CT yX1_has cX1_has 2 (some .boolean) 0 0 0 [.ref 0, .int x] (stW 0 S) (some (.int (bI (hasB S x)))) (stW 0 S) := by
  refine CT_of (L := [(0, .ref 0), (1, .int x)]) (by decide) (fun _ => rfl) (fun _ => Nat.le_of_ble_eq_true rfl) ?_
  intro p l e s m args below meth c G h A C hr hlk _
  refine Z_iload_n C dX1_has_0 rfl rfl ?_
  refine Z_if_lt C 16 dX1_has_1 (by decide) (fun c1 => ?_) (fun c1 => ?_)
  · refine Z_iconst C (v := 0) dX1_has_16 (by decide) ?_
    exact Z_zret C hr hlk dX1_has_17 rfl (congrArg (fun z => some (Value.int z)) (show (bI (hasB S x)) = 0 from by simp [hasB, bI, c1])) rfl
  · refine Z_iload_n C dX1_has_4 rfl rfl ?_
    refine Z_aload_n C dX1_has_5 rfl rfl ?_
    refine Z_get C K1 (v := .int (S.2.2.1 0)) 9 dX1_has_6 rfl (by decide) g_75 rfl rfl ?_
    refine Z_icmp_ge C 16 dX1_has_9 (by decide) (fun c2 => ?_) (fun c2 => ?_)
    · refine Z_iconst C (v := 0) dX1_has_16 (by decide) ?_
      exact Z_zret C hr hlk dX1_has_17 rfl (congrArg (fun z => some (Value.int z)) (show (bI (hasB S x)) = 0 from by simp [hasB, bI, c1, c2])) rfl
    · refine Z_iconst C (v := 1) dX1_has_12 (by decide) ?_
      refine Z_goto C 17 dX1_has_13 (by decide) ?_
      exact Z_zret C hr hlk dX1_has_17 rfl (congrArg (fun z => some (Value.int z)) (show (bI (hasB S x)) = 1 from by simp [hasB, bI, c1, c2])) rfl
set_option maxHeartbeats 4000000 in
set_option maxRecDepth 20000 in
theorem c_X1_isFull (S : St) : CT yX1_isFull cX1_isFull 1 (some .boolean) 0 0 0 [.ref 0] (stW 0 S) (some (.int (bI (isFullB S)))) (stW 0 S) := by
  refine CT_of (L := [(0, .ref 0)]) (by decide) (fun _ => rfl) (fun _ => Nat.le_of_ble_eq_true rfl) ?_
  intro p l e s m args below meth c G h A C hr hlk _
  refine Z_aload_n C dX1_isFull_0 rfl rfl ?_
  refine Z_get C K1 (v := .int (S.2.2.1 0)) 9 dX1_isFull_1 rfl (by decide) g_75 rfl rfl ?_
  refine Z_bipush C (v := 40) dX1_isFull_4 (by decide) ?_
  refine Z_icmp_lt C 13 dX1_isFull_6 (by decide) (fun c1 => ?_) (fun c1 => ?_)
  · refine Z_iconst C (v := 0) dX1_isFull_13 (by decide) ?_
    exact Z_zret C hr hlk dX1_isFull_14 rfl (congrArg (fun z => some (Value.int z)) (show (bI (isFullB S)) = 0 from by simp [isFullB, bI, c1])) rfl
  · refine Z_iconst C (v := 1) dX1_isFull_9 (by decide) ?_
    refine Z_goto C 14 dX1_isFull_10 (by decide) ?_
    exact Z_zret C hr hlk dX1_isFull_14 rfl (congrArg (fun z => some (Value.int z)) (show (bI (isFullB S)) = 1 from by simp [isFullB, bI, c1])) rfl
set_option maxHeartbeats 4000000 in
set_option maxRecDepth 20000 in
theorem c_X1_isHanging (S : St) (x : Int32) {n : Nat} (hn : S.2.2.1 0 = nI n) (h40 : n ≤ 40) : CT yX1_isHanging cX1_isHanging 2 (some .boolean) 1 0 0 [.ref 0, .int x] (stW 0 S) (some (.int (bI (hangsB S x)))) (stW 0 S) := by
  refine CT_of (L := [(0, .ref 0), (1, .int x)]) (by decide) (fun _ => rfl) (fun _ => Nat.le_of_ble_eq_true rfl) ?_
  intro p l e s m args below meth c G h A C hr hlk _
  refine Z_aload_n C dX1_isHanging_0 rfl rfl ?_
  refine Z_iload_n C dX1_isHanging_1 rfl rfl ?_
  refine Z_callV C (ws' := stW 0 S) (st' := [.int (bI (hasB S x))]) (rest := []) [0, 1, 2, 3, 4, 5, 6, 7, 8, 9] (c_X1_has S x) m_X1_has K1 g_179 dX1_isHanging_2 rfl rfl rfl (outR _ _ _) (NW := 10) rfl rfl rfl rfl rfl ⟨Nat.le_of_ble_eq_true rfl, Nat.le_of_ble_eq_true rfl⟩ ⟨Nat.le_of_ble_eq_true rfl, Nat.le_of_ble_eq_true rfl⟩ (Nat.le_of_ble_eq_true rfl) rfl ?_
  refine Z_if_eq C 21 dX1_isHanging_5 (by decide) (fun c1 => ?_) (fun c1 => ?_)
  · have c1 := bI_0.mp c1
    refine Z_iconst C (v := 0) dX1_isHanging_21 (by decide) ?_
    exact Z_zret C hr hlk dX1_isHanging_22 rfl (congrArg (fun z => some (Value.int z)) (show (bI (hangsB S x)) = 0 from by simp [hangsB, bI, c1])) rfl
  · have c1 := bI_n0.mp c1
    obtain ⟨j, hj, rfl⟩ := has_ix hn h40 c1
    have ej : ix (nI j) = j := ix_nI (by omega)
    refine Z_aload_n C dX1_isHanging_8 rfl rfl ?_
    refine Z_get C K1 (v := .ref 7) 6 dX1_isHanging_9 rfl (by decide) g_71 rfl rfl ?_
    refine Z_iload_n C dX1_isHanging_12 rfl rfl ?_
    refine Z_zaN C (v := bI (S.2.1 j)) dX1_isHanging_13 rfl (by omega) (by decide) rfl ?_
    refine Z_if_eq C 21 dX1_isHanging_14 (by decide) (fun c2 => ?_) (fun c2 => ?_)
    · have c2 := bI_0.mp c2
      refine Z_iconst C (v := 0) dX1_isHanging_21 (by decide) ?_
      exact Z_zret C hr hlk dX1_isHanging_22 rfl (congrArg (fun z => some (Value.int z)) (show (bI (hangsB S (nI j))) = 0 from by simp [hangsB, bI, c1, ej, c2])) rfl
    · have c2 := bI_n0.mp c2
      refine Z_iconst C (v := 1) dX1_isHanging_17 (by decide) ?_
      refine Z_goto C 22 dX1_isHanging_18 (by decide) ?_
      exact Z_zret C hr hlk dX1_isHanging_22 rfl (congrArg (fun z => some (Value.int z)) (show (bI (hangsB S (nI j))) = 1 from by simp [hangsB, bI, c1, ej, c2])) rfl
set_option maxHeartbeats 4000000 in
set_option maxRecDepth 20000 in
theorem c_X1_hasSpell (S : St) (x : Int32) {n : Nat} (hn : S.2.2.1 0 = nI n) (h40 : n ≤ 40) : CT yX1_hasSpell cX1_hasSpell 2 (some .boolean) 1 0 0 [.ref 0, .int x] (stW 0 S) (some (.int (bI (hasSpellB S x)))) (stW 0 S) := by
  refine CT_of (L := [(0, .ref 0), (1, .int x)]) (by decide) (fun _ => rfl) (fun _ => Nat.le_of_ble_eq_true rfl) ?_
  intro p l e s m args below meth c G h A C hr hlk _
  refine Z_aload_n C dX1_hasSpell_0 rfl rfl ?_
  refine Z_iload_n C dX1_hasSpell_1 rfl rfl ?_
  refine Z_callV C (ws' := stW 0 S) (st' := [.int (bI (hasB S x))]) (rest := []) [0, 1, 2, 3, 4, 5, 6, 7, 8, 9] (c_X1_has S x) m_X1_has K1 g_179 dX1_hasSpell_2 rfl rfl rfl (outR _ _ _) (NW := 10) rfl rfl rfl rfl rfl ⟨Nat.le_of_ble_eq_true rfl, Nat.le_of_ble_eq_true rfl⟩ ⟨Nat.le_of_ble_eq_true rfl, Nat.le_of_ble_eq_true rfl⟩ (Nat.le_of_ble_eq_true rfl) rfl ?_
  refine Z_if_eq C 21 dX1_hasSpell_5 (by decide) (fun c1 => ?_) (fun c1 => ?_)
  · have c1 := bI_0.mp c1
    refine Z_iconst C (v := 0) dX1_hasSpell_21 (by decide) ?_
    exact Z_zret C hr hlk dX1_hasSpell_22 rfl (congrArg (fun z => some (Value.int z)) (show (bI (hasSpellB S x)) = 0 from by simp [hasSpellB, bI, c1])) rfl
  · have c1 := bI_n0.mp c1
    obtain ⟨j, hj, rfl⟩ := has_ix hn h40 c1
    have ej : ix (nI j) = j := ix_nI (by omega)
    refine Z_aload_n C dX1_hasSpell_8 rfl rfl ?_
    refine Z_get C K1 (v := .ref 4) 3 dX1_hasSpell_9 rfl (by decide) g_67 rfl rfl ?_
    refine Z_iload_n C dX1_hasSpell_12 rfl rfl ?_
    refine Z_iaN C (v := S.1 3 j) dX1_hasSpell_13 rfl (by omega) (by decide) rfl ?_
    refine Z_if_le C 21 dX1_hasSpell_14 (by decide) (fun c2 => ?_) (fun c2 => ?_)
    · refine Z_iconst C (v := 0) dX1_hasSpell_21 (by decide) ?_
      exact Z_zret C hr hlk dX1_hasSpell_22 rfl (congrArg (fun z => some (Value.int z)) (show (bI (hasSpellB S (nI j))) = 0 from by simp [hasSpellB, bI, c1, ej, c2])) rfl
    · refine Z_iconst C (v := 1) dX1_hasSpell_17 (by decide) ?_
      refine Z_goto C 22 dX1_hasSpell_18 (by decide) ?_
      exact Z_zret C hr hlk dX1_hasSpell_22 rfl (congrArg (fun z => some (Value.int z)) (show (bI (hasSpellB S (nI j))) = 1 from by simp [hasSpellB, bI, c1, ej, c2])) rfl
set_option maxHeartbeats 4000000 in
set_option maxRecDepth 20000 in
theorem c_X1_bear (S : St) (x : Int32) (y : Int32) {n : Nat} (hn : S.2.2.1 0 = nI n) (h40 : n ≤ 40) : CT yX1_bear cX1_bear 3 none 0 0 0 [.ref 0, .int x, .int y] (stW 0 S) none (stW 0 (bear S x y)) := by
  refine CT_of (L := [(0, .ref 0), (1, .int x), (2, .int y)]) (by decide) (fun _ => rfl) (fun _ => Nat.le_of_ble_eq_true rfl) ?_
  intro p l e s m args below meth c G h A C hr hlk _
  refine Z_iload_n C dX1_bear_0 rfl rfl ?_
  refine Z_if_lt C 22 dX1_bear_1 (by decide) (fun c1 => ?_) (fun c1 => ?_)
  · exact Z_vret C hr hlk dX1_bear_22 rfl (by rw [show (bear S x y) = S from by simp [bear, hasB, c1]])
  · refine Z_iload_n C dX1_bear_4 rfl rfl ?_
    refine Z_aload_n C dX1_bear_5 rfl rfl ?_
    refine Z_get C K1 (v := .int (S.2.2.1 0)) 9 dX1_bear_6 rfl (by decide) g_75 rfl rfl ?_
    refine Z_icmp_ge C 22 dX1_bear_9 (by decide) (fun c2 => ?_) (fun c2 => ?_)
    · exact Z_vret C hr hlk dX1_bear_22 rfl (by rw [show (bear S x y) = S from by simp [bear, hasB, c1, c2]])
    · obtain ⟨j, hj, rfl⟩ := ix_of hn h40 c1 c2
      have ej : ix (nI j) = j := ix_nI (by omega)
      refine Z_aload_n C dX1_bear_12 rfl rfl ?_
      refine Z_get C K1 (v := .ref 9) 8 dX1_bear_13 rfl (by decide) g_74 rfl rfl ?_
      refine Z_iload_n C dX1_bear_16 rfl rfl ?_
      refine Z_dup2_11 C dX1_bear_17 rfl rfl ?_
      refine Z_iaN C (v := S.1 7 j) dX1_bear_18 rfl (by omega) (by decide) rfl ?_
      refine Z_iload_n C dX1_bear_19 rfl rfl ?_
      refine Z_iadd C (v := (S.1 7 j) + y) dX1_bear_20 rfl ?_
      refine Z_isN C (ws' := stW 0 (uA S 7 j ((S.1 7 j) + y))) dX1_bear_21 rfl (by omega) (by decide) rfl ?_
      exact Z_vret C hr hlk dX1_bear_22 rfl (by rw [show (bear S (nI j) y) = (uA S 7 j ((S.1 7 j) + y)) from by simp [bear, hasB, c1, c2, ej]])
set_option maxHeartbeats 4000000 in
set_option maxRecDepth 20000 in
theorem c_X1_endSpell (S : St) (x : Int32) {n : Nat} (hn : S.2.2.1 0 = nI n) (h40 : n ≤ 40) : CT yX1_endSpell cX1_endSpell 2 none 0 0 0 [.ref 0, .int x] (stW 0 S) none (stW 0 (endSpell S x)) := by
  refine CT_of (L := [(0, .ref 0), (1, .int x)]) (by decide) (fun _ => rfl) (fun _ => Nat.le_of_ble_eq_true rfl) ?_
  intro p l e s m args below meth c G h A C hr hlk _
  refine Z_iload_n C dX1_endSpell_0 rfl rfl ?_
  refine Z_if_lt C 24 dX1_endSpell_1 (by decide) (fun c1 => ?_) (fun c1 => ?_)
  · exact Z_vret C hr hlk dX1_endSpell_24 rfl (by rw [show (endSpell S x) = S from by simp [endSpell, hasB, c1]])
  · refine Z_iload_n C dX1_endSpell_4 rfl rfl ?_
    refine Z_aload_n C dX1_endSpell_5 rfl rfl ?_
    refine Z_get C K1 (v := .int (S.2.2.1 0)) 9 dX1_endSpell_6 rfl (by decide) g_75 rfl rfl ?_
    refine Z_icmp_ge C 24 dX1_endSpell_9 (by decide) (fun c2 => ?_) (fun c2 => ?_)
    · exact Z_vret C hr hlk dX1_endSpell_24 rfl (by rw [show (endSpell S x) = S from by simp [endSpell, hasB, c1, c2]])
    · obtain ⟨j, hj, rfl⟩ := ix_of hn h40 c1 c2
      have ej : ix (nI j) = j := ix_nI (by omega)
      refine Z_aload_n C dX1_endSpell_12 rfl rfl ?_
      refine Z_get C K1 (v := .ref 4) 3 dX1_endSpell_13 rfl (by decide) g_67 rfl rfl ?_
      refine Z_iload_n C dX1_endSpell_16 rfl rfl ?_
      refine Z_iconst C (v := 0) dX1_endSpell_17 (by decide) ?_
      refine Z_isN C (ws' := stW 0 (uA S 3 j 0)) dX1_endSpell_18 rfl (by omega) (by decide) rfl ?_
      refine Z_aload_n C dX1_endSpell_19 rfl rfl ?_
      refine Z_iconst C (v := 1) dX1_endSpell_20 (by decide) ?_
      refine Z_put C K1 (ws' := stW 0 (uS (uA S 3 j 0) true)) 12 dX1_endSpell_21 rfl (by decide) g_81 rfl rfl rfl rfl rfl (Nat.le_of_ble_eq_true rfl) rfl ?_
      exact Z_vret C hr hlk dX1_endSpell_24 rfl (by rw [show (endSpell S (nI j)) = (uS (uA S 3 j 0) true) from by simp [endSpell, hasB, c1, c2, ej]])
end
section
set_option maxHeartbeats 4000000 in
set_option maxRecDepth 20000 in
theorem c_X1_tearHoldsFrom (S : St) (x : Int32) {n : Nat} (hn : S.2.2.1 0 = nI n) (h40 : n ≤ 40) : CT yX1_tearHoldsFrom cX1_tearHoldsFrom 3 none 0 0 0 [.ref 0, .int x] (stW 0 S) none (stW 0 (tearF S x)) := by
  refine CT_of (L := [(0, .ref 0), (1, .int x)]) (by decide) (fun _ => rfl) (fun _ => Nat.le_of_ble_eq_true rfl) ?_
  intro p l e s m args below meth c G h A C hr hlk _
  refine Z_iconst C (v := 0) dX1_tearHoldsFrom_0 (by decide) ?_
  refine Z_istore_n C (L' := [(2, .int 0), (0, .ref 0), (1, .int x)]) dX1_tearHoldsFrom_1 rfl (by decide) rfl ?_
  refine Zfor (σ := St) (fun i T1 => Z p l e _ s m args below meth c 3 G A h _ 0 0 (stW 0 T1) 2 [(2, .int (nI i)), (0, .ref 0), (1, .int x)] []) (fun i T1 => T1.2.2.1 0 = nI n) (tear1 x) n (S) hn (fun i T1 hi hT1 => (hk_tear1 _ _ _).trans hT1) (fun T1 hT1 eT1 => ?_) (fun i T1 hi hT1 hT1' kk => ?_)
  · refine Z_iload_n C dX1_tearHoldsFrom_2 rfl rfl ?_
    refine Z_aload_n C dX1_tearHoldsFrom_3 rfl rfl ?_
    refine Z_get C K1 (v := .int (T1.2.2.1 0)) 9 dX1_tearHoldsFrom_4 rfl (by decide) g_75 rfl rfl ?_
    refine Z_icmp_ge C 75 dX1_tearHoldsFrom_7 (by decide) (fun c1 => ?_) (fun c1 => absurd (ge_yes hT1) c1)
    exact Z_vret C hr hlk dX1_tearHoldsFrom_75 rfl (by rw [show (tearF S x) = T1 from by subst eT1; simp only [tearF, nn_eq hn h40]])
  · refine Z_iload_n C dX1_tearHoldsFrom_2 rfl rfl ?_
    refine Z_aload_n C dX1_tearHoldsFrom_3 rfl rfl ?_
    refine Z_get C K1 (v := .int (T1.2.2.1 0)) 9 dX1_tearHoldsFrom_4 rfl (by decide) g_75 rfl rfl ?_
    refine Z_icmp_ge C 75 dX1_tearHoldsFrom_7 (by decide) (fun c2 => absurd c2 (ge_no hT1 h40 hi)) (fun c2 => ?_)
    refine Z_aload_n C dX1_tearHoldsFrom_10 rfl rfl ?_
    refine Z_get C K1 (v := .ref 5) 4 dX1_tearHoldsFrom_11 rfl (by decide) g_69 rfl rfl ?_
    refine Z_iload_n C dX1_tearHoldsFrom_14 rfl rfl ?_
    refine Z_iaN C (v := T1.1 4 i) dX1_tearHoldsFrom_15 rfl (by omega) (by decide) rfl ?_
    refine Z_iload_n C dX1_tearHoldsFrom_16 rfl rfl ?_
    refine Z_icmp_ne C 47 dX1_tearHoldsFrom_17 (by decide) (fun c3 => ?_) (fun c3 => ?_)
    · refine Z_aload_n C dX1_tearHoldsFrom_47 rfl rfl ?_
      refine Z_get C K1 (v := .ref 6) 5 dX1_tearHoldsFrom_48 rfl (by decide) g_70 rfl rfl ?_
      refine Z_iload_n C dX1_tearHoldsFrom_51 rfl rfl ?_
      refine Z_iaN C (v := T1.1 5 i) dX1_tearHoldsFrom_52 rfl (by omega) (by decide) rfl ?_
      refine Z_iload_n C dX1_tearHoldsFrom_53 rfl rfl ?_
      refine Z_icmp_ne C 69 dX1_tearHoldsFrom_54 (by decide) (fun c4 => ?_) (fun c4 => ?_)
      · refine Z_iinc C (L' := [(2, .int (nI (i + 1))), (0, .ref 0), (1, .int x)]) (v := nI (i + 1)) dX1_tearHoldsFrom_69 rfl (nI_inc _) (by decide) rfl ?_
        refine Z_goto C 2 dX1_tearHoldsFrom_72 (by decide) ?_
        rw [show (tear1 x) i T1 = T1 from by simp [tear1, c2, c3, c4]] at kk
        exact Z_sub (by simp [bI_t, bI_f]) kk
      · refine Z_aload_n C dX1_tearHoldsFrom_57 rfl rfl ?_
        refine Z_get C K1 (v := .ref 6) 5 dX1_tearHoldsFrom_58 rfl (by decide) g_70 rfl rfl ?_
        refine Z_iload_n C dX1_tearHoldsFrom_61 rfl rfl ?_
        refine Z_iconst C (v := (-1)) dX1_tearHoldsFrom_62 (by decide) ?_
        refine Z_isN C (ws' := stW 0 (uA T1 5 i (-1))) dX1_tearHoldsFrom_63 rfl (by omega) (by decide) rfl ?_
        refine Z_aload_n C dX1_tearHoldsFrom_64 rfl rfl ?_
        refine Z_iconst C (v := 1) dX1_tearHoldsFrom_65 (by decide) ?_
        refine Z_put C K1 (ws' := stW 0 (uS (uA T1 5 i (-1)) true)) 12 dX1_tearHoldsFrom_66 rfl (by decide) g_81 rfl rfl rfl rfl rfl (Nat.le_of_ble_eq_true rfl) rfl ?_
        refine Z_iinc C (L' := [(2, .int (nI (i + 1))), (0, .ref 0), (1, .int x)]) (v := nI (i + 1)) dX1_tearHoldsFrom_69 rfl (nI_inc _) (by decide) rfl ?_
        refine Z_goto C 2 dX1_tearHoldsFrom_72 (by decide) ?_
        rw [show (tear1 x) i T1 = (uS (uA T1 5 i (-1)) true) from by simp [tear1, c2, c3, c4]] at kk
        exact Z_sub (by simp [bI_t, bI_f]) kk
    · refine Z_aload_n C dX1_tearHoldsFrom_20 rfl rfl ?_
      refine Z_get C K1 (v := .ref 5) 4 dX1_tearHoldsFrom_21 rfl (by decide) g_69 rfl rfl ?_
      refine Z_iload_n C dX1_tearHoldsFrom_24 rfl rfl ?_
      refine Z_aload_n C dX1_tearHoldsFrom_25 rfl rfl ?_
      refine Z_get C K1 (v := .ref 6) 5 dX1_tearHoldsFrom_26 rfl (by decide) g_70 rfl rfl ?_
      refine Z_iload_n C dX1_tearHoldsFrom_29 rfl rfl ?_
      refine Z_iaN C (v := T1.1 5 i) dX1_tearHoldsFrom_30 rfl (by omega) (by decide) rfl ?_
      refine Z_isN C (ws' := stW 0 (uA T1 4 i (T1.1 5 i))) dX1_tearHoldsFrom_31 rfl (by omega) (by decide) rfl ?_
      refine Z_aload_n C dX1_tearHoldsFrom_32 rfl rfl ?_
      refine Z_get C K1 (v := .ref 6) 5 dX1_tearHoldsFrom_33 rfl (by decide) g_70 rfl rfl ?_
      refine Z_iload_n C dX1_tearHoldsFrom_36 rfl rfl ?_
      refine Z_iconst C (v := (-1)) dX1_tearHoldsFrom_37 (by decide) ?_
      refine Z_isN C (ws' := stW 0 (uA (uA T1 4 i (T1.1 5 i)) 5 i (-1))) dX1_tearHoldsFrom_38 rfl (by omega) (by decide) rfl ?_
      refine Z_aload_n C dX1_tearHoldsFrom_39 rfl rfl ?_
      refine Z_iconst C (v := 1) dX1_tearHoldsFrom_40 (by decide) ?_
      refine Z_put C K1 (ws' := stW 0 (uS (uA (uA T1 4 i (T1.1 5 i)) 5 i (-1)) true)) 12 dX1_tearHoldsFrom_41 rfl (by decide) g_81 rfl rfl rfl rfl rfl (Nat.le_of_ble_eq_true rfl) rfl ?_
      refine Z_goto C 69 dX1_tearHoldsFrom_44 (by decide) ?_
      refine Z_iinc C (L' := [(2, .int (nI (i + 1))), (0, .ref 0), (1, .int x)]) (v := nI (i + 1)) dX1_tearHoldsFrom_69 rfl (nI_inc _) (by decide) rfl ?_
      refine Z_goto C 2 dX1_tearHoldsFrom_72 (by decide) ?_
      rw [show (tear1 x) i T1 = (uS (uA (uA T1 4 i (T1.1 5 i)) 5 i (-1)) true) from by simp [tear1, c2, c3]] at kk
      exact Z_sub (by simp [bI_t, bI_f]) kk
set_option maxHeartbeats 4000000 in
set_option maxRecDepth 20000 in
theorem c_X1_tearOverpulled (S : St) {n : Nat} (hn : S.2.2.1 0 = nI n) (h40 : n ≤ 40) : CT yX1_tearOverpulled cX1_tearOverpulled 2 none 1 0 0 [.ref 0] (stW 0 S) none (stW 0 (tearO S)) := by
  refine CT_of (L := [(0, .ref 0)]) (by decide) (fun _ => rfl) (fun _ => Nat.le_of_ble_eq_true rfl) ?_
  intro p l e s m args below meth c G h A C hr hlk _
  refine Z_iconst C (v := 0) dX1_tearOverpulled_0 (by decide) ?_
  refine Z_istore_n C (L' := [(1, .int 0), (0, .ref 0)]) dX1_tearOverpulled_1 rfl (by decide) rfl ?_
  refine Zfor (σ := St) (fun i T1 => Z p l e _ s m args below meth c 2 G A h _ 0 0 (stW 0 T1) 2 [(1, .int (nI i)), (0, .ref 0)] []) (fun i T1 => T1.2.2.1 0 = nI n) (tearO1) n (S) hn (fun i T1 hi hT1 => (hk_tearO1 _ _).trans hT1) (fun T1 hT1 eT1 => ?_) (fun i T1 hi hT1 hT1' kk => ?_)
  · refine Z_iload_n C dX1_tearOverpulled_2 rfl rfl ?_
    refine Z_aload_n C dX1_tearOverpulled_3 rfl rfl ?_
    refine Z_get C K1 (v := .int (T1.2.2.1 0)) 9 dX1_tearOverpulled_4 rfl (by decide) g_75 rfl rfl ?_
    refine Z_icmp_ge C 36 dX1_tearOverpulled_7 (by decide) (fun c1 => ?_) (fun c1 => absurd (ge_yes hT1) c1)
    exact Z_vret C hr hlk dX1_tearOverpulled_36 rfl (by rw [show (tearO S) = T1 from by subst eT1; simp only [tearO, nn_eq hn h40]])
  · refine Z_iload_n C dX1_tearOverpulled_2 rfl rfl ?_
    refine Z_aload_n C dX1_tearOverpulled_3 rfl rfl ?_
    refine Z_get C K1 (v := .int (T1.2.2.1 0)) 9 dX1_tearOverpulled_4 rfl (by decide) g_75 rfl rfl ?_
    refine Z_icmp_ge C 36 dX1_tearOverpulled_7 (by decide) (fun c2 => absurd c2 (ge_no hT1 h40 hi)) (fun c2 => ?_)
    refine Z_aload_n C dX1_tearOverpulled_10 rfl rfl ?_
    refine Z_get C K1 (v := .ref 9) 8 dX1_tearOverpulled_11 rfl (by decide) g_74 rfl rfl ?_
    refine Z_iload_n C dX1_tearOverpulled_14 rfl rfl ?_
    refine Z_iaN C (v := T1.1 7 i) dX1_tearOverpulled_15 rfl (by omega) (by decide) rfl ?_
    refine Z_aload_n C dX1_tearOverpulled_16 rfl rfl ?_
    refine Z_get C K1 (v := .ref 2) 1 dX1_tearOverpulled_17 rfl (by decide) g_64 rfl rfl ?_
    refine Z_iload_n C dX1_tearOverpulled_20 rfl rfl ?_
    refine Z_iaN C (v := T1.1 1 i) dX1_tearOverpulled_21 rfl (by omega) (by decide) rfl ?_
    refine Z_icmp_le C 30 dX1_tearOverpulled_22 (by decide) (fun c3 => ?_) (fun c3 => ?_)
    · refine Z_iinc C (L' := [(1, .int (nI (i + 1))), (0, .ref 0)]) (v := nI (i + 1)) dX1_tearOverpulled_30 rfl (nI_inc _) (by decide) rfl ?_
      refine Z_goto C 2 dX1_tearOverpulled_33 (by decide) ?_
      rw [show tearO1 i T1 = T1 from by simp [tearO1, c2, c3]] at kk
      exact Z_sub (by simp [bI_t, bI_f]) kk
    · refine Z_aload_n C dX1_tearOverpulled_25 rfl rfl ?_
      refine Z_iload_n C dX1_tearOverpulled_26 rfl rfl ?_
      refine Z_callV C (ws' := stW 0 (tearF T1 (nI i))) (st' := []) (rest := []) [0, 1, 2, 3, 4, 5, 6, 7, 8, 9] (c_X1_tearHoldsFrom T1 (nI i) hT1 h40) m_X1_tearHoldsFrom K1 g_338 dX1_tearOverpulled_27 rfl rfl rfl (outL 10 rfl rfl rfl) (NW := 10) rfl rfl rfl rfl rfl ⟨Nat.le_of_ble_eq_true rfl, Nat.le_of_ble_eq_true rfl⟩ ⟨Nat.le_of_ble_eq_true rfl, Nat.le_of_ble_eq_true rfl⟩ (Nat.le_of_ble_eq_true rfl) rfl ?_
      refine Z_ws (fun X1 => stW 0 X1) (tearF T1 (nI i)) (fun X1 eX1 => ?_)
      refine Z_iinc C (L' := [(1, .int (nI (i + 1))), (0, .ref 0)]) (v := nI (i + 1)) dX1_tearOverpulled_30 rfl (nI_inc _) (by decide) rfl ?_
      refine Z_goto C 2 dX1_tearOverpulled_33 (by decide) ?_
      rw [show tearO1 i T1 = X1 from by subst eX1; simp [tearO1, c2, c3]] at kk
      exact Z_sub (by simp [bI_t, bI_f]) kk
set_option maxHeartbeats 4000000 in
set_option maxRecDepth 20000 in
theorem c_X1_endOverloaded (S : St) {n : Nat} (hn : S.2.2.1 0 = nI n) (h40 : n ≤ 40) : CT yX1_endOverloaded cX1_endOverloaded 2 none 1 0 0 [.ref 0] (stW 0 S) none (stW 0 (endO S)) := by
  refine CT_of (L := [(0, .ref 0)]) (by decide) (fun _ => rfl) (fun _ => Nat.le_of_ble_eq_true rfl) ?_
  intro p l e s m args below meth c G h A C hr hlk _
  refine Z_iconst C (v := 0) dX1_endOverloaded_0 (by decide) ?_
  refine Z_istore_n C (L' := [(1, .int 0), (0, .ref 0)]) dX1_endOverloaded_1 rfl (by decide) rfl ?_
  refine Zfor (σ := St) (fun i T1 => Z p l e _ s m args below meth c 2 G A h _ 0 0 (stW 0 T1) 2 [(1, .int (nI i)), (0, .ref 0)] []) (fun i T1 => T1.2.2.1 0 = nI n) (endO1) n (S) hn (fun i T1 hi hT1 => (hk_endO1 _ _).trans hT1) (fun T1 hT1 eT1 => ?_) (fun i T1 hi hT1 hT1' kk => ?_)
  · refine Z_iload_n C dX1_endOverloaded_2 rfl rfl ?_
    refine Z_aload_n C dX1_endOverloaded_3 rfl rfl ?_
    refine Z_get C K1 (v := .int (T1.2.2.1 0)) 9 dX1_endOverloaded_4 rfl (by decide) g_75 rfl rfl ?_
    refine Z_icmp_ge C 45 dX1_endOverloaded_7 (by decide) (fun c1 => ?_) (fun c1 => absurd (ge_yes hT1) c1)
    exact Z_vret C hr hlk dX1_endOverloaded_45 rfl (by rw [show (endO S) = T1 from by subst eT1; simp only [endO, nn_eq hn h40]])
  · refine Z_iload_n C dX1_endOverloaded_2 rfl rfl ?_
    refine Z_aload_n C dX1_endOverloaded_3 rfl rfl ?_
    refine Z_get C K1 (v := .int (T1.2.2.1 0)) 9 dX1_endOverloaded_4 rfl (by decide) g_75 rfl rfl ?_
    refine Z_icmp_ge C 45 dX1_endOverloaded_7 (by decide) (fun c2 => absurd c2 (ge_no hT1 h40 hi)) (fun c2 => ?_)
    refine Z_aload_n C dX1_endOverloaded_10 rfl rfl ?_
    refine Z_get C K1 (v := .ref 4) 3 dX1_endOverloaded_11 rfl (by decide) g_67 rfl rfl ?_
    refine Z_iload_n C dX1_endOverloaded_14 rfl rfl ?_
    refine Z_iaN C (v := T1.1 3 i) dX1_endOverloaded_15 rfl (by omega) (by decide) rfl ?_
    refine Z_if_le C 39 dX1_endOverloaded_16 (by decide) (fun c3 => ?_) (fun c3 => ?_)
    · refine Z_iinc C (L' := [(1, .int (nI (i + 1))), (0, .ref 0)]) (v := nI (i + 1)) dX1_endOverloaded_39 rfl (nI_inc _) (by decide) rfl ?_
      refine Z_goto C 2 dX1_endOverloaded_42 (by decide) ?_
      rw [show endO1 i T1 = T1 from by simp [endO1, c2, c3]] at kk
      exact Z_sub (by simp [bI_t, bI_f]) kk
    · refine Z_aload_n C dX1_endOverloaded_19 rfl rfl ?_
      refine Z_get C K1 (v := .ref 4) 3 dX1_endOverloaded_20 rfl (by decide) g_67 rfl rfl ?_
      refine Z_iload_n C dX1_endOverloaded_23 rfl rfl ?_
      refine Z_iaN C (v := T1.1 3 i) dX1_endOverloaded_24 rfl (by omega) (by decide) rfl ?_
      refine Z_aload_n C dX1_endOverloaded_25 rfl rfl ?_
      refine Z_get C K1 (v := .ref 8) 7 dX1_endOverloaded_26 rfl (by decide) g_72 rfl rfl ?_
      refine Z_iload_n C dX1_endOverloaded_29 rfl rfl ?_
      refine Z_iaN C (v := T1.1 6 i) dX1_endOverloaded_30 rfl (by omega) (by decide) rfl ?_
      refine Z_icmp_ge C 39 dX1_endOverloaded_31 (by decide) (fun c4 => ?_) (fun c4 => ?_)
      · refine Z_iinc C (L' := [(1, .int (nI (i + 1))), (0, .ref 0)]) (v := nI (i + 1)) dX1_endOverloaded_39 rfl (nI_inc _) (by decide) rfl ?_
        refine Z_goto C 2 dX1_endOverloaded_42 (by decide) ?_
        rw [show endO1 i T1 = T1 from by simp [endO1, c2, c3, c4]] at kk
        exact Z_sub (by simp [bI_t, bI_f]) kk
      · refine Z_aload_n C dX1_endOverloaded_34 rfl rfl ?_
        refine Z_iload_n C dX1_endOverloaded_35 rfl rfl ?_
        refine Z_callV C (ws' := stW 0 (endSpell T1 (nI i))) (st' := []) (rest := []) [0, 1, 2, 3, 4, 5, 6, 7, 8, 9] (c_X1_endSpell T1 (nI i) hT1 h40) m_X1_endSpell K1 g_346 dX1_endOverloaded_36 rfl rfl rfl (outL 10 rfl rfl rfl) (NW := 10) rfl rfl rfl rfl rfl ⟨Nat.le_of_ble_eq_true rfl, Nat.le_of_ble_eq_true rfl⟩ ⟨Nat.le_of_ble_eq_true rfl, Nat.le_of_ble_eq_true rfl⟩ (Nat.le_of_ble_eq_true rfl) rfl ?_
        refine Z_ws (fun X1 => stW 0 X1) (endSpell T1 (nI i)) (fun X1 eX1 => ?_)
        refine Z_iinc C (L' := [(1, .int (nI (i + 1))), (0, .ref 0)]) (v := nI (i + 1)) dX1_endOverloaded_39 rfl (nI_inc _) (by decide) rfl ?_
        refine Z_goto C 2 dX1_endOverloaded_42 (by decide) ?_
        rw [show endO1 i T1 = X1 from by subst eX1; simp [endO1, c2, c3, c4]] at kk
        exact Z_sub (by simp [bI_t, bI_f]) kk
set_option maxHeartbeats 4000000 in
set_option maxRecDepth 20000 in
theorem c_X1_dropLoose (S : St) {n : Nat} (hn : S.2.2.1 0 = nI n) (h40 : n ≤ 40) : CT yX1_dropLoose cX1_dropLoose 2 none 1 0 0 [.ref 0] (stW 0 S) none (stW 0 (dropL S)) := by
  refine CT_of (L := [(0, .ref 0)]) (by decide) (fun _ => rfl) (fun _ => Nat.le_of_ble_eq_true rfl) ?_
  intro p l e s m args below meth c G h A C hr hlk _
  refine Z_iconst C (v := 0) dX1_dropLoose_0 (by decide) ?_
  refine Z_istore_n C (L' := [(1, .int 0), (0, .ref 0)]) dX1_dropLoose_1 rfl (by decide) rfl ?_
  refine Zfor (σ := St) (fun i T1 => Z p l e _ s m args below meth c 2 G A h _ 0 0 (stW 0 T1) 2 [(1, .int (nI i)), (0, .ref 0)] []) (fun i T1 => T1.2.2.1 0 = nI n) (drop1) n (S) hn (fun i T1 hi hT1 => (hk_drop1 _ _).trans hT1) (fun T1 hT1 eT1 => ?_) (fun i T1 hi hT1 hT1' kk => ?_)
  · refine Z_iload_n C dX1_dropLoose_2 rfl rfl ?_
    refine Z_aload_n C dX1_dropLoose_3 rfl rfl ?_
    refine Z_get C K1 (v := .int (T1.2.2.1 0)) 9 dX1_dropLoose_4 rfl (by decide) g_75 rfl rfl ?_
    refine Z_icmp_ge C 71 dX1_dropLoose_7 (by decide) (fun c1 => ?_) (fun c1 => absurd (ge_yes hT1) c1)
    exact Z_vret C hr hlk dX1_dropLoose_71 rfl (by rw [show (dropL S) = T1 from by subst eT1; simp only [dropL, nn_eq hn h40]])
  · refine Z_iload_n C dX1_dropLoose_2 rfl rfl ?_
    refine Z_aload_n C dX1_dropLoose_3 rfl rfl ?_
    refine Z_get C K1 (v := .int (T1.2.2.1 0)) 9 dX1_dropLoose_4 rfl (by decide) g_75 rfl rfl ?_
    refine Z_icmp_ge C 71 dX1_dropLoose_7 (by decide) (fun c2 => absurd c2 (ge_no hT1 h40 hi)) (fun c2 => ?_)
    refine Z_aload_n C dX1_dropLoose_10 rfl rfl ?_
    refine Z_get C K1 (v := .ref 7) 6 dX1_dropLoose_11 rfl (by decide) g_71 rfl rfl ?_
    refine Z_iload_n C dX1_dropLoose_14 rfl rfl ?_
    refine Z_zaN C (v := bI (T1.2.1 i)) dX1_dropLoose_15 rfl (by omega) (by decide) rfl ?_
    refine Z_if_eq C 65 dX1_dropLoose_16 (by decide) (fun c3 => ?_) (fun c3 => ?_)
    · have c3 := bI_0.mp c3
      refine Z_iinc C (L' := [(1, .int (nI (i + 1))), (0, .ref 0)]) (v := nI (i + 1)) dX1_dropLoose_65 rfl (nI_inc _) (by decide) rfl ?_
      refine Z_goto C 2 dX1_dropLoose_68 (by decide) ?_
      rw [show drop1 i T1 = T1 from by simp [drop1, c2, c3]] at kk
      exact Z_sub (by simp [bI_t, bI_f]) kk
    · have c3 := bI_n0.mp c3
      refine Z_aload_n C dX1_dropLoose_19 rfl rfl ?_
      refine Z_get C K1 (v := .ref 4) 3 dX1_dropLoose_20 rfl (by decide) g_67 rfl rfl ?_
      refine Z_iload_n C dX1_dropLoose_23 rfl rfl ?_
      refine Z_iaN C (v := T1.1 3 i) dX1_dropLoose_24 rfl (by omega) (by decide) rfl ?_
      refine Z_if_gt C 65 dX1_dropLoose_25 (by decide) (fun c4 => ?_) (fun c4 => ?_)
      · refine Z_iinc C (L' := [(1, .int (nI (i + 1))), (0, .ref 0)]) (v := nI (i + 1)) dX1_dropLoose_65 rfl (nI_inc _) (by decide) rfl ?_
        refine Z_goto C 2 dX1_dropLoose_68 (by decide) ?_
        rw [show drop1 i T1 = T1 from by simp [drop1, c2, c3, c4]] at kk
        exact Z_sub (by simp [bI_t, bI_f]) kk
      · refine Z_aload_n C dX1_dropLoose_28 rfl rfl ?_
        refine Z_get C K1 (v := .ref 5) 4 dX1_dropLoose_29 rfl (by decide) g_69 rfl rfl ?_
        refine Z_iload_n C dX1_dropLoose_32 rfl rfl ?_
        refine Z_iaN C (v := T1.1 4 i) dX1_dropLoose_33 rfl (by omega) (by decide) rfl ?_
        refine Z_iconst C (v := (-1)) dX1_dropLoose_34 (by decide) ?_
        refine Z_icmp_ne C 65 dX1_dropLoose_35 (by decide) (fun c5 => ?_) (fun c5 => ?_)
        · refine Z_iinc C (L' := [(1, .int (nI (i + 1))), (0, .ref 0)]) (v := nI (i + 1)) dX1_dropLoose_65 rfl (nI_inc _) (by decide) rfl ?_
          refine Z_goto C 2 dX1_dropLoose_68 (by decide) ?_
          rw [show drop1 i T1 = T1 from by simp [drop1, c2, c3, c4, c5]] at kk
          exact Z_sub (by simp [bI_t, bI_f]) kk
        · refine Z_aload_n C dX1_dropLoose_38 rfl rfl ?_
          refine Z_get C K1 (v := .ref 7) 6 dX1_dropLoose_39 rfl (by decide) g_71 rfl rfl ?_
          refine Z_iload_n C dX1_dropLoose_42 rfl rfl ?_
          refine Z_iconst C (v := 0) dX1_dropLoose_43 (by decide) ?_
          refine Z_zsN C (b := false) (ws' := stW 0 (uH T1 i false)) dX1_dropLoose_44 rfl rfl (by omega) (by decide) rfl ?_
          refine Z_aload_n C dX1_dropLoose_45 rfl rfl ?_
          refine Z_dup C dX1_dropLoose_46 rfl ?_
          refine Z_get C K1 (v := .int (T1.2.2.1 1)) 10 dX1_dropLoose_47 rfl (by decide) g_78 rfl rfl ?_
          refine Z_iconst C (v := 1) dX1_dropLoose_50 (by decide) ?_
          refine Z_isub C (v := (T1.2.2.1 1) - 1) dX1_dropLoose_51 rfl ?_
          refine Z_put C K1 (ws' := stW 0 (uI (uH T1 i false) 1 ((T1.2.2.1 1) - 1))) 10 dX1_dropLoose_52 rfl (by decide) g_78 rfl rfl rfl rfl rfl (Nat.le_of_ble_eq_true rfl) rfl ?_
          refine Z_aload_n C dX1_dropLoose_55 rfl rfl ?_
          refine Z_iconst C (v := 1) dX1_dropLoose_56 (by decide) ?_
          refine Z_put C K1 (ws' := stW 0 (uS (uI (uH T1 i false) 1 ((T1.2.2.1 1) - 1)) true)) 12 dX1_dropLoose_57 rfl (by decide) g_81 rfl rfl rfl rfl rfl (Nat.le_of_ble_eq_true rfl) rfl ?_
          refine Z_aload_n C dX1_dropLoose_60 rfl rfl ?_
          refine Z_iload_n C dX1_dropLoose_61 rfl rfl ?_
          refine Z_callV C (ws' := stW 0 (tearF (uS (uI (uH T1 i false) 1 ((T1.2.2.1 1) - 1)) true) (nI i))) (st' := []) (rest := []) [0, 1, 2, 3, 4, 5, 6, 7, 8, 9] (c_X1_tearHoldsFrom (uS (uI (uH T1 i false) 1 ((T1.2.2.1 1) - 1)) true) (nI i) hT1 h40) m_X1_tearHoldsFrom K1 g_338 dX1_dropLoose_62 rfl rfl rfl (outL 10 rfl rfl rfl) (NW := 10) rfl rfl rfl rfl rfl ⟨Nat.le_of_ble_eq_true rfl, Nat.le_of_ble_eq_true rfl⟩ ⟨Nat.le_of_ble_eq_true rfl, Nat.le_of_ble_eq_true rfl⟩ (Nat.le_of_ble_eq_true rfl) rfl ?_
          refine Z_ws (fun X1 => stW 0 X1) (tearF (uS (uI (uH T1 i false) 1 ((T1.2.2.1 1) - 1)) true) (nI i)) (fun X1 eX1 => ?_)
          refine Z_iinc C (L' := [(1, .int (nI (i + 1))), (0, .ref 0)]) (v := nI (i + 1)) dX1_dropLoose_65 rfl (nI_inc _) (by decide) rfl ?_
          refine Z_goto C 2 dX1_dropLoose_68 (by decide) ?_
          rw [show drop1 i T1 = X1 from by subst eX1; simp [drop1, c2, c3, c4, c5]] at kk
          exact Z_sub (by simp [bI_t, bI_f]) kk
end
section
/-- giving way, k rounds at most -/
def gwB (S : St) : St := endO (tearO (if S.2.2.2 then measure S else S))
def gw : Nat → St → St
  | 0, S => S
  | k + 1, S => if (gwB S).2.2.2 then gw k (dropL (gwB S)) else gwB S
def giveWay (S : St) : St := gw 1000 S
def cutL (S : St) (x : Int32) : St := if hasB S x then giveWay (dropL (uA (uA (endSpell S x) 4 (ix x) (-1)) 5 (ix x) (-1))) else S
def fade1 (i : Nat) (S : St) : St := if S.1 3 i ≤ 2 then if S.1 3 i ≤ 0 then S else endSpell S (nI i) else uA S 3 i (S.1 3 i - 2)
def fade (S : St) : St := fr fade1 (nn S) S
def dayD (S : St) : St := giveWay (if (fade S).2.2.2 then dropL (fade S) else fade S)
def liveDay (S : St) : St := uI (dayD S) 2 ((dayD S).2.2.1 2 + 1)
def live1 (_ : Nat) (S : St) : St := liveDay S
def liveDays (S : St) (d : Int32) : St := fr live1 (ix d) S
def held1 (S : St) (x : Int32) (i : Nat) (a : Int32) : Int32 := if S.1 4 i = x then a + 1 else if S.1 5 i = x then a + 1 else a
def heldBy (S : St) (x : Int32) : Int32 := fr (held1 S x) (nn S) 0
def topN : Nat → St → Int32 → Int32
  | 0, _, _ => -1
  | k + 1, S, x => if hasB S x then if S.1 3 (ix x) ≤ 0 then topN k S (S.1 4 (ix x)) else x else -1
def topOf (S : St) (x : Int32) : Int32 := topN 40 S x
def cSp1 (S : St) (i : Nat) (a : Int32) : Int32 := a + (if S.1 3 i ≤ 0 then 0 else 1)
def cSp (S : St) : Int32 := fr (cSp1 S) (nn S) 0
def sPw1 (S : St) (i : Nat) (a : Int32) : Int32 := a + S.1 3 i
def sPw (S : St) : Int32 := fr (sPw1 S) (nn S) 0
def sPr1 (S : St) (i : Nat) (a : Int32) : Int32 := a + (if S.2.1 i then S.1 2 i else 0)
def sPr (S : St) : Int32 := fr (sPr1 S) (nn S) 0
def sLd1 (S : St) (i : Nat) (a : Int32) : Int32 := a + S.1 6 i
def sLd (S : St) : Int32 := fr (sLd1 S) (nn S) 0
def sSl1 (S : St) (i : Nat) (a : Int32) : Int32 := a + (if S.1 3 i ≤ 0 then 0 else S.1 6 i)
def sSl (S : St) : Int32 := fr (sSl1 S) (nn S) 0
def tellN (S : St) (x : Int32) (w : Nat) : Int32 := match w with
  | 0 => S.1 0 (ix x)
  | 1 => S.1 1 (ix x)
  | 2 => bI (S.2.1 (ix x))
  | 3 => S.1 3 (ix x)
  | 4 => S.1 4 (ix x)
  | 5 => S.1 5 (ix x)
  | 6 => S.1 2 (ix x)
  | 7 => S.1 6 (ix x)
  | 8 => S.1 7 (ix x)
  | _ => heldBy S x
def tell (S : St) (x w : Int32) : Int32 := if hasB S x then tellN S x (ix w) else 0
def addH (S : St) (j : Nat) (w t f o : Int32) : St := uS (uI (uI (uH (uA (uA (uA (uA S 0 j w) 1 j t) 4 j f) 5 j o) j true) 0 (nI j + 1)) 1 (S.2.2.1 1 + 1)) true
def addP (S : St) (j : Nat) (w t q : Int32) : St := uA (addH S j w t (-1) (-1)) 3 j q
def setProp (S : St) (x q : Int32) : St := if hasB S x then uS (uA S 2 (ix x) q) true else S
def cp1 (O : St) (i : Nat) (S : St) : St := uA (uA (uH (uA (uA (uA (uA (uA (uA S 0 i (O.1 0 i)) 1 i (O.1 1 i)) 2 i (O.1 2 i)) 3 i (O.1 3 i)) 4 i (O.1 4 i)) 5 i (O.1 5 i)) i (O.2.1 i)) 6 i (O.1 6 i)) 7 i (O.1 7 i)
def copyF (S O : St) : St := uS (uI (uI (uI (fr (cp1 O) (nn O) S) 0 (O.2.2.1 0)) 1 (O.2.2.1 1)) 2 (O.2.2.1 2)) O.2.2.2
theorem hk_gwB (S : St) : (gwB S).2.2.1 0 = S.2.2.1 0 := by
  refine (hk_endO _).trans ((hk_tearO _).trans ?_)
  split
  · exact hk_measure _
  · rfl
theorem hk_gw : ∀ (k : Nat) (S : St), (gw k S).2.2.1 0 = S.2.2.1 0
  | 0, _ => rfl
  | k + 1, S => by
    unfold gw
    split
    · exact (hk_gw k _).trans ((hk_dropL _).trans (hk_gwB S))
    · exact hk_gwB S
theorem hk_giveWay (S : St) : (giveWay S).2.2.1 0 = S.2.2.1 0 := hk_gw _ _
theorem hk_cutL (S : St) (x : Int32) : (cutL S x).2.2.1 0 = S.2.2.1 0 := by
  unfold cutL; split
  · exact (hk_giveWay _).trans ((hk_dropL _).trans (hk_endSpell S x))
  · rfl
theorem hk_fade1 (i : Nat) (S : St) : (fade1 i S).2.2.1 0 = S.2.2.1 0 := by
  unfold fade1; split
  · split
    · rfl
    · exact hk_endSpell _ _
  · rfl
theorem hk_fade (S : St) : (fade S).2.2.1 0 = S.2.2.1 0 := hk_fr hk_fade1 _ _
theorem hk_dayD (S : St) : (dayD S).2.2.1 0 = S.2.2.1 0 := by
  refine (hk_giveWay _).trans ?_
  split
  · exact (hk_dropL _).trans (hk_fade S)
  · exact hk_fade S
theorem hk_liveDay (S : St) : (liveDay S).2.2.1 0 = S.2.2.1 0 := hk_dayD S
theorem hk_liveDays (S : St) (d : Int32) : (liveDays S d).2.2.1 0 = S.2.2.1 0 := hk_fr (fun _ S => hk_liveDay S) _ _
theorem hk_setProp (S : St) (x q : Int32) : (setProp S x q).2.2.1 0 = S.2.2.1 0 := by unfold setProp; split <;> rfl
theorem full_no {S : St} {n : Nat} (hn : S.2.2.1 0 = nI n) (hl : n < 40) : isFullB S = false := by
  simp only [isFullB, Bool.not_eq_false', decide_eq_true_eq]
  rw [hn]
  exact nI_lt (b := 40) hl (by omega)
theorem Zind {σ : Type} (W : Nat → σ → Prop) (N : Nat) (s0 : σ) (hz : ∀ s, W 0 s) (hs : ∀ k s, (∀ s', W k s') → W (k + 1) s) : W N s0 := by
  have key : ∀ k s, W k s := by
    intro k
    induction k with
    | zero => exact hz
    | succ k ih => exact fun s => hs k s ih
  exact key N s0
theorem ge_no' {n i : Nat} (hi : i < n) (hn : n < 2 ^ 31) : ¬ nI n ≤ nI i := nI_ge hi hn
section ZT
variable {p : Program} {l : Launch} {e : Env} {R : Room} {s : State} {m : MethodId} {args : Array Value} {below : List Frame} {meth : Method} {c : Code} {cc : ByteArray} {nL : Nat} {own : String} {G : gG} {A : Nat → Prop} {h : Nat → Nat} {Q : State → Prop} {k n : Nat} {ws : List va_E} {pc : Nat} {L : List (Nat × Value)} {st : List Value}
theorem Z_tIn (C : Cx p s m args c cc nL own G A) {dflt lo hi off : Int} {offs : Array Int} {len : Nat} {x : Int32} (z : Int) (tgt : Nat) (d : decode cc pc = .ok (.tableswitch dflt lo hi offs, len)) (hx : x.toInt = z) (h1 : ¬ z < lo) (h2 : ¬ hi < z) (ho : offs[(z - lo).toNat]? = some off) (ht : (pc : Int) + off = (tgt : Int)) (kk : Z p l e R s m args below meth c nL G A h Q k n ws tgt L st) : Z p l e R s m args below meth c nL G A h Q k n ws pc L (.int x :: st) := fun H locs ls hP hD hS hl => lv_tableIn C.1 C.2.1 d (by rw [hx]; exact h1) (by rw [hx]; exact h2) (by rw [hx]; exact ho) ht (kk H locs ls hP hD hS hl)
theorem Z_tOut (C : Cx p s m args c cc nL own G A) {dflt lo hi : Int} {offs : Array Int} {len : Nat} {x : Int32} (tgt : Nat) (d : decode cc pc = .ok (.tableswitch dflt lo hi offs, len)) (h1 : x.toInt < lo ∨ hi < x.toInt) (ht : (pc : Int) + dflt = (tgt : Int)) (kk : Z p l e R s m args below meth c nL G A h Q k n ws tgt L st) : Z p l e R s m args below meth c nL G A h Q k n ws pc L (.int x :: st) := fun H locs ls hP hD hS hl => lv_tableOut C.1 C.2.1 d h1 ht (kk H locs ls hP hD hS hl)
end ZT
theorem ge_yes2 {n : Nat} {q : Prop} (hn : q) : nI n ≤ nI n := Int32.le_refl _
theorem ge_no2 {n i : Nat} {q : Prop} (hn : q) (h40 : n ≤ 120) (hi : i < n) : ¬ nI n ≤ nI i := nI_ge hi (by omega)
theorem ix_9 : ix (nI 0) = 0 ∧ ix (nI 1) = 1 ∧ ix (nI 2) = 2 ∧ ix (nI 3) = 3 ∧ ix (nI 4) = 4 ∧ ix (nI 5) = 5 ∧ ix (nI 6) = 6 ∧ ix (nI 7) = 7 ∧ ix (nI 8) = 8 ∧ ix (nI 9) = 9 := by decide
theorem gw_def (S : St) : gw 1000 S = giveWay S := by unfold giveWay; rfl
theorem topN_def (S : St) (x : Int32) : topN 40 S x = topOf S x := by unfold topOf; rfl
theorem Z_pc {p : Program} {l : Launch} {e : Env} {R : Room} {s : State} {m : MethodId} {args : Array Value} {below : List Frame} {meth : Method} {c : Code} {nL : Nat} {G : gG} {A : Nat → Prop} {h : Nat → Nat} {Q : State → Prop} {k n : Nat} {ws : List va_E} {pc : Nat} {L L' : List (Nat × Value)} {st : List Value} (hL : L' = L) (kk : Z p l e R s m args below meth c nL G A h Q k n ws pc L st) : Z p l e R s m args below meth c nL G A h Q k n ws pc L' st := hL ▸ kk
end
section
set_option maxHeartbeats 4000000 in
set_option maxRecDepth 20000 in
theorem c_X1_measure (S : St) {n : Nat} (hn : S.2.2.1 0 = nI n) (h40 : n ≤ 40) : CT yX1_measure cX1_measure 2 none 1 0 0 [.ref 0] (stW 0 S) none (stW 0 (measure S)) := by
  refine CT_of (L := [(0, .ref 0)]) (by decide) (fun _ => rfl) (fun _ => Nat.le_of_ble_eq_true rfl) ?_
  intro p l e s m args below meth c G h A C hr hlk _
  refine Z_iconst C (v := 0) dX1_measure_0 (by decide) ?_
  refine Z_istore_n C (L' := [(1, .int 0), (0, .ref 0)]) dX1_measure_1 rfl (by decide) rfl ?_
  refine Zfor (σ := St) (fun i T1 => Z p l e _ s m args below meth c 2 G A h _ 0 0 (stW 0 T1) 2 [(1, .int (nI i)), (0, .ref 0)] []) (fun i T1 => T1.2.2.1 0 = nI n) (meas0) n (S) hn (fun i T1 hi hT1 => hT1) (fun T1 hT1 eT1 => ?_) (fun i T1 hi hT1 hT1' kk => ?_)
  · refine Z_iload_n C dX1_measure_2 rfl rfl ?_
    refine Z_aload_n C dX1_measure_3 rfl rfl ?_
    refine Z_get C K1 (v := .int (T1.2.2.1 0)) 9 dX1_measure_4 rfl (by decide) g_75 rfl rfl ?_
    refine Z_icmp_ge C 23 dX1_measure_7 (by decide) (fun c1 => ?_) (fun c1 => absurd (ge_yes hT1) c1)
    refine Z_aload_n C dX1_measure_23 rfl rfl ?_
    refine Z_get C K1 (v := .int (T1.2.2.1 0)) 9 dX1_measure_24 rfl (by decide) g_75 rfl rfl ?_
    refine Z_iconst C (v := 1) dX1_measure_27 (by decide) ?_
    refine Z_isub C (v := dn n) dX1_measure_28 (by rw [show T1.2.2.1 0 = nI n from hT1]; exact dn_sub n) ?_
    refine Z_istore_n C (L' := [(1, .int (dn n)), (0, .ref 0)]) dX1_measure_29 rfl (by decide) rfl ?_
    refine ZforD (σ := St) (fun i T2 => Z p l e _ s m args below meth c 2 G A h _ 0 0 (stW 0 T2) 30 [(1, .int (dn i)), (0, .ref 0)] []) (fun i T2 => T2.2.2.1 0 = nI n) (meas1) n (T1) hT1 (fun i T2 hi hT2 => (hk_meas1 _ _).trans hT2) (fun T2 hT2 eT2 => ?_) (fun i T2 hi hT2 hT2' kk => ?_)
    · refine Z_iload_n C dX1_measure_30 rfl rfl ?_
      refine Z_if_lt C 150 dX1_measure_31 (by decide) (fun c2 => ?_) (fun c2 => absurd (show dn 0 < 0 from by decide) c2)
      refine Z_aload_n C dX1_measure_150 rfl rfl ?_
      refine Z_iconst C (v := 0) dX1_measure_151 (by decide) ?_
      refine Z_put C K1 (ws' := stW 0 (uS T2 false)) 12 dX1_measure_152 rfl (by decide) g_81 rfl rfl rfl rfl rfl (Nat.le_of_ble_eq_true rfl) rfl ?_
      exact Z_vret C hr hlk dX1_measure_155 rfl (by rw [show (measure S) = (uS T2 false) from by subst eT1 eT2; simp only [measure, nn_eq hn h40]])
    · refine Z_pc (L := [(1, .int (nI i)), (0, .ref 0)]) (by simp [dn]) ?_
      refine Z_iload_n C dX1_measure_30 rfl rfl ?_
      refine Z_if_lt C 150 dX1_measure_31 (by decide) (fun c3 => absurd c3 (show ¬ nI i < 0 from nI_pos (by omega))) (fun c3 => ?_)
      refine Z_aload_n C dX1_measure_34 rfl rfl ?_
      refine Z_get C K1 (v := .ref 8) 7 dX1_measure_35 rfl (by decide) g_72 rfl rfl ?_
      refine Z_iload_n C dX1_measure_38 rfl rfl ?_
      refine Z_aload_n C dX1_measure_39 rfl rfl ?_
      refine Z_get C K1 (v := .ref 7) 6 dX1_measure_40 rfl (by decide) g_71 rfl rfl ?_
      refine Z_iload_n C dX1_measure_43 rfl rfl ?_
      refine Z_zaN C (v := bI (T2.2.1 i)) dX1_measure_44 rfl (by omega) (by decide) rfl ?_
      refine Z_if_eq C 75 dX1_measure_45 (by decide) (fun c4 => ?_) (fun c4 => ?_)
      · have c4 := bI_0.mp c4
        refine Z_iconst C (v := 0) dX1_measure_75 (by decide) ?_
        refine Z_isN C (ws' := stW 0 (uA T2 6 i 0)) dX1_measure_76 rfl (by omega) (by decide) rfl ?_
        refine Z_aload_n C dX1_measure_77 rfl rfl ?_
        refine Z_get C K1 (v := .ref 6) 5 dX1_measure_78 rfl (by decide) g_70 rfl rfl ?_
        refine Z_iload_n C dX1_measure_81 rfl rfl ?_
        refine Z_iaN C (v := T2.1 5 i) dX1_measure_82 rfl (by omega) (by decide) rfl ?_
        refine Z_iconst C (v := (-1)) dX1_measure_83 (by decide) ?_
        refine Z_icmp_ne C 106 dX1_measure_84 (by decide) (fun c5 => ?_) (fun c5 => ?_)
        · refine Z_aload_n C dX1_measure_106 rfl rfl ?_
          refine Z_aload_n C dX1_measure_107 rfl rfl ?_
          refine Z_get C K1 (v := .ref 5) 4 dX1_measure_108 rfl (by decide) g_69 rfl rfl ?_
          refine Z_iload_n C dX1_measure_111 rfl rfl ?_
          refine Z_iaN C (v := T2.1 4 i) dX1_measure_112 rfl (by omega) (by decide) rfl ?_
          refine Z_aload_n C dX1_measure_113 rfl rfl ?_
          refine Z_get C K1 (v := .ref 8) 7 dX1_measure_114 rfl (by decide) g_72 rfl rfl ?_
          refine Z_iload_n C dX1_measure_117 rfl rfl ?_
          refine Z_iaN C (v := (uA T2 6 i 0).1 6 i) dX1_measure_118 rfl (by omega) (by decide) rfl ?_
          refine Z_iconst C (v := 1) dX1_measure_119 (by decide) ?_
          refine Z_iadd C (v := ((uA T2 6 i 0).1 6 i) + 1) dX1_measure_120 rfl ?_
          refine Z_iconst C (v := 2) dX1_measure_121 (by decide) ?_
          refine Z_idiv C (v := (((uA T2 6 i 0).1 6 i) + 1) / 2) dX1_measure_122 (by decide) rfl ?_
          refine Z_callV C (ws' := stW 0 (bear (uA T2 6 i 0) (T2.1 4 i) ((((uA T2 6 i 0).1 6 i) + 1) / 2))) (st' := []) (rest := []) [0, 1, 2, 3, 4, 5, 6, 7, 8, 9] (c_X1_bear (uA T2 6 i 0) (T2.1 4 i) ((((uA T2 6 i 0).1 6 i) + 1) / 2) hT2 h40) m_X1_bear K1 g_330 dX1_measure_123 rfl rfl rfl (outL 10 rfl rfl rfl) (NW := 10) rfl rfl rfl rfl rfl ⟨Nat.le_of_ble_eq_true rfl, Nat.le_of_ble_eq_true rfl⟩ ⟨Nat.le_of_ble_eq_true rfl, Nat.le_of_ble_eq_true rfl⟩ (Nat.le_of_ble_eq_true rfl) rfl ?_
          refine Z_ws (fun X1 => stW 0 X1) (bear (uA T2 6 i 0) (T2.1 4 i) ((((uA T2 6 i 0).1 6 i) + 1) / 2)) (fun X1 eX1 => ?_)
          refine Z_aload_n C dX1_measure_126 rfl rfl ?_
          refine Z_aload_n C dX1_measure_127 rfl rfl ?_
          refine Z_get C K1 (v := .ref 6) 5 dX1_measure_128 rfl (by decide) g_70 rfl rfl ?_
          refine Z_iload_n C dX1_measure_131 rfl rfl ?_
          refine Z_iaN C (v := X1.1 5 i) dX1_measure_132 rfl (by omega) (by decide) rfl ?_
          refine Z_aload_n C dX1_measure_133 rfl rfl ?_
          refine Z_get C K1 (v := .ref 8) 7 dX1_measure_134 rfl (by decide) g_72 rfl rfl ?_
          refine Z_iload_n C dX1_measure_137 rfl rfl ?_
          refine Z_iaN C (v := X1.1 6 i) dX1_measure_138 rfl (by omega) (by decide) rfl ?_
          refine Z_iconst C (v := 2) dX1_measure_139 (by decide) ?_
          refine Z_idiv C (v := (X1.1 6 i) / 2) dX1_measure_140 (by decide) rfl ?_
          refine Z_callV C (ws' := stW 0 (bear X1 (X1.1 5 i) ((X1.1 6 i) / 2))) (st' := []) (rest := []) [0, 1, 2, 3, 4, 5, 6, 7, 8, 9] (c_X1_bear X1 (X1.1 5 i) ((X1.1 6 i) / 2) (show X1.2.2.1 0 = nI _ from by rw [eX1]; exact ((hk_bear (uA T2 6 i 0) (T2.1 4 i) ((((uA T2 6 i 0).1 6 i) + 1) / 2)).trans hT2)) h40) m_X1_bear K1 g_330 dX1_measure_141 rfl rfl rfl (outL 10 rfl rfl rfl) (NW := 10) rfl rfl rfl rfl rfl ⟨Nat.le_of_ble_eq_true rfl, Nat.le_of_ble_eq_true rfl⟩ ⟨Nat.le_of_ble_eq_true rfl, Nat.le_of_ble_eq_true rfl⟩ (Nat.le_of_ble_eq_true rfl) rfl ?_
          refine Z_ws (fun X2 => stW 0 X2) (bear X1 (X1.1 5 i) ((X1.1 6 i) / 2)) (fun X2 eX2 => ?_)
          refine Z_iinc C (L' := [(1, .int (dn i)), (0, .ref 0)]) (v := dn i) dX1_measure_144 rfl (dn_dec _) (by decide) rfl ?_
          refine Z_goto C 30 dX1_measure_147 (by decide) ?_
          rw [show meas1 i T2 = X2 from by subst eT1 eX1 eX2; simp [meas1, measB, measL, upd, c1, c3, c4, c5]] at kk
          exact Z_sub (by simp [bI_t, bI_f]) kk
        · refine Z_aload_n C dX1_measure_87 rfl rfl ?_
          refine Z_aload_n C dX1_measure_88 rfl rfl ?_
          refine Z_get C K1 (v := .ref 5) 4 dX1_measure_89 rfl (by decide) g_69 rfl rfl ?_
          refine Z_iload_n C dX1_measure_92 rfl rfl ?_
          refine Z_iaN C (v := T2.1 4 i) dX1_measure_93 rfl (by omega) (by decide) rfl ?_
          refine Z_aload_n C dX1_measure_94 rfl rfl ?_
          refine Z_get C K1 (v := .ref 8) 7 dX1_measure_95 rfl (by decide) g_72 rfl rfl ?_
          refine Z_iload_n C dX1_measure_98 rfl rfl ?_
          refine Z_iaN C (v := (uA T2 6 i 0).1 6 i) dX1_measure_99 rfl (by omega) (by decide) rfl ?_
          refine Z_callV C (ws' := stW 0 (bear (uA T2 6 i 0) (T2.1 4 i) ((uA T2 6 i 0).1 6 i))) (st' := []) (rest := []) [0, 1, 2, 3, 4, 5, 6, 7, 8, 9] (c_X1_bear (uA T2 6 i 0) (T2.1 4 i) ((uA T2 6 i 0).1 6 i) hT2 h40) m_X1_bear K1 g_330 dX1_measure_100 rfl rfl rfl (outL 10 rfl rfl rfl) (NW := 10) rfl rfl rfl rfl rfl ⟨Nat.le_of_ble_eq_true rfl, Nat.le_of_ble_eq_true rfl⟩ ⟨Nat.le_of_ble_eq_true rfl, Nat.le_of_ble_eq_true rfl⟩ (Nat.le_of_ble_eq_true rfl) rfl ?_
          refine Z_ws (fun X3 => stW 0 X3) (bear (uA T2 6 i 0) (T2.1 4 i) ((uA T2 6 i 0).1 6 i)) (fun X3 eX3 => ?_)
          refine Z_goto C 144 dX1_measure_103 (by decide) ?_
          refine Z_iinc C (L' := [(1, .int (dn i)), (0, .ref 0)]) (v := dn i) dX1_measure_144 rfl (dn_dec _) (by decide) rfl ?_
          refine Z_goto C 30 dX1_measure_147 (by decide) ?_
          rw [show meas1 i T2 = X3 from by subst eT1 eX3; simp [meas1, measB, measL, upd, c1, c3, c4, c5]] at kk
          exact Z_sub (by simp [bI_t, bI_f]) kk
      · have c4 := bI_n0.mp c4
        refine Z_iconst C (v := 0) dX1_measure_48 (by decide) ?_
        refine Z_aload_n C dX1_measure_49 rfl rfl ?_
        refine Z_get C K1 (v := .ref 1) 0 dX1_measure_50 rfl (by decide) g_63 rfl rfl ?_
        refine Z_iload_n C dX1_measure_53 rfl rfl ?_
        refine Z_iaN C (v := T2.1 0 i) dX1_measure_54 rfl (by omega) (by decide) rfl ?_
        refine Z_aload_n C dX1_measure_55 rfl rfl ?_
        refine Z_get C K1 (v := .ref 9) 8 dX1_measure_56 rfl (by decide) g_74 rfl rfl ?_
        refine Z_iload_n C dX1_measure_59 rfl rfl ?_
        refine Z_iaN C (v := T2.1 7 i) dX1_measure_60 rfl (by omega) (by decide) rfl ?_
        refine Z_iadd C (v := (T2.1 0 i) + (T2.1 7 i)) dX1_measure_61 rfl ?_
        refine Z_aload_n C dX1_measure_62 rfl rfl ?_
        refine Z_get C K1 (v := .ref 3) 2 dX1_measure_63 rfl (by decide) g_65 rfl rfl ?_
        refine Z_iload_n C dX1_measure_66 rfl rfl ?_
        refine Z_iaN C (v := T2.1 2 i) dX1_measure_67 rfl (by omega) (by decide) rfl ?_
        refine Z_isub C (v := ((T2.1 0 i) + (T2.1 7 i)) - (T2.1 2 i)) dX1_measure_68 rfl ?_
        refine Z_mmax C (v := mx 0 (((T2.1 0 i) + (T2.1 7 i)) - (T2.1 2 i))) dX1_measure_69 g_327 g_328 g_46 g_329 (Nat.le_of_ble_eq_true rfl) (Nat.le_of_ble_eq_true rfl) ⟨Nat.le_of_ble_eq_true rfl, Nat.le_of_ble_eq_true rfl⟩ rfl ?_
        refine Z_goto C 76 dX1_measure_72 (by decide) ?_
        refine Z_isN C (ws' := stW 0 (uA T2 6 i (mx 0 (((T2.1 0 i) + (T2.1 7 i)) - (T2.1 2 i))))) dX1_measure_76 rfl (by omega) (by decide) rfl ?_
        refine Z_aload_n C dX1_measure_77 rfl rfl ?_
        refine Z_get C K1 (v := .ref 6) 5 dX1_measure_78 rfl (by decide) g_70 rfl rfl ?_
        refine Z_iload_n C dX1_measure_81 rfl rfl ?_
        refine Z_iaN C (v := T2.1 5 i) dX1_measure_82 rfl (by omega) (by decide) rfl ?_
        refine Z_iconst C (v := (-1)) dX1_measure_83 (by decide) ?_
        refine Z_icmp_ne C 106 dX1_measure_84 (by decide) (fun c6 => ?_) (fun c6 => ?_)
        · refine Z_aload_n C dX1_measure_106 rfl rfl ?_
          refine Z_aload_n C dX1_measure_107 rfl rfl ?_
          refine Z_get C K1 (v := .ref 5) 4 dX1_measure_108 rfl (by decide) g_69 rfl rfl ?_
          refine Z_iload_n C dX1_measure_111 rfl rfl ?_
          refine Z_iaN C (v := T2.1 4 i) dX1_measure_112 rfl (by omega) (by decide) rfl ?_
          refine Z_aload_n C dX1_measure_113 rfl rfl ?_
          refine Z_get C K1 (v := .ref 8) 7 dX1_measure_114 rfl (by decide) g_72 rfl rfl ?_
          refine Z_iload_n C dX1_measure_117 rfl rfl ?_
          refine Z_iaN C (v := (uA T2 6 i (mx 0 (((T2.1 0 i) + (T2.1 7 i)) - (T2.1 2 i)))).1 6 i) dX1_measure_118 rfl (by omega) (by decide) rfl ?_
          refine Z_iconst C (v := 1) dX1_measure_119 (by decide) ?_
          refine Z_iadd C (v := ((uA T2 6 i (mx 0 (((T2.1 0 i) + (T2.1 7 i)) - (T2.1 2 i)))).1 6 i) + 1) dX1_measure_120 rfl ?_
          refine Z_iconst C (v := 2) dX1_measure_121 (by decide) ?_
          refine Z_idiv C (v := (((uA T2 6 i (mx 0 (((T2.1 0 i) + (T2.1 7 i)) - (T2.1 2 i)))).1 6 i) + 1) / 2) dX1_measure_122 (by decide) rfl ?_
          refine Z_callV C (ws' := stW 0 (bear (uA T2 6 i (mx 0 (((T2.1 0 i) + (T2.1 7 i)) - (T2.1 2 i)))) (T2.1 4 i) ((((uA T2 6 i (mx 0 (((T2.1 0 i) + (T2.1 7 i)) - (T2.1 2 i)))).1 6 i) + 1) / 2))) (st' := []) (rest := []) [0, 1, 2, 3, 4, 5, 6, 7, 8, 9] (c_X1_bear (uA T2 6 i (mx 0 (((T2.1 0 i) + (T2.1 7 i)) - (T2.1 2 i)))) (T2.1 4 i) ((((uA T2 6 i (mx 0 (((T2.1 0 i) + (T2.1 7 i)) - (T2.1 2 i)))).1 6 i) + 1) / 2) hT2 h40) m_X1_bear K1 g_330 dX1_measure_123 rfl rfl rfl (outL 10 rfl rfl rfl) (NW := 10) rfl rfl rfl rfl rfl ⟨Nat.le_of_ble_eq_true rfl, Nat.le_of_ble_eq_true rfl⟩ ⟨Nat.le_of_ble_eq_true rfl, Nat.le_of_ble_eq_true rfl⟩ (Nat.le_of_ble_eq_true rfl) rfl ?_
          refine Z_ws (fun X4 => stW 0 X4) (bear (uA T2 6 i (mx 0 (((T2.1 0 i) + (T2.1 7 i)) - (T2.1 2 i)))) (T2.1 4 i) ((((uA T2 6 i (mx 0 (((T2.1 0 i) + (T2.1 7 i)) - (T2.1 2 i)))).1 6 i) + 1) / 2)) (fun X4 eX4 => ?_)
          refine Z_aload_n C dX1_measure_126 rfl rfl ?_
          refine Z_aload_n C dX1_measure_127 rfl rfl ?_
          refine Z_get C K1 (v := .ref 6) 5 dX1_measure_128 rfl (by decide) g_70 rfl rfl ?_
          refine Z_iload_n C dX1_measure_131 rfl rfl ?_
          refine Z_iaN C (v := X4.1 5 i) dX1_measure_132 rfl (by omega) (by decide) rfl ?_
          refine Z_aload_n C dX1_measure_133 rfl rfl ?_
          refine Z_get C K1 (v := .ref 8) 7 dX1_measure_134 rfl (by decide) g_72 rfl rfl ?_
          refine Z_iload_n C dX1_measure_137 rfl rfl ?_
          refine Z_iaN C (v := X4.1 6 i) dX1_measure_138 rfl (by omega) (by decide) rfl ?_
          refine Z_iconst C (v := 2) dX1_measure_139 (by decide) ?_
          refine Z_idiv C (v := (X4.1 6 i) / 2) dX1_measure_140 (by decide) rfl ?_
          refine Z_callV C (ws' := stW 0 (bear X4 (X4.1 5 i) ((X4.1 6 i) / 2))) (st' := []) (rest := []) [0, 1, 2, 3, 4, 5, 6, 7, 8, 9] (c_X1_bear X4 (X4.1 5 i) ((X4.1 6 i) / 2) (show X4.2.2.1 0 = nI _ from by rw [eX4]; exact ((hk_bear (uA T2 6 i (mx 0 (((T2.1 0 i) + (T2.1 7 i)) - (T2.1 2 i)))) (T2.1 4 i) ((((uA T2 6 i (mx 0 (((T2.1 0 i) + (T2.1 7 i)) - (T2.1 2 i)))).1 6 i) + 1) / 2)).trans hT2)) h40) m_X1_bear K1 g_330 dX1_measure_141 rfl rfl rfl (outL 10 rfl rfl rfl) (NW := 10) rfl rfl rfl rfl rfl ⟨Nat.le_of_ble_eq_true rfl, Nat.le_of_ble_eq_true rfl⟩ ⟨Nat.le_of_ble_eq_true rfl, Nat.le_of_ble_eq_true rfl⟩ (Nat.le_of_ble_eq_true rfl) rfl ?_
          refine Z_ws (fun X5 => stW 0 X5) (bear X4 (X4.1 5 i) ((X4.1 6 i) / 2)) (fun X5 eX5 => ?_)
          refine Z_iinc C (L' := [(1, .int (dn i)), (0, .ref 0)]) (v := dn i) dX1_measure_144 rfl (dn_dec _) (by decide) rfl ?_
          refine Z_goto C 30 dX1_measure_147 (by decide) ?_
          rw [show meas1 i T2 = X5 from by subst eT1 eX4 eX5; simp [meas1, measB, measL, upd, c1, c3, c4, c6]] at kk
          exact Z_sub (by simp [bI_t, bI_f]) kk
        · refine Z_aload_n C dX1_measure_87 rfl rfl ?_
          refine Z_aload_n C dX1_measure_88 rfl rfl ?_
          refine Z_get C K1 (v := .ref 5) 4 dX1_measure_89 rfl (by decide) g_69 rfl rfl ?_
          refine Z_iload_n C dX1_measure_92 rfl rfl ?_
          refine Z_iaN C (v := T2.1 4 i) dX1_measure_93 rfl (by omega) (by decide) rfl ?_
          refine Z_aload_n C dX1_measure_94 rfl rfl ?_
          refine Z_get C K1 (v := .ref 8) 7 dX1_measure_95 rfl (by decide) g_72 rfl rfl ?_
          refine Z_iload_n C dX1_measure_98 rfl rfl ?_
          refine Z_iaN C (v := (uA T2 6 i (mx 0 (((T2.1 0 i) + (T2.1 7 i)) - (T2.1 2 i)))).1 6 i) dX1_measure_99 rfl (by omega) (by decide) rfl ?_
          refine Z_callV C (ws' := stW 0 (bear (uA T2 6 i (mx 0 (((T2.1 0 i) + (T2.1 7 i)) - (T2.1 2 i)))) (T2.1 4 i) ((uA T2 6 i (mx 0 (((T2.1 0 i) + (T2.1 7 i)) - (T2.1 2 i)))).1 6 i))) (st' := []) (rest := []) [0, 1, 2, 3, 4, 5, 6, 7, 8, 9] (c_X1_bear (uA T2 6 i (mx 0 (((T2.1 0 i) + (T2.1 7 i)) - (T2.1 2 i)))) (T2.1 4 i) ((uA T2 6 i (mx 0 (((T2.1 0 i) + (T2.1 7 i)) - (T2.1 2 i)))).1 6 i) hT2 h40) m_X1_bear K1 g_330 dX1_measure_100 rfl rfl rfl (outL 10 rfl rfl rfl) (NW := 10) rfl rfl rfl rfl rfl ⟨Nat.le_of_ble_eq_true rfl, Nat.le_of_ble_eq_true rfl⟩ ⟨Nat.le_of_ble_eq_true rfl, Nat.le_of_ble_eq_true rfl⟩ (Nat.le_of_ble_eq_true rfl) rfl ?_
          refine Z_ws (fun X6 => stW 0 X6) (bear (uA T2 6 i (mx 0 (((T2.1 0 i) + (T2.1 7 i)) - (T2.1 2 i)))) (T2.1 4 i) ((uA T2 6 i (mx 0 (((T2.1 0 i) + (T2.1 7 i)) - (T2.1 2 i)))).1 6 i)) (fun X6 eX6 => ?_)
          refine Z_goto C 144 dX1_measure_103 (by decide) ?_
          refine Z_iinc C (L' := [(1, .int (dn i)), (0, .ref 0)]) (v := dn i) dX1_measure_144 rfl (dn_dec _) (by decide) rfl ?_
          refine Z_goto C 30 dX1_measure_147 (by decide) ?_
          rw [show meas1 i T2 = X6 from by subst eT1 eX6; simp [meas1, measB, measL, upd, c1, c3, c4, c6]] at kk
          exact Z_sub (by simp [bI_t, bI_f]) kk
  · refine Z_iload_n C dX1_measure_2 rfl rfl ?_
    refine Z_aload_n C dX1_measure_3 rfl rfl ?_
    refine Z_get C K1 (v := .int (T1.2.2.1 0)) 9 dX1_measure_4 rfl (by decide) g_75 rfl rfl ?_
    refine Z_icmp_ge C 23 dX1_measure_7 (by decide) (fun c7 => absurd c7 (ge_no hT1 h40 hi)) (fun c7 => ?_)
    refine Z_aload_n C dX1_measure_10 rfl rfl ?_
    refine Z_get C K1 (v := .ref 9) 8 dX1_measure_11 rfl (by decide) g_74 rfl rfl ?_
    refine Z_iload_n C dX1_measure_14 rfl rfl ?_
    refine Z_iconst C (v := 0) dX1_measure_15 (by decide) ?_
    refine Z_isN C (ws' := stW 0 (uA T1 7 i 0)) dX1_measure_16 rfl (by omega) (by decide) rfl ?_
    refine Z_iinc C (L' := [(1, .int (nI (i + 1))), (0, .ref 0)]) (v := nI (i + 1)) dX1_measure_17 rfl (nI_inc _) (by decide) rfl ?_
    refine Z_goto C 2 dX1_measure_20 (by decide) ?_
    rw [show meas0 i T1 = (uA T1 7 i 0) from by simp [meas0, c7]] at kk
    exact Z_sub (by simp [bI_t, bI_f]) kk
set_option maxHeartbeats 4000000 in
set_option maxRecDepth 20000 in
theorem c_X1_fade (S : St) {n : Nat} (hn : S.2.2.1 0 = nI n) (h40 : n ≤ 40) : CT yX1_fade cX1_fade 2 none 1 0 0 [.ref 0] (stW 0 S) none (stW 0 (fade S)) := by
  refine CT_of (L := [(0, .ref 0)]) (by decide) (fun _ => rfl) (fun _ => Nat.le_of_ble_eq_true rfl) ?_
  intro p l e s m args below meth c G h A C hr hlk _
  refine Z_iconst C (v := 0) dX1_fade_0 (by decide) ?_
  refine Z_istore_n C (L' := [(1, .int 0), (0, .ref 0)]) dX1_fade_1 rfl (by decide) rfl ?_
  refine Zfor (σ := St) (fun i T1 => Z p l e _ s m args below meth c 2 G A h _ 0 0 (stW 0 T1) 2 [(1, .int (nI i)), (0, .ref 0)] []) (fun i T1 => T1.2.2.1 0 = nI n) (fade1) n (S) hn (fun i T1 hi hT1 => (hk_fade1 _ _).trans hT1) (fun T1 hT1 eT1 => ?_) (fun i T1 hi hT1 hT1' kk => ?_)
  · refine Z_iload_n C dX1_fade_2 rfl rfl ?_
    refine Z_aload_n C dX1_fade_3 rfl rfl ?_
    refine Z_get C K1 (v := .int (T1.2.2.1 0)) 9 dX1_fade_4 rfl (by decide) g_75 rfl rfl ?_
    refine Z_icmp_ge C 53 dX1_fade_7 (by decide) (fun c1 => ?_) (fun c1 => absurd (ge_yes hT1) c1)
    exact Z_vret C hr hlk dX1_fade_53 rfl (by rw [show (fade S) = T1 from by subst eT1; simp only [fade, nn_eq hn h40]])
  · refine Z_iload_n C dX1_fade_2 rfl rfl ?_
    refine Z_aload_n C dX1_fade_3 rfl rfl ?_
    refine Z_get C K1 (v := .int (T1.2.2.1 0)) 9 dX1_fade_4 rfl (by decide) g_75 rfl rfl ?_
    refine Z_icmp_ge C 53 dX1_fade_7 (by decide) (fun c2 => absurd c2 (ge_no hT1 h40 hi)) (fun c2 => ?_)
    refine Z_aload_n C dX1_fade_10 rfl rfl ?_
    refine Z_get C K1 (v := .ref 4) 3 dX1_fade_11 rfl (by decide) g_67 rfl rfl ?_
    refine Z_iload_n C dX1_fade_14 rfl rfl ?_
    refine Z_iaN C (v := T1.1 3 i) dX1_fade_15 rfl (by omega) (by decide) rfl ?_
    refine Z_iconst C (v := 2) dX1_fade_16 (by decide) ?_
    refine Z_icmp_le C 33 dX1_fade_17 (by decide) (fun c3 => ?_) (fun c3 => ?_)
    · refine Z_aload_n C dX1_fade_33 rfl rfl ?_
      refine Z_get C K1 (v := .ref 4) 3 dX1_fade_34 rfl (by decide) g_67 rfl rfl ?_
      refine Z_iload_n C dX1_fade_37 rfl rfl ?_
      refine Z_iaN C (v := T1.1 3 i) dX1_fade_38 rfl (by omega) (by decide) rfl ?_
      refine Z_if_le C 47 dX1_fade_39 (by decide) (fun c4 => ?_) (fun c4 => ?_)
      · refine Z_iinc C (L' := [(1, .int (nI (i + 1))), (0, .ref 0)]) (v := nI (i + 1)) dX1_fade_47 rfl (nI_inc _) (by decide) rfl ?_
        refine Z_goto C 2 dX1_fade_50 (by decide) ?_
        rw [show fade1 i T1 = T1 from by simp [fade1, c2, c3, c4]] at kk
        exact Z_sub (by simp [bI_t, bI_f]) kk
      · refine Z_aload_n C dX1_fade_42 rfl rfl ?_
        refine Z_iload_n C dX1_fade_43 rfl rfl ?_
        refine Z_callV C (ws' := stW 0 (endSpell T1 (nI i))) (st' := []) (rest := []) [0, 1, 2, 3, 4, 5, 6, 7, 8, 9] (c_X1_endSpell T1 (nI i) hT1 h40) m_X1_endSpell K1 g_346 dX1_fade_44 rfl rfl rfl (outL 10 rfl rfl rfl) (NW := 10) rfl rfl rfl rfl rfl ⟨Nat.le_of_ble_eq_true rfl, Nat.le_of_ble_eq_true rfl⟩ ⟨Nat.le_of_ble_eq_true rfl, Nat.le_of_ble_eq_true rfl⟩ (Nat.le_of_ble_eq_true rfl) rfl ?_
        refine Z_ws (fun X1 => stW 0 X1) (endSpell T1 (nI i)) (fun X1 eX1 => ?_)
        refine Z_iinc C (L' := [(1, .int (nI (i + 1))), (0, .ref 0)]) (v := nI (i + 1)) dX1_fade_47 rfl (nI_inc _) (by decide) rfl ?_
        refine Z_goto C 2 dX1_fade_50 (by decide) ?_
        rw [show fade1 i T1 = X1 from by subst eX1; simp [fade1, c2, c3, c4]] at kk
        exact Z_sub (by simp [bI_t, bI_f]) kk
    · refine Z_aload_n C dX1_fade_20 rfl rfl ?_
      refine Z_get C K1 (v := .ref 4) 3 dX1_fade_21 rfl (by decide) g_67 rfl rfl ?_
      refine Z_iload_n C dX1_fade_24 rfl rfl ?_
      refine Z_dup2_11 C dX1_fade_25 rfl rfl ?_
      refine Z_iaN C (v := T1.1 3 i) dX1_fade_26 rfl (by omega) (by decide) rfl ?_
      refine Z_iconst C (v := 2) dX1_fade_27 (by decide) ?_
      refine Z_isub C (v := (T1.1 3 i) - 2) dX1_fade_28 rfl ?_
      refine Z_isN C (ws' := stW 0 (uA T1 3 i ((T1.1 3 i) - 2))) dX1_fade_29 rfl (by omega) (by decide) rfl ?_
      refine Z_goto C 47 dX1_fade_30 (by decide) ?_
      refine Z_iinc C (L' := [(1, .int (nI (i + 1))), (0, .ref 0)]) (v := nI (i + 1)) dX1_fade_47 rfl (nI_inc _) (by decide) rfl ?_
      refine Z_goto C 2 dX1_fade_50 (by decide) ?_
      rw [show fade1 i T1 = (uA T1 3 i ((T1.1 3 i) - 2)) from by simp [fade1, c2, c3]] at kk
      exact Z_sub (by simp [bI_t, bI_f]) kk
set_option maxHeartbeats 4000000 in
set_option maxRecDepth 20000 in
theorem c_X1_countHeldBy (S : St) (x : Int32) {n : Nat} (hn : S.2.2.1 0 = nI n) (h40 : n ≤ 40) : CT yX1_countHeldBy cX1_countHeldBy 4 (some .int) 0 0 0 [.ref 0, .int x] (stW 0 S) (some (.int (heldBy S x))) (stW 0 S) := by
  refine CT_of (L := [(0, .ref 0), (1, .int x)]) (by decide) (fun _ => rfl) (fun _ => Nat.le_of_ble_eq_true rfl) ?_
  intro p l e s m args below meth c G h A C hr hlk _
  refine Z_iconst C (v := 0) dX1_countHeldBy_0 (by decide) ?_
  refine Z_istore_n C (L' := [(2, .int 0), (0, .ref 0), (1, .int x)]) dX1_countHeldBy_1 rfl (by decide) rfl ?_
  refine Z_iconst C (v := 0) dX1_countHeldBy_2 (by decide) ?_
  refine Z_istore_n C (L' := [(3, .int 0), (2, .int 0), (0, .ref 0), (1, .int x)]) dX1_countHeldBy_3 rfl (by decide) rfl ?_
  refine Zfor (σ := Int32) (fun i T1 => Z p l e _ s m args below meth c 4 G A h _ 0 0 (stW 0 S) 4 [(3, .int (nI i)), (2, .int T1), (0, .ref 0), (1, .int x)] []) (fun i T1 => True) (held1 S x) n (0) trivial (fun i T1 hi hT1 => trivial) (fun T1 hT1 eT1 => ?_) (fun i T1 hi hT1 hT1' kk => ?_)
  · refine Z_iload_n C dX1_countHeldBy_4 rfl rfl ?_
    refine Z_aload_n C dX1_countHeldBy_5 rfl rfl ?_
    refine Z_get C K1 (v := .int (S.2.2.1 0)) 9 dX1_countHeldBy_6 rfl (by decide) g_75 rfl rfl ?_
    refine Z_icmp_ge C 41 dX1_countHeldBy_9 (by decide) (fun c1 => ?_) (fun c1 => absurd (ge_yes hn) c1)
    refine Z_iload_n C dX1_countHeldBy_41 rfl rfl ?_
    exact Z_iret C hr hlk dX1_countHeldBy_42 (congrArg (fun z => some (Value.int z)) (show (heldBy S x) = T1 from by subst eT1; simp only [heldBy, nn_eq hn h40])) rfl
  · refine Z_iload_n C dX1_countHeldBy_4 rfl rfl ?_
    refine Z_aload_n C dX1_countHeldBy_5 rfl rfl ?_
    refine Z_get C K1 (v := .int (S.2.2.1 0)) 9 dX1_countHeldBy_6 rfl (by decide) g_75 rfl rfl ?_
    refine Z_icmp_ge C 41 dX1_countHeldBy_9 (by decide) (fun c2 => absurd c2 (ge_no hn h40 hi)) (fun c2 => ?_)
    refine Z_aload_n C dX1_countHeldBy_12 rfl rfl ?_
    refine Z_get C K1 (v := .ref 5) 4 dX1_countHeldBy_13 rfl (by decide) g_69 rfl rfl ?_
    refine Z_iload_n C dX1_countHeldBy_16 rfl rfl ?_
    refine Z_iaN C (v := S.1 4 i) dX1_countHeldBy_17 rfl (by omega) (by decide) rfl ?_
    refine Z_iload_n C dX1_countHeldBy_18 rfl rfl ?_
    refine Z_icmp_eq C 32 dX1_countHeldBy_19 (by decide) (fun c3 => ?_) (fun c3 => ?_)
    · refine Z_iinc C (L' := [(2, .int (T1 + 1)), (3, .int (nI i)), (0, .ref 0), (1, .int x)]) (v := T1 + 1) dX1_countHeldBy_32 rfl rfl (by decide) rfl ?_
      refine Z_iinc C (L' := [(3, .int (nI (i + 1))), (2, .int (T1 + 1)), (0, .ref 0), (1, .int x)]) (v := nI (i + 1)) dX1_countHeldBy_35 rfl (nI_inc _) (by decide) rfl ?_
      refine Z_goto C 4 dX1_countHeldBy_38 (by decide) ?_
      rw [show (held1 S x) i T1 = T1 + 1 from by simp [held1, c2, c3]] at kk
      exact Z_sub (by simp [bI_t, bI_f]) kk
    · refine Z_aload_n C dX1_countHeldBy_22 rfl rfl ?_
      refine Z_get C K1 (v := .ref 6) 5 dX1_countHeldBy_23 rfl (by decide) g_70 rfl rfl ?_
      refine Z_iload_n C dX1_countHeldBy_26 rfl rfl ?_
      refine Z_iaN C (v := S.1 5 i) dX1_countHeldBy_27 rfl (by omega) (by decide) rfl ?_
      refine Z_iload_n C dX1_countHeldBy_28 rfl rfl ?_
      refine Z_icmp_ne C 35 dX1_countHeldBy_29 (by decide) (fun c4 => ?_) (fun c4 => ?_)
      · refine Z_iinc C (L' := [(3, .int (nI (i + 1))), (2, .int T1), (0, .ref 0), (1, .int x)]) (v := nI (i + 1)) dX1_countHeldBy_35 rfl (nI_inc _) (by decide) rfl ?_
        refine Z_goto C 4 dX1_countHeldBy_38 (by decide) ?_
        rw [show (held1 S x) i T1 = T1 from by simp [held1, c2, c3, c4]] at kk
        exact Z_sub (by simp [bI_t, bI_f]) kk
      · refine Z_iinc C (L' := [(2, .int (T1 + 1)), (3, .int (nI i)), (0, .ref 0), (1, .int x)]) (v := T1 + 1) dX1_countHeldBy_32 rfl rfl (by decide) rfl ?_
        refine Z_iinc C (L' := [(3, .int (nI (i + 1))), (2, .int (T1 + 1)), (0, .ref 0), (1, .int x)]) (v := nI (i + 1)) dX1_countHeldBy_35 rfl (nI_inc _) (by decide) rfl ?_
        refine Z_goto C 4 dX1_countHeldBy_38 (by decide) ?_
        rw [show (held1 S x) i T1 = T1 + 1 from by simp [held1, c2, c3, c4]] at kk
        exact Z_sub (by simp [bI_t, bI_f]) kk
set_option maxHeartbeats 4000000 in
set_option maxRecDepth 20000 in
theorem c_X1_countSpells (S : St) {n : Nat} (hn : S.2.2.1 0 = nI n) (h40 : n ≤ 40) : CT yX1_countSpells cX1_countSpells 3 (some .int) 0 0 0 [.ref 0] (stW 0 S) (some (.int (cSp S))) (stW 0 S) := by
  refine CT_of (L := [(0, .ref 0)]) (by decide) (fun _ => rfl) (fun _ => Nat.le_of_ble_eq_true rfl) ?_
  intro p l e s m args below meth c G h A C hr hlk _
  refine Z_iconst C (v := 0) dX1_countSpells_0 (by decide) ?_
  refine Z_istore_n C (L' := [(1, .int 0), (0, .ref 0)]) dX1_countSpells_1 rfl (by decide) rfl ?_
  refine Z_iconst C (v := 0) dX1_countSpells_2 (by decide) ?_
  refine Z_istore_n C (L' := [(2, .int 0), (1, .int 0), (0, .ref 0)]) dX1_countSpells_3 rfl (by decide) rfl ?_
  refine Zfor (σ := Int32) (fun i T1 => Z p l e _ s m args below meth c 3 G A h _ 0 0 (stW 0 S) 4 [(2, .int (nI i)), (1, .int T1), (0, .ref 0)] []) (fun i T1 => True) (cSp1 S) n (0) trivial (fun i T1 hi hT1 => trivial) (fun T1 hT1 eT1 => ?_) (fun i T1 hi hT1 hT1' kk => ?_)
  · refine Z_iload_n C dX1_countSpells_4 rfl rfl ?_
    refine Z_aload_n C dX1_countSpells_5 rfl rfl ?_
    refine Z_get C K1 (v := .int (S.2.2.1 0)) 9 dX1_countSpells_6 rfl (by decide) g_75 rfl rfl ?_
    refine Z_icmp_ge C 35 dX1_countSpells_9 (by decide) (fun c1 => ?_) (fun c1 => absurd (ge_yes hn) c1)
    refine Z_iload_n C dX1_countSpells_35 rfl rfl ?_
    exact Z_iret C hr hlk dX1_countSpells_36 (congrArg (fun z => some (Value.int z)) (show (cSp S) = T1 from by subst eT1; simp only [cSp, nn_eq hn h40])) rfl
  · refine Z_iload_n C dX1_countSpells_4 rfl rfl ?_
    refine Z_aload_n C dX1_countSpells_5 rfl rfl ?_
    refine Z_get C K1 (v := .int (S.2.2.1 0)) 9 dX1_countSpells_6 rfl (by decide) g_75 rfl rfl ?_
    refine Z_icmp_ge C 35 dX1_countSpells_9 (by decide) (fun c2 => absurd c2 (ge_no hn h40 hi)) (fun c2 => ?_)
    refine Z_iload_n C dX1_countSpells_12 rfl rfl ?_
    refine Z_aload_n C dX1_countSpells_13 rfl rfl ?_
    refine Z_get C K1 (v := .ref 4) 3 dX1_countSpells_14 rfl (by decide) g_67 rfl rfl ?_
    refine Z_iload_n C dX1_countSpells_17 rfl rfl ?_
    refine Z_iaN C (v := S.1 3 i) dX1_countSpells_18 rfl (by omega) (by decide) rfl ?_
    refine Z_if_le C 26 dX1_countSpells_19 (by decide) (fun c3 => ?_) (fun c3 => ?_)
    · refine Z_iconst C (v := 0) dX1_countSpells_26 (by decide) ?_
      refine Z_iadd C (v := T1 + 0) dX1_countSpells_27 rfl ?_
      refine Z_istore_n C (L' := [(1, .int (T1 + 0)), (2, .int (nI i)), (0, .ref 0)]) dX1_countSpells_28 rfl (by decide) rfl ?_
      refine Z_iinc C (L' := [(2, .int (nI (i + 1))), (1, .int (T1 + 0)), (0, .ref 0)]) (v := nI (i + 1)) dX1_countSpells_29 rfl (nI_inc _) (by decide) rfl ?_
      refine Z_goto C 4 dX1_countSpells_32 (by decide) ?_
      rw [show (cSp1 S) i T1 = T1 + 0 from by simp [cSp1, c2, c3]] at kk
      exact Z_sub (by simp [bI_t, bI_f]) kk
    · refine Z_iconst C (v := 1) dX1_countSpells_22 (by decide) ?_
      refine Z_goto C 27 dX1_countSpells_23 (by decide) ?_
      refine Z_iadd C (v := T1 + 1) dX1_countSpells_27 rfl ?_
      refine Z_istore_n C (L' := [(1, .int (T1 + 1)), (2, .int (nI i)), (0, .ref 0)]) dX1_countSpells_28 rfl (by decide) rfl ?_
      refine Z_iinc C (L' := [(2, .int (nI (i + 1))), (1, .int (T1 + 1)), (0, .ref 0)]) (v := nI (i + 1)) dX1_countSpells_29 rfl (nI_inc _) (by decide) rfl ?_
      refine Z_goto C 4 dX1_countSpells_32 (by decide) ?_
      rw [show (cSp1 S) i T1 = T1 + 1 from by simp [cSp1, c2, c3]] at kk
      exact Z_sub (by simp [bI_t, bI_f]) kk
set_option maxHeartbeats 4000000 in
set_option maxRecDepth 20000 in
theorem c_X1_sumOfPowers (S : St) {n : Nat} (hn : S.2.2.1 0 = nI n) (h40 : n ≤ 40) : CT yX1_sumOfPowers cX1_sumOfPowers 3 (some .int) 0 0 0 [.ref 0] (stW 0 S) (some (.int (sPw S))) (stW 0 S) := by
  refine CT_of (L := [(0, .ref 0)]) (by decide) (fun _ => rfl) (fun _ => Nat.le_of_ble_eq_true rfl) ?_
  intro p l e s m args below meth c G h A C hr hlk _
  refine Z_iconst C (v := 0) dX1_sumOfPowers_0 (by decide) ?_
  refine Z_istore_n C (L' := [(1, .int 0), (0, .ref 0)]) dX1_sumOfPowers_1 rfl (by decide) rfl ?_
  refine Z_iconst C (v := 0) dX1_sumOfPowers_2 (by decide) ?_
  refine Z_istore_n C (L' := [(2, .int 0), (1, .int 0), (0, .ref 0)]) dX1_sumOfPowers_3 rfl (by decide) rfl ?_
  refine Zfor (σ := Int32) (fun i T1 => Z p l e _ s m args below meth c 3 G A h _ 0 0 (stW 0 S) 4 [(2, .int (nI i)), (1, .int T1), (0, .ref 0)] []) (fun i T1 => True) (sPw1 S) n (0) trivial (fun i T1 hi hT1 => trivial) (fun T1 hT1 eT1 => ?_) (fun i T1 hi hT1 hT1' kk => ?_)
  · refine Z_iload_n C dX1_sumOfPowers_4 rfl rfl ?_
    refine Z_aload_n C dX1_sumOfPowers_5 rfl rfl ?_
    refine Z_get C K1 (v := .int (S.2.2.1 0)) 9 dX1_sumOfPowers_6 rfl (by decide) g_75 rfl rfl ?_
    refine Z_icmp_ge C 27 dX1_sumOfPowers_9 (by decide) (fun c1 => ?_) (fun c1 => absurd (ge_yes hn) c1)
    refine Z_iload_n C dX1_sumOfPowers_27 rfl rfl ?_
    exact Z_iret C hr hlk dX1_sumOfPowers_28 (congrArg (fun z => some (Value.int z)) (show (sPw S) = T1 from by subst eT1; simp only [sPw, nn_eq hn h40])) rfl
  · refine Z_iload_n C dX1_sumOfPowers_4 rfl rfl ?_
    refine Z_aload_n C dX1_sumOfPowers_5 rfl rfl ?_
    refine Z_get C K1 (v := .int (S.2.2.1 0)) 9 dX1_sumOfPowers_6 rfl (by decide) g_75 rfl rfl ?_
    refine Z_icmp_ge C 27 dX1_sumOfPowers_9 (by decide) (fun c2 => absurd c2 (ge_no hn h40 hi)) (fun c2 => ?_)
    refine Z_iload_n C dX1_sumOfPowers_12 rfl rfl ?_
    refine Z_aload_n C dX1_sumOfPowers_13 rfl rfl ?_
    refine Z_get C K1 (v := .ref 4) 3 dX1_sumOfPowers_14 rfl (by decide) g_67 rfl rfl ?_
    refine Z_iload_n C dX1_sumOfPowers_17 rfl rfl ?_
    refine Z_iaN C (v := S.1 3 i) dX1_sumOfPowers_18 rfl (by omega) (by decide) rfl ?_
    refine Z_iadd C (v := T1 + (S.1 3 i)) dX1_sumOfPowers_19 rfl ?_
    refine Z_istore_n C (L' := [(1, .int (T1 + (S.1 3 i))), (2, .int (nI i)), (0, .ref 0)]) dX1_sumOfPowers_20 rfl (by decide) rfl ?_
    refine Z_iinc C (L' := [(2, .int (nI (i + 1))), (1, .int (T1 + (S.1 3 i))), (0, .ref 0)]) (v := nI (i + 1)) dX1_sumOfPowers_21 rfl (nI_inc _) (by decide) rfl ?_
    refine Z_goto C 4 dX1_sumOfPowers_24 (by decide) ?_
    rw [show (sPw1 S) i T1 = T1 + (S.1 3 i) from by simp [sPw1, c2]] at kk
    exact Z_sub (by simp [bI_t, bI_f]) kk
set_option maxHeartbeats 4000000 in
set_option maxRecDepth 20000 in
theorem c_X1_sumOfProps (S : St) {n : Nat} (hn : S.2.2.1 0 = nI n) (h40 : n ≤ 40) : CT yX1_sumOfProps cX1_sumOfProps 3 (some .int) 0 0 0 [.ref 0] (stW 0 S) (some (.int (sPr S))) (stW 0 S) := by
  refine CT_of (L := [(0, .ref 0)]) (by decide) (fun _ => rfl) (fun _ => Nat.le_of_ble_eq_true rfl) ?_
  intro p l e s m args below meth c G h A C hr hlk _
  refine Z_iconst C (v := 0) dX1_sumOfProps_0 (by decide) ?_
  refine Z_istore_n C (L' := [(1, .int 0), (0, .ref 0)]) dX1_sumOfProps_1 rfl (by decide) rfl ?_
  refine Z_iconst C (v := 0) dX1_sumOfProps_2 (by decide) ?_
  refine Z_istore_n C (L' := [(2, .int 0), (1, .int 0), (0, .ref 0)]) dX1_sumOfProps_3 rfl (by decide) rfl ?_
  refine Zfor (σ := Int32) (fun i T1 => Z p l e _ s m args below meth c 3 G A h _ 0 0 (stW 0 S) 4 [(2, .int (nI i)), (1, .int T1), (0, .ref 0)] []) (fun i T1 => True) (sPr1 S) n (0) trivial (fun i T1 hi hT1 => trivial) (fun T1 hT1 eT1 => ?_) (fun i T1 hi hT1 hT1' kk => ?_)
  · refine Z_iload_n C dX1_sumOfProps_4 rfl rfl ?_
    refine Z_aload_n C dX1_sumOfProps_5 rfl rfl ?_
    refine Z_get C K1 (v := .int (S.2.2.1 0)) 9 dX1_sumOfProps_6 rfl (by decide) g_75 rfl rfl ?_
    refine Z_icmp_ge C 40 dX1_sumOfProps_9 (by decide) (fun c1 => ?_) (fun c1 => absurd (ge_yes hn) c1)
    refine Z_iload_n C dX1_sumOfProps_40 rfl rfl ?_
    exact Z_iret C hr hlk dX1_sumOfProps_41 (congrArg (fun z => some (Value.int z)) (show (sPr S) = T1 from by subst eT1; simp only [sPr, nn_eq hn h40])) rfl
  · refine Z_iload_n C dX1_sumOfProps_4 rfl rfl ?_
    refine Z_aload_n C dX1_sumOfProps_5 rfl rfl ?_
    refine Z_get C K1 (v := .int (S.2.2.1 0)) 9 dX1_sumOfProps_6 rfl (by decide) g_75 rfl rfl ?_
    refine Z_icmp_ge C 40 dX1_sumOfProps_9 (by decide) (fun c2 => absurd c2 (ge_no hn h40 hi)) (fun c2 => ?_)
    refine Z_iload_n C dX1_sumOfProps_12 rfl rfl ?_
    refine Z_aload_n C dX1_sumOfProps_13 rfl rfl ?_
    refine Z_get C K1 (v := .ref 7) 6 dX1_sumOfProps_14 rfl (by decide) g_71 rfl rfl ?_
    refine Z_iload_n C dX1_sumOfProps_17 rfl rfl ?_
    refine Z_zaN C (v := bI (S.2.1 i)) dX1_sumOfProps_18 rfl (by omega) (by decide) rfl ?_
    refine Z_if_eq C 31 dX1_sumOfProps_19 (by decide) (fun c3 => ?_) (fun c3 => ?_)
    · have c3 := bI_0.mp c3
      refine Z_iconst C (v := 0) dX1_sumOfProps_31 (by decide) ?_
      refine Z_iadd C (v := T1 + 0) dX1_sumOfProps_32 rfl ?_
      refine Z_istore_n C (L' := [(1, .int (T1 + 0)), (2, .int (nI i)), (0, .ref 0)]) dX1_sumOfProps_33 rfl (by decide) rfl ?_
      refine Z_iinc C (L' := [(2, .int (nI (i + 1))), (1, .int (T1 + 0)), (0, .ref 0)]) (v := nI (i + 1)) dX1_sumOfProps_34 rfl (nI_inc _) (by decide) rfl ?_
      refine Z_goto C 4 dX1_sumOfProps_37 (by decide) ?_
      rw [show (sPr1 S) i T1 = T1 + 0 from by simp [sPr1, c2, c3]] at kk
      exact Z_sub (by simp [bI_t, bI_f]) kk
    · have c3 := bI_n0.mp c3
      refine Z_aload_n C dX1_sumOfProps_22 rfl rfl ?_
      refine Z_get C K1 (v := .ref 3) 2 dX1_sumOfProps_23 rfl (by decide) g_65 rfl rfl ?_
      refine Z_iload_n C dX1_sumOfProps_26 rfl rfl ?_
      refine Z_iaN C (v := S.1 2 i) dX1_sumOfProps_27 rfl (by omega) (by decide) rfl ?_
      refine Z_goto C 32 dX1_sumOfProps_28 (by decide) ?_
      refine Z_iadd C (v := T1 + (S.1 2 i)) dX1_sumOfProps_32 rfl ?_
      refine Z_istore_n C (L' := [(1, .int (T1 + (S.1 2 i))), (2, .int (nI i)), (0, .ref 0)]) dX1_sumOfProps_33 rfl (by decide) rfl ?_
      refine Z_iinc C (L' := [(2, .int (nI (i + 1))), (1, .int (T1 + (S.1 2 i))), (0, .ref 0)]) (v := nI (i + 1)) dX1_sumOfProps_34 rfl (nI_inc _) (by decide) rfl ?_
      refine Z_goto C 4 dX1_sumOfProps_37 (by decide) ?_
      rw [show (sPr1 S) i T1 = T1 + (S.1 2 i) from by simp [sPr1, c2, c3]] at kk
      exact Z_sub (by simp [bI_t, bI_f]) kk
set_option maxHeartbeats 4000000 in
set_option maxRecDepth 20000 in
theorem c_X1_sumOfLoads (S : St) {n : Nat} (hn : S.2.2.1 0 = nI n) (h40 : n ≤ 40) : CT yX1_sumOfLoads cX1_sumOfLoads 3 (some .int) 0 0 0 [.ref 0] (stW 0 S) (some (.int (sLd S))) (stW 0 S) := by
  refine CT_of (L := [(0, .ref 0)]) (by decide) (fun _ => rfl) (fun _ => Nat.le_of_ble_eq_true rfl) ?_
  intro p l e s m args below meth c G h A C hr hlk _
  refine Z_iconst C (v := 0) dX1_sumOfLoads_0 (by decide) ?_
  refine Z_istore_n C (L' := [(1, .int 0), (0, .ref 0)]) dX1_sumOfLoads_1 rfl (by decide) rfl ?_
  refine Z_iconst C (v := 0) dX1_sumOfLoads_2 (by decide) ?_
  refine Z_istore_n C (L' := [(2, .int 0), (1, .int 0), (0, .ref 0)]) dX1_sumOfLoads_3 rfl (by decide) rfl ?_
  refine Zfor (σ := Int32) (fun i T1 => Z p l e _ s m args below meth c 3 G A h _ 0 0 (stW 0 S) 4 [(2, .int (nI i)), (1, .int T1), (0, .ref 0)] []) (fun i T1 => True) (sLd1 S) n (0) trivial (fun i T1 hi hT1 => trivial) (fun T1 hT1 eT1 => ?_) (fun i T1 hi hT1 hT1' kk => ?_)
  · refine Z_iload_n C dX1_sumOfLoads_4 rfl rfl ?_
    refine Z_aload_n C dX1_sumOfLoads_5 rfl rfl ?_
    refine Z_get C K1 (v := .int (S.2.2.1 0)) 9 dX1_sumOfLoads_6 rfl (by decide) g_75 rfl rfl ?_
    refine Z_icmp_ge C 27 dX1_sumOfLoads_9 (by decide) (fun c1 => ?_) (fun c1 => absurd (ge_yes hn) c1)
    refine Z_iload_n C dX1_sumOfLoads_27 rfl rfl ?_
    exact Z_iret C hr hlk dX1_sumOfLoads_28 (congrArg (fun z => some (Value.int z)) (show (sLd S) = T1 from by subst eT1; simp only [sLd, nn_eq hn h40])) rfl
  · refine Z_iload_n C dX1_sumOfLoads_4 rfl rfl ?_
    refine Z_aload_n C dX1_sumOfLoads_5 rfl rfl ?_
    refine Z_get C K1 (v := .int (S.2.2.1 0)) 9 dX1_sumOfLoads_6 rfl (by decide) g_75 rfl rfl ?_
    refine Z_icmp_ge C 27 dX1_sumOfLoads_9 (by decide) (fun c2 => absurd c2 (ge_no hn h40 hi)) (fun c2 => ?_)
    refine Z_iload_n C dX1_sumOfLoads_12 rfl rfl ?_
    refine Z_aload_n C dX1_sumOfLoads_13 rfl rfl ?_
    refine Z_get C K1 (v := .ref 8) 7 dX1_sumOfLoads_14 rfl (by decide) g_72 rfl rfl ?_
    refine Z_iload_n C dX1_sumOfLoads_17 rfl rfl ?_
    refine Z_iaN C (v := S.1 6 i) dX1_sumOfLoads_18 rfl (by omega) (by decide) rfl ?_
    refine Z_iadd C (v := T1 + (S.1 6 i)) dX1_sumOfLoads_19 rfl ?_
    refine Z_istore_n C (L' := [(1, .int (T1 + (S.1 6 i))), (2, .int (nI i)), (0, .ref 0)]) dX1_sumOfLoads_20 rfl (by decide) rfl ?_
    refine Z_iinc C (L' := [(2, .int (nI (i + 1))), (1, .int (T1 + (S.1 6 i))), (0, .ref 0)]) (v := nI (i + 1)) dX1_sumOfLoads_21 rfl (nI_inc _) (by decide) rfl ?_
    refine Z_goto C 4 dX1_sumOfLoads_24 (by decide) ?_
    rw [show (sLd1 S) i T1 = T1 + (S.1 6 i) from by simp [sLd1, c2]] at kk
    exact Z_sub (by simp [bI_t, bI_f]) kk
set_option maxHeartbeats 4000000 in
set_option maxRecDepth 20000 in
theorem c_X1_sumOfSpelledLoads (S : St) {n : Nat} (hn : S.2.2.1 0 = nI n) (h40 : n ≤ 40) : CT yX1_sumOfSpelledLoads cX1_sumOfSpelledLoads 3 (some .int) 0 0 0 [.ref 0] (stW 0 S) (some (.int (sSl S))) (stW 0 S) := by
  refine CT_of (L := [(0, .ref 0)]) (by decide) (fun _ => rfl) (fun _ => Nat.le_of_ble_eq_true rfl) ?_
  intro p l e s m args below meth c G h A C hr hlk _
  refine Z_iconst C (v := 0) dX1_sumOfSpelledLoads_0 (by decide) ?_
  refine Z_istore_n C (L' := [(1, .int 0), (0, .ref 0)]) dX1_sumOfSpelledLoads_1 rfl (by decide) rfl ?_
  refine Z_iconst C (v := 0) dX1_sumOfSpelledLoads_2 (by decide) ?_
  refine Z_istore_n C (L' := [(2, .int 0), (1, .int 0), (0, .ref 0)]) dX1_sumOfSpelledLoads_3 rfl (by decide) rfl ?_
  refine Zfor (σ := Int32) (fun i T1 => Z p l e _ s m args below meth c 3 G A h _ 0 0 (stW 0 S) 4 [(2, .int (nI i)), (1, .int T1), (0, .ref 0)] []) (fun i T1 => True) (sSl1 S) n (0) trivial (fun i T1 hi hT1 => trivial) (fun T1 hT1 eT1 => ?_) (fun i T1 hi hT1 hT1' kk => ?_)
  · refine Z_iload_n C dX1_sumOfSpelledLoads_4 rfl rfl ?_
    refine Z_aload_n C dX1_sumOfSpelledLoads_5 rfl rfl ?_
    refine Z_get C K1 (v := .int (S.2.2.1 0)) 9 dX1_sumOfSpelledLoads_6 rfl (by decide) g_75 rfl rfl ?_
    refine Z_icmp_ge C 40 dX1_sumOfSpelledLoads_9 (by decide) (fun c1 => ?_) (fun c1 => absurd (ge_yes hn) c1)
    refine Z_iload_n C dX1_sumOfSpelledLoads_40 rfl rfl ?_
    exact Z_iret C hr hlk dX1_sumOfSpelledLoads_41 (congrArg (fun z => some (Value.int z)) (show (sSl S) = T1 from by subst eT1; simp only [sSl, nn_eq hn h40])) rfl
  · refine Z_iload_n C dX1_sumOfSpelledLoads_4 rfl rfl ?_
    refine Z_aload_n C dX1_sumOfSpelledLoads_5 rfl rfl ?_
    refine Z_get C K1 (v := .int (S.2.2.1 0)) 9 dX1_sumOfSpelledLoads_6 rfl (by decide) g_75 rfl rfl ?_
    refine Z_icmp_ge C 40 dX1_sumOfSpelledLoads_9 (by decide) (fun c2 => absurd c2 (ge_no hn h40 hi)) (fun c2 => ?_)
    refine Z_iload_n C dX1_sumOfSpelledLoads_12 rfl rfl ?_
    refine Z_aload_n C dX1_sumOfSpelledLoads_13 rfl rfl ?_
    refine Z_get C K1 (v := .ref 4) 3 dX1_sumOfSpelledLoads_14 rfl (by decide) g_67 rfl rfl ?_
    refine Z_iload_n C dX1_sumOfSpelledLoads_17 rfl rfl ?_
    refine Z_iaN C (v := S.1 3 i) dX1_sumOfSpelledLoads_18 rfl (by omega) (by decide) rfl ?_
    refine Z_if_le C 31 dX1_sumOfSpelledLoads_19 (by decide) (fun c3 => ?_) (fun c3 => ?_)
    · refine Z_iconst C (v := 0) dX1_sumOfSpelledLoads_31 (by decide) ?_
      refine Z_iadd C (v := T1 + 0) dX1_sumOfSpelledLoads_32 rfl ?_
      refine Z_istore_n C (L' := [(1, .int (T1 + 0)), (2, .int (nI i)), (0, .ref 0)]) dX1_sumOfSpelledLoads_33 rfl (by decide) rfl ?_
      refine Z_iinc C (L' := [(2, .int (nI (i + 1))), (1, .int (T1 + 0)), (0, .ref 0)]) (v := nI (i + 1)) dX1_sumOfSpelledLoads_34 rfl (nI_inc _) (by decide) rfl ?_
      refine Z_goto C 4 dX1_sumOfSpelledLoads_37 (by decide) ?_
      rw [show (sSl1 S) i T1 = T1 + 0 from by simp [sSl1, c2, c3]] at kk
      exact Z_sub (by simp [bI_t, bI_f]) kk
    · refine Z_aload_n C dX1_sumOfSpelledLoads_22 rfl rfl ?_
      refine Z_get C K1 (v := .ref 8) 7 dX1_sumOfSpelledLoads_23 rfl (by decide) g_72 rfl rfl ?_
      refine Z_iload_n C dX1_sumOfSpelledLoads_26 rfl rfl ?_
      refine Z_iaN C (v := S.1 6 i) dX1_sumOfSpelledLoads_27 rfl (by omega) (by decide) rfl ?_
      refine Z_goto C 32 dX1_sumOfSpelledLoads_28 (by decide) ?_
      refine Z_iadd C (v := T1 + (S.1 6 i)) dX1_sumOfSpelledLoads_32 rfl ?_
      refine Z_istore_n C (L' := [(1, .int (T1 + (S.1 6 i))), (2, .int (nI i)), (0, .ref 0)]) dX1_sumOfSpelledLoads_33 rfl (by decide) rfl ?_
      refine Z_iinc C (L' := [(2, .int (nI (i + 1))), (1, .int (T1 + (S.1 6 i))), (0, .ref 0)]) (v := nI (i + 1)) dX1_sumOfSpelledLoads_34 rfl (nI_inc _) (by decide) rfl ?_
      refine Z_goto C 4 dX1_sumOfSpelledLoads_37 (by decide) ?_
      rw [show (sSl1 S) i T1 = T1 + (S.1 6 i) from by simp [sSl1, c2, c3]] at kk
      exact Z_sub (by simp [bI_t, bI_f]) kk
set_option maxHeartbeats 4000000 in
set_option maxRecDepth 20000 in
theorem c_X1_addByHolds (S : St) (w : Int32) (t : Int32) (f : Int32) (o : Int32) {n : Nat} (hn : S.2.2.1 0 = nI n) (hl : n < 40) : CT yX1_addByHolds cX1_addByHolds 6 (some .int) 1 0 0 [.ref 0, .int w, .int t, .int f, .int o] (stW 0 S) (some (.int (nI n))) (stW 0 (addH S n w t f o)) := by
  refine CT_of (L := [(0, .ref 0), (1, .int w), (2, .int t), (3, .int f), (4, .int o)]) (by decide) (fun _ => rfl) (fun _ => Nat.le_of_ble_eq_true rfl) ?_
  intro p l e s m args below meth c G h A C hr hlk _
  refine Z_aload_n C dX1_addByHolds_0 rfl rfl ?_
  refine Z_callV C (ws' := stW 0 S) (st' := [.int (bI (isFullB S))]) (rest := []) [0, 1, 2, 3, 4, 5, 6, 7, 8, 9] (c_X1_isFull S) m_X1_isFull K1 g_318 dX1_addByHolds_1 rfl rfl rfl (outR _ _ _) (NW := 10) rfl rfl rfl rfl rfl ⟨Nat.le_of_ble_eq_true rfl, Nat.le_of_ble_eq_true rfl⟩ ⟨Nat.le_of_ble_eq_true rfl, Nat.le_of_ble_eq_true rfl⟩ (Nat.le_of_ble_eq_true rfl) rfl ?_
  refine Z_if_eq C 9 dX1_addByHolds_4 (by decide) (fun c1 => ?_) (fun c1 => absurd (bI_0.mpr (full_no hn hl)) c1)
  refine Z_aload_n C dX1_addByHolds_9 rfl rfl ?_
  refine Z_get C K1 (v := .int (nI n)) 9 dX1_addByHolds_10 rfl (by decide) g_75 rfl (congrArg (fun z => some (Value.int z)) hn) ?_
  refine Z_istore C (L' := [(5, .int (nI n)), (0, .ref 0), (1, .int w), (2, .int t), (3, .int f), (4, .int o)]) dX1_addByHolds_13 (by decide) rfl ?_
  refine Z_aload_n C dX1_addByHolds_15 rfl rfl ?_
  refine Z_get C K1 (v := .ref 1) 0 dX1_addByHolds_16 rfl (by decide) g_63 rfl rfl ?_
  refine Z_iload C dX1_addByHolds_19 rfl ?_
  refine Z_iload_n C dX1_addByHolds_21 rfl rfl ?_
  refine Z_isN C (ws' := stW 0 (uA S 0 n w)) dX1_addByHolds_22 rfl (by omega) (by decide) rfl ?_
  refine Z_aload_n C dX1_addByHolds_23 rfl rfl ?_
  refine Z_get C K1 (v := .ref 2) 1 dX1_addByHolds_24 rfl (by decide) g_64 rfl rfl ?_
  refine Z_iload C dX1_addByHolds_27 rfl ?_
  refine Z_iload_n C dX1_addByHolds_29 rfl rfl ?_
  refine Z_isN C (ws' := stW 0 (uA (uA S 0 n w) 1 n t)) dX1_addByHolds_30 rfl (by omega) (by decide) rfl ?_
  refine Z_aload_n C dX1_addByHolds_31 rfl rfl ?_
  refine Z_get C K1 (v := .ref 5) 4 dX1_addByHolds_32 rfl (by decide) g_69 rfl rfl ?_
  refine Z_iload C dX1_addByHolds_35 rfl ?_
  refine Z_iload_n C dX1_addByHolds_37 rfl rfl ?_
  refine Z_isN C (ws' := stW 0 (uA (uA (uA S 0 n w) 1 n t) 4 n f)) dX1_addByHolds_38 rfl (by omega) (by decide) rfl ?_
  refine Z_aload_n C dX1_addByHolds_39 rfl rfl ?_
  refine Z_get C K1 (v := .ref 6) 5 dX1_addByHolds_40 rfl (by decide) g_70 rfl rfl ?_
  refine Z_iload C dX1_addByHolds_43 rfl ?_
  refine Z_iload C dX1_addByHolds_45 rfl ?_
  refine Z_isN C (ws' := stW 0 (uA (uA (uA (uA S 0 n w) 1 n t) 4 n f) 5 n o)) dX1_addByHolds_47 rfl (by omega) (by decide) rfl ?_
  refine Z_aload_n C dX1_addByHolds_48 rfl rfl ?_
  refine Z_get C K1 (v := .ref 7) 6 dX1_addByHolds_49 rfl (by decide) g_71 rfl rfl ?_
  refine Z_iload C dX1_addByHolds_52 rfl ?_
  refine Z_iconst C (v := 1) dX1_addByHolds_54 (by decide) ?_
  refine Z_zsN C (b := true) (ws' := stW 0 (uH (uA (uA (uA (uA S 0 n w) 1 n t) 4 n f) 5 n o) n true)) dX1_addByHolds_55 rfl rfl (by omega) (by decide) rfl ?_
  refine Z_aload_n C dX1_addByHolds_56 rfl rfl ?_
  refine Z_dup C dX1_addByHolds_57 rfl ?_
  refine Z_get C K1 (v := .int (nI n)) 9 dX1_addByHolds_58 rfl (by decide) g_75 rfl (congrArg (fun z => some (Value.int z)) hn) ?_
  refine Z_iconst C (v := 1) dX1_addByHolds_61 (by decide) ?_
  refine Z_iadd C (v := nI n + 1) dX1_addByHolds_62 rfl ?_
  refine Z_put C K1 (ws' := stW 0 (uI (uH (uA (uA (uA (uA S 0 n w) 1 n t) 4 n f) 5 n o) n true) 0 (nI n + 1))) 9 dX1_addByHolds_63 rfl (by decide) g_75 rfl rfl rfl rfl rfl (Nat.le_of_ble_eq_true rfl) rfl ?_
  refine Z_aload_n C dX1_addByHolds_66 rfl rfl ?_
  refine Z_dup C dX1_addByHolds_67 rfl ?_
  refine Z_get C K1 (v := .int (S.2.2.1 1)) 10 dX1_addByHolds_68 rfl (by decide) g_78 rfl rfl ?_
  refine Z_iconst C (v := 1) dX1_addByHolds_71 (by decide) ?_
  refine Z_iadd C (v := (S.2.2.1 1) + 1) dX1_addByHolds_72 rfl ?_
  refine Z_put C K1 (ws' := stW 0 (uI (uI (uH (uA (uA (uA (uA S 0 n w) 1 n t) 4 n f) 5 n o) n true) 0 (nI n + 1)) 1 ((S.2.2.1 1) + 1))) 10 dX1_addByHolds_73 rfl (by decide) g_78 rfl rfl rfl rfl rfl (Nat.le_of_ble_eq_true rfl) rfl ?_
  refine Z_aload_n C dX1_addByHolds_76 rfl rfl ?_
  refine Z_iconst C (v := 1) dX1_addByHolds_77 (by decide) ?_
  refine Z_put C K1 (ws' := stW 0 (uS (uI (uI (uH (uA (uA (uA (uA S 0 n w) 1 n t) 4 n f) 5 n o) n true) 0 (nI n + 1)) 1 ((S.2.2.1 1) + 1)) true)) 12 dX1_addByHolds_78 rfl (by decide) g_81 rfl rfl rfl rfl rfl (Nat.le_of_ble_eq_true rfl) rfl ?_
  refine Z_iload C dX1_addByHolds_81 rfl ?_
  exact Z_iret C hr hlk dX1_addByHolds_83 rfl (by rw [show (addH S n w t f o) = (uS (uI (uI (uH (uA (uA (uA (uA S 0 n w) 1 n t) 4 n f) 5 n o) n true) 0 (nI n + 1)) 1 ((S.2.2.1 1) + 1)) true) from by simp [addH, c1]])
set_option maxHeartbeats 4000000 in
set_option maxRecDepth 20000 in
theorem c_X1_addBySpell (S : St) (w : Int32) (t : Int32) (q : Int32) {n : Nat} (hn : S.2.2.1 0 = nI n) (hl : n < 40) : CT yX1_addBySpell cX1_addBySpell 5 (some .int) 2 0 0 [.ref 0, .int w, .int t, .int q] (stW 0 S) (some (.int (nI n))) (stW 0 (addP S n w t q)) := by
  refine CT_of (L := [(0, .ref 0), (1, .int w), (2, .int t), (3, .int q)]) (by decide) (fun _ => rfl) (fun _ => Nat.le_of_ble_eq_true rfl) ?_
  intro p l e s m args below meth c G h A C hr hlk _
  refine Z_aload_n C dX1_addBySpell_0 rfl rfl ?_
  refine Z_iload_n C dX1_addBySpell_1 rfl rfl ?_
  refine Z_iload_n C dX1_addBySpell_2 rfl rfl ?_
  refine Z_iconst C (v := (-1)) dX1_addBySpell_3 (by decide) ?_
  refine Z_iconst C (v := (-1)) dX1_addBySpell_4 (by decide) ?_
  refine Z_callV C (ws' := stW 0 (addH S n w t (-1) (-1))) (st' := [.int (nI n)]) (rest := []) [0, 1, 2, 3, 4, 5, 6, 7, 8, 9] (c_X1_addByHolds S w t (-1) (-1) hn hl) m_X1_addByHolds K1 g_314 dX1_addBySpell_5 rfl rfl rfl (outL 10 rfl rfl rfl) (NW := 10) rfl rfl rfl rfl rfl ⟨Nat.le_of_ble_eq_true rfl, Nat.le_of_ble_eq_true rfl⟩ ⟨Nat.le_of_ble_eq_true rfl, Nat.le_of_ble_eq_true rfl⟩ (Nat.le_of_ble_eq_true rfl) rfl ?_
  refine Z_ws (fun X1 => stW 0 X1) (addH S n w t (-1) (-1)) (fun X1 eX1 => ?_)
  refine Z_istore C (L' := [(4, .int (nI n)), (0, .ref 0), (1, .int w), (2, .int t), (3, .int q)]) dX1_addBySpell_8 (by decide) rfl ?_
  refine Z_aload_n C dX1_addBySpell_10 rfl rfl ?_
  refine Z_iload C dX1_addBySpell_11 rfl ?_
  refine Z_callV C (ws' := stW 0 X1) (st' := [.int (bI (hasB X1 (nI n)))]) (rest := []) [0, 1, 2, 3, 4, 5, 6, 7, 8, 9] (c_X1_has X1 (nI n)) m_X1_has K1 g_179 dX1_addBySpell_13 rfl rfl rfl (outR _ _ _) (NW := 10) rfl rfl rfl rfl rfl ⟨Nat.le_of_ble_eq_true rfl, Nat.le_of_ble_eq_true rfl⟩ ⟨Nat.le_of_ble_eq_true rfl, Nat.le_of_ble_eq_true rfl⟩ (Nat.le_of_ble_eq_true rfl) rfl ?_
  refine Z_if_eq C 27 dX1_addBySpell_16 (by decide) (fun c1 => absurd c1 (bI_n0.mpr (has_nI (n := n + 1) (show X1.2.2.1 0 = nI (n + 1) from by rw [eX1]; exact nI_1 n) (by omega) (by omega)))) (fun c1 => ?_)
  refine Z_aload_n C dX1_addBySpell_19 rfl rfl ?_
  refine Z_get C K1 (v := .ref 4) 3 dX1_addBySpell_20 rfl (by decide) g_67 rfl rfl ?_
  refine Z_iload C dX1_addBySpell_23 rfl ?_
  refine Z_iload_n C dX1_addBySpell_25 rfl rfl ?_
  refine Z_isN C (ws' := stW 0 (uA X1 3 n q)) dX1_addBySpell_26 rfl (by omega) (by decide) rfl ?_
  refine Z_iload C dX1_addBySpell_27 rfl ?_
  exact Z_iret C hr hlk dX1_addBySpell_29 rfl (by rw [show (addP S n w t q) = (uA X1 3 n q) from by subst eX1; simp [addP, c1]])
set_option maxHeartbeats 4000000 in
set_option maxRecDepth 20000 in
theorem c_X1_setProp (S : St) (x : Int32) (q : Int32) {n : Nat} (hn : S.2.2.1 0 = nI n) (h40 : n ≤ 40) : CT yX1_setProp cX1_setProp 3 none 1 0 0 [.ref 0, .int x, .int q] (stW 0 S) none (stW 0 (setProp S x q)) := by
  refine CT_of (L := [(0, .ref 0), (1, .int x), (2, .int q)]) (by decide) (fun _ => rfl) (fun _ => Nat.le_of_ble_eq_true rfl) ?_
  intro p l e s m args below meth c G h A C hr hlk _
  refine Z_aload_n C dX1_setProp_0 rfl rfl ?_
  refine Z_iload_n C dX1_setProp_1 rfl rfl ?_
  refine Z_callV C (ws' := stW 0 S) (st' := [.int (bI (hasB S x))]) (rest := []) [0, 1, 2, 3, 4, 5, 6, 7, 8, 9] (c_X1_has S x) m_X1_has K1 g_179 dX1_setProp_2 rfl rfl rfl (outR _ _ _) (NW := 10) rfl rfl rfl rfl rfl ⟨Nat.le_of_ble_eq_true rfl, Nat.le_of_ble_eq_true rfl⟩ ⟨Nat.le_of_ble_eq_true rfl, Nat.le_of_ble_eq_true rfl⟩ (Nat.le_of_ble_eq_true rfl) rfl ?_
  refine Z_if_eq C 20 dX1_setProp_5 (by decide) (fun c1 => ?_) (fun c1 => ?_)
  · have c1 := bI_0.mp c1
    exact Z_vret C hr hlk dX1_setProp_20 rfl (by rw [show (setProp S x q) = S from by simp [setProp, c1]])
  · have c1 := bI_n0.mp c1
    obtain ⟨j, hj, rfl⟩ := has_ix hn h40 c1
    have ej : ix (nI j) = j := ix_nI (by omega)
    refine Z_aload_n C dX1_setProp_8 rfl rfl ?_
    refine Z_get C K1 (v := .ref 3) 2 dX1_setProp_9 rfl (by decide) g_65 rfl rfl ?_
    refine Z_iload_n C dX1_setProp_12 rfl rfl ?_
    refine Z_iload_n C dX1_setProp_13 rfl rfl ?_
    refine Z_isN C (ws' := stW 0 (uA S 2 j q)) dX1_setProp_14 rfl (by omega) (by decide) rfl ?_
    refine Z_aload_n C dX1_setProp_15 rfl rfl ?_
    refine Z_iconst C (v := 1) dX1_setProp_16 (by decide) ?_
    refine Z_put C K1 (ws' := stW 0 (uS (uA S 2 j q) true)) 12 dX1_setProp_17 rfl (by decide) g_81 rfl rfl rfl rfl rfl (Nat.le_of_ble_eq_true rfl) rfl ?_
    exact Z_vret C hr hlk dX1_setProp_20 rfl (by rw [show (setProp S (nI j) q) = (uS (uA S 2 j q) true) from by simp [setProp, c1, ej]])
set_option maxHeartbeats 4000000 in
set_option maxRecDepth 20000 in
theorem c_X1_copyFrom (S : St) (O : St) {n : Nat} (hO : O.2.2.1 0 = nI n) (h40 : n ≤ 40) : CT yX1_copyFrom cX1_copyFrom 3 none 0 0 0 [.ref 0, .ref 10] (stW 0 S ++ stW 10 O) none (stW 0 (copyF S O) ++ stW 10 O) := by
  refine CT_of (L := [(0, .ref 0), (1, .ref 10)]) (by decide) (fun _ => rfl) (fun _ => Nat.le_of_ble_eq_true rfl) ?_
  intro p l e s m args below meth c G h A C hr hlk _
  refine Z_iconst C (v := 0) dX1_copyFrom_0 (by decide) ?_
  refine Z_istore_n C (L' := [(2, .int 0), (0, .ref 0), (1, .ref 10)]) dX1_copyFrom_1 rfl (by decide) rfl ?_
  refine Zfor (σ := St) (fun i T1 => Z p l e _ s m args below meth c 3 G A h _ 0 0 (stW 0 T1 ++ stW 10 O) 2 [(2, .int (nI i)), (0, .ref 0), (1, .ref 10)] []) (fun i T1 => True) (cp1 O) n (S) trivial (fun i T1 hi hT1 => trivial) (fun T1 hT1 eT1 => ?_) (fun i T1 hi hT1 hT1' kk => ?_)
  · refine Z_iload_n C dX1_copyFrom_2 rfl rfl ?_
    refine Z_aload_n C dX1_copyFrom_3 rfl rfl ?_
    refine Z_get C K1 (v := .int (O.2.2.1 0)) 9 dX1_copyFrom_4 rfl (by decide) g_75 rfl rfl ?_
    refine Z_icmp_ge C 124 dX1_copyFrom_7 (by decide) (fun c1 => ?_) (fun c1 => absurd (ge_yes hO) c1)
    refine Z_aload_n C dX1_copyFrom_124 rfl rfl ?_
    refine Z_aload_n C dX1_copyFrom_125 rfl rfl ?_
    refine Z_get C K1 (v := .int (O.2.2.1 0)) 9 dX1_copyFrom_126 rfl (by decide) g_75 rfl rfl ?_
    refine Z_put C K1 (ws' := stW 0 (uI T1 0 (O.2.2.1 0)) ++ stW 10 O) 9 dX1_copyFrom_129 rfl (by decide) g_75 rfl rfl rfl rfl rfl (Nat.le_of_ble_eq_true rfl) rfl ?_
    refine Z_aload_n C dX1_copyFrom_132 rfl rfl ?_
    refine Z_aload_n C dX1_copyFrom_133 rfl rfl ?_
    refine Z_get C K1 (v := .int (O.2.2.1 1)) 10 dX1_copyFrom_134 rfl (by decide) g_78 rfl rfl ?_
    refine Z_put C K1 (ws' := stW 0 (uI (uI T1 0 (O.2.2.1 0)) 1 (O.2.2.1 1)) ++ stW 10 O) 10 dX1_copyFrom_137 rfl (by decide) g_78 rfl rfl rfl rfl rfl (Nat.le_of_ble_eq_true rfl) rfl ?_
    refine Z_aload_n C dX1_copyFrom_140 rfl rfl ?_
    refine Z_aload_n C dX1_copyFrom_141 rfl rfl ?_
    refine Z_get C K1 (v := .int (O.2.2.1 2)) 11 dX1_copyFrom_142 rfl (by decide) g_79 rfl rfl ?_
    refine Z_put C K1 (ws' := stW 0 (uI (uI (uI T1 0 (O.2.2.1 0)) 1 (O.2.2.1 1)) 2 (O.2.2.1 2)) ++ stW 10 O) 11 dX1_copyFrom_145 rfl (by decide) g_79 rfl rfl rfl rfl rfl (Nat.le_of_ble_eq_true rfl) rfl ?_
    refine Z_aload_n C dX1_copyFrom_148 rfl rfl ?_
    refine Z_aload_n C dX1_copyFrom_149 rfl rfl ?_
    refine Z_get C K1 (v := .int (bI O.2.2.2)) 12 dX1_copyFrom_150 rfl (by decide) g_81 rfl rfl ?_
    refine Z_put C K1 (ws' := stW 0 (uS (uI (uI (uI T1 0 (O.2.2.1 0)) 1 (O.2.2.1 1)) 2 (O.2.2.1 2)) O.2.2.2) ++ stW 10 O) 12 dX1_copyFrom_153 rfl (by decide) g_81 rfl rfl rfl (bI_nar _) (bI_fit _) (Nat.le_of_ble_eq_true rfl) rfl ?_
    exact Z_vret C hr hlk dX1_copyFrom_156 rfl (by rw [show (copyF S O) = (uS (uI (uI (uI T1 0 (O.2.2.1 0)) 1 (O.2.2.1 1)) 2 (O.2.2.1 2)) O.2.2.2) from by subst eT1; simp only [copyF, nn_eq hO h40]])
  · refine Z_iload_n C dX1_copyFrom_2 rfl rfl ?_
    refine Z_aload_n C dX1_copyFrom_3 rfl rfl ?_
    refine Z_get C K1 (v := .int (O.2.2.1 0)) 9 dX1_copyFrom_4 rfl (by decide) g_75 rfl rfl ?_
    refine Z_icmp_ge C 124 dX1_copyFrom_7 (by decide) (fun c2 => absurd c2 (ge_no hO h40 hi)) (fun c2 => ?_)
    refine Z_aload_n C dX1_copyFrom_10 rfl rfl ?_
    refine Z_get C K1 (v := .ref 1) 0 dX1_copyFrom_11 rfl (by decide) g_63 rfl rfl ?_
    refine Z_iload_n C dX1_copyFrom_14 rfl rfl ?_
    refine Z_aload_n C dX1_copyFrom_15 rfl rfl ?_
    refine Z_get C K1 (v := .ref 11) 0 dX1_copyFrom_16 rfl (by decide) g_63 rfl rfl ?_
    refine Z_iload_n C dX1_copyFrom_19 rfl rfl ?_
    refine Z_iaN C (v := O.1 0 i) dX1_copyFrom_20 rfl (by omega) (by decide) rfl ?_
    refine Z_isN C (ws' := stW 0 (uA T1 0 i (O.1 0 i)) ++ stW 10 O) dX1_copyFrom_21 rfl (by omega) (by decide) rfl ?_
    refine Z_aload_n C dX1_copyFrom_22 rfl rfl ?_
    refine Z_get C K1 (v := .ref 2) 1 dX1_copyFrom_23 rfl (by decide) g_64 rfl rfl ?_
    refine Z_iload_n C dX1_copyFrom_26 rfl rfl ?_
    refine Z_aload_n C dX1_copyFrom_27 rfl rfl ?_
    refine Z_get C K1 (v := .ref 12) 1 dX1_copyFrom_28 rfl (by decide) g_64 rfl rfl ?_
    refine Z_iload_n C dX1_copyFrom_31 rfl rfl ?_
    refine Z_iaN C (v := O.1 1 i) dX1_copyFrom_32 rfl (by omega) (by decide) rfl ?_
    refine Z_isN C (ws' := stW 0 (uA (uA T1 0 i (O.1 0 i)) 1 i (O.1 1 i)) ++ stW 10 O) dX1_copyFrom_33 rfl (by omega) (by decide) rfl ?_
    refine Z_aload_n C dX1_copyFrom_34 rfl rfl ?_
    refine Z_get C K1 (v := .ref 3) 2 dX1_copyFrom_35 rfl (by decide) g_65 rfl rfl ?_
    refine Z_iload_n C dX1_copyFrom_38 rfl rfl ?_
    refine Z_aload_n C dX1_copyFrom_39 rfl rfl ?_
    refine Z_get C K1 (v := .ref 13) 2 dX1_copyFrom_40 rfl (by decide) g_65 rfl rfl ?_
    refine Z_iload_n C dX1_copyFrom_43 rfl rfl ?_
    refine Z_iaN C (v := O.1 2 i) dX1_copyFrom_44 rfl (by omega) (by decide) rfl ?_
    refine Z_isN C (ws' := stW 0 (uA (uA (uA T1 0 i (O.1 0 i)) 1 i (O.1 1 i)) 2 i (O.1 2 i)) ++ stW 10 O) dX1_copyFrom_45 rfl (by omega) (by decide) rfl ?_
    refine Z_aload_n C dX1_copyFrom_46 rfl rfl ?_
    refine Z_get C K1 (v := .ref 4) 3 dX1_copyFrom_47 rfl (by decide) g_67 rfl rfl ?_
    refine Z_iload_n C dX1_copyFrom_50 rfl rfl ?_
    refine Z_aload_n C dX1_copyFrom_51 rfl rfl ?_
    refine Z_get C K1 (v := .ref 14) 3 dX1_copyFrom_52 rfl (by decide) g_67 rfl rfl ?_
    refine Z_iload_n C dX1_copyFrom_55 rfl rfl ?_
    refine Z_iaN C (v := O.1 3 i) dX1_copyFrom_56 rfl (by omega) (by decide) rfl ?_
    refine Z_isN C (ws' := stW 0 (uA (uA (uA (uA T1 0 i (O.1 0 i)) 1 i (O.1 1 i)) 2 i (O.1 2 i)) 3 i (O.1 3 i)) ++ stW 10 O) dX1_copyFrom_57 rfl (by omega) (by decide) rfl ?_
    refine Z_aload_n C dX1_copyFrom_58 rfl rfl ?_
    refine Z_get C K1 (v := .ref 5) 4 dX1_copyFrom_59 rfl (by decide) g_69 rfl rfl ?_
    refine Z_iload_n C dX1_copyFrom_62 rfl rfl ?_
    refine Z_aload_n C dX1_copyFrom_63 rfl rfl ?_
    refine Z_get C K1 (v := .ref 15) 4 dX1_copyFrom_64 rfl (by decide) g_69 rfl rfl ?_
    refine Z_iload_n C dX1_copyFrom_67 rfl rfl ?_
    refine Z_iaN C (v := O.1 4 i) dX1_copyFrom_68 rfl (by omega) (by decide) rfl ?_
    refine Z_isN C (ws' := stW 0 (uA (uA (uA (uA (uA T1 0 i (O.1 0 i)) 1 i (O.1 1 i)) 2 i (O.1 2 i)) 3 i (O.1 3 i)) 4 i (O.1 4 i)) ++ stW 10 O) dX1_copyFrom_69 rfl (by omega) (by decide) rfl ?_
    refine Z_aload_n C dX1_copyFrom_70 rfl rfl ?_
    refine Z_get C K1 (v := .ref 6) 5 dX1_copyFrom_71 rfl (by decide) g_70 rfl rfl ?_
    refine Z_iload_n C dX1_copyFrom_74 rfl rfl ?_
    refine Z_aload_n C dX1_copyFrom_75 rfl rfl ?_
    refine Z_get C K1 (v := .ref 16) 5 dX1_copyFrom_76 rfl (by decide) g_70 rfl rfl ?_
    refine Z_iload_n C dX1_copyFrom_79 rfl rfl ?_
    refine Z_iaN C (v := O.1 5 i) dX1_copyFrom_80 rfl (by omega) (by decide) rfl ?_
    refine Z_isN C (ws' := stW 0 (uA (uA (uA (uA (uA (uA T1 0 i (O.1 0 i)) 1 i (O.1 1 i)) 2 i (O.1 2 i)) 3 i (O.1 3 i)) 4 i (O.1 4 i)) 5 i (O.1 5 i)) ++ stW 10 O) dX1_copyFrom_81 rfl (by omega) (by decide) rfl ?_
    refine Z_aload_n C dX1_copyFrom_82 rfl rfl ?_
    refine Z_get C K1 (v := .ref 7) 6 dX1_copyFrom_83 rfl (by decide) g_71 rfl rfl ?_
    refine Z_iload_n C dX1_copyFrom_86 rfl rfl ?_
    refine Z_aload_n C dX1_copyFrom_87 rfl rfl ?_
    refine Z_get C K1 (v := .ref 17) 6 dX1_copyFrom_88 rfl (by decide) g_71 rfl rfl ?_
    refine Z_iload_n C dX1_copyFrom_91 rfl rfl ?_
    refine Z_zaN C (v := bI (O.2.1 i)) dX1_copyFrom_92 rfl (by omega) (by decide) rfl ?_
    refine Z_zsN C (b := (O.2.1 i)) (ws' := stW 0 (uH (uA (uA (uA (uA (uA (uA T1 0 i (O.1 0 i)) 1 i (O.1 1 i)) 2 i (O.1 2 i)) 3 i (O.1 3 i)) 4 i (O.1 4 i)) 5 i (O.1 5 i)) i (O.2.1 i)) ++ stW 10 O) dX1_copyFrom_93 rfl rfl (by omega) (by decide) rfl ?_
    refine Z_aload_n C dX1_copyFrom_94 rfl rfl ?_
    refine Z_get C K1 (v := .ref 8) 7 dX1_copyFrom_95 rfl (by decide) g_72 rfl rfl ?_
    refine Z_iload_n C dX1_copyFrom_98 rfl rfl ?_
    refine Z_aload_n C dX1_copyFrom_99 rfl rfl ?_
    refine Z_get C K1 (v := .ref 18) 7 dX1_copyFrom_100 rfl (by decide) g_72 rfl rfl ?_
    refine Z_iload_n C dX1_copyFrom_103 rfl rfl ?_
    refine Z_iaN C (v := O.1 6 i) dX1_copyFrom_104 rfl (by omega) (by decide) rfl ?_
    refine Z_isN C (ws' := stW 0 (uA (uH (uA (uA (uA (uA (uA (uA T1 0 i (O.1 0 i)) 1 i (O.1 1 i)) 2 i (O.1 2 i)) 3 i (O.1 3 i)) 4 i (O.1 4 i)) 5 i (O.1 5 i)) i (O.2.1 i)) 6 i (O.1 6 i)) ++ stW 10 O) dX1_copyFrom_105 rfl (by omega) (by decide) rfl ?_
    refine Z_aload_n C dX1_copyFrom_106 rfl rfl ?_
    refine Z_get C K1 (v := .ref 9) 8 dX1_copyFrom_107 rfl (by decide) g_74 rfl rfl ?_
    refine Z_iload_n C dX1_copyFrom_110 rfl rfl ?_
    refine Z_aload_n C dX1_copyFrom_111 rfl rfl ?_
    refine Z_get C K1 (v := .ref 19) 8 dX1_copyFrom_112 rfl (by decide) g_74 rfl rfl ?_
    refine Z_iload_n C dX1_copyFrom_115 rfl rfl ?_
    refine Z_iaN C (v := O.1 7 i) dX1_copyFrom_116 rfl (by omega) (by decide) rfl ?_
    refine Z_isN C (ws' := stW 0 (uA (uA (uH (uA (uA (uA (uA (uA (uA T1 0 i (O.1 0 i)) 1 i (O.1 1 i)) 2 i (O.1 2 i)) 3 i (O.1 3 i)) 4 i (O.1 4 i)) 5 i (O.1 5 i)) i (O.2.1 i)) 6 i (O.1 6 i)) 7 i (O.1 7 i)) ++ stW 10 O) dX1_copyFrom_117 rfl (by omega) (by decide) rfl ?_
    refine Z_iinc C (L' := [(2, .int (nI (i + 1))), (0, .ref 0), (1, .ref 10)]) (v := nI (i + 1)) dX1_copyFrom_118 rfl (nI_inc _) (by decide) rfl ?_
    refine Z_goto C 2 dX1_copyFrom_121 (by decide) ?_
    rw [show (cp1 O) i T1 = (uA (uA (uH (uA (uA (uA (uA (uA (uA T1 0 i (O.1 0 i)) 1 i (O.1 1 i)) 2 i (O.1 2 i)) 3 i (O.1 3 i)) 4 i (O.1 4 i)) 5 i (O.1 5 i)) i (O.2.1 i)) 6 i (O.1 6 i)) 7 i (O.1 7 i)) from by simp [cp1, c2]] at kk
    exact Z_sub (by simp [bI_t, bI_f]) kk
end
section
set_option maxHeartbeats 4000000 in
set_option maxRecDepth 20000 in
theorem c_X1_giveWay (S : St) {n : Nat} (hn : S.2.2.1 0 = nI n) (h40 : n ≤ 40) : CT yX1_giveWay cX1_giveWay 3 none 2 0 0 [.ref 0] (stW 0 S) none (stW 0 (giveWay S)) := by
  refine CT_of (L := [(0, .ref 0)]) (by decide) (fun _ => rfl) (fun _ => Nat.le_of_ble_eq_true rfl) ?_
  intro p l e s m args below meth c G h A C hr hlk _
  refine Z_iconst C (v := 1) dX1_giveWay_0 (by decide) ?_
  refine Z_istore_n C (L' := [(1, .int 1), (0, .ref 0)]) dX1_giveWay_1 rfl (by decide) rfl ?_
  refine Z_iconst C (v := 0) dX1_giveWay_2 (by decide) ?_
  refine Z_istore_n C (L' := [(2, .int 0), (1, .int 1), (0, .ref 0)]) dX1_giveWay_3 rfl (by decide) rfl ?_
  refine Zind (σ := St) (fun k T => ∀ r : Nat, r + k = 1000 → T.2.2.1 0 = nI n → gw k T = giveWay S → Z p l e _ s m args below meth c 3 G A h _ 0 0 (stW 0 T) 4 [(2, .int (nI r)), (1, .int 1), (0, .ref 0)] []) 1000 S (fun T r hr1 hT hg => ?_) (fun k T ih r hr1 hT hg => ?_) 0 (Nat.zero_add _) hn (gw_def S)
  · obtain rfl : r = 1000 := by omega
    refine Z_iload_n C dX1_giveWay_4 rfl rfl ?_
    refine Z_if_eq C 53 dX1_giveWay_5 (by decide) (fun c1 => absurd c1 (show ¬ (1 : Int32) = 0 from by decide)) (fun c1 => ?_)
    refine Z_iload_n C dX1_giveWay_8 rfl rfl ?_
    refine Z_sipush C (v := 1000) dX1_giveWay_9 (by decide) ?_
    refine Z_icmp_ge C 53 dX1_giveWay_12 (by decide) (fun c2 => ?_) (fun c2 => absurd (show (1000 : Int32) ≤ nI 1000 from by decide) c2)
    exact Z_vret C hr hlk dX1_giveWay_53 rfl (by rw [show (giveWay S) = T from by exact hg.symm])
  · refine Z_iload_n C dX1_giveWay_4 rfl rfl ?_
    refine Z_if_eq C 53 dX1_giveWay_5 (by decide) (fun c3 => absurd c3 (show ¬ (1 : Int32) = 0 from by decide)) (fun c3 => ?_)
    refine Z_iload_n C dX1_giveWay_8 rfl rfl ?_
    refine Z_sipush C (v := 1000) dX1_giveWay_9 (by decide) ?_
    refine Z_icmp_ge C 53 dX1_giveWay_12 (by decide) (fun c4 => absurd c4 (show ¬ (1000 : Int32) ≤ nI r from ge_no' (n := 1000) (by omega) (by omega))) (fun c4 => ?_)
    refine Z_aload_n C dX1_giveWay_15 rfl rfl ?_
    refine Z_get C K1 (v := .int (bI T.2.2.2)) 12 dX1_giveWay_16 rfl (by decide) g_81 rfl rfl ?_
    refine Z_if_eq C 26 dX1_giveWay_19 (by decide) (fun c5 => ?_) (fun c5 => ?_)
    · have c5 := bI_0.mp c5
      refine Z_aload_n C dX1_giveWay_26 rfl rfl ?_
      refine Z_callV C (ws' := stW 0 (tearO T)) (st' := []) (rest := []) [0, 1, 2, 3, 4, 5, 6, 7, 8, 9] (c_X1_tearOverpulled T hT h40) m_X1_tearOverpulled K1 g_334 dX1_giveWay_27 rfl rfl rfl (outL 10 rfl rfl rfl) (NW := 10) rfl rfl rfl rfl rfl ⟨Nat.le_of_ble_eq_true rfl, Nat.le_of_ble_eq_true rfl⟩ ⟨Nat.le_of_ble_eq_true rfl, Nat.le_of_ble_eq_true rfl⟩ (Nat.le_of_ble_eq_true rfl) rfl ?_
      refine Z_ws (fun X1 => stW 0 X1) (tearO T) (fun X1 eX1 => ?_)
      refine Z_aload_n C dX1_giveWay_30 rfl rfl ?_
      refine Z_callV C (ws' := stW 0 (endO X1)) (st' := []) (rest := []) [0, 1, 2, 3, 4, 5, 6, 7, 8, 9] (c_X1_endOverloaded X1 (show X1.2.2.1 0 = nI _ from by rw [eX1]; exact ((hk_tearO T).trans hT)) h40) m_X1_endOverloaded K1 g_342 dX1_giveWay_31 rfl rfl rfl (outL 10 rfl rfl rfl) (NW := 10) rfl rfl rfl rfl rfl ⟨Nat.le_of_ble_eq_true rfl, Nat.le_of_ble_eq_true rfl⟩ ⟨Nat.le_of_ble_eq_true rfl, Nat.le_of_ble_eq_true rfl⟩ (Nat.le_of_ble_eq_true rfl) rfl ?_
      refine Z_ws (fun X2 => stW 0 X2) (endO X1) (fun X2 eX2 => ?_)
      refine Z_aload_n C dX1_giveWay_34 rfl rfl ?_
      refine Z_get C K1 (v := .int (bI X2.2.2.2)) 12 dX1_giveWay_35 rfl (by decide) g_81 rfl rfl ?_
      refine Z_istore_n C (L' := [(1, .int (bI X2.2.2.2)), (2, .int (nI r)), (0, .ref 0)]) dX1_giveWay_38 rfl (by decide) rfl ?_
      refine Z_iload_n C dX1_giveWay_39 rfl rfl ?_
      refine Z_if_eq C 47 dX1_giveWay_40 (by decide) (fun c6 => ?_) (fun c6 => ?_)
      · have c6 := bI_0.mp c6
        refine Z_iinc C (L' := [(2, .int (nI (r + 1))), (1, .int (bI X2.2.2.2)), (0, .ref 0)]) (v := nI (r + 1)) dX1_giveWay_47 rfl (nI_inc _) (by decide) rfl ?_
        refine Z_goto C 4 dX1_giveWay_50 (by decide) ?_
        rw [show bI X2.2.2.2 = 0 from by rw [show X2.2.2.2 = false from c6]; rfl]
        refine Z_iload_n C dX1_giveWay_4 rfl rfl ?_
        refine Z_if_eq C 53 dX1_giveWay_5 (by decide) (fun c7 => ?_) (fun c7 => absurd (show (0 : Int32) = 0 from rfl) c7)
        exact Z_vret C hr hlk dX1_giveWay_53 rfl (by rw [show (giveWay S) = X2 from by subst eX1 eX2; rw [← hg]; simp [gw, gwB, c3, c4, c5, c6, c7]])
      · have c6 := bI_n0.mp c6
        refine Z_aload_n C dX1_giveWay_43 rfl rfl ?_
        refine Z_callV C (ws' := stW 0 (dropL X2)) (st' := []) (rest := []) [0, 1, 2, 3, 4, 5, 6, 7, 8, 9] (c_X1_dropLoose X2 (show X2.2.2.1 0 = nI _ from by rw [eX2]; exact ((hk_endO X1).trans (show X1.2.2.1 0 = nI _ from by rw [eX1]; exact ((hk_tearO T).trans hT)))) h40) m_X1_dropLoose K1 g_350 dX1_giveWay_44 rfl rfl rfl (outL 10 rfl rfl rfl) (NW := 10) rfl rfl rfl rfl rfl ⟨Nat.le_of_ble_eq_true rfl, Nat.le_of_ble_eq_true rfl⟩ ⟨Nat.le_of_ble_eq_true rfl, Nat.le_of_ble_eq_true rfl⟩ (Nat.le_of_ble_eq_true rfl) rfl ?_
        refine Z_ws (fun X3 => stW 0 X3) (dropL X2) (fun X3 eX3 => ?_)
        refine Z_iinc C (L' := [(2, .int (nI (r + 1))), (1, .int (bI X2.2.2.2)), (0, .ref 0)]) (v := nI (r + 1)) dX1_giveWay_47 rfl (nI_inc _) (by decide) rfl ?_
        refine Z_goto C 4 dX1_giveWay_50 (by decide) ?_
        rw [show bI X2.2.2.2 = 1 from by rw [show X2.2.2.2 = true from c6]; rfl]
        exact Z_sub (by simp) (ih X3 (r + 1) (by omega) (show X3.2.2.1 0 = nI _ from by rw [eX3]; exact ((hk_dropL X2).trans (show X2.2.2.1 0 = nI _ from by rw [eX2]; exact ((hk_endO X1).trans (show X1.2.2.1 0 = nI _ from by rw [eX1]; exact ((hk_tearO T).trans hT)))))) (by subst eX1 eX2 eX3; rw [← hg]; simp [gw, gwB, c3, c4, c5, c6]))
    · have c5 := bI_n0.mp c5
      refine Z_aload_n C dX1_giveWay_22 rfl rfl ?_
      refine Z_callV C (ws' := stW 0 (measure T)) (st' := []) (rest := []) [0, 1, 2, 3, 4, 5, 6, 7, 8, 9] (c_X1_measure T hT h40) m_X1_measure K1 g_323 dX1_giveWay_23 rfl rfl rfl (outL 10 rfl rfl rfl) (NW := 10) rfl rfl rfl rfl rfl ⟨Nat.le_of_ble_eq_true rfl, Nat.le_of_ble_eq_true rfl⟩ ⟨Nat.le_of_ble_eq_true rfl, Nat.le_of_ble_eq_true rfl⟩ (Nat.le_of_ble_eq_true rfl) rfl ?_
      refine Z_ws (fun X4 => stW 0 X4) (measure T) (fun X4 eX4 => ?_)
      refine Z_aload_n C dX1_giveWay_26 rfl rfl ?_
      refine Z_callV C (ws' := stW 0 (tearO X4)) (st' := []) (rest := []) [0, 1, 2, 3, 4, 5, 6, 7, 8, 9] (c_X1_tearOverpulled X4 (show X4.2.2.1 0 = nI _ from by rw [eX4]; exact ((hk_measure T).trans hT)) h40) m_X1_tearOverpulled K1 g_334 dX1_giveWay_27 rfl rfl rfl (outL 10 rfl rfl rfl) (NW := 10) rfl rfl rfl rfl rfl ⟨Nat.le_of_ble_eq_true rfl, Nat.le_of_ble_eq_true rfl⟩ ⟨Nat.le_of_ble_eq_true rfl, Nat.le_of_ble_eq_true rfl⟩ (Nat.le_of_ble_eq_true rfl) rfl ?_
      refine Z_ws (fun X5 => stW 0 X5) (tearO X4) (fun X5 eX5 => ?_)
      refine Z_aload_n C dX1_giveWay_30 rfl rfl ?_
      refine Z_callV C (ws' := stW 0 (endO X5)) (st' := []) (rest := []) [0, 1, 2, 3, 4, 5, 6, 7, 8, 9] (c_X1_endOverloaded X5 (show X5.2.2.1 0 = nI _ from by rw [eX5]; exact ((hk_tearO X4).trans (show X4.2.2.1 0 = nI _ from by rw [eX4]; exact ((hk_measure T).trans hT)))) h40) m_X1_endOverloaded K1 g_342 dX1_giveWay_31 rfl rfl rfl (outL 10 rfl rfl rfl) (NW := 10) rfl rfl rfl rfl rfl ⟨Nat.le_of_ble_eq_true rfl, Nat.le_of_ble_eq_true rfl⟩ ⟨Nat.le_of_ble_eq_true rfl, Nat.le_of_ble_eq_true rfl⟩ (Nat.le_of_ble_eq_true rfl) rfl ?_
      refine Z_ws (fun X6 => stW 0 X6) (endO X5) (fun X6 eX6 => ?_)
      refine Z_aload_n C dX1_giveWay_34 rfl rfl ?_
      refine Z_get C K1 (v := .int (bI X6.2.2.2)) 12 dX1_giveWay_35 rfl (by decide) g_81 rfl rfl ?_
      refine Z_istore_n C (L' := [(1, .int (bI X6.2.2.2)), (2, .int (nI r)), (0, .ref 0)]) dX1_giveWay_38 rfl (by decide) rfl ?_
      refine Z_iload_n C dX1_giveWay_39 rfl rfl ?_
      refine Z_if_eq C 47 dX1_giveWay_40 (by decide) (fun c8 => ?_) (fun c8 => ?_)
      · have c8 := bI_0.mp c8
        refine Z_iinc C (L' := [(2, .int (nI (r + 1))), (1, .int (bI X6.2.2.2)), (0, .ref 0)]) (v := nI (r + 1)) dX1_giveWay_47 rfl (nI_inc _) (by decide) rfl ?_
        refine Z_goto C 4 dX1_giveWay_50 (by decide) ?_
        rw [show bI X6.2.2.2 = 0 from by rw [show X6.2.2.2 = false from c8]; rfl]
        refine Z_iload_n C dX1_giveWay_4 rfl rfl ?_
        refine Z_if_eq C 53 dX1_giveWay_5 (by decide) (fun c9 => ?_) (fun c9 => absurd (show (0 : Int32) = 0 from rfl) c9)
        exact Z_vret C hr hlk dX1_giveWay_53 rfl (by rw [show (giveWay S) = X6 from by subst eX4 eX5 eX6; rw [← hg]; simp [gw, gwB, c3, c4, c5, c8, c9]])
      · have c8 := bI_n0.mp c8
        refine Z_aload_n C dX1_giveWay_43 rfl rfl ?_
        refine Z_callV C (ws' := stW 0 (dropL X6)) (st' := []) (rest := []) [0, 1, 2, 3, 4, 5, 6, 7, 8, 9] (c_X1_dropLoose X6 (show X6.2.2.1 0 = nI _ from by rw [eX6]; exact ((hk_endO X5).trans (show X5.2.2.1 0 = nI _ from by rw [eX5]; exact ((hk_tearO X4).trans (show X4.2.2.1 0 = nI _ from by rw [eX4]; exact ((hk_measure T).trans hT)))))) h40) m_X1_dropLoose K1 g_350 dX1_giveWay_44 rfl rfl rfl (outL 10 rfl rfl rfl) (NW := 10) rfl rfl rfl rfl rfl ⟨Nat.le_of_ble_eq_true rfl, Nat.le_of_ble_eq_true rfl⟩ ⟨Nat.le_of_ble_eq_true rfl, Nat.le_of_ble_eq_true rfl⟩ (Nat.le_of_ble_eq_true rfl) rfl ?_
        refine Z_ws (fun X7 => stW 0 X7) (dropL X6) (fun X7 eX7 => ?_)
        refine Z_iinc C (L' := [(2, .int (nI (r + 1))), (1, .int (bI X6.2.2.2)), (0, .ref 0)]) (v := nI (r + 1)) dX1_giveWay_47 rfl (nI_inc _) (by decide) rfl ?_
        refine Z_goto C 4 dX1_giveWay_50 (by decide) ?_
        rw [show bI X6.2.2.2 = 1 from by rw [show X6.2.2.2 = true from c8]; rfl]
        exact Z_sub (by simp) (ih X7 (r + 1) (by omega) (show X7.2.2.1 0 = nI _ from by rw [eX7]; exact ((hk_dropL X6).trans (show X6.2.2.1 0 = nI _ from by rw [eX6]; exact ((hk_endO X5).trans (show X5.2.2.1 0 = nI _ from by rw [eX5]; exact ((hk_tearO X4).trans (show X4.2.2.1 0 = nI _ from by rw [eX4]; exact ((hk_measure T).trans hT)))))))) (by subst eX4 eX5 eX6 eX7; rw [← hg]; simp [gw, gwB, c3, c4, c5, c8]))
set_option maxHeartbeats 4000000 in
set_option maxRecDepth 20000 in
theorem c_X1_cutLoose (S : St) (x : Int32) {n : Nat} (hn : S.2.2.1 0 = nI n) (h40 : n ≤ 40) : CT yX1_cutLoose cX1_cutLoose 2 none 3 0 0 [.ref 0, .int x] (stW 0 S) none (stW 0 (cutL S x)) := by
  refine CT_of (L := [(0, .ref 0), (1, .int x)]) (by decide) (fun _ => rfl) (fun _ => Nat.le_of_ble_eq_true rfl) ?_
  intro p l e s m args below meth c G h A C hr hlk _
  refine Z_aload_n C dX1_cutLoose_0 rfl rfl ?_
  refine Z_iload_n C dX1_cutLoose_1 rfl rfl ?_
  refine Z_callV C (ws' := stW 0 S) (st' := [.int (bI (hasB S x))]) (rest := []) [0, 1, 2, 3, 4, 5, 6, 7, 8, 9] (c_X1_has S x) m_X1_has K1 g_179 dX1_cutLoose_2 rfl rfl rfl (outR _ _ _) (NW := 10) rfl rfl rfl rfl rfl ⟨Nat.le_of_ble_eq_true rfl, Nat.le_of_ble_eq_true rfl⟩ ⟨Nat.le_of_ble_eq_true rfl, Nat.le_of_ble_eq_true rfl⟩ (Nat.le_of_ble_eq_true rfl) rfl ?_
  refine Z_if_ne C 9 dX1_cutLoose_5 (by decide) (fun c1 => ?_) (fun c1 => ?_)
  · have c1 := bI_n0.mp c1
    obtain ⟨j, hj, rfl⟩ := has_ix hn h40 c1
    have ej : ix (nI j) = j := ix_nI (by omega)
    refine Z_aload_n C dX1_cutLoose_9 rfl rfl ?_
    refine Z_iload_n C dX1_cutLoose_10 rfl rfl ?_
    refine Z_callV C (ws' := stW 0 (endSpell S (nI j))) (st' := []) (rest := []) [0, 1, 2, 3, 4, 5, 6, 7, 8, 9] (c_X1_endSpell S (nI j) hn h40) m_X1_endSpell K1 g_346 dX1_cutLoose_11 rfl rfl rfl (outL 10 rfl rfl rfl) (NW := 10) rfl rfl rfl rfl rfl ⟨Nat.le_of_ble_eq_true rfl, Nat.le_of_ble_eq_true rfl⟩ ⟨Nat.le_of_ble_eq_true rfl, Nat.le_of_ble_eq_true rfl⟩ (Nat.le_of_ble_eq_true rfl) rfl ?_
    refine Z_ws (fun X1 => stW 0 X1) (endSpell S (nI j)) (fun X1 eX1 => ?_)
    refine Z_aload_n C dX1_cutLoose_14 rfl rfl ?_
    refine Z_get C K1 (v := .ref 5) 4 dX1_cutLoose_15 rfl (by decide) g_69 rfl rfl ?_
    refine Z_iload_n C dX1_cutLoose_18 rfl rfl ?_
    refine Z_iconst C (v := (-1)) dX1_cutLoose_19 (by decide) ?_
    refine Z_isN C (ws' := stW 0 (uA X1 4 j (-1))) dX1_cutLoose_20 rfl (by omega) (by decide) rfl ?_
    refine Z_aload_n C dX1_cutLoose_21 rfl rfl ?_
    refine Z_get C K1 (v := .ref 6) 5 dX1_cutLoose_22 rfl (by decide) g_70 rfl rfl ?_
    refine Z_iload_n C dX1_cutLoose_25 rfl rfl ?_
    refine Z_iconst C (v := (-1)) dX1_cutLoose_26 (by decide) ?_
    refine Z_isN C (ws' := stW 0 (uA (uA X1 4 j (-1)) 5 j (-1))) dX1_cutLoose_27 rfl (by omega) (by decide) rfl ?_
    refine Z_aload_n C dX1_cutLoose_28 rfl rfl ?_
    refine Z_callV C (ws' := stW 0 (dropL (uA (uA X1 4 j (-1)) 5 j (-1)))) (st' := []) (rest := []) [0, 1, 2, 3, 4, 5, 6, 7, 8, 9] (c_X1_dropLoose (uA (uA X1 4 j (-1)) 5 j (-1)) (show X1.2.2.1 0 = nI _ from by rw [eX1]; exact ((hk_endSpell S (nI j)).trans hn)) h40) m_X1_dropLoose K1 g_350 dX1_cutLoose_29 rfl rfl rfl (outL 10 rfl rfl rfl) (NW := 10) rfl rfl rfl rfl rfl ⟨Nat.le_of_ble_eq_true rfl, Nat.le_of_ble_eq_true rfl⟩ ⟨Nat.le_of_ble_eq_true rfl, Nat.le_of_ble_eq_true rfl⟩ (Nat.le_of_ble_eq_true rfl) rfl ?_
    refine Z_ws (fun X2 => stW 0 X2) (dropL (uA (uA X1 4 j (-1)) 5 j (-1))) (fun X2 eX2 => ?_)
    refine Z_aload_n C dX1_cutLoose_32 rfl rfl ?_
    refine Z_callV C (ws' := stW 0 (giveWay X2)) (st' := []) (rest := []) [0, 1, 2, 3, 4, 5, 6, 7, 8, 9] (c_X1_giveWay X2 (show X2.2.2.1 0 = nI _ from by rw [eX2]; exact ((hk_dropL (uA (uA X1 4 j (-1)) 5 j (-1))).trans (show X1.2.2.1 0 = nI _ from by rw [eX1]; exact ((hk_endSpell S (nI j)).trans hn)))) h40) m_X1_giveWay K1 g_520 dX1_cutLoose_33 rfl rfl rfl (outL 10 rfl rfl rfl) (NW := 10) rfl rfl rfl rfl rfl ⟨Nat.le_of_ble_eq_true rfl, Nat.le_of_ble_eq_true rfl⟩ ⟨Nat.le_of_ble_eq_true rfl, Nat.le_of_ble_eq_true rfl⟩ (Nat.le_of_ble_eq_true rfl) rfl ?_
    refine Z_ws (fun X3 => stW 0 X3) (giveWay X2) (fun X3 eX3 => ?_)
    exact Z_vret C hr hlk dX1_cutLoose_36 rfl (by rw [show (cutL S (nI j)) = X3 from by subst eX1 eX2 eX3; simp [cutL, c1, ej]])
  · have c1 := bI_0.mp c1
    exact Z_vret C hr hlk dX1_cutLoose_8 rfl (by rw [show (cutL S x) = S from by simp [cutL, c1]])
set_option maxHeartbeats 4000000 in
set_option maxRecDepth 20000 in
theorem c_X1_liveDay (S : St) {n : Nat} (hn : S.2.2.1 0 = nI n) (h40 : n ≤ 40) : CT yX1_liveDay cX1_liveDay 1 none 3 0 0 [.ref 0] (stW 0 S) none (stW 0 (liveDay S)) := by
  refine CT_of (L := [(0, .ref 0)]) (by decide) (fun _ => rfl) (fun _ => Nat.le_of_ble_eq_true rfl) ?_
  intro p l e s m args below meth c G h A C hr hlk _
  refine Z_aload_n C dX1_liveDay_0 rfl rfl ?_
  refine Z_callV C (ws' := stW 0 (fade S)) (st' := []) (rest := []) [0, 1, 2, 3, 4, 5, 6, 7, 8, 9] (c_X1_fade S hn h40) m_X1_fade K1 g_516 dX1_liveDay_1 rfl rfl rfl (outL 10 rfl rfl rfl) (NW := 10) rfl rfl rfl rfl rfl ⟨Nat.le_of_ble_eq_true rfl, Nat.le_of_ble_eq_true rfl⟩ ⟨Nat.le_of_ble_eq_true rfl, Nat.le_of_ble_eq_true rfl⟩ (Nat.le_of_ble_eq_true rfl) rfl ?_
  refine Z_ws (fun X1 => stW 0 X1) (fade S) (fun X1 eX1 => ?_)
  refine Z_aload_n C dX1_liveDay_4 rfl rfl ?_
  refine Z_get C K1 (v := .int (bI X1.2.2.2)) 12 dX1_liveDay_5 rfl (by decide) g_81 rfl rfl ?_
  refine Z_if_eq C 15 dX1_liveDay_8 (by decide) (fun c1 => ?_) (fun c1 => ?_)
  · have c1 := bI_0.mp c1
    refine Z_aload_n C dX1_liveDay_15 rfl rfl ?_
    refine Z_callV C (ws' := stW 0 (giveWay X1)) (st' := []) (rest := []) [0, 1, 2, 3, 4, 5, 6, 7, 8, 9] (c_X1_giveWay X1 (show X1.2.2.1 0 = nI _ from by rw [eX1]; exact ((hk_fade S).trans hn)) h40) m_X1_giveWay K1 g_520 dX1_liveDay_16 rfl rfl rfl (outL 10 rfl rfl rfl) (NW := 10) rfl rfl rfl rfl rfl ⟨Nat.le_of_ble_eq_true rfl, Nat.le_of_ble_eq_true rfl⟩ ⟨Nat.le_of_ble_eq_true rfl, Nat.le_of_ble_eq_true rfl⟩ (Nat.le_of_ble_eq_true rfl) rfl ?_
    refine Z_ws (fun X2 => stW 0 X2) (giveWay X1) (fun X2 eX2 => ?_)
    refine Z_aload_n C dX1_liveDay_19 rfl rfl ?_
    refine Z_dup C dX1_liveDay_20 rfl ?_
    refine Z_get C K1 (v := .int (X2.2.2.1 2)) 11 dX1_liveDay_21 rfl (by decide) g_79 rfl rfl ?_
    refine Z_iconst C (v := 1) dX1_liveDay_24 (by decide) ?_
    refine Z_iadd C (v := (X2.2.2.1 2) + 1) dX1_liveDay_25 rfl ?_
    refine Z_put C K1 (ws' := stW 0 (uI X2 2 ((X2.2.2.1 2) + 1))) 11 dX1_liveDay_26 rfl (by decide) g_79 rfl rfl rfl rfl rfl (Nat.le_of_ble_eq_true rfl) rfl ?_
    exact Z_vret C hr hlk dX1_liveDay_29 rfl (by rw [show (liveDay S) = (uI X2 2 ((X2.2.2.1 2) + 1)) from by subst eX1 eX2; simp [liveDay, dayD, c1]])
  · have c1 := bI_n0.mp c1
    refine Z_aload_n C dX1_liveDay_11 rfl rfl ?_
    refine Z_callV C (ws' := stW 0 (dropL X1)) (st' := []) (rest := []) [0, 1, 2, 3, 4, 5, 6, 7, 8, 9] (c_X1_dropLoose X1 (show X1.2.2.1 0 = nI _ from by rw [eX1]; exact ((hk_fade S).trans hn)) h40) m_X1_dropLoose K1 g_350 dX1_liveDay_12 rfl rfl rfl (outL 10 rfl rfl rfl) (NW := 10) rfl rfl rfl rfl rfl ⟨Nat.le_of_ble_eq_true rfl, Nat.le_of_ble_eq_true rfl⟩ ⟨Nat.le_of_ble_eq_true rfl, Nat.le_of_ble_eq_true rfl⟩ (Nat.le_of_ble_eq_true rfl) rfl ?_
    refine Z_ws (fun X3 => stW 0 X3) (dropL X1) (fun X3 eX3 => ?_)
    refine Z_aload_n C dX1_liveDay_15 rfl rfl ?_
    refine Z_callV C (ws' := stW 0 (giveWay X3)) (st' := []) (rest := []) [0, 1, 2, 3, 4, 5, 6, 7, 8, 9] (c_X1_giveWay X3 (show X3.2.2.1 0 = nI _ from by rw [eX3]; exact ((hk_dropL X1).trans (show X1.2.2.1 0 = nI _ from by rw [eX1]; exact ((hk_fade S).trans hn)))) h40) m_X1_giveWay K1 g_520 dX1_liveDay_16 rfl rfl rfl (outL 10 rfl rfl rfl) (NW := 10) rfl rfl rfl rfl rfl ⟨Nat.le_of_ble_eq_true rfl, Nat.le_of_ble_eq_true rfl⟩ ⟨Nat.le_of_ble_eq_true rfl, Nat.le_of_ble_eq_true rfl⟩ (Nat.le_of_ble_eq_true rfl) rfl ?_
    refine Z_ws (fun X4 => stW 0 X4) (giveWay X3) (fun X4 eX4 => ?_)
    refine Z_aload_n C dX1_liveDay_19 rfl rfl ?_
    refine Z_dup C dX1_liveDay_20 rfl ?_
    refine Z_get C K1 (v := .int (X4.2.2.1 2)) 11 dX1_liveDay_21 rfl (by decide) g_79 rfl rfl ?_
    refine Z_iconst C (v := 1) dX1_liveDay_24 (by decide) ?_
    refine Z_iadd C (v := (X4.2.2.1 2) + 1) dX1_liveDay_25 rfl ?_
    refine Z_put C K1 (ws' := stW 0 (uI X4 2 ((X4.2.2.1 2) + 1))) 11 dX1_liveDay_26 rfl (by decide) g_79 rfl rfl rfl rfl rfl (Nat.le_of_ble_eq_true rfl) rfl ?_
    exact Z_vret C hr hlk dX1_liveDay_29 rfl (by rw [show (liveDay S) = (uI X4 2 ((X4.2.2.1 2) + 1)) from by subst eX1 eX3 eX4; simp [liveDay, dayD, c1]])
set_option maxHeartbeats 4000000 in
set_option maxRecDepth 20000 in
theorem c_X1_liveDays (S : St) (x : Int32) {n : Nat} (hn : S.2.2.1 0 = nI n) (h40 : n ≤ 40) {d : Nat} (hx : x = nI d) (hd : d ≤ 120) : CT yX1_liveDays cX1_liveDays 3 none 4 0 0 [.ref 0, .int x] (stW 0 S) none (stW 0 (liveDays S x)) := by
  refine CT_of (L := [(0, .ref 0), (1, .int x)]) (by decide) (fun _ => rfl) (fun _ => Nat.le_of_ble_eq_true rfl) ?_
  intro p l e s m args below meth c G h A C hr hlk _
  subst hx
  refine Z_iconst C (v := 0) dX1_liveDays_0 (by decide) ?_
  refine Z_istore_n C (L' := [(2, .int 0), (0, .ref 0), (1, .int (nI d))]) dX1_liveDays_1 rfl (by decide) rfl ?_
  refine Zfor (σ := St) (fun i T1 => Z p l e _ s m args below meth c 3 G A h _ 0 0 (stW 0 T1) 2 [(2, .int (nI i)), (0, .ref 0), (1, .int (nI d))] []) (fun i T1 => T1.2.2.1 0 = nI n) (live1) d (S) hn (fun i T1 hi hT1 => (hk_liveDay _).trans hT1) (fun T1 hT1 eT1 => ?_) (fun i T1 hi hT1 hT1' kk => ?_)
  · refine Z_iload_n C dX1_liveDays_2 rfl rfl ?_
    refine Z_iload_n C dX1_liveDays_3 rfl rfl ?_
    refine Z_icmp_ge C 23 dX1_liveDays_4 (by decide) (fun c1 => ?_) (fun c1 => absurd (ge_yes2 hT1) c1)
    exact Z_vret C hr hlk dX1_liveDays_23 rfl (by rw [show (liveDays S (nI d)) = T1 from by subst eT1; simp only [liveDays, ix_nI (show d < 2 ^ 31 by omega)]])
  · refine Z_iload_n C dX1_liveDays_2 rfl rfl ?_
    refine Z_iload_n C dX1_liveDays_3 rfl rfl ?_
    refine Z_icmp_ge C 23 dX1_liveDays_4 (by decide) (fun c2 => absurd c2 (ge_no2 hT1 hd hi)) (fun c2 => ?_)
    refine Z_iload_n C dX1_liveDays_7 rfl rfl ?_
    refine Z_bipush C (v := 120) dX1_liveDays_8 (by decide) ?_
    refine Z_icmp_ge C 23 dX1_liveDays_10 (by decide) (fun c3 => absurd c3 (show ¬ (120 : Int32) ≤ nI i from ge_no' (n := 120) (by omega) (by omega))) (fun c3 => ?_)
    refine Z_aload_n C dX1_liveDays_13 rfl rfl ?_
    refine Z_callV C (ws' := stW 0 (liveDay T1)) (st' := []) (rest := []) [0, 1, 2, 3, 4, 5, 6, 7, 8, 9] (c_X1_liveDay T1 hT1 h40) m_X1_liveDay K1 g_512 dX1_liveDays_14 rfl rfl rfl (outL 10 rfl rfl rfl) (NW := 10) rfl rfl rfl rfl rfl ⟨Nat.le_of_ble_eq_true rfl, Nat.le_of_ble_eq_true rfl⟩ ⟨Nat.le_of_ble_eq_true rfl, Nat.le_of_ble_eq_true rfl⟩ (Nat.le_of_ble_eq_true rfl) rfl ?_
    refine Z_ws (fun X1 => stW 0 X1) (liveDay T1) (fun X1 eX1 => ?_)
    refine Z_iinc C (L' := [(2, .int (nI (i + 1))), (0, .ref 0), (1, .int (nI d))]) (v := nI (i + 1)) dX1_liveDays_17 rfl (nI_inc _) (by decide) rfl ?_
    refine Z_goto C 2 dX1_liveDays_20 (by decide) ?_
    rw [show live1 i T1 = X1 from by subst eX1; simp [live1, c2, c3]] at kk
    exact Z_sub (by simp [bI_t, bI_f]) kk
end
section
set_option maxHeartbeats 4000000 in
set_option maxRecDepth 20000 in
theorem c_X1_topOf (S : St) (x : Int32) {n : Nat} (hn : S.2.2.1 0 = nI n) (h40 : n ≤ 40) : CT yX1_topOf cX1_topOf 4 (some .int) 1 0 0 [.ref 0, .int x] (stW 0 S) (some (.int (topOf S x))) (stW 0 S) := by
  refine CT_of (L := [(0, .ref 0), (1, .int x)]) (by decide) (fun _ => rfl) (fun _ => Nat.le_of_ble_eq_true rfl) ?_
  intro p l e s m args below meth c G h A C hr hlk _
  refine Z_iload_n C dX1_topOf_0 rfl rfl ?_
  refine Z_istore_n C (L' := [(2, .int x), (0, .ref 0), (1, .int x)]) dX1_topOf_1 rfl (by decide) rfl ?_
  refine Z_iconst C (v := 0) dX1_topOf_2 (by decide) ?_
  refine Z_istore_n C (L' := [(3, .int 0), (2, .int x), (0, .ref 0), (1, .int x)]) dX1_topOf_3 rfl (by decide) rfl ?_
  refine Zind (σ := Int32) (fun k T => ∀ r : Nat, r + k = 40 → topN k S T = topOf S x → Z p l e _ s m args below meth c 4 G A h _ 0 0 (stW 0 S) 4 [(3, .int (nI r)), (2, .int T), (0, .ref 0), (1, .int x)] []) 40 x (fun T r hr1 hg => ?_) (fun k T ih r hr1 hg => ?_) 0 (Nat.zero_add _) (topN_def S x)
  · obtain rfl : r = 40 := by omega
    refine Z_aload_n C dX1_topOf_4 rfl rfl ?_
    refine Z_iload_n C dX1_topOf_5 rfl rfl ?_
    refine Z_callV C (ws' := stW 0 S) (st' := [.int (bI (hasB S T))]) (rest := []) [0, 1, 2, 3, 4, 5, 6, 7, 8, 9] (c_X1_has S T) m_X1_has K1 g_179 dX1_topOf_6 rfl rfl rfl (outR _ _ _) (NW := 10) rfl rfl rfl rfl rfl ⟨Nat.le_of_ble_eq_true rfl, Nat.le_of_ble_eq_true rfl⟩ ⟨Nat.le_of_ble_eq_true rfl, Nat.le_of_ble_eq_true rfl⟩ (Nat.le_of_ble_eq_true rfl) rfl ?_
    refine Z_if_eq C 42 dX1_topOf_9 (by decide) (fun c1 => ?_) (fun c1 => ?_)
    · have c1 := bI_0.mp c1
      refine Z_iconst C (v := (-1)) dX1_topOf_42 (by decide) ?_
      exact Z_iret C hr hlk dX1_topOf_43 (congrArg (fun z => some (Value.int z)) (show (topOf S x) = (-1) from by rw [← hg]; simp [topN, c1])) rfl
    · have c1 := bI_n0.mp c1
      refine Z_iload_n C dX1_topOf_12 rfl rfl ?_
      refine Z_bipush C (v := 40) dX1_topOf_13 (by decide) ?_
      refine Z_icmp_ge C 42 dX1_topOf_15 (by decide) (fun c2 => ?_) (fun c2 => absurd (show (40 : Int32) ≤ nI 40 from by decide) c2)
      refine Z_iconst C (v := (-1)) dX1_topOf_42 (by decide) ?_
      exact Z_iret C hr hlk dX1_topOf_43 (congrArg (fun z => some (Value.int z)) (show (topOf S x) = (-1) from by rw [← hg]; simp [topN, c1, c2])) rfl
  · refine Z_aload_n C dX1_topOf_4 rfl rfl ?_
    refine Z_iload_n C dX1_topOf_5 rfl rfl ?_
    refine Z_callV C (ws' := stW 0 S) (st' := [.int (bI (hasB S T))]) (rest := []) [0, 1, 2, 3, 4, 5, 6, 7, 8, 9] (c_X1_has S T) m_X1_has K1 g_179 dX1_topOf_6 rfl rfl rfl (outR _ _ _) (NW := 10) rfl rfl rfl rfl rfl ⟨Nat.le_of_ble_eq_true rfl, Nat.le_of_ble_eq_true rfl⟩ ⟨Nat.le_of_ble_eq_true rfl, Nat.le_of_ble_eq_true rfl⟩ (Nat.le_of_ble_eq_true rfl) rfl ?_
    refine Z_if_eq C 42 dX1_topOf_9 (by decide) (fun c3 => ?_) (fun c3 => ?_)
    · have c3 := bI_0.mp c3
      refine Z_iconst C (v := (-1)) dX1_topOf_42 (by decide) ?_
      exact Z_iret C hr hlk dX1_topOf_43 (congrArg (fun z => some (Value.int z)) (show (topOf S x) = (-1) from by rw [← hg]; simp [topN, c3])) rfl
    · have c3 := bI_n0.mp c3
      obtain ⟨j, hj, rfl⟩ := has_ix hn h40 c3
      have ej : ix (nI j) = j := ix_nI (by omega)
      refine Z_iload_n C dX1_topOf_12 rfl rfl ?_
      refine Z_bipush C (v := 40) dX1_topOf_13 (by decide) ?_
      refine Z_icmp_ge C 42 dX1_topOf_15 (by decide) (fun c4 => absurd c4 (show ¬ (40 : Int32) ≤ nI r from ge_no' (n := 40) (by omega) (by omega))) (fun c4 => ?_)
      refine Z_aload_n C dX1_topOf_18 rfl rfl ?_
      refine Z_get C K1 (v := .ref 4) 3 dX1_topOf_19 rfl (by decide) g_67 rfl rfl ?_
      refine Z_iload_n C dX1_topOf_22 rfl rfl ?_
      refine Z_iaN C (v := S.1 3 j) dX1_topOf_23 rfl (by omega) (by decide) rfl ?_
      refine Z_if_le C 29 dX1_topOf_24 (by decide) (fun c5 => ?_) (fun c5 => ?_)
      · refine Z_aload_n C dX1_topOf_29 rfl rfl ?_
        refine Z_get C K1 (v := .ref 5) 4 dX1_topOf_30 rfl (by decide) g_69 rfl rfl ?_
        refine Z_iload_n C dX1_topOf_33 rfl rfl ?_
        refine Z_iaN C (v := S.1 4 j) dX1_topOf_34 rfl (by omega) (by decide) rfl ?_
        refine Z_istore_n C (L' := [(2, .int (S.1 4 j)), (3, .int (nI r)), (0, .ref 0), (1, .int x)]) dX1_topOf_35 rfl (by decide) rfl ?_
        refine Z_iinc C (L' := [(3, .int (nI (r + 1))), (2, .int (S.1 4 j)), (0, .ref 0), (1, .int x)]) (v := nI (r + 1)) dX1_topOf_36 rfl (nI_inc _) (by decide) rfl ?_
        refine Z_goto C 4 dX1_topOf_39 (by decide) ?_
        exact Z_sub (by simp) (ih (S.1 4 j) (r + 1) (by omega) (by rw [← hg]; simp [topN, c3, ej, c4, c5]))
      · refine Z_iload_n C dX1_topOf_27 rfl rfl ?_
        exact Z_iret C hr hlk dX1_topOf_28 (congrArg (fun z => some (Value.int z)) (show (topOf S x) = (nI j) from by rw [← hg]; simp [topN, c3, ej, c4, c5])) rfl
set_option maxHeartbeats 4000000 in
set_option maxRecDepth 20000 in
theorem c_X1_tell (S : St) (x : Int32) (y : Int32) {n : Nat} (hn : S.2.2.1 0 = nI n) (h40 : n ≤ 40) {w : Nat} (hy : y = nI w) (hw : w ≤ 9) : CT yX1_tell cX1_tell 3 (some .int) 1 0 0 [.ref 0, .int x, .int y] (stW 0 S) (some (.int (tell S x y))) (stW 0 S) := by
  refine CT_of (L := [(0, .ref 0), (1, .int x), (2, .int y)]) (by decide) (fun _ => rfl) (fun _ => Nat.le_of_ble_eq_true rfl) ?_
  intro p l e s m args below meth c G h A C hr hlk _
  subst hy
  refine Z_aload_n C dX1_tell_0 rfl rfl ?_
  refine Z_iload_n C dX1_tell_1 rfl rfl ?_
  refine Z_callV C (ws' := stW 0 S) (st' := [.int (bI (hasB S x))]) (rest := []) [0, 1, 2, 3, 4, 5, 6, 7, 8, 9] (c_X1_has S x) m_X1_has K1 g_179 dX1_tell_2 rfl rfl rfl (outR _ _ _) (NW := 10) rfl rfl rfl rfl rfl ⟨Nat.le_of_ble_eq_true rfl, Nat.le_of_ble_eq_true rfl⟩ ⟨Nat.le_of_ble_eq_true rfl, Nat.le_of_ble_eq_true rfl⟩ (Nat.le_of_ble_eq_true rfl) rfl ?_
  refine Z_if_ne C 10 dX1_tell_5 (by decide) (fun c1 => ?_) (fun c1 => ?_)
  · have c1 := bI_n0.mp c1
    obtain ⟨j, hj, rfl⟩ := has_ix hn h40 c1
    have ej : ix (nI j) = j := ix_nI (by omega)
    refine Z_iload_n C dX1_tell_10 rfl rfl ?_
    rcases (show w = 0 ∨ w = 1 ∨ w = 2 ∨ w = 3 ∨ w = 4 ∨ w = 5 ∨ w = 6 ∨ w = 7 ∨ w = 8 ∨ w = 9 from by omega) with rfl | rfl | rfl | rfl | rfl | rfl | rfl | rfl | rfl | rfl
    · refine Z_tIn C 0 60 dX1_tell_11 (by decide) (by decide) (by decide) rfl (by decide) ?_
      refine Z_aload_n C dX1_tell_60 rfl rfl ?_
      refine Z_get C K1 (v := .ref 1) 0 dX1_tell_61 rfl (by decide) g_63 rfl rfl ?_
      refine Z_iload_n C dX1_tell_64 rfl rfl ?_
      refine Z_iaN C (v := S.1 0 j) dX1_tell_65 rfl (by omega) (by decide) rfl ?_
      exact Z_iret C hr hlk dX1_tell_66 (congrArg (fun z => some (Value.int z)) (show (tell S (nI j) (nI 0)) = (S.1 0 j) from by simp [tell, tellN, ix_9, bI, c1, ej])) rfl
    · refine Z_tIn C 1 67 dX1_tell_11 (by decide) (by decide) (by decide) rfl (by decide) ?_
      refine Z_aload_n C dX1_tell_67 rfl rfl ?_
      refine Z_get C K1 (v := .ref 2) 1 dX1_tell_68 rfl (by decide) g_64 rfl rfl ?_
      refine Z_iload_n C dX1_tell_71 rfl rfl ?_
      refine Z_iaN C (v := S.1 1 j) dX1_tell_72 rfl (by omega) (by decide) rfl ?_
      exact Z_iret C hr hlk dX1_tell_73 (congrArg (fun z => some (Value.int z)) (show (tell S (nI j) (nI 1)) = (S.1 1 j) from by simp [tell, tellN, ix_9, bI, c1, ej])) rfl
    · refine Z_tIn C 2 74 dX1_tell_11 (by decide) (by decide) (by decide) rfl (by decide) ?_
      refine Z_aload_n C dX1_tell_74 rfl rfl ?_
      refine Z_get C K1 (v := .ref 7) 6 dX1_tell_75 rfl (by decide) g_71 rfl rfl ?_
      refine Z_iload_n C dX1_tell_78 rfl rfl ?_
      refine Z_zaN C (v := bI (S.2.1 j)) dX1_tell_79 rfl (by omega) (by decide) rfl ?_
      refine Z_if_eq C 87 dX1_tell_80 (by decide) (fun c2 => ?_) (fun c2 => ?_)
      · have c2 := bI_0.mp c2
        refine Z_iconst C (v := 0) dX1_tell_87 (by decide) ?_
        exact Z_iret C hr hlk dX1_tell_88 (congrArg (fun z => some (Value.int z)) (show (tell S (nI j) (nI 2)) = 0 from by simp [tell, tellN, ix_9, bI, c1, ej, c2])) rfl
      · have c2 := bI_n0.mp c2
        refine Z_iconst C (v := 1) dX1_tell_83 (by decide) ?_
        refine Z_goto C 88 dX1_tell_84 (by decide) ?_
        exact Z_iret C hr hlk dX1_tell_88 (congrArg (fun z => some (Value.int z)) (show (tell S (nI j) (nI 2)) = 1 from by simp [tell, tellN, ix_9, bI, c1, ej, c2])) rfl
    · refine Z_tIn C 3 89 dX1_tell_11 (by decide) (by decide) (by decide) rfl (by decide) ?_
      refine Z_aload_n C dX1_tell_89 rfl rfl ?_
      refine Z_get C K1 (v := .ref 4) 3 dX1_tell_90 rfl (by decide) g_67 rfl rfl ?_
      refine Z_iload_n C dX1_tell_93 rfl rfl ?_
      refine Z_iaN C (v := S.1 3 j) dX1_tell_94 rfl (by omega) (by decide) rfl ?_
      exact Z_iret C hr hlk dX1_tell_95 (congrArg (fun z => some (Value.int z)) (show (tell S (nI j) (nI 3)) = (S.1 3 j) from by simp [tell, tellN, ix_9, bI, c1, ej])) rfl
    · refine Z_tIn C 4 96 dX1_tell_11 (by decide) (by decide) (by decide) rfl (by decide) ?_
      refine Z_aload_n C dX1_tell_96 rfl rfl ?_
      refine Z_get C K1 (v := .ref 5) 4 dX1_tell_97 rfl (by decide) g_69 rfl rfl ?_
      refine Z_iload_n C dX1_tell_100 rfl rfl ?_
      refine Z_iaN C (v := S.1 4 j) dX1_tell_101 rfl (by omega) (by decide) rfl ?_
      exact Z_iret C hr hlk dX1_tell_102 (congrArg (fun z => some (Value.int z)) (show (tell S (nI j) (nI 4)) = (S.1 4 j) from by simp [tell, tellN, ix_9, bI, c1, ej])) rfl
    · refine Z_tIn C 5 103 dX1_tell_11 (by decide) (by decide) (by decide) rfl (by decide) ?_
      refine Z_aload_n C dX1_tell_103 rfl rfl ?_
      refine Z_get C K1 (v := .ref 6) 5 dX1_tell_104 rfl (by decide) g_70 rfl rfl ?_
      refine Z_iload_n C dX1_tell_107 rfl rfl ?_
      refine Z_iaN C (v := S.1 5 j) dX1_tell_108 rfl (by omega) (by decide) rfl ?_
      exact Z_iret C hr hlk dX1_tell_109 (congrArg (fun z => some (Value.int z)) (show (tell S (nI j) (nI 5)) = (S.1 5 j) from by simp [tell, tellN, ix_9, bI, c1, ej])) rfl
    · refine Z_tIn C 6 110 dX1_tell_11 (by decide) (by decide) (by decide) rfl (by decide) ?_
      refine Z_aload_n C dX1_tell_110 rfl rfl ?_
      refine Z_get C K1 (v := .ref 3) 2 dX1_tell_111 rfl (by decide) g_65 rfl rfl ?_
      refine Z_iload_n C dX1_tell_114 rfl rfl ?_
      refine Z_iaN C (v := S.1 2 j) dX1_tell_115 rfl (by omega) (by decide) rfl ?_
      exact Z_iret C hr hlk dX1_tell_116 (congrArg (fun z => some (Value.int z)) (show (tell S (nI j) (nI 6)) = (S.1 2 j) from by simp [tell, tellN, ix_9, bI, c1, ej])) rfl
    · refine Z_tIn C 7 117 dX1_tell_11 (by decide) (by decide) (by decide) rfl (by decide) ?_
      refine Z_aload_n C dX1_tell_117 rfl rfl ?_
      refine Z_get C K1 (v := .ref 8) 7 dX1_tell_118 rfl (by decide) g_72 rfl rfl ?_
      refine Z_iload_n C dX1_tell_121 rfl rfl ?_
      refine Z_iaN C (v := S.1 6 j) dX1_tell_122 rfl (by omega) (by decide) rfl ?_
      exact Z_iret C hr hlk dX1_tell_123 (congrArg (fun z => some (Value.int z)) (show (tell S (nI j) (nI 7)) = (S.1 6 j) from by simp [tell, tellN, ix_9, bI, c1, ej])) rfl
    · refine Z_tIn C 8 124 dX1_tell_11 (by decide) (by decide) (by decide) rfl (by decide) ?_
      refine Z_aload_n C dX1_tell_124 rfl rfl ?_
      refine Z_get C K1 (v := .ref 9) 8 dX1_tell_125 rfl (by decide) g_74 rfl rfl ?_
      refine Z_iload_n C dX1_tell_128 rfl rfl ?_
      refine Z_iaN C (v := S.1 7 j) dX1_tell_129 rfl (by omega) (by decide) rfl ?_
      exact Z_iret C hr hlk dX1_tell_130 (congrArg (fun z => some (Value.int z)) (show (tell S (nI j) (nI 8)) = (S.1 7 j) from by simp [tell, tellN, ix_9, bI, c1, ej])) rfl
    · refine Z_tOut C 131 dX1_tell_11 (by decide) (by decide) ?_
      refine Z_aload_n C dX1_tell_131 rfl rfl ?_
      refine Z_iload_n C dX1_tell_132 rfl rfl ?_
      refine Z_callV C (ws' := stW 0 S) (st' := [.int (heldBy S (nI j))]) (rest := []) [0, 1, 2, 3, 4, 5, 6, 7, 8, 9] (c_X1_countHeldBy S (nI j) hn h40) m_X1_countHeldBy K1 g_199 dX1_tell_133 rfl rfl rfl (outR _ _ _) (NW := 10) rfl rfl rfl rfl rfl ⟨Nat.le_of_ble_eq_true rfl, Nat.le_of_ble_eq_true rfl⟩ ⟨Nat.le_of_ble_eq_true rfl, Nat.le_of_ble_eq_true rfl⟩ (Nat.le_of_ble_eq_true rfl) rfl ?_
      exact Z_iret C hr hlk dX1_tell_136 (congrArg (fun z => some (Value.int z)) (show (tell S (nI j) (nI 9)) = (heldBy S (nI j)) from by simp [tell, tellN, ix_9, bI, c1, ej])) rfl
  · have c1 := bI_0.mp c1
    refine Z_iconst C (v := 0) dX1_tell_8 (by decide) ?_
    exact Z_iret C hr hlk dX1_tell_9 (congrArg (fun z => some (Value.int z)) (show (tell S x (nI w)) = 0 from by simp [tell, tellN, ix_9, bI, c1])) rfl
end
section
/-! what the methods of the stairs do: rows 0 first end, 1 second end, 2 distance; number 0: built -/
abbrev Sr : Type := (Nat → Nat → Int32) × (Nat → Int32)
abbrev vA (B : Sr) (k j : Nat) (v : Int32) : Sr := (fun k' => if k' = k then upd (B.1 k) j v else B.1 k', B.2)
abbrev vI (B : Sr) (k : Nat) (v : Int32) : Sr := (B.1, fun k' => if k' = k then v else B.2 k')
abbrev srW (b : Nat) (B : Sr) : List va_E := [.inr (0, [.ref (b + 1), .ref (b + 2), .ref (b + 3), .int (B.2 0)]), .inl (0, 30, .inl (B.1 0)), .inl (0, 30, .inl (B.1 1)), .inl (0, 40, .inl (B.1 2))]
abbrev twO : List va_E := [.inr (2, [.ref 1, .ref 11, .ref 21])]
def hasR (B : Sr) (x : Int32) : Bool := !decide (x < 0) && !decide (B.2 0 ≤ x)
theorem has_ixR {B : Sr} {x : Int32} {b : Nat} (hb : B.2 0 = nI b) (h30 : b ≤ 30) (h : hasR B x = true) : ∃ j : Nat, j < b ∧ x = nI j := by
  simp only [hasR, Bool.and_eq_true, Bool.not_eq_true', decide_eq_false_iff_not] at h
  exact ix_of hb (by omega) h.1 h.2
theorem has_nIR {B : Sr} {b j : Nat} (hb : B.2 0 = nI b) (h30 : b ≤ 30) (hj : j < b) : hasR B (nI j) = true := by
  simp only [hasR, Bool.and_eq_true, Bool.not_eq_true', decide_eq_false_iff_not]
  exact ⟨nI_pos (by omega), by rw [hb]; exact nI_ge hj (by omega)⟩
def fullR (B : Sr) : Bool := !decide (B.2 0 < 30)
theorem fullR_no {B : Sr} {b : Nat} (hb : B.2 0 = nI b) (hl : b < 30) : fullR B = false := by
  simp only [fullR, Bool.not_eq_false', decide_eq_true_eq]
  rw [hb]
  exact nI_lt (b := 30) hl (by omega)
def goneR (B : Sr) (S : St) (x : Int32) : Bool := !hasR B x || !hangsB S (B.1 0 (ix x)) || !hangsB S (B.1 1 (ix x))
def addR (B : Sr) (j : Nat) (x y : Int32) : Sr := vI (vA (vA B 0 j x) 1 j y) 0 (nI j + 1)
def swapB (B : Sr) (x y : Int32) : Bool := hasR B x && hasR B y && !decide (B.1 0 (ix x) = B.1 1 (ix y)) && !decide (B.1 0 (ix y) = B.1 1 (ix x))
def swapP (B : Sr) (x y : Int32) : Sr := if swapB B x y then vA (vA B 1 (ix x) (B.1 1 (ix y))) 1 (ix y) (B.1 1 (ix x)) else B
def tellRN (B : Sr) (S : St) (x : Int32) (w : Nat) : Int32 := match w with
  | 0 => B.1 0 (ix x)
  | 1 => B.1 1 (ix x)
  | _ => bI (goneR B S x)
def tellR (B : Sr) (S : St) (x w : Int32) : Int32 := if hasR B x then tellRN B S x (ix w) else 0
def left1 (B : Sr) (S : St) (i : Nat) (a : Int32) : Int32 := a + (if goneR B S (nI i) then 0 else 1)
def leftR (B : Sr) (S : St) : Int32 := fr (left1 B S) (ix (B.2 0)) 0
def placeB (x : Int32) : Bool := !decide (x < 0) && !decide (40 ≤ x)
theorem place_ix {x : Int32} (h : placeB x = true) : ∃ j : Nat, j < 40 ∧ x = nI j := by
  simp only [placeB, Bool.and_eq_true, Bool.not_eq_true', decide_eq_false_iff_not] at h
  exact ix_of (H := 40) (n := 40) rfl (Nat.le_refl _) h.1 h.2
def stepB (B : Sr) (f t d : Int32) : Bool := placeB f && placeB t && decide (B.1 2 (ix f) = d) && decide (B.1 2 (ix t) = -1)
def stepP (B : Sr) (f t d : Int32) : Sr := if stepB B f t d then vA B 2 (ix t) (d + 1) else B
def rchA (T : Sr × Bool) (d : Int32) (i : Nat) : Sr := stepP T.1 (T.1.1 0 i) (T.1.1 1 i) d
def reach1 (S : St) (d : Int32) (i : Nat) (T : Sr × Bool) : Sr × Bool :=
  if goneR T.1 S (nI i) then T
  else if stepB T.1 (T.1.1 0 i) (T.1.1 1 i) d then (rchA T d i, true)
  else if stepB (rchA T d i) ((rchA T d i).1 1 i) ((rchA T d i).1 0 i) d then (stepP (rchA T d i) ((rchA T d i).1 1 i) ((rchA T d i).1 0 i) d, true) else (stepP (rchA T d i) ((rchA T d i).1 1 i) ((rchA T d i).1 0 i) d, T.2)
def reachF (S : St) (d : Int32) (B : Sr) : Sr × Bool := fr (reach1 S d) (ix (B.2 0)) (B, false)
def bfs (S : St) (t : Nat) : Nat → Nat → Sr → Sr
  | 0, _, B => B
  | k + 1, d, B => if B.1 2 t = -1 then (if (reachF S (nI d) B).2 then bfs S t k (d + 1) (reachF S (nI d) B).1 else (reachF S (nI d) B).1) else B
def clr1 (i : Nat) (B : Sr) : Sr := vA B 2 i (-1)
def fewP (B : Sr) (S : St) (x y : Int32) : Sr := bfs S (ix y) 40 0 (vA (fr clr1 40 B) 2 (ix x) 0)
theorem hb_stepP (B : Sr) (f t d : Int32) : (stepP B f t d).2 0 = B.2 0 := by unfold stepP; split <;> rfl
theorem hb_reach1 (S : St) (d : Int32) (i : Nat) (T : Sr × Bool) : (reach1 S d i T).1.2 0 = T.1.2 0 := by
  unfold reach1
  split
  · rfl
  · split
    · exact hb_stepP _ _ _ _
    · split
      · exact (hb_stepP _ _ _ _).trans (hb_stepP _ _ _ _)
      · exact (hb_stepP _ _ _ _).trans (hb_stepP _ _ _ _)
theorem hb_reachF (S : St) (d : Int32) (B : Sr) : (reachF S d B).1.2 0 = B.2 0 := by
  unfold reachF
  generalize ix (B.2 0) = n
  induction n with
  | zero => rfl
  | succ n ih => exact (hb_reach1 S d n _).trans ih
theorem bfs_def (S : St) (B : Sr) (x y : Int32) : bfs S (ix y) 40 0 (vA (fr clr1 40 B) 2 (ix x) 0) = fewP B S x y := by unfold fewP; rfl
theorem r_eq {B : Sr} {b : Nat} (hb : B.2 0 = nI b) (h30 : b ≤ 30) : ix (B.2 0) = b := by rw [hb]; exact ix_nI (by omega)
def fewV (B : Sr) (S : St) (x y : Int32) : Int32 := if hasB S x then if hasB S y then (fewP B S x y).1 2 (ix y) else -1 else -1
def fewQ (B : Sr) (S : St) (x y : Int32) : Sr := if hasB S x then if hasB S y then fewP B S x y else B else B
theorem ge_yes40 {q : Prop} (h : q) : (40 : Int32) ≤ nI 40 := by decide
theorem ge_no40 {i : Nat} {q r : Prop} (h : q) (h4 : r) (hi : i < 40) : ¬ (40 : Int32) ≤ nI i := nI_ge (b := 40) hi (by omega)
theorem Z_lkp {p : Program} {l : Launch} {e : Env} {R : Room} {s : State} {m : MethodId} {args : Array Value} {below : List Frame} {meth : Method} {c : Code} {cc : ByteArray} {nL : Nat} {own : String} {G : gG} {A : Nat → Prop} {h : Nat → Nat} {Q : State → Prop} {k n : Nat} {ws : List va_E} {pc : Nat} {L : List (Nat × Value)} {st : List Value} (C : Cx p s m args c cc nL own G A) {dflt off : Int} {ps : Array (Int × Int)} {len : Nat} {x : Int32} (tgt : Nat) (d : decode cc pc = .ok (.lookupswitch dflt ps, len)) (hp : (ps.toList.zip (ps.toList.drop 1)).all (fun (a, next) => a.1 < next.1) = true) (ho : Op.lookupswitch.offset ps.toList dflt x.toInt = off) (ht : (pc : Int) + off = (tgt : Int)) (kk : Z p l e R s m args below meth c nL G A h Q k n ws tgt L st) : Z p l e R s m args below meth c nL G A h Q k n ws pc L (.int x :: st) := fun H locs ls hP hD hS hl => lv_lookup C.1 C.2.1 d hp ho ht (kk H locs ls hP hD hS hl)
end
section
set_option maxHeartbeats 4000000 in
set_option maxRecDepth 20000 in
theorem c_X0_has (B : Sr) (x : Int32) : CT yX0_has cX0_has 2 (some .boolean) 0 0 0 [.ref 0, .int x] (srW 0 B) (some (.int (bI (hasR B x)))) (srW 0 B) := by
  refine CT_of (L := [(0, .ref 0), (1, .int x)]) (by decide) (fun _ => rfl) (fun _ => Nat.le_of_ble_eq_true rfl) ?_
  intro p l e s m args below meth c G h A C hr hlk _
  refine Z_iload_n C dX0_has_0 rfl rfl ?_
  refine Z_if_lt C 16 dX0_has_1 (by decide) (fun c1 => ?_) (fun c1 => ?_)
  · refine Z_iconst C (v := 0) dX0_has_16 (by decide) ?_
    exact Z_zret C hr hlk dX0_has_17 rfl (congrArg (fun z => some (Value.int z)) (show (bI (hasR B x)) = 0 from by simp [hasR, bI, c1])) rfl
  · refine Z_iload_n C dX0_has_4 rfl rfl ?_
    refine Z_aload_n C dX0_has_5 rfl rfl ?_
    refine Z_get C K0 (v := .int (B.2 0)) 3 dX0_has_6 rfl (by decide) g_120 rfl rfl ?_
    refine Z_icmp_ge C 16 dX0_has_9 (by decide) (fun c2 => ?_) (fun c2 => ?_)
    · refine Z_iconst C (v := 0) dX0_has_16 (by decide) ?_
      exact Z_zret C hr hlk dX0_has_17 rfl (congrArg (fun z => some (Value.int z)) (show (bI (hasR B x)) = 0 from by simp [hasR, bI, c1, c2])) rfl
    · refine Z_iconst C (v := 1) dX0_has_12 (by decide) ?_
      refine Z_goto C 17 dX0_has_13 (by decide) ?_
      exact Z_zret C hr hlk dX0_has_17 rfl (congrArg (fun z => some (Value.int z)) (show (bI (hasR B x)) = 1 from by simp [hasR, bI, c1, c2])) rfl
set_option maxHeartbeats 4000000 in
set_option maxRecDepth 20000 in
theorem c_X0_isFull (B : Sr) : CT yX0_isFull cX0_isFull 1 (some .boolean) 0 0 0 [.ref 0] (srW 0 B) (some (.int (bI (fullR B)))) (srW 0 B) := by
  refine CT_of (L := [(0, .ref 0)]) (by decide) (fun _ => rfl) (fun _ => Nat.le_of_ble_eq_true rfl) ?_
  intro p l e s m args below meth c G h A C hr hlk _
  refine Z_aload_n C dX0_isFull_0 rfl rfl ?_
  refine Z_get C K0 (v := .int (B.2 0)) 3 dX0_isFull_1 rfl (by decide) g_120 rfl rfl ?_
  refine Z_bipush C (v := 30) dX0_isFull_4 (by decide) ?_
  refine Z_icmp_lt C 13 dX0_isFull_6 (by decide) (fun c1 => ?_) (fun c1 => ?_)
  · refine Z_iconst C (v := 0) dX0_isFull_13 (by decide) ?_
    exact Z_zret C hr hlk dX0_isFull_14 rfl (congrArg (fun z => some (Value.int z)) (show (bI (fullR B)) = 0 from by simp [fullR, bI, c1])) rfl
  · refine Z_iconst C (v := 1) dX0_isFull_9 (by decide) ?_
    refine Z_goto C 14 dX0_isFull_10 (by decide) ?_
    exact Z_zret C hr hlk dX0_isFull_14 rfl (congrArg (fun z => some (Value.int z)) (show (bI (fullR B)) = 1 from by simp [fullR, bI, c1])) rfl
set_option maxHeartbeats 4000000 in
set_option maxRecDepth 20000 in
theorem c_X0_isGone (B : Sr) (S : St) (x : Int32) {b : Nat} (hb : B.2 0 = nI b) (h30 : b ≤ 30) {n : Nat} (hn : S.2.2.1 0 = nI n) (h40 : n ≤ 40) : CT yX0_isGone cX0_isGone 3 (some .boolean) 2 0 0 [.ref 0, .int x, .ref 4] (srW 0 B ++ stW 4 S) (some (.int (bI (goneR B S x)))) (srW 0 B ++ stW 4 S) := by
  refine CT_of (L := [(0, .ref 0), (1, .int x), (2, .ref 4)]) (by decide) (fun _ => rfl) (fun _ => Nat.le_of_ble_eq_true rfl) ?_
  intro p l e s m args below meth c G h A C hr hlk _
  refine Z_aload_n C dX0_isGone_0 rfl rfl ?_
  refine Z_iload_n C dX0_isGone_1 rfl rfl ?_
  refine Z_callV C (ws' := srW 0 B ++ stW 4 S) (st' := [.int (bI (hasR B x))]) (rest := []) [0, 1, 2, 3] (c_X0_has B x) m_X0_has K0 g_171 dX0_isGone_2 rfl rfl rfl (outS 4 rfl (outR _ _ _)) (NW := 14) rfl rfl rfl rfl rfl ⟨Nat.le_of_ble_eq_true rfl, Nat.le_of_ble_eq_true rfl⟩ ⟨Nat.le_of_ble_eq_true rfl, Nat.le_of_ble_eq_true rfl⟩ (Nat.le_of_ble_eq_true rfl) rfl ?_
  refine Z_if_eq C 34 dX0_isGone_5 (by decide) (fun c1 => ?_) (fun c1 => ?_)
  · have c1 := bI_0.mp c1
    refine Z_iconst C (v := 1) dX0_isGone_34 (by decide) ?_
    refine Z_goto C 39 dX0_isGone_35 (by decide) ?_
    exact Z_zret C hr hlk dX0_isGone_39 rfl (congrArg (fun z => some (Value.int z)) (show (bI (goneR B S x)) = 1 from by simp [goneR, bI, c1])) rfl
  · have c1 := bI_n0.mp c1
    obtain ⟨j, hj, rfl⟩ := has_ixR hb h30 c1
    have ej : ix (nI j) = j := ix_nI (by omega)
    refine Z_aload_n C dX0_isGone_8 rfl rfl ?_
    refine Z_aload_n C dX0_isGone_9 rfl rfl ?_
    refine Z_get C K0 (v := .ref 1) 0 dX0_isGone_10 rfl (by decide) g_117 rfl rfl ?_
    refine Z_iload_n C dX0_isGone_13 rfl rfl ?_
    refine Z_iaN C (v := B.1 0 j) dX0_isGone_14 rfl (by omega) (by decide) rfl ?_
    refine Z_callV C (ws' := srW 0 B ++ stW 4 S) (st' := [.int (bI (hangsB S (B.1 0 j)))]) (rest := []) [4, 5, 6, 7, 8, 9, 10, 11, 12, 13] (c_X1_isHanging S (B.1 0 j) hn h40) m_X1_isHanging K1 g_175 dX0_isGone_15 rfl rfl rfl (outS 4 rfl (outR _ _ _)) (NW := 14) rfl rfl rfl rfl rfl ⟨Nat.le_of_ble_eq_true rfl, Nat.le_of_ble_eq_true rfl⟩ ⟨Nat.le_of_ble_eq_true rfl, Nat.le_of_ble_eq_true rfl⟩ (Nat.le_of_ble_eq_true rfl) rfl ?_
    refine Z_if_eq C 34 dX0_isGone_18 (by decide) (fun c2 => ?_) (fun c2 => ?_)
    · have c2 := bI_0.mp c2
      refine Z_iconst C (v := 1) dX0_isGone_34 (by decide) ?_
      refine Z_goto C 39 dX0_isGone_35 (by decide) ?_
      exact Z_zret C hr hlk dX0_isGone_39 rfl (congrArg (fun z => some (Value.int z)) (show (bI (goneR B S (nI j))) = 1 from by simp [goneR, bI, c1, ej, c2])) rfl
    · have c2 := bI_n0.mp c2
      refine Z_aload_n C dX0_isGone_21 rfl rfl ?_
      refine Z_aload_n C dX0_isGone_22 rfl rfl ?_
      refine Z_get C K0 (v := .ref 2) 1 dX0_isGone_23 rfl (by decide) g_118 rfl rfl ?_
      refine Z_iload_n C dX0_isGone_26 rfl rfl ?_
      refine Z_iaN C (v := B.1 1 j) dX0_isGone_27 rfl (by omega) (by decide) rfl ?_
      refine Z_callV C (ws' := srW 0 B ++ stW 4 S) (st' := [.int (bI (hangsB S (B.1 1 j)))]) (rest := []) [4, 5, 6, 7, 8, 9, 10, 11, 12, 13] (c_X1_isHanging S (B.1 1 j) hn h40) m_X1_isHanging K1 g_175 dX0_isGone_28 rfl rfl rfl (outS 4 rfl (outR _ _ _)) (NW := 14) rfl rfl rfl rfl rfl ⟨Nat.le_of_ble_eq_true rfl, Nat.le_of_ble_eq_true rfl⟩ ⟨Nat.le_of_ble_eq_true rfl, Nat.le_of_ble_eq_true rfl⟩ (Nat.le_of_ble_eq_true rfl) rfl ?_
      refine Z_if_ne C 38 dX0_isGone_31 (by decide) (fun c3 => ?_) (fun c3 => ?_)
      · have c3 := bI_n0.mp c3
        refine Z_iconst C (v := 0) dX0_isGone_38 (by decide) ?_
        exact Z_zret C hr hlk dX0_isGone_39 rfl (congrArg (fun z => some (Value.int z)) (show (bI (goneR B S (nI j))) = 0 from by simp [goneR, bI, c1, ej, c2, c3])) rfl
      · have c3 := bI_0.mp c3
        refine Z_iconst C (v := 1) dX0_isGone_34 (by decide) ?_
        refine Z_goto C 39 dX0_isGone_35 (by decide) ?_
        exact Z_zret C hr hlk dX0_isGone_39 rfl (congrArg (fun z => some (Value.int z)) (show (bI (goneR B S (nI j))) = 1 from by simp [goneR, bI, c1, ej, c2, c3])) rfl
set_option maxHeartbeats 4000000 in
set_option maxRecDepth 20000 in
theorem c_X0_add (B : Sr) (x : Int32) (y : Int32) {b : Nat} (hb : B.2 0 = nI b) (hl : b < 30) : CT yX0_add cX0_add 4 (some .int) 1 0 0 [.ref 0, .int x, .int y] (srW 0 B) (some (.int (nI b))) (srW 0 (addR B b x y)) := by
  refine CT_of (L := [(0, .ref 0), (1, .int x), (2, .int y)]) (by decide) (fun _ => rfl) (fun _ => Nat.le_of_ble_eq_true rfl) ?_
  intro p l e s m args below meth c G h A C hr hlk _
  refine Z_aload_n C dX0_add_0 rfl rfl ?_
  refine Z_callV C (ws' := srW 0 B) (st' := [.int (bI (fullR B))]) (rest := []) [0, 1, 2, 3] (c_X0_isFull B) m_X0_isFull K0 g_426 dX0_add_1 rfl rfl rfl (outR _ _ _) (NW := 4) rfl rfl rfl rfl rfl ⟨Nat.le_of_ble_eq_true rfl, Nat.le_of_ble_eq_true rfl⟩ ⟨Nat.le_of_ble_eq_true rfl, Nat.le_of_ble_eq_true rfl⟩ (Nat.le_of_ble_eq_true rfl) rfl ?_
  refine Z_if_eq C 9 dX0_add_4 (by decide) (fun c1 => ?_) (fun c1 => absurd (bI_0.mpr (fullR_no hb hl)) c1)
  refine Z_aload_n C dX0_add_9 rfl rfl ?_
  refine Z_get C K0 (v := .int (nI b)) 3 dX0_add_10 rfl (by decide) g_120 rfl (congrArg (fun z => some (Value.int z)) hb) ?_
  refine Z_istore_n C (L' := [(3, .int (nI b)), (0, .ref 0), (1, .int x), (2, .int y)]) dX0_add_13 rfl (by decide) rfl ?_
  refine Z_aload_n C dX0_add_14 rfl rfl ?_
  refine Z_get C K0 (v := .ref 1) 0 dX0_add_15 rfl (by decide) g_117 rfl rfl ?_
  refine Z_iload_n C dX0_add_18 rfl rfl ?_
  refine Z_iload_n C dX0_add_19 rfl rfl ?_
  refine Z_isN C (ws' := srW 0 (vA B 0 b x)) dX0_add_20 rfl (by omega) (by decide) rfl ?_
  refine Z_aload_n C dX0_add_21 rfl rfl ?_
  refine Z_get C K0 (v := .ref 2) 1 dX0_add_22 rfl (by decide) g_118 rfl rfl ?_
  refine Z_iload_n C dX0_add_25 rfl rfl ?_
  refine Z_iload_n C dX0_add_26 rfl rfl ?_
  refine Z_isN C (ws' := srW 0 (vA (vA B 0 b x) 1 b y)) dX0_add_27 rfl (by omega) (by decide) rfl ?_
  refine Z_aload_n C dX0_add_28 rfl rfl ?_
  refine Z_dup C dX0_add_29 rfl ?_
  refine Z_get C K0 (v := .int (nI b)) 3 dX0_add_30 rfl (by decide) g_120 rfl (congrArg (fun z => some (Value.int z)) hb) ?_
  refine Z_iconst C (v := 1) dX0_add_33 (by decide) ?_
  refine Z_iadd C (v := (nI b) + 1) dX0_add_34 rfl ?_
  refine Z_put C K0 (ws' := srW 0 (vI (vA (vA B 0 b x) 1 b y) 0 ((nI b) + 1))) 3 dX0_add_35 rfl (by decide) g_120 rfl rfl rfl rfl rfl (Nat.le_of_ble_eq_true rfl) rfl ?_
  refine Z_iload_n C dX0_add_38 rfl rfl ?_
  exact Z_iret C hr hlk dX0_add_39 rfl (by rw [show (addR B b x y) = (vI (vA (vA B 0 b x) 1 b y) 0 ((nI b) + 1)) from by simp [addR, c1]])
set_option maxHeartbeats 4000000 in
set_option maxRecDepth 20000 in
theorem c_X0_exchangeEnds (B : Sr) (x : Int32) (y : Int32) {b : Nat} (hb : B.2 0 = nI b) (h30 : b ≤ 30) : CT yX0_exchangeEnds cX0_exchangeEnds 4 (some .boolean) 1 0 0 [.ref 0, .int x, .int y] (srW 0 B) (some (.int (bI (swapB B x y)))) (srW 0 (swapP B x y)) := by
  refine CT_of (L := [(0, .ref 0), (1, .int x), (2, .int y)]) (by decide) (fun _ => rfl) (fun _ => Nat.le_of_ble_eq_true rfl) ?_
  intro p l e s m args below meth c G h A C hr hlk _
  refine Z_aload_n C dX0_exchangeEnds_0 rfl rfl ?_
  refine Z_iload_n C dX0_exchangeEnds_1 rfl rfl ?_
  refine Z_callV C (ws' := srW 0 B) (st' := [.int (bI (hasR B x))]) (rest := []) [0, 1, 2, 3] (c_X0_has B x) m_X0_has K0 g_171 dX0_exchangeEnds_2 rfl rfl rfl (outR _ _ _) (NW := 4) rfl rfl rfl rfl rfl ⟨Nat.le_of_ble_eq_true rfl, Nat.le_of_ble_eq_true rfl⟩ ⟨Nat.le_of_ble_eq_true rfl, Nat.le_of_ble_eq_true rfl⟩ (Nat.le_of_ble_eq_true rfl) rfl ?_
  refine Z_if_eq C 46 dX0_exchangeEnds_5 (by decide) (fun c1 => ?_) (fun c1 => ?_)
  · have c1 := bI_0.mp c1
    refine Z_iconst C (v := 0) dX0_exchangeEnds_46 (by decide) ?_
    exact Z_zret C hr hlk dX0_exchangeEnds_47 rfl (congrArg (fun z => some (Value.int z)) (show (bI (swapB B x y)) = 0 from by simp [swapP, swapB, bI, c1])) (by rw [show (swapP B x y) = B from by simp [swapP, swapB, bI, c1]])
  · have c1 := bI_n0.mp c1
    refine Z_aload_n C dX0_exchangeEnds_8 rfl rfl ?_
    refine Z_iload_n C dX0_exchangeEnds_9 rfl rfl ?_
    refine Z_callV C (ws' := srW 0 B) (st' := [.int (bI (hasR B y))]) (rest := []) [0, 1, 2, 3] (c_X0_has B y) m_X0_has K0 g_171 dX0_exchangeEnds_10 rfl rfl rfl (outR _ _ _) (NW := 4) rfl rfl rfl rfl rfl ⟨Nat.le_of_ble_eq_true rfl, Nat.le_of_ble_eq_true rfl⟩ ⟨Nat.le_of_ble_eq_true rfl, Nat.le_of_ble_eq_true rfl⟩ (Nat.le_of_ble_eq_true rfl) rfl ?_
    refine Z_if_eq C 46 dX0_exchangeEnds_13 (by decide) (fun c2 => ?_) (fun c2 => ?_)
    · have c2 := bI_0.mp c2
      refine Z_iconst C (v := 0) dX0_exchangeEnds_46 (by decide) ?_
      exact Z_zret C hr hlk dX0_exchangeEnds_47 rfl (congrArg (fun z => some (Value.int z)) (show (bI (swapB B x y)) = 0 from by simp [swapP, swapB, bI, c1, c2])) (by rw [show (swapP B x y) = B from by simp [swapP, swapB, bI, c1, c2]])
    · have c2 := bI_n0.mp c2
      obtain ⟨j, hj, rfl⟩ := has_ixR hb h30 c1
      have ej : ix (nI j) = j := ix_nI (by omega)
      obtain ⟨k, hk, rfl⟩ := has_ixR hb h30 c2
      have ek : ix (nI k) = k := ix_nI (by omega)
      refine Z_aload_n C dX0_exchangeEnds_16 rfl rfl ?_
      refine Z_get C K0 (v := .ref 1) 0 dX0_exchangeEnds_17 rfl (by decide) g_117 rfl rfl ?_
      refine Z_iload_n C dX0_exchangeEnds_20 rfl rfl ?_
      refine Z_iaN C (v := B.1 0 j) dX0_exchangeEnds_21 rfl (by omega) (by decide) rfl ?_
      refine Z_aload_n C dX0_exchangeEnds_22 rfl rfl ?_
      refine Z_get C K0 (v := .ref 2) 1 dX0_exchangeEnds_23 rfl (by decide) g_118 rfl rfl ?_
      refine Z_iload_n C dX0_exchangeEnds_26 rfl rfl ?_
      refine Z_iaN C (v := B.1 1 k) dX0_exchangeEnds_27 rfl (by omega) (by decide) rfl ?_
      refine Z_icmp_eq C 46 dX0_exchangeEnds_28 (by decide) (fun c3 => ?_) (fun c3 => ?_)
      · refine Z_iconst C (v := 0) dX0_exchangeEnds_46 (by decide) ?_
        exact Z_zret C hr hlk dX0_exchangeEnds_47 rfl (congrArg (fun z => some (Value.int z)) (show (bI (swapB B (nI j) (nI k))) = 0 from by simp [swapP, swapB, bI, c1, c2, ej, ek, c3])) (by rw [show (swapP B (nI j) (nI k)) = B from by simp [swapP, swapB, bI, c1, c2, ej, ek, c3]])
      · refine Z_aload_n C dX0_exchangeEnds_31 rfl rfl ?_
        refine Z_get C K0 (v := .ref 1) 0 dX0_exchangeEnds_32 rfl (by decide) g_117 rfl rfl ?_
        refine Z_iload_n C dX0_exchangeEnds_35 rfl rfl ?_
        refine Z_iaN C (v := B.1 0 k) dX0_exchangeEnds_36 rfl (by omega) (by decide) rfl ?_
        refine Z_aload_n C dX0_exchangeEnds_37 rfl rfl ?_
        refine Z_get C K0 (v := .ref 2) 1 dX0_exchangeEnds_38 rfl (by decide) g_118 rfl rfl ?_
        refine Z_iload_n C dX0_exchangeEnds_41 rfl rfl ?_
        refine Z_iaN C (v := B.1 1 j) dX0_exchangeEnds_42 rfl (by omega) (by decide) rfl ?_
        refine Z_icmp_ne C 48 dX0_exchangeEnds_43 (by decide) (fun c4 => ?_) (fun c4 => ?_)
        · refine Z_aload_n C dX0_exchangeEnds_48 rfl rfl ?_
          refine Z_get C K0 (v := .ref 2) 1 dX0_exchangeEnds_49 rfl (by decide) g_118 rfl rfl ?_
          refine Z_iload_n C dX0_exchangeEnds_52 rfl rfl ?_
          refine Z_iaN C (v := B.1 1 j) dX0_exchangeEnds_53 rfl (by omega) (by decide) rfl ?_
          refine Z_istore_n C (L' := [(3, .int (B.1 1 j)), (0, .ref 0), (1, .int (nI j)), (2, .int (nI k))]) dX0_exchangeEnds_54 rfl (by decide) rfl ?_
          refine Z_aload_n C dX0_exchangeEnds_55 rfl rfl ?_
          refine Z_get C K0 (v := .ref 2) 1 dX0_exchangeEnds_56 rfl (by decide) g_118 rfl rfl ?_
          refine Z_iload_n C dX0_exchangeEnds_59 rfl rfl ?_
          refine Z_aload_n C dX0_exchangeEnds_60 rfl rfl ?_
          refine Z_get C K0 (v := .ref 2) 1 dX0_exchangeEnds_61 rfl (by decide) g_118 rfl rfl ?_
          refine Z_iload_n C dX0_exchangeEnds_64 rfl rfl ?_
          refine Z_iaN C (v := B.1 1 k) dX0_exchangeEnds_65 rfl (by omega) (by decide) rfl ?_
          refine Z_isN C (ws' := srW 0 (vA B 1 j (B.1 1 k))) dX0_exchangeEnds_66 rfl (by omega) (by decide) rfl ?_
          refine Z_aload_n C dX0_exchangeEnds_67 rfl rfl ?_
          refine Z_get C K0 (v := .ref 2) 1 dX0_exchangeEnds_68 rfl (by decide) g_118 rfl rfl ?_
          refine Z_iload_n C dX0_exchangeEnds_71 rfl rfl ?_
          refine Z_iload_n C dX0_exchangeEnds_72 rfl rfl ?_
          refine Z_isN C (ws' := srW 0 (vA (vA B 1 j (B.1 1 k)) 1 k (B.1 1 j))) dX0_exchangeEnds_73 rfl (by omega) (by decide) rfl ?_
          refine Z_iconst C (v := 1) dX0_exchangeEnds_74 (by decide) ?_
          exact Z_zret C hr hlk dX0_exchangeEnds_75 rfl (congrArg (fun z => some (Value.int z)) (show (bI (swapB B (nI j) (nI k))) = 1 from by simp [swapP, swapB, bI, c1, c2, ej, ek, c3, c4])) (by rw [show (swapP B (nI j) (nI k)) = (vA (vA B 1 j (B.1 1 k)) 1 k (B.1 1 j)) from by simp [swapP, swapB, bI, c1, c2, ej, ek, c3, c4]])
        · refine Z_iconst C (v := 0) dX0_exchangeEnds_46 (by decide) ?_
          exact Z_zret C hr hlk dX0_exchangeEnds_47 rfl (congrArg (fun z => some (Value.int z)) (show (bI (swapB B (nI j) (nI k))) = 0 from by simp [swapP, swapB, bI, c1, c2, ej, ek, c3, c4])) (by rw [show (swapP B (nI j) (nI k)) = B from by simp [swapP, swapB, bI, c1, c2, ej, ek, c3, c4]])
set_option maxHeartbeats 4000000 in
set_option maxRecDepth 20000 in
theorem c_X0_tell (B : Sr) (S : St) (x : Int32) (y : Int32) {b : Nat} (hb : B.2 0 = nI b) (h30 : b ≤ 30) {n : Nat} (hn : S.2.2.1 0 = nI n) (h40 : n ≤ 40) {w : Nat} (hy : y = nI w) (hw : w ≤ 2) : CT yX0_tell cX0_tell 4 (some .int) 3 0 0 [.ref 0, .int x, .int y, .ref 4] (srW 0 B ++ stW 4 S) (some (.int (tellR B S x y))) (srW 0 B ++ stW 4 S) := by
  refine CT_of (L := [(0, .ref 0), (1, .int x), (2, .int y), (3, .ref 4)]) (by decide) (fun _ => rfl) (fun _ => Nat.le_of_ble_eq_true rfl) ?_
  intro p l e s m args below meth c G h A C hr hlk _
  subst hy
  refine Z_aload_n C dX0_tell_0 rfl rfl ?_
  refine Z_iload_n C dX0_tell_1 rfl rfl ?_
  refine Z_callV C (ws' := srW 0 B ++ stW 4 S) (st' := [.int (bI (hasR B x))]) (rest := []) [0, 1, 2, 3] (c_X0_has B x) m_X0_has K0 g_171 dX0_tell_2 rfl rfl rfl (outS 4 rfl (outR _ _ _)) (NW := 14) rfl rfl rfl rfl rfl ⟨Nat.le_of_ble_eq_true rfl, Nat.le_of_ble_eq_true rfl⟩ ⟨Nat.le_of_ble_eq_true rfl, Nat.le_of_ble_eq_true rfl⟩ (Nat.le_of_ble_eq_true rfl) rfl ?_
  refine Z_if_ne C 10 dX0_tell_5 (by decide) (fun c1 => ?_) (fun c1 => ?_)
  · have c1 := bI_n0.mp c1
    obtain ⟨j, hj, rfl⟩ := has_ixR hb h30 c1
    have ej : ix (nI j) = j := ix_nI (by omega)
    refine Z_iload_n C dX0_tell_10 rfl rfl ?_
    rcases (show w = 0 ∨ w = 1 ∨ w = 2 from by omega) with rfl | rfl | rfl
    · refine Z_lkp C (off := 25) 36 dX0_tell_11 (by decide) (by decide) (by decide) ?_
      refine Z_aload_n C dX0_tell_36 rfl rfl ?_
      refine Z_get C K0 (v := .ref 1) 0 dX0_tell_37 rfl (by decide) g_117 rfl rfl ?_
      refine Z_iload_n C dX0_tell_40 rfl rfl ?_
      refine Z_iaN C (v := B.1 0 j) dX0_tell_41 rfl (by omega) (by decide) rfl ?_
      exact Z_iret C hr hlk dX0_tell_42 (congrArg (fun z => some (Value.int z)) (show (tellR B S (nI j) (nI 0)) = (B.1 0 j) from by simp [tellR, tellRN, ix_9, bI, c1, ej])) rfl
    · refine Z_lkp C (off := 32) 43 dX0_tell_11 (by decide) (by decide) (by decide) ?_
      refine Z_aload_n C dX0_tell_43 rfl rfl ?_
      refine Z_get C K0 (v := .ref 2) 1 dX0_tell_44 rfl (by decide) g_118 rfl rfl ?_
      refine Z_iload_n C dX0_tell_47 rfl rfl ?_
      refine Z_iaN C (v := B.1 1 j) dX0_tell_48 rfl (by omega) (by decide) rfl ?_
      exact Z_iret C hr hlk dX0_tell_49 (congrArg (fun z => some (Value.int z)) (show (tellR B S (nI j) (nI 1)) = (B.1 1 j) from by simp [tellR, tellRN, ix_9, bI, c1, ej])) rfl
    · refine Z_lkp C (off := 39) 50 dX0_tell_11 (by decide) (by decide) (by decide) ?_
      refine Z_aload_n C dX0_tell_50 rfl rfl ?_
      refine Z_iload_n C dX0_tell_51 rfl rfl ?_
      refine Z_aload_n C dX0_tell_52 rfl rfl ?_
      refine Z_callV C (ws' := srW 0 B ++ stW 4 S) (st' := [.int (bI (goneR B S (nI j)))]) (rest := []) [0, 1, 2, 3, 4, 5, 6, 7, 8, 9, 10, 11, 12, 13] (c_X0_isGone B S (nI j) hb h30 hn h40) m_X0_isGone K0 g_167 dX0_tell_53 rfl rfl rfl (outS 4 rfl (outR _ _ _)) (NW := 14) rfl rfl rfl rfl rfl ⟨Nat.le_of_ble_eq_true rfl, Nat.le_of_ble_eq_true rfl⟩ ⟨Nat.le_of_ble_eq_true rfl, Nat.le_of_ble_eq_true rfl⟩ (Nat.le_of_ble_eq_true rfl) rfl ?_
      refine Z_if_eq C 63 dX0_tell_56 (by decide) (fun c2 => ?_) (fun c2 => ?_)
      · have c2 := bI_0.mp c2
        refine Z_iconst C (v := 0) dX0_tell_63 (by decide) ?_
        exact Z_iret C hr hlk dX0_tell_64 (congrArg (fun z => some (Value.int z)) (show (tellR B S (nI j) (nI 2)) = 0 from by simp [tellR, tellRN, ix_9, bI, c1, ej, c2])) rfl
      · have c2 := bI_n0.mp c2
        refine Z_iconst C (v := 1) dX0_tell_59 (by decide) ?_
        refine Z_goto C 64 dX0_tell_60 (by decide) ?_
        exact Z_iret C hr hlk dX0_tell_64 (congrArg (fun z => some (Value.int z)) (show (tellR B S (nI j) (nI 2)) = 1 from by simp [tellR, tellRN, ix_9, bI, c1, ej, c2])) rfl
  · have c1 := bI_0.mp c1
    refine Z_iconst C (v := 0) dX0_tell_8 (by decide) ?_
    exact Z_iret C hr hlk dX0_tell_9 (congrArg (fun z => some (Value.int z)) (show (tellR B S x (nI w)) = 0 from by simp [tellR, tellRN, ix_9, bI, c1])) rfl
set_option maxHeartbeats 4000000 in
set_option maxRecDepth 20000 in
theorem c_X0_countLeft (B : Sr) (S : St) {b : Nat} (hb : B.2 0 = nI b) (h30 : b ≤ 30) {n : Nat} (hn : S.2.2.1 0 = nI n) (h40 : n ≤ 40) : CT yX0_countLeft cX0_countLeft 4 (some .int) 3 0 0 [.ref 0, .ref 4] (srW 0 B ++ stW 4 S) (some (.int (leftR B S))) (srW 0 B ++ stW 4 S) := by
  refine CT_of (L := [(0, .ref 0), (1, .ref 4)]) (by decide) (fun _ => rfl) (fun _ => Nat.le_of_ble_eq_true rfl) ?_
  intro p l e s m args below meth c G h A C hr hlk _
  refine Z_iconst C (v := 0) dX0_countLeft_0 (by decide) ?_
  refine Z_istore_n C (L' := [(2, .int 0), (0, .ref 0), (1, .ref 4)]) dX0_countLeft_1 rfl (by decide) rfl ?_
  refine Z_iconst C (v := 0) dX0_countLeft_2 (by decide) ?_
  refine Z_istore_n C (L' := [(3, .int 0), (2, .int 0), (0, .ref 0), (1, .ref 4)]) dX0_countLeft_3 rfl (by decide) rfl ?_
  refine Zfor (σ := Int32) (fun i T1 => Z p l e _ s m args below meth c 4 G A h _ 0 0 (srW 0 B ++ stW 4 S) 4 [(3, .int (nI i)), (2, .int T1), (0, .ref 0), (1, .ref 4)] []) (fun i T1 => True) (left1 B S) b (0) trivial (fun i T1 hi hT1 => trivial) (fun T1 hT1 eT1 => ?_) (fun i T1 hi hT1 hT1' kk => ?_)
  · refine Z_iload_n C dX0_countLeft_4 rfl rfl ?_
    refine Z_aload_n C dX0_countLeft_5 rfl rfl ?_
    refine Z_get C K0 (v := .int (B.2 0)) 3 dX0_countLeft_6 rfl (by decide) g_120 rfl rfl ?_
    refine Z_icmp_ge C 35 dX0_countLeft_9 (by decide) (fun c1 => ?_) (fun c1 => absurd (ge_yes hb) c1)
    refine Z_iload_n C dX0_countLeft_35 rfl rfl ?_
    exact Z_iret C hr hlk dX0_countLeft_36 (congrArg (fun z => some (Value.int z)) (show (leftR B S) = T1 from by subst eT1; simp only [leftR, r_eq hb h30])) rfl
  · refine Z_iload_n C dX0_countLeft_4 rfl rfl ?_
    refine Z_aload_n C dX0_countLeft_5 rfl rfl ?_
    refine Z_get C K0 (v := .int (B.2 0)) 3 dX0_countLeft_6 rfl (by decide) g_120 rfl rfl ?_
    refine Z_icmp_ge C 35 dX0_countLeft_9 (by decide) (fun c2 => absurd c2 (ge_no hb (Nat.le_trans h30 (by decide)) hi)) (fun c2 => ?_)
    refine Z_iload_n C dX0_countLeft_12 rfl rfl ?_
    refine Z_aload_n C dX0_countLeft_13 rfl rfl ?_
    refine Z_iload_n C dX0_countLeft_14 rfl rfl ?_
    refine Z_aload_n C dX0_countLeft_15 rfl rfl ?_
    refine Z_callV C (ws' := srW 0 B ++ stW 4 S) (st' := [.int (bI (goneR B S (nI i))), .int T1]) (rest := [.int T1]) [0, 1, 2, 3, 4, 5, 6, 7, 8, 9, 10, 11, 12, 13] (c_X0_isGone B S (nI i) hb h30 hn h40) m_X0_isGone K0 g_167 dX0_countLeft_16 rfl rfl rfl (outS 4 rfl (outR _ _ _)) (NW := 14) rfl rfl rfl rfl rfl ⟨Nat.le_of_ble_eq_true rfl, Nat.le_of_ble_eq_true rfl⟩ ⟨Nat.le_of_ble_eq_true rfl, Nat.le_of_ble_eq_true rfl⟩ (Nat.le_of_ble_eq_true rfl) rfl ?_
    refine Z_if_eq C 26 dX0_countLeft_19 (by decide) (fun c3 => ?_) (fun c3 => ?_)
    · have c3 := bI_0.mp c3
      refine Z_iconst C (v := 1) dX0_countLeft_26 (by decide) ?_
      refine Z_iadd C (v := T1 + 1) dX0_countLeft_27 rfl ?_
      refine Z_istore_n C (L' := [(2, .int (T1 + 1)), (3, .int (nI i)), (0, .ref 0), (1, .ref 4)]) dX0_countLeft_28 rfl (by decide) rfl ?_
      refine Z_iinc C (L' := [(3, .int (nI (i + 1))), (2, .int (T1 + 1)), (0, .ref 0), (1, .ref 4)]) (v := nI (i + 1)) dX0_countLeft_29 rfl (nI_inc _) (by decide) rfl ?_
      refine Z_goto C 4 dX0_countLeft_32 (by decide) ?_
      rw [show (left1 B S) i T1 = T1 + 1 from by simp [left1, bI, c2, c3]] at kk
      exact Z_sub (by simp [bI_t, bI_f]) kk
    · have c3 := bI_n0.mp c3
      refine Z_iconst C (v := 0) dX0_countLeft_22 (by decide) ?_
      refine Z_goto C 27 dX0_countLeft_23 (by decide) ?_
      refine Z_iadd C (v := T1 + 0) dX0_countLeft_27 rfl ?_
      refine Z_istore_n C (L' := [(2, .int (T1 + 0)), (3, .int (nI i)), (0, .ref 0), (1, .ref 4)]) dX0_countLeft_28 rfl (by decide) rfl ?_
      refine Z_iinc C (L' := [(3, .int (nI (i + 1))), (2, .int (T1 + 0)), (0, .ref 0), (1, .ref 4)]) (v := nI (i + 1)) dX0_countLeft_29 rfl (nI_inc _) (by decide) rfl ?_
      refine Z_goto C 4 dX0_countLeft_32 (by decide) ?_
      rw [show (left1 B S) i T1 = T1 + 0 from by simp [left1, bI, c2, c3]] at kk
      exact Z_sub (by simp [bI_t, bI_f]) kk
set_option maxHeartbeats 4000000 in
set_option maxRecDepth 20000 in
theorem c_X0_isPlace (x : Int32) : CT yX0_isPlace cX0_isPlace 1 (some .boolean) 0 0 0 [.int x] ([]) (some (.int (bI (placeB x)))) ([]) := by
  refine CT_of (L := [(0, .int x)]) (by decide) (fun _ => rfl) (fun _ => Nat.le_of_ble_eq_true rfl) ?_
  intro p l e s m args below meth c G h A C hr hlk _
  refine Z_iload_n C dX0_isPlace_0 rfl rfl ?_
  refine Z_if_lt C 14 dX0_isPlace_1 (by decide) (fun c1 => ?_) (fun c1 => ?_)
  · refine Z_iconst C (v := 0) dX0_isPlace_14 (by decide) ?_
    exact Z_zret C hr hlk dX0_isPlace_15 rfl (congrArg (fun z => some (Value.int z)) (show (bI (placeB x)) = 0 from by simp [placeB, bI, c1])) rfl
  · refine Z_iload_n C dX0_isPlace_4 rfl rfl ?_
    refine Z_bipush C (v := 40) dX0_isPlace_5 (by decide) ?_
    refine Z_icmp_ge C 14 dX0_isPlace_7 (by decide) (fun c2 => ?_) (fun c2 => ?_)
    · refine Z_iconst C (v := 0) dX0_isPlace_14 (by decide) ?_
      exact Z_zret C hr hlk dX0_isPlace_15 rfl (congrArg (fun z => some (Value.int z)) (show (bI (placeB x)) = 0 from by simp [placeB, bI, c1, c2])) rfl
    · refine Z_iconst C (v := 1) dX0_isPlace_10 (by decide) ?_
      refine Z_goto C 15 dX0_isPlace_11 (by decide) ?_
      exact Z_zret C hr hlk dX0_isPlace_15 rfl (congrArg (fun z => some (Value.int z)) (show (bI (placeB x)) = 1 from by simp [placeB, bI, c1, c2])) rfl
set_option maxHeartbeats 4000000 in
set_option maxRecDepth 20000 in
theorem c_X0_stepOver (B : Sr) (f : Int32) (t : Int32) (q : Int32) : CT yX0_stepOver cX0_stepOver 4 (some .boolean) 1 0 0 [.ref 0, .int f, .int t, .int q] (srW 0 B) (some (.int (bI (stepB B f t q)))) (srW 0 (stepP B f t q)) := by
  refine CT_of (L := [(0, .ref 0), (1, .int f), (2, .int t), (3, .int q)]) (by decide) (fun _ => rfl) (fun _ => Nat.le_of_ble_eq_true rfl) ?_
  intro p l e s m args below meth c G h A C hr hlk _
  refine Z_iload_n C dX0_stepOver_0 rfl rfl ?_
  refine Z_callS C (ws' := srW 0 B) (st' := [.int (bI (placeB f))]) (rest := []) [] (c_X0_isPlace f) m_X0_isPlace g_470 dX0_stepOver_1 rfl rfl rfl (outR _ _ _) (NW := 4) rfl rfl rfl rfl ⟨Nat.le_of_ble_eq_true rfl, Nat.le_of_ble_eq_true rfl⟩ ⟨Nat.le_of_ble_eq_true rfl, Nat.le_of_ble_eq_true rfl⟩ (Nat.le_of_ble_eq_true rfl) rfl ?_
  refine Z_if_eq C 34 dX0_stepOver_4 (by decide) (fun c1 => ?_) (fun c1 => ?_)
  · have c1 := bI_0.mp c1
    refine Z_iconst C (v := 0) dX0_stepOver_34 (by decide) ?_
    exact Z_zret C hr hlk dX0_stepOver_35 rfl (congrArg (fun z => some (Value.int z)) (show (bI (stepB B f t q)) = 0 from by simp [stepP, stepB, bI, c1])) (by rw [show (stepP B f t q) = B from by simp [stepP, stepB, bI, c1]])
  · have c1 := bI_n0.mp c1
    refine Z_iload_n C dX0_stepOver_7 rfl rfl ?_
    refine Z_callS C (ws' := srW 0 B) (st' := [.int (bI (placeB t))]) (rest := []) [] (c_X0_isPlace t) m_X0_isPlace g_470 dX0_stepOver_8 rfl rfl rfl (outR _ _ _) (NW := 4) rfl rfl rfl rfl ⟨Nat.le_of_ble_eq_true rfl, Nat.le_of_ble_eq_true rfl⟩ ⟨Nat.le_of_ble_eq_true rfl, Nat.le_of_ble_eq_true rfl⟩ (Nat.le_of_ble_eq_true rfl) rfl ?_
    refine Z_if_eq C 34 dX0_stepOver_11 (by decide) (fun c2 => ?_) (fun c2 => ?_)
    · have c2 := bI_0.mp c2
      refine Z_iconst C (v := 0) dX0_stepOver_34 (by decide) ?_
      exact Z_zret C hr hlk dX0_stepOver_35 rfl (congrArg (fun z => some (Value.int z)) (show (bI (stepB B f t q)) = 0 from by simp [stepP, stepB, bI, c1, c2])) (by rw [show (stepP B f t q) = B from by simp [stepP, stepB, bI, c1, c2]])
    · have c2 := bI_n0.mp c2
      obtain ⟨j, hj, rfl⟩ := place_ix c1
      have ej : ix (nI j) = j := ix_nI (by omega)
      obtain ⟨k, hk, rfl⟩ := place_ix c2
      have ek : ix (nI k) = k := ix_nI (by omega)
      refine Z_aload_n C dX0_stepOver_14 rfl rfl ?_
      refine Z_get C K0 (v := .ref 3) 2 dX0_stepOver_15 rfl (by decide) g_119 rfl rfl ?_
      refine Z_iload_n C dX0_stepOver_18 rfl rfl ?_
      refine Z_iaN C (v := B.1 2 j) dX0_stepOver_19 rfl (by omega) (by decide) rfl ?_
      refine Z_iload_n C dX0_stepOver_20 rfl rfl ?_
      refine Z_icmp_ne C 34 dX0_stepOver_21 (by decide) (fun c3 => ?_) (fun c3 => ?_)
      · refine Z_iconst C (v := 0) dX0_stepOver_34 (by decide) ?_
        exact Z_zret C hr hlk dX0_stepOver_35 rfl (congrArg (fun z => some (Value.int z)) (show (bI (stepB B (nI j) (nI k) q)) = 0 from by simp [stepP, stepB, bI, c1, c2, ej, ek, c3])) (by rw [show (stepP B (nI j) (nI k) q) = B from by simp [stepP, stepB, bI, c1, c2, ej, ek, c3]])
      · refine Z_aload_n C dX0_stepOver_24 rfl rfl ?_
        refine Z_get C K0 (v := .ref 3) 2 dX0_stepOver_25 rfl (by decide) g_119 rfl rfl ?_
        refine Z_iload_n C dX0_stepOver_28 rfl rfl ?_
        refine Z_iaN C (v := B.1 2 k) dX0_stepOver_29 rfl (by omega) (by decide) rfl ?_
        refine Z_iconst C (v := (-1)) dX0_stepOver_30 (by decide) ?_
        refine Z_icmp_eq C 36 dX0_stepOver_31 (by decide) (fun c4 => ?_) (fun c4 => ?_)
        · refine Z_aload_n C dX0_stepOver_36 rfl rfl ?_
          refine Z_get C K0 (v := .ref 3) 2 dX0_stepOver_37 rfl (by decide) g_119 rfl rfl ?_
          refine Z_iload_n C dX0_stepOver_40 rfl rfl ?_
          refine Z_iload_n C dX0_stepOver_41 rfl rfl ?_
          refine Z_iconst C (v := 1) dX0_stepOver_42 (by decide) ?_
          refine Z_iadd C (v := q + 1) dX0_stepOver_43 rfl ?_
          refine Z_isN C (ws' := srW 0 (vA B 2 k (q + 1))) dX0_stepOver_44 rfl (by omega) (by decide) rfl ?_
          refine Z_iconst C (v := 1) dX0_stepOver_45 (by decide) ?_
          exact Z_zret C hr hlk dX0_stepOver_46 rfl (congrArg (fun z => some (Value.int z)) (show (bI (stepB B (nI j) (nI k) q)) = 1 from by simp [stepP, stepB, bI, c1, c2, ej, ek, c3, c4])) (by rw [show (stepP B (nI j) (nI k) q) = (vA B 2 k (q + 1)) from by simp [stepP, stepB, bI, c1, c2, ej, ek, c3, c4]])
        · refine Z_iconst C (v := 0) dX0_stepOver_34 (by decide) ?_
          exact Z_zret C hr hlk dX0_stepOver_35 rfl (congrArg (fun z => some (Value.int z)) (show (bI (stepB B (nI j) (nI k) q)) = 0 from by simp [stepP, stepB, bI, c1, c2, ej, ek, c3, c4])) (by rw [show (stepP B (nI j) (nI k) q) = B from by simp [stepP, stepB, bI, c1, c2, ej, ek, c3, c4]])
set_option maxHeartbeats 4000000 in
set_option maxRecDepth 20000 in
theorem c_X0_reachFrom (B : Sr) (S : St) (q : Int32) {b : Nat} (hb : B.2 0 = nI b) (h30 : b ≤ 30) {n : Nat} (hn : S.2.2.1 0 = nI n) (h40 : n ≤ 40) : CT yX0_reachFrom cX0_reachFrom 5 (some .boolean) 3 0 0 [.ref 0, .int q, .ref 4] (srW 0 B ++ stW 4 S) (some (.int (bI (reachF S q B).2))) (srW 0 ((reachF S q B).1) ++ stW 4 S) := by
  refine CT_of (L := [(0, .ref 0), (1, .int q), (2, .ref 4)]) (by decide) (fun _ => rfl) (fun _ => Nat.le_of_ble_eq_true rfl) ?_
  intro p l e s m args below meth c G h A C hr hlk _
  refine Z_iconst C (v := 0) dX0_reachFrom_0 (by decide) ?_
  refine Z_istore_n C (L' := [(3, .int 0), (0, .ref 0), (1, .int q), (2, .ref 4)]) dX0_reachFrom_1 rfl (by decide) rfl ?_
  refine Z_iconst C (v := 0) dX0_reachFrom_2 (by decide) ?_
  refine Z_istore C (L' := [(4, .int 0), (3, .int 0), (0, .ref 0), (1, .int q), (2, .ref 4)]) dX0_reachFrom_3 (by decide) rfl ?_
  refine Zfor (σ := Sr × Bool) (fun i T1 => Z p l e _ s m args below meth c 5 G A h _ 0 0 (srW 0 (T1.1) ++ stW 4 S) 5 [(4, .int (nI i)), (3, .int (bI T1.2)), (0, .ref 0), (1, .int q), (2, .ref 4)] []) (fun i T1 => T1.1.2 0 = nI b) (reach1 S q) b ((B, false)) hb (fun i T1 hi hT1 => (hb_reach1 _ _ _ _).trans hT1) (fun T1 hT1 eT1 => ?_) (fun i T1 hi hT1 hT1' kk => ?_)
  · refine Z_iload C dX0_reachFrom_5 rfl ?_
    refine Z_aload_n C dX0_reachFrom_7 rfl rfl ?_
    refine Z_get C K0 (v := .int ((T1.1).2 0)) 3 dX0_reachFrom_8 rfl (by decide) g_120 rfl rfl ?_
    refine Z_icmp_ge C 76 dX0_reachFrom_11 (by decide) (fun c1 => ?_) (fun c1 => absurd (ge_yes hT1) c1)
    refine Z_iload_n C dX0_reachFrom_76 rfl rfl ?_
    exact Z_zret C hr hlk dX0_reachFrom_77 (bI_nar _) (congrArg (fun z => some (Value.int z)) (show (bI (reachF S q B).2) = (bI T1.2) from by subst eT1; simp only [reachF, r_eq hb h30])) (by rw [show ((reachF S q B).1) = (T1.1) from by subst eT1; simp only [reachF, r_eq hb h30]])
  · refine Z_iload C dX0_reachFrom_5 rfl ?_
    refine Z_aload_n C dX0_reachFrom_7 rfl rfl ?_
    refine Z_get C K0 (v := .int ((T1.1).2 0)) 3 dX0_reachFrom_8 rfl (by decide) g_120 rfl rfl ?_
    refine Z_icmp_ge C 76 dX0_reachFrom_11 (by decide) (fun c2 => absurd c2 (ge_no hT1 (Nat.le_trans h30 (by decide)) hi)) (fun c2 => ?_)
    refine Z_aload_n C dX0_reachFrom_14 rfl rfl ?_
    refine Z_iload C dX0_reachFrom_15 rfl ?_
    refine Z_aload_n C dX0_reachFrom_17 rfl rfl ?_
    refine Z_callV C (ws' := srW 0 (T1.1) ++ stW 4 S) (st' := [.int (bI (goneR (T1.1) S (nI i)))]) (rest := []) [0, 1, 2, 3, 4, 5, 6, 7, 8, 9, 10, 11, 12, 13] (c_X0_isGone (T1.1) S (nI i) hT1 h30 hn h40) m_X0_isGone K0 g_167 dX0_reachFrom_18 rfl rfl rfl (outS 4 rfl (outR _ _ _)) (NW := 14) rfl rfl rfl rfl rfl ⟨Nat.le_of_ble_eq_true rfl, Nat.le_of_ble_eq_true rfl⟩ ⟨Nat.le_of_ble_eq_true rfl, Nat.le_of_ble_eq_true rfl⟩ (Nat.le_of_ble_eq_true rfl) rfl ?_
    refine Z_if_ne C 70 dX0_reachFrom_21 (by decide) (fun c3 => ?_) (fun c3 => ?_)
    · have c3 := bI_n0.mp c3
      refine Z_iinc C (L' := [(4, .int (nI (i + 1))), (3, .int (bI T1.2)), (0, .ref 0), (1, .int q), (2, .ref 4)]) (v := nI (i + 1)) dX0_reachFrom_70 rfl (nI_inc _) (by decide) rfl ?_
      refine Z_goto C 5 dX0_reachFrom_73 (by decide) ?_
      rw [show (reach1 S q) i T1 = ((T1.1), T1.2) from by simp [reach1, rchA, c2, c3]] at kk
      exact Z_sub (by simp [bI_t, bI_f]) kk
    · have c3 := bI_0.mp c3
      refine Z_aload_n C dX0_reachFrom_24 rfl rfl ?_
      refine Z_aload_n C dX0_reachFrom_25 rfl rfl ?_
      refine Z_get C K0 (v := .ref 1) 0 dX0_reachFrom_26 rfl (by decide) g_117 rfl rfl ?_
      refine Z_iload C dX0_reachFrom_29 rfl ?_
      refine Z_iaN C (v := (T1.1).1 0 i) dX0_reachFrom_31 rfl (by omega) (by decide) rfl ?_
      refine Z_aload_n C dX0_reachFrom_32 rfl rfl ?_
      refine Z_get C K0 (v := .ref 2) 1 dX0_reachFrom_33 rfl (by decide) g_118 rfl rfl ?_
      refine Z_iload C dX0_reachFrom_36 rfl ?_
      refine Z_iaN C (v := (T1.1).1 1 i) dX0_reachFrom_38 rfl (by omega) (by decide) rfl ?_
      refine Z_iload_n C dX0_reachFrom_39 rfl rfl ?_
      refine Z_callV C (ws' := srW 0 (stepP (T1.1) ((T1.1).1 0 i) ((T1.1).1 1 i) q) ++ stW 4 S) (st' := [.int (bI (stepB (T1.1) ((T1.1).1 0 i) ((T1.1).1 1 i) q))]) (rest := []) [0, 1, 2, 3] (c_X0_stepOver (T1.1) ((T1.1).1 0 i) ((T1.1).1 1 i) q) m_X0_stepOver K0 g_466 dX0_reachFrom_40 rfl rfl rfl (outI 4 rfl rfl rfl (outR _ _ _)) (NW := 14) rfl rfl rfl rfl rfl ⟨Nat.le_of_ble_eq_true rfl, Nat.le_of_ble_eq_true rfl⟩ ⟨Nat.le_of_ble_eq_true rfl, Nat.le_of_ble_eq_true rfl⟩ (Nat.le_of_ble_eq_true rfl) rfl ?_
      refine Z_ws (fun X1 => srW 0 X1 ++ stW 4 S) (stepP (T1.1) ((T1.1).1 0 i) ((T1.1).1 1 i) q) (fun X1 eX1 => ?_)
      refine Z_if_ne C 68 dX0_reachFrom_43 (by decide) (fun c4 => ?_) (fun c4 => ?_)
      · have c4 := bI_n0.mp c4
        refine Z_iconst C (v := 1) dX0_reachFrom_68 (by decide) ?_
        refine Z_istore_n C (L' := [(3, .int 1), (4, .int (nI i)), (0, .ref 0), (1, .int q), (2, .ref 4)]) dX0_reachFrom_69 rfl (by decide) rfl ?_
        refine Z_iinc C (L' := [(4, .int (nI (i + 1))), (3, .int 1), (0, .ref 0), (1, .int q), (2, .ref 4)]) (v := nI (i + 1)) dX0_reachFrom_70 rfl (nI_inc _) (by decide) rfl ?_
        refine Z_goto C 5 dX0_reachFrom_73 (by decide) ?_
        rw [show (reach1 S q) i T1 = (X1, true) from by subst eX1; simp [reach1, rchA, c2, c3, c4]] at kk
        exact Z_sub (by simp [bI_t, bI_f]) kk
      · have c4 := bI_0.mp c4
        refine Z_aload_n C dX0_reachFrom_46 rfl rfl ?_
        refine Z_aload_n C dX0_reachFrom_47 rfl rfl ?_
        refine Z_get C K0 (v := .ref 2) 1 dX0_reachFrom_48 rfl (by decide) g_118 rfl rfl ?_
        refine Z_iload C dX0_reachFrom_51 rfl ?_
        refine Z_iaN C (v := X1.1 1 i) dX0_reachFrom_53 rfl (by omega) (by decide) rfl ?_
        refine Z_aload_n C dX0_reachFrom_54 rfl rfl ?_
        refine Z_get C K0 (v := .ref 1) 0 dX0_reachFrom_55 rfl (by decide) g_117 rfl rfl ?_
        refine Z_iload C dX0_reachFrom_58 rfl ?_
        refine Z_iaN C (v := X1.1 0 i) dX0_reachFrom_60 rfl (by omega) (by decide) rfl ?_
        refine Z_iload_n C dX0_reachFrom_61 rfl rfl ?_
        refine Z_callV C (ws' := srW 0 (stepP X1 (X1.1 1 i) (X1.1 0 i) q) ++ stW 4 S) (st' := [.int (bI (stepB X1 (X1.1 1 i) (X1.1 0 i) q))]) (rest := []) [0, 1, 2, 3] (c_X0_stepOver X1 (X1.1 1 i) (X1.1 0 i) q) m_X0_stepOver K0 g_466 dX0_reachFrom_62 rfl rfl rfl (outI 4 rfl rfl rfl (outR _ _ _)) (NW := 14) rfl rfl rfl rfl rfl ⟨Nat.le_of_ble_eq_true rfl, Nat.le_of_ble_eq_true rfl⟩ ⟨Nat.le_of_ble_eq_true rfl, Nat.le_of_ble_eq_true rfl⟩ (Nat.le_of_ble_eq_true rfl) rfl ?_
        refine Z_ws (fun X2 => srW 0 X2 ++ stW 4 S) (stepP X1 (X1.1 1 i) (X1.1 0 i) q) (fun X2 eX2 => ?_)
        refine Z_if_eq C 70 dX0_reachFrom_65 (by decide) (fun c5 => ?_) (fun c5 => ?_)
        · have c5 := bI_0.mp c5
          refine Z_iinc C (L' := [(4, .int (nI (i + 1))), (3, .int (bI T1.2)), (0, .ref 0), (1, .int q), (2, .ref 4)]) (v := nI (i + 1)) dX0_reachFrom_70 rfl (nI_inc _) (by decide) rfl ?_
          refine Z_goto C 5 dX0_reachFrom_73 (by decide) ?_
          rw [show (reach1 S q) i T1 = (X2, T1.2) from by subst eX1 eX2; simp [reach1, rchA, c2, c3, c4, c5]] at kk
          exact Z_sub (by simp [bI_t, bI_f]) kk
        · have c5 := bI_n0.mp c5
          refine Z_iconst C (v := 1) dX0_reachFrom_68 (by decide) ?_
          refine Z_istore_n C (L' := [(3, .int 1), (4, .int (nI i)), (0, .ref 0), (1, .int q), (2, .ref 4)]) dX0_reachFrom_69 rfl (by decide) rfl ?_
          refine Z_iinc C (L' := [(4, .int (nI (i + 1))), (3, .int 1), (0, .ref 0), (1, .int q), (2, .ref 4)]) (v := nI (i + 1)) dX0_reachFrom_70 rfl (nI_inc _) (by decide) rfl ?_
          refine Z_goto C 5 dX0_reachFrom_73 (by decide) ?_
          rw [show (reach1 S q) i T1 = (X2, true) from by subst eX1 eX2; simp [reach1, rchA, c2, c3, c4, c5]] at kk
          exact Z_sub (by simp [bI_t, bI_f]) kk
set_option maxHeartbeats 4000000 in
set_option maxRecDepth 20000 in
theorem c_X0_fewestSteps (B : Sr) (S : St) (x : Int32) (y : Int32) {b : Nat} (hb : B.2 0 = nI b) (h30 : b ≤ 30) {n : Nat} (hn : S.2.2.1 0 = nI n) (h40 : n ≤ 40) : CT yX0_fewestSteps cX0_fewestSteps 6 (some .int) 4 0 0 [.ref 0, .int x, .int y, .ref 4] (srW 0 B ++ stW 4 S) (some (.int (fewV B S x y))) (srW 0 (fewQ B S x y) ++ stW 4 S) := by
  refine CT_of (L := [(0, .ref 0), (1, .int x), (2, .int y), (3, .ref 4)]) (by decide) (fun _ => rfl) (fun _ => Nat.le_of_ble_eq_true rfl) ?_
  intro p l e s m args below meth c G h A C hr hlk _
  refine Z_aload_n C dX0_fewestSteps_0 rfl rfl ?_
  refine Z_iload_n C dX0_fewestSteps_1 rfl rfl ?_
  refine Z_callV C (ws' := srW 0 B ++ stW 4 S) (st' := [.int (bI (hasB S x))]) (rest := []) [4, 5, 6, 7, 8, 9, 10, 11, 12, 13] (c_X1_has S x) m_X1_has K1 g_461 dX0_fewestSteps_2 rfl rfl rfl (outS 4 rfl (outR _ _ _)) (NW := 14) rfl rfl rfl rfl rfl ⟨Nat.le_of_ble_eq_true rfl, Nat.le_of_ble_eq_true rfl⟩ ⟨Nat.le_of_ble_eq_true rfl, Nat.le_of_ble_eq_true rfl⟩ (Nat.le_of_ble_eq_true rfl) rfl ?_
  refine Z_if_eq C 16 dX0_fewestSteps_5 (by decide) (fun c1 => ?_) (fun c1 => ?_)
  · have c1 := bI_0.mp c1
    refine Z_iconst C (v := (-1)) dX0_fewestSteps_16 (by decide) ?_
    exact Z_iret C hr hlk dX0_fewestSteps_17 (congrArg (fun z => some (Value.int z)) (show (fewV B S x y) = (-1) from by simp [fewV, fewQ, c1])) (by rw [show (fewQ B S x y) = B from by simp [fewV, fewQ, c1]])
  · have c1 := bI_n0.mp c1
    refine Z_aload_n C dX0_fewestSteps_8 rfl rfl ?_
    refine Z_iload_n C dX0_fewestSteps_9 rfl rfl ?_
    refine Z_callV C (ws' := srW 0 B ++ stW 4 S) (st' := [.int (bI (hasB S y))]) (rest := []) [4, 5, 6, 7, 8, 9, 10, 11, 12, 13] (c_X1_has S y) m_X1_has K1 g_461 dX0_fewestSteps_10 rfl rfl rfl (outS 4 rfl (outR _ _ _)) (NW := 14) rfl rfl rfl rfl rfl ⟨Nat.le_of_ble_eq_true rfl, Nat.le_of_ble_eq_true rfl⟩ ⟨Nat.le_of_ble_eq_true rfl, Nat.le_of_ble_eq_true rfl⟩ (Nat.le_of_ble_eq_true rfl) rfl ?_
    refine Z_if_ne C 18 dX0_fewestSteps_13 (by decide) (fun c2 => ?_) (fun c2 => ?_)
    · have c2 := bI_n0.mp c2
      obtain ⟨j1, hj1, rfl⟩ := has_ix hn h40 c1
      have ej1 : ix (nI j1) = j1 := ix_nI (by omega)
      obtain ⟨k2, hk2, rfl⟩ := has_ix hn h40 c2
      have ek2 : ix (nI k2) = k2 := ix_nI (by omega)
      refine Z_iconst C (v := 0) dX0_fewestSteps_18 (by decide) ?_
      refine Z_istore C (L' := [(4, .int 0), (0, .ref 0), (1, .int (nI j1)), (2, .int (nI k2)), (3, .ref 4)]) dX0_fewestSteps_19 (by decide) rfl ?_
      refine Zfor (σ := Sr) (fun i T1 => Z p l e _ s m args below meth c 6 G A h _ 0 0 (srW 0 T1 ++ stW 4 S) 21 [(4, .int (nI i)), (0, .ref 0), (1, .int (nI j1)), (2, .int (nI k2)), (3, .ref 4)] []) (fun i T1 => T1.2 0 = nI b) (clr1) 40 (B) hb (fun i T1 hi hT1 => hT1) (fun T1 hT1 eT1 => ?_) (fun i T1 hi hT1 hT1' kk => ?_)
      · refine Z_iload C dX0_fewestSteps_21 rfl ?_
        refine Z_bipush C (v := 40) dX0_fewestSteps_23 (by decide) ?_
        refine Z_icmp_ge C 42 dX0_fewestSteps_25 (by decide) (fun c3 => ?_) (fun c3 => absurd (ge_yes40 hT1) c3)
        refine Z_aload_n C dX0_fewestSteps_42 rfl rfl ?_
        refine Z_get C K0 (v := .ref 3) 2 dX0_fewestSteps_43 rfl (by decide) g_119 rfl rfl ?_
        refine Z_iload_n C dX0_fewestSteps_46 rfl rfl ?_
        refine Z_iconst C (v := 0) dX0_fewestSteps_47 (by decide) ?_
        refine Z_isN C (ws' := srW 0 (vA T1 2 j1 0) ++ stW 4 S) dX0_fewestSteps_48 rfl (by omega) (by decide) rfl ?_
        refine Z_iconst C (v := 1) dX0_fewestSteps_49 (by decide) ?_
        refine Z_istore C (L' := [(4, .int 1), (0, .ref 0), (1, .int (nI j1)), (2, .int (nI k2)), (3, .ref 4)]) dX0_fewestSteps_50 (by decide) rfl ?_
        refine Z_iconst C (v := 0) dX0_fewestSteps_52 (by decide) ?_
        refine Z_istore C (L' := [(5, .int 0), (4, .int 1), (0, .ref 0), (1, .int (nI j1)), (2, .int (nI k2)), (3, .ref 4)]) dX0_fewestSteps_53 (by decide) rfl ?_
        refine Zind (σ := Sr) (fun k T => ∀ d : Nat, d + k = 40 → T.2 0 = nI b → bfs S (ix (nI k2)) k d T = fewP B S (nI j1) (nI k2) → Z p l e _ s m args below meth c 6 G A h _ 0 0 (srW 0 T ++ stW 4 S) 55 [(5, .int (nI d)), (4, .int 1), (0, .ref 0), (1, .int (nI j1)), (2, .int (nI k2)), (3, .ref 4)] []) 40 (vA T1 2 j1 0) (fun T d hd hT hg => ?_) (fun k T ih d hd hT hg => ?_) 0 (Nat.zero_add _) hT1 (by rw [← bfs_def, ej1, eT1])
        · obtain rfl : d = 40 := by omega
          refine Z_iload C dX0_fewestSteps_55 rfl ?_
          refine Z_if_eq C 92 dX0_fewestSteps_57 (by decide) (fun c4 => absurd c4 (show ¬ (1 : Int32) = 0 from by decide)) (fun c4 => ?_)
          refine Z_aload_n C dX0_fewestSteps_60 rfl rfl ?_
          refine Z_get C K0 (v := .ref 3) 2 dX0_fewestSteps_61 rfl (by decide) g_119 rfl rfl ?_
          refine Z_iload_n C dX0_fewestSteps_64 rfl rfl ?_
          refine Z_iaN C (v := T.1 2 k2) dX0_fewestSteps_65 rfl (by omega) (by decide) rfl ?_
          refine Z_iconst C (v := (-1)) dX0_fewestSteps_66 (by decide) ?_
          refine Z_icmp_ne C 92 dX0_fewestSteps_67 (by decide) (fun c5 => ?_) (fun c5 => ?_)
          · refine Z_aload_n C dX0_fewestSteps_92 rfl rfl ?_
            refine Z_get C K0 (v := .ref 3) 2 dX0_fewestSteps_93 rfl (by decide) g_119 rfl rfl ?_
            refine Z_iload_n C dX0_fewestSteps_96 rfl rfl ?_
            refine Z_iaN C (v := T.1 2 k2) dX0_fewestSteps_97 rfl (by omega) (by decide) rfl ?_
            exact Z_iret C hr hlk dX0_fewestSteps_98 (congrArg (fun z => some (Value.int z)) (show (fewV B S (nI j1) (nI k2)) = (T.1 2 k2) from by simp [fewV, fewQ, ← hg, bfs, c1, c2, ej1, ek2, c3, c4, c5])) (by rw [show (fewQ B S (nI j1) (nI k2)) = T from by simp [fewV, fewQ, ← hg, bfs, c1, c2, ej1, ek2, c3, c4, c5]])
          · refine Z_iload C dX0_fewestSteps_70 rfl ?_
            refine Z_bipush C (v := 40) dX0_fewestSteps_72 (by decide) ?_
            refine Z_icmp_ge C 92 dX0_fewestSteps_74 (by decide) (fun c6 => ?_) (fun c6 => absurd (show (40 : Int32) ≤ nI 40 from by decide) c6)
            refine Z_aload_n C dX0_fewestSteps_92 rfl rfl ?_
            refine Z_get C K0 (v := .ref 3) 2 dX0_fewestSteps_93 rfl (by decide) g_119 rfl rfl ?_
            refine Z_iload_n C dX0_fewestSteps_96 rfl rfl ?_
            refine Z_iaN C (v := T.1 2 k2) dX0_fewestSteps_97 rfl (by omega) (by decide) rfl ?_
            exact Z_iret C hr hlk dX0_fewestSteps_98 (congrArg (fun z => some (Value.int z)) (show (fewV B S (nI j1) (nI k2)) = (T.1 2 k2) from by simp [fewV, fewQ, ← hg, bfs, c1, c2, ej1, ek2, c3, c4, c5, c6])) (by rw [show (fewQ B S (nI j1) (nI k2)) = T from by simp [fewV, fewQ, ← hg, bfs, c1, c2, ej1, ek2, c3, c4, c5, c6]])
        · refine Z_iload C dX0_fewestSteps_55 rfl ?_
          refine Z_if_eq C 92 dX0_fewestSteps_57 (by decide) (fun c7 => absurd c7 (show ¬ (1 : Int32) = 0 from by decide)) (fun c7 => ?_)
          refine Z_aload_n C dX0_fewestSteps_60 rfl rfl ?_
          refine Z_get C K0 (v := .ref 3) 2 dX0_fewestSteps_61 rfl (by decide) g_119 rfl rfl ?_
          refine Z_iload_n C dX0_fewestSteps_64 rfl rfl ?_
          refine Z_iaN C (v := T.1 2 k2) dX0_fewestSteps_65 rfl (by omega) (by decide) rfl ?_
          refine Z_iconst C (v := (-1)) dX0_fewestSteps_66 (by decide) ?_
          refine Z_icmp_ne C 92 dX0_fewestSteps_67 (by decide) (fun c8 => ?_) (fun c8 => ?_)
          · refine Z_aload_n C dX0_fewestSteps_92 rfl rfl ?_
            refine Z_get C K0 (v := .ref 3) 2 dX0_fewestSteps_93 rfl (by decide) g_119 rfl rfl ?_
            refine Z_iload_n C dX0_fewestSteps_96 rfl rfl ?_
            refine Z_iaN C (v := T.1 2 k2) dX0_fewestSteps_97 rfl (by omega) (by decide) rfl ?_
            exact Z_iret C hr hlk dX0_fewestSteps_98 (congrArg (fun z => some (Value.int z)) (show (fewV B S (nI j1) (nI k2)) = (T.1 2 k2) from by simp [fewV, fewQ, ← hg, bfs, c1, c2, ej1, ek2, c3, c7, c8])) (by rw [show (fewQ B S (nI j1) (nI k2)) = T from by simp [fewV, fewQ, ← hg, bfs, c1, c2, ej1, ek2, c3, c7, c8]])
          · refine Z_iload C dX0_fewestSteps_70 rfl ?_
            refine Z_bipush C (v := 40) dX0_fewestSteps_72 (by decide) ?_
            refine Z_icmp_ge C 92 dX0_fewestSteps_74 (by decide) (fun c9 => absurd c9 (show ¬ (40 : Int32) ≤ nI d from ge_no' (n := 40) (by omega) (by omega))) (fun c9 => ?_)
            refine Z_aload_n C dX0_fewestSteps_77 rfl rfl ?_
            refine Z_iload C dX0_fewestSteps_78 rfl ?_
            refine Z_aload_n C dX0_fewestSteps_80 rfl rfl ?_
            refine Z_callV C (ws' := srW 0 ((reachF S (nI d) T).1) ++ stW 4 S) (st' := [.int (bI (reachF S (nI d) T).2)]) (rest := []) [0, 1, 2, 3, 4, 5, 6, 7, 8, 9, 10, 11, 12, 13] (c_X0_reachFrom T S (nI d) hT h30 hn h40) m_X0_reachFrom K0 g_462 dX0_fewestSteps_81 rfl rfl rfl (outI 4 rfl rfl rfl (outR _ _ _)) (NW := 14) rfl rfl rfl rfl rfl ⟨Nat.le_of_ble_eq_true rfl, Nat.le_of_ble_eq_true rfl⟩ ⟨Nat.le_of_ble_eq_true rfl, Nat.le_of_ble_eq_true rfl⟩ (Nat.le_of_ble_eq_true rfl) rfl ?_
            refine Z_ws (fun X1 => srW 0 X1 ++ stW 4 S) ((reachF S (nI d) T).1) (fun X1 eX1 => ?_)
            refine Z_istore C (L' := [(4, .int (bI (reachF S (nI d) T).2)), (5, .int (nI d)), (0, .ref 0), (1, .int (nI j1)), (2, .int (nI k2)), (3, .ref 4)]) dX0_fewestSteps_84 (by decide) rfl ?_
            refine Z_iinc C (L' := [(5, .int (nI (d + 1))), (4, .int (bI (reachF S (nI d) T).2)), (0, .ref 0), (1, .int (nI j1)), (2, .int (nI k2)), (3, .ref 4)]) (v := nI (d + 1)) dX0_fewestSteps_86 rfl (nI_inc _) (by decide) rfl ?_
            refine Z_goto C 55 dX0_fewestSteps_89 (by decide) ?_
            cases hf : (reachF S (nI d) T).2 with
            | true =>
              refine Z_pc (L := [(5, .int (nI (d + 1))), (4, .int 1), (0, .ref 0), (1, .int (nI j1)), (2, .int (nI k2)), (3, .ref 4)]) rfl ?_
              exact Z_sub (by simp) (ih X1 (d + 1) (by omega) (show X1.2 0 = nI _ from by rw [eX1]; exact ((hb_reachF S (nI d) T).trans hT)) (by subst eX1; rw [← hg]; simp [bfs, hf, c1, c2, ej1, ek2, c3, c7, c8, c9]))
            | false =>
              refine Z_pc (L := [(5, .int (nI (d + 1))), (4, .int 0), (0, .ref 0), (1, .int (nI j1)), (2, .int (nI k2)), (3, .ref 4)]) rfl ?_
              refine Z_iload C dX0_fewestSteps_55 rfl ?_
              refine Z_if_eq C 92 dX0_fewestSteps_57 (by decide) (fun c10 => ?_) (fun c10 => absurd (show (0 : Int32) = 0 from rfl) c10)
              refine Z_aload_n C dX0_fewestSteps_92 rfl rfl ?_
              refine Z_get C K0 (v := .ref 3) 2 dX0_fewestSteps_93 rfl (by decide) g_119 rfl rfl ?_
              refine Z_iload_n C dX0_fewestSteps_96 rfl rfl ?_
              refine Z_iaN C (v := X1.1 2 k2) dX0_fewestSteps_97 rfl (by omega) (by decide) rfl ?_
              exact Z_iret C hr hlk dX0_fewestSteps_98 (congrArg (fun z => some (Value.int z)) (show (fewV B S (nI j1) (nI k2)) = (X1.1 2 k2) from by subst eX1; simp [fewV, fewQ, ← hg, bfs, c1, c2, ej1, ek2, c3, c7, c8, c9, hf, c10])) (by rw [show (fewQ B S (nI j1) (nI k2)) = X1 from by subst eX1; simp [fewV, fewQ, ← hg, bfs, c1, c2, ej1, ek2, c3, c7, c8, c9, hf, c10]])
      · refine Z_iload C dX0_fewestSteps_21 rfl ?_
        refine Z_bipush C (v := 40) dX0_fewestSteps_23 (by decide) ?_
        refine Z_icmp_ge C 42 dX0_fewestSteps_25 (by decide) (fun c11 => absurd c11 (ge_no40 hT1 h40 hi)) (fun c11 => ?_)
        refine Z_aload_n C dX0_fewestSteps_28 rfl rfl ?_
        refine Z_get C K0 (v := .ref 3) 2 dX0_fewestSteps_29 rfl (by decide) g_119 rfl rfl ?_
        refine Z_iload C dX0_fewestSteps_32 rfl ?_
        refine Z_iconst C (v := (-1)) dX0_fewestSteps_34 (by decide) ?_
        refine Z_isN C (ws' := srW 0 (vA T1 2 i (-1)) ++ stW 4 S) dX0_fewestSteps_35 rfl (by omega) (by decide) rfl ?_
        refine Z_iinc C (L' := [(4, .int (nI (i + 1))), (0, .ref 0), (1, .int (nI j1)), (2, .int (nI k2)), (3, .ref 4)]) (v := nI (i + 1)) dX0_fewestSteps_36 rfl (nI_inc _) (by decide) rfl ?_
        refine Z_goto C 21 dX0_fewestSteps_39 (by decide) ?_
        rw [show clr1 i T1 = (vA T1 2 i (-1)) from by simp [clr1, c1, c2, ej1, ek2, c11]] at kk
        exact Z_sub (by simp [bI_t, bI_f]) kk
    · have c2 := bI_0.mp c2
      refine Z_iconst C (v := (-1)) dX0_fewestSteps_16 (by decide) ?_
      exact Z_iret C hr hlk dX0_fewestSteps_17 (congrArg (fun z => some (Value.int z)) (show (fewV B S x y) = (-1) from by simp [fewV, fewQ, c1, c2])) (by rw [show (fewQ B S x y) = B from by simp [fewV, fewQ, c1, c2]])
end
