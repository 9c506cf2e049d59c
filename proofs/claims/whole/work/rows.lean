section
-- ===== PART A: goes FIRST, ahead of the names: the tables' words, and 'selects' of the private methods out of them =====
/-- a private method of a class that the tables say can be made, by its rows of tables_1 -/
def lw_okq (q : MethodName × Nat) : Prop := (q.1.cls ≠ "java/lang/invoke/MethodHandle" ∧ q.1.cls ≠ "java/lang/invoke/VarHandle") ∧ Cond.instantiable q.1.cls q.2 ∈ tables_1 ∧ Cond.privateMethod q.1 ∈ tables_1 ∧ Cond.instanceMethod q.1 ∈ tables_1
theorem lw_p0 : lw_okq (⟨"java/lang/Throwable", "fillInStackTrace", "(I)Ljava/lang/Throwable;"⟩, 6) := ⟨⟨by decide +kernel, by decide +kernel⟩, List.mem_of_getElem? (i := 133) (by decide +kernel), List.mem_of_getElem? (i := 131) (by decide +kernel), List.mem_of_getElem? (i := 132) (by decide +kernel)⟩
theorem lw_p1 : lw_okq (⟨"StampRelay", "nextRelay", "(II)I"⟩, 16) := ⟨⟨by decide +kernel, by decide +kernel⟩, List.mem_of_getElem? (i := 12) (by decide +kernel), List.mem_of_getElem? (i := 186) (by decide +kernel), List.mem_of_getElem? (i := 187) (by decide +kernel)⟩
theorem lw_p2 : lw_okq (⟨"StampRelay", "lowestStakeOf", "(I)I"⟩, 16) := ⟨⟨by decide +kernel, by decide +kernel⟩, List.mem_of_getElem? (i := 12) (by decide +kernel), List.mem_of_getElem? (i := 203) (by decide +kernel), List.mem_of_getElem? (i := 204) (by decide +kernel)⟩
theorem lw_p3 : lw_okq (⟨"StampRelay", "reputationOf", "(I)I"⟩, 16) := ⟨⟨by decide +kernel, by decide +kernel⟩, List.mem_of_getElem? (i := 12) (by decide +kernel), List.mem_of_getElem? (i := 207) (by decide +kernel), List.mem_of_getElem? (i := 208) (by decide +kernel)⟩
theorem lw_p4 : lw_okq (⟨"StampRelay", "opinionIn", "(I)I"⟩, 16) := ⟨⟨by decide +kernel, by decide +kernel⟩, List.mem_of_getElem? (i := 12) (by decide +kernel), List.mem_of_getElem? (i := 211) (by decide +kernel), List.mem_of_getElem? (i := 212) (by decide +kernel)⟩
theorem lw_p5 : lw_okq (⟨"StampRelay", "isLetter", "(I)Z"⟩, 16) := ⟨⟨by decide +kernel, by decide +kernel⟩, List.mem_of_getElem? (i := 12) (by decide +kernel), List.mem_of_getElem? (i := 215) (by decide +kernel), List.mem_of_getElem? (i := 216) (by decide +kernel)⟩
theorem lw_p6 : lw_okq (⟨"StampRelay", "weightOf", "(I)I"⟩, 16) := ⟨⟨by decide +kernel, by decide +kernel⟩, List.mem_of_getElem? (i := 12) (by decide +kernel), List.mem_of_getElem? (i := 219) (by decide +kernel), List.mem_of_getElem? (i := 220) (by decide +kernel)⟩
theorem lw_p7 : lw_okq (⟨"StampRelay", "layAt", "(II)V"⟩, 16) := ⟨⟨by decide +kernel, by decide +kernel⟩, List.mem_of_getElem? (i := 12) (by decide +kernel), List.mem_of_getElem? (i := 248) (by decide +kernel), List.mem_of_getElem? (i := 249) (by decide +kernel)⟩
theorem lw_p8 : lw_okq (⟨"StampRelay", "passOneTick", "()I"⟩, 16) := ⟨⟨by decide +kernel, by decide +kernel⟩, List.mem_of_getElem? (i := 12) (by decide +kernel), List.mem_of_getElem? (i := 265) (by decide +kernel), List.mem_of_getElem? (i := 266) (by decide +kernel)⟩
theorem lw_p9 : lw_okq (⟨"StampRelay", "beginLookingAtQueues", "()V"⟩, 16) := ⟨⟨by decide +kernel, by decide +kernel⟩, List.mem_of_getElem? (i := 12) (by decide +kernel), List.mem_of_getElem? (i := 269) (by decide +kernel), List.mem_of_getElem? (i := 270) (by decide +kernel)⟩
theorem lw_p10 : lw_okq (⟨"StampRelay", "findAllReputations", "()V"⟩, 16) := ⟨⟨by decide +kernel, by decide +kernel⟩, List.mem_of_getElem? (i := 12) (by decide +kernel), List.mem_of_getElem? (i := 273) (by decide +kernel), List.mem_of_getElem? (i := 274) (by decide +kernel)⟩
theorem lw_p11 : lw_okq (⟨"StampRelay", "takeFirstWaiting", "(I)I"⟩, 16) := ⟨⟨by decide +kernel, by decide +kernel⟩, List.mem_of_getElem? (i := 12) (by decide +kernel), List.mem_of_getElem? (i := 277) (by decide +kernel), List.mem_of_getElem? (i := 278) (by decide +kernel)⟩
theorem lw_p12 : lw_okq (⟨"StampRelay", "rankOf", "(I)I"⟩, 16) := ⟨⟨by decide +kernel, by decide +kernel⟩, List.mem_of_getElem? (i := 12) (by decide +kernel), List.mem_of_getElem? (i := 281) (by decide +kernel), List.mem_of_getElem? (i := 282) (by decide +kernel)⟩
theorem lw_p13 : lw_okq (⟨"StampRelay", "moveOn", "(II)I"⟩, 16) := ⟨⟨by decide +kernel, by decide +kernel⟩, List.mem_of_getElem? (i := 12) (by decide +kernel), List.mem_of_getElem? (i := 285) (by decide +kernel), List.mem_of_getElem? (i := 286) (by decide +kernel)⟩
theorem lw_p14 : lw_okq (⟨"StampRelay", "leaveQueue", "(II)V"⟩, 16) := ⟨⟨by decide +kernel, by decide +kernel⟩, List.mem_of_getElem? (i := 12) (by decide +kernel), List.mem_of_getElem? (i := 289) (by decide +kernel), List.mem_of_getElem? (i := 290) (by decide +kernel)⟩
theorem lw_p15 : lw_okq (⟨"StampRelay", "putStakeIntoPool", "(II)V"⟩, 16) := ⟨⟨by decide +kernel, by decide +kernel⟩, List.mem_of_getElem? (i := 12) (by decide +kernel), List.mem_of_getElem? (i := 293) (by decide +kernel), List.mem_of_getElem? (i := 294) (by decide +kernel)⟩
def lw_privs_1 : List (MethodName × Nat) := [(⟨"java/lang/Throwable", "fillInStackTrace", "(I)Ljava/lang/Throwable;"⟩, 6), (⟨"StampRelay", "nextRelay", "(II)I"⟩, 16), (⟨"StampRelay", "lowestStakeOf", "(I)I"⟩, 16), (⟨"StampRelay", "reputationOf", "(I)I"⟩, 16), (⟨"StampRelay", "opinionIn", "(I)I"⟩, 16), (⟨"StampRelay", "isLetter", "(I)Z"⟩, 16), (⟨"StampRelay", "weightOf", "(I)I"⟩, 16), (⟨"StampRelay", "layAt", "(II)V"⟩, 16), (⟨"StampRelay", "passOneTick", "()I"⟩, 16), (⟨"StampRelay", "beginLookingAtQueues", "()V"⟩, 16), (⟨"StampRelay", "findAllReputations", "()V"⟩, 16), (⟨"StampRelay", "takeFirstWaiting", "(I)I"⟩, 16), (⟨"StampRelay", "rankOf", "(I)I"⟩, 16), (⟨"StampRelay", "moveOn", "(II)I"⟩, 16), (⟨"StampRelay", "leaveQueue", "(II)V"⟩, 16), (⟨"StampRelay", "putStakeIntoPool", "(II)V"⟩, 16)]
theorem lw_r1 : ∀ q ∈ lw_privs_1, lw_okq q := List.forall_mem_cons.mpr ⟨lw_p0, List.forall_mem_cons.mpr ⟨lw_p1, List.forall_mem_cons.mpr ⟨lw_p2, List.forall_mem_cons.mpr ⟨lw_p3, List.forall_mem_cons.mpr ⟨lw_p4, List.forall_mem_cons.mpr ⟨lw_p5, List.forall_mem_cons.mpr ⟨lw_p6, List.forall_mem_cons.mpr ⟨lw_p7, List.forall_mem_cons.mpr ⟨lw_p8, List.forall_mem_cons.mpr ⟨lw_p9, List.forall_mem_cons.mpr ⟨lw_p10, List.forall_mem_cons.mpr ⟨lw_p11, List.forall_mem_cons.mpr ⟨lw_p12, List.forall_mem_cons.mpr ⟨lw_p13, List.forall_mem_cons.mpr ⟨lw_p14, List.forall_mem_cons.mpr ⟨lw_p15, fun _ h => absurd h List.not_mem_nil⟩⟩⟩⟩⟩⟩⟩⟩⟩⟩⟩⟩⟩⟩⟩⟩
theorem lw_p16 : lw_okq (⟨"StampRelay", "expireOldLetters", "()V"⟩, 16) := ⟨⟨by decide +kernel, by decide +kernel⟩, List.mem_of_getElem? (i := 12) (by decide +kernel), List.mem_of_getElem? (i := 297) (by decide +kernel), List.mem_of_getElem? (i := 298) (by decide +kernel)⟩
theorem lw_p17 : lw_okq (⟨"StampRelay", "giveStakeBack", "(I)V"⟩, 16) := ⟨⟨by decide +kernel, by decide +kernel⟩, List.mem_of_getElem? (i := 12) (by decide +kernel), List.mem_of_getElem? (i := 301) (by decide +kernel), List.mem_of_getElem? (i := 302) (by decide +kernel)⟩
theorem lw_p18 : lw_okq (⟨"StampRelay", "othersWhoAnswered", "(II)I"⟩, 16) := ⟨⟨by decide +kernel, by decide +kernel⟩, List.mem_of_getElem? (i := 12) (by decide +kernel), List.mem_of_getElem? (i := 321) (by decide +kernel), List.mem_of_getElem? (i := 322) (by decide +kernel)⟩
theorem lw_p19 : lw_okq (⟨"StampRelay", "payForFalseMark", "(III)I"⟩, 16) := ⟨⟨by decide +kernel, by decide +kernel⟩, List.mem_of_getElem? (i := 12) (by decide +kernel), List.mem_of_getElem? (i := 331) (by decide +kernel), List.mem_of_getElem? (i := 332) (by decide +kernel)⟩
theorem lw_p20 : lw_okq (⟨"StampRelay", "lengthOfQueue", "(I)I"⟩, 16) := ⟨⟨by decide +kernel, by decide +kernel⟩, List.mem_of_getElem? (i := 12) (by decide +kernel), List.mem_of_getElem? (i := 363) (by decide +kernel), List.mem_of_getElem? (i := 364) (by decide +kernel)⟩
theorem lw_p21 : lw_okq (⟨"StampRelayModel", "can", "(I)Z"⟩, 16) := ⟨⟨by decide +kernel, by decide +kernel⟩, List.mem_of_getElem? (i := 417) (by decide +kernel), List.mem_of_getElem? (i := 486) (by decide +kernel), List.mem_of_getElem? (i := 487) (by decide +kernel)⟩
theorem lw_p22 : lw_okq (⟨"StampRelayModel", "way", "(II)I"⟩, 16) := ⟨⟨by decide +kernel, by decide +kernel⟩, List.mem_of_getElem? (i := 417) (by decide +kernel), List.mem_of_getElem? (i := 494) (by decide +kernel), List.mem_of_getElem? (i := 495) (by decide +kernel)⟩
theorem lw_p23 : lw_okq (⟨"StampRelayModel", "least", "(I)I"⟩, 16) := ⟨⟨by decide +kernel, by decide +kernel⟩, List.mem_of_getElem? (i := 417) (by decide +kernel), List.mem_of_getElem? (i := 508) (by decide +kernel), List.mem_of_getElem? (i := 509) (by decide +kernel)⟩
theorem lw_p24 : lw_okq (⟨"StampRelayModel", "nameOf", "(I)I"⟩, 16) := ⟨⟨by decide +kernel, by decide +kernel⟩, List.mem_of_getElem? (i := 417) (by decide +kernel), List.mem_of_getElem? (i := 512) (by decide +kernel), List.mem_of_getElem? (i := 513) (by decide +kernel)⟩
theorem lw_p25 : lw_okq (⟨"StampRelayModel", "weight", "(I)I"⟩, 16) := ⟨⟨by decide +kernel, by decide +kernel⟩, List.mem_of_getElem? (i := 417) (by decide +kernel), List.mem_of_getElem? (i := 516) (by decide +kernel), List.mem_of_getElem? (i := 517) (by decide +kernel)⟩
theorem lw_p26 : lw_okq (⟨"StampRelayModel", "ticks", "()I"⟩, 16) := ⟨⟨by decide +kernel, by decide +kernel⟩, List.mem_of_getElem? (i := 417) (by decide +kernel), List.mem_of_getElem? (i := 525) (by decide +kernel), List.mem_of_getElem? (i := 526) (by decide +kernel)⟩
theorem lw_p27 : lw_okq (⟨"StampRelayModel", "placeOf", "(I)I"⟩, 16) := ⟨⟨by decide +kernel, by decide +kernel⟩, List.mem_of_getElem? (i := 417) (by decide +kernel), List.mem_of_getElem? (i := 529) (by decide +kernel), List.mem_of_getElem? (i := 530) (by decide +kernel)⟩
theorem lw_p28 : lw_okq (⟨"StampRelayModel", "liesAt", "(II)Z"⟩, 16) := ⟨⟨by decide +kernel, by decide +kernel⟩, List.mem_of_getElem? (i := 417) (by decide +kernel), List.mem_of_getElem? (i := 533) (by decide +kernel), List.mem_of_getElem? (i := 534) (by decide +kernel)⟩
theorem lw_p29 : lw_okq (⟨"StampRelayModel", "isAhead", "(II)Z"⟩, 16) := ⟨⟨by decide +kernel, by decide +kernel⟩, List.mem_of_getElem? (i := 417) (by decide +kernel), List.mem_of_getElem? (i := 537) (by decide +kernel), List.mem_of_getElem? (i := 538) (by decide +kernel)⟩
theorem lw_p30 : lw_okq (⟨"StampRelayModel", "goes", "(I)Z"⟩, 16) := ⟨⟨by decide +kernel, by decide +kernel⟩, List.mem_of_getElem? (i := 417) (by decide +kernel), List.mem_of_getElem? (i := 541) (by decide +kernel), List.mem_of_getElem? (i := 542) (by decide +kernel)⟩
theorem lw_p31 : lw_okq (⟨"StampRelayModel", "isLetter", "(I)Z"⟩, 16) := ⟨⟨by decide +kernel, by decide +kernel⟩, List.mem_of_getElem? (i := 417) (by decide +kernel), List.mem_of_getElem? (i := 549) (by decide +kernel), List.mem_of_getElem? (i := 550) (by decide +kernel)⟩
def lw_privs_2 : List (MethodName × Nat) := [(⟨"StampRelay", "expireOldLetters", "()V"⟩, 16), (⟨"StampRelay", "giveStakeBack", "(I)V"⟩, 16), (⟨"StampRelay", "othersWhoAnswered", "(II)I"⟩, 16), (⟨"StampRelay", "payForFalseMark", "(III)I"⟩, 16), (⟨"StampRelay", "lengthOfQueue", "(I)I"⟩, 16), (⟨"StampRelayModel", "can", "(I)Z"⟩, 16), (⟨"StampRelayModel", "way", "(II)I"⟩, 16), (⟨"StampRelayModel", "least", "(I)I"⟩, 16), (⟨"StampRelayModel", "nameOf", "(I)I"⟩, 16), (⟨"StampRelayModel", "weight", "(I)I"⟩, 16), (⟨"StampRelayModel", "ticks", "()I"⟩, 16), (⟨"StampRelayModel", "placeOf", "(I)I"⟩, 16), (⟨"StampRelayModel", "liesAt", "(II)Z"⟩, 16), (⟨"StampRelayModel", "isAhead", "(II)Z"⟩, 16), (⟨"StampRelayModel", "goes", "(I)Z"⟩, 16), (⟨"StampRelayModel", "isLetter", "(I)Z"⟩, 16)]
theorem lw_r2 : ∀ q ∈ lw_privs_2, lw_okq q := List.forall_mem_cons.mpr ⟨lw_p16, List.forall_mem_cons.mpr ⟨lw_p17, List.forall_mem_cons.mpr ⟨lw_p18, List.forall_mem_cons.mpr ⟨lw_p19, List.forall_mem_cons.mpr ⟨lw_p20, List.forall_mem_cons.mpr ⟨lw_p21, List.forall_mem_cons.mpr ⟨lw_p22, List.forall_mem_cons.mpr ⟨lw_p23, List.forall_mem_cons.mpr ⟨lw_p24, List.forall_mem_cons.mpr ⟨lw_p25, List.forall_mem_cons.mpr ⟨lw_p26, List.forall_mem_cons.mpr ⟨lw_p27, List.forall_mem_cons.mpr ⟨lw_p28, List.forall_mem_cons.mpr ⟨lw_p29, List.forall_mem_cons.mpr ⟨lw_p30, List.forall_mem_cons.mpr ⟨lw_p31, fun _ h => absurd h List.not_mem_nil⟩⟩⟩⟩⟩⟩⟩⟩⟩⟩⟩⟩⟩⟩⟩⟩
theorem lw_p32 : lw_okq (⟨"StampRelayModel", "others", "(I)I"⟩, 16) := ⟨⟨by decide +kernel, by decide +kernel⟩, List.mem_of_getElem? (i := 417) (by decide +kernel), List.mem_of_getElem? (i := 557) (by decide +kernel), List.mem_of_getElem? (i := 558) (by decide +kernel)⟩
theorem lw_p33 : lw_okq (⟨"StampRelayModel", "isAsked", "(I)Z"⟩, 16) := ⟨⟨by decide +kernel, by decide +kernel⟩, List.mem_of_getElem? (i := 417) (by decide +kernel), List.mem_of_getElem? (i := 573) (by decide +kernel), List.mem_of_getElem? (i := 574) (by decide +kernel)⟩
theorem lw_p34 : lw_okq (⟨"StampRelayModel", "lengthOf", "(I)I"⟩, 16) := ⟨⟨by decide +kernel, by decide +kernel⟩, List.mem_of_getElem? (i := 417) (by decide +kernel), List.mem_of_getElem? (i := 589) (by decide +kernel), List.mem_of_getElem? (i := 590) (by decide +kernel)⟩
theorem lw_p35 : lw_okq (⟨"StampRelayModel", "isKnown", "(I)Z"⟩, 16) := ⟨⟨by decide +kernel, by decide +kernel⟩, List.mem_of_getElem? (i := 417) (by decide +kernel), List.mem_of_getElem? (i := 601) (by decide +kernel), List.mem_of_getElem? (i := 602) (by decide +kernel)⟩
def lw_privs_3 : List (MethodName × Nat) := [(⟨"StampRelayModel", "others", "(I)I"⟩, 16), (⟨"StampRelayModel", "isAsked", "(I)Z"⟩, 16), (⟨"StampRelayModel", "lengthOf", "(I)I"⟩, 16), (⟨"StampRelayModel", "isKnown", "(I)Z"⟩, 16)]
theorem lw_r3 : ∀ q ∈ lw_privs_3, lw_okq q := List.forall_mem_cons.mpr ⟨lw_p32, List.forall_mem_cons.mpr ⟨lw_p33, List.forall_mem_cons.mpr ⟨lw_p34, List.forall_mem_cons.mpr ⟨lw_p35, fun _ h => absurd h List.not_mem_nil⟩⟩⟩⟩
def lw_privs : List (MethodName × Nat) := lw_privs_1 ++ (lw_privs_2 ++ (lw_privs_3))
def lw_tbl : List Cond := k2_sels lw_privs ++ tables_1
theorem lw_privs_ok : ∀ q ∈ lw_privs, lw_okq q := by
  show ∀ q ∈ lw_privs_1 ++ (lw_privs_2 ++ (lw_privs_3)), lw_okq q
  exact List.forall_mem_append.mpr ⟨lw_r1, List.forall_mem_append.mpr ⟨lw_r2, lw_r3⟩⟩
-- ===== end of PART A; then your names; then what follows =====
end
section
/-! ===== BEGIN words of one list among another's, by their places ===== -/
theorem goodIn_r {big : List Cond} (ws : List Cond) (ps : List Nat) (hp : ws = ps.filterMap (fun i => big[i]?)) (h : ws.all goodWord = true) : GoodIn big ws := by
  intro w hw
  have h1 := List.all_eq_true.mp h w hw
  rw [hp] at hw
  obtain ⟨i, -, hi⟩ := List.mem_filterMap.mp hw
  have hm : w ∈ big := by first | exact List.mem_of_getElem? hi | exact List.getElem?_mem hi
  exact ⟨hm, good_of_word h1⟩
theorem goodIn_app {big a b : List Cond} (ha : GoodIn big a) (hb : GoodIn big b) : GoodIn big (a ++ b) := fun w h => (List.mem_append.mp h).elim (ha w) (hb w)
theorem goodIn_ca {big a b : List Cond} {c : Cond} (ha : GoodIn big (c :: a)) (hb : GoodIn big b) : GoodIn big (c :: (a ++ b)) := fun w h => (List.mem_cons.mp h).elim (fun e => ha w (List.mem_cons.mpr (Or.inl e))) (fun h => (List.mem_append.mp h).elim (fun h => ha w (List.mem_cons.mpr (Or.inr h))) (hb w))
theorem goodIn_sub {big ws : List Cond} (hm : ∀ w ∈ ws, w ∈ big) (h : ws.all goodWord = true) : GoodIn big ws := fun w hw => ⟨hm w hw, good_of_word (List.all_eq_true.mp h w hw)⟩
/-! ===== END ===== -/

/-! ===== BEGIN exceptions that leave a method, and their catching by the caller (launches without stack traces) ===== -/
section VXA
/-! The laws vx_back, vx_callV, vx_callS, vx_callSW, vx_throw0, vx_throwS follow proofs of the library, with one case more: JvmDerived/Free/Laws.lean (Back.of_free), Shelf42/LK1.lean (callV, callS), Shelf/KitTraced.lean (throwNew0V, throwNewS). -/
/-- where a method has thrown q: the class by its name, the cell, what was written, the world -/
def vx_T (XC : String → State → State → Prop) (st : State) (q : Addr) (t : State) (mc ms : Nat) (free : Addr → Prop) : Prop :=
  ∃ (E : String) (ce : Cell) (L : List Loc), XC E st t ∧ t.heap[q]? = some ce ∧ ce.vm = .none ∧ st.vm.findClass E = some ce.cls ∧ st.WarmedH t.vm ∧ st.sameButNew ({ t with vm := st.vm } : State) L mc ms ∧ ∀ z ∈ L, free z.base
def vx_Q (Qc : Array Value → State → Outcome → State → Prop) (XC : String → State → State → Prop) (mc ms : Nat) (free : Addr → Prop) : Array Value → State → Outcome → State → Prop := fun a st o t =>
  (Qc a st o t ∧ ∃ L, FrameEnd st o t L mc ms ∧ ∀ q ∈ L, free q.base) ∨ ∃ q, o = .threw q ∧ vx_T XC st q t mc ms free
/-- a callee that returns or throws -/
def vx_Met (l : Launch) (y : MethodName) (ws : List Cond) (rm : Room) (Pc : Array Value → State → Prop) (Qc : Array Value → State → Outcome → State → Prop) (XC : String → State → State → Prop) (mc ms : Nat) (free : Addr → Prop) : Prop :=
  MetFree l y (headSpec ws rm) Pc (fun _ _ _ _ _ => True) (vx_Q Qc XC mc ms free)
def vx_Post (XC : String → State → State → Prop) (mc ms : Nat) (free : Addr → Prop) : Pt → Array Value → Addr → Pt → Prop := fun A a q B =>
  ∃ (g : JFrame) (mk : MethodId) (t : State) (L : List Loc) (E : String) (ce : Cell), B.U.heap = t.heap ∧ B.U.vm = t.vm ∧ XC E (A.U.calling g mk a) t ∧ t.heap[q]? = some ce ∧ ce.vm = .none ∧ A.U.vm.findClass E = some ce.cls ∧ B.locs = A.locs ++ L ∧ (∀ z ∈ L, free z.base) ∧ B.cells = A.cells + mc ∧ B.slots = A.slots + ms
def vx_Back (l : Launch) (R : Room) (p : Program) (e : Env) (below : List Frame) (s : State) (sargs : Array Value) (y : MethodName) (len W9 : Nat)
    (Pre : Pt → Array Value → Prop) (Post : Pt → Array Value → Option Value → Pt → Prop) (PostX : Pt → Array Value → Addr → Pt → Prop) : Prop :=
  ∀ (m : MethodId) (meth : Method) (c : Code) (A : Pt) (g : JFrame) (ig : Instr) (mk : MethodId) (a : Array Value),
    Stand p l e R s m sargs below meth c A.U A.locs A.cells A.slots → g.method = m → g.locals.size = c.maxLocals → decode c.code g.pc = .ok (ig, len) →
    2 * g.monitorRoom + (g.stack.map fun v => v.category).sum ≤ W9 → A.U.methodNamed? y = some mk → Pre A a →
    (∃ (v : Option Value) (B : Pt), Stand p l e R s m sargs below meth c B.U B.locs B.cells B.slots ∧ Post A a v B ∧
      Steps p.tables e below (doInvoke e (A.U.setTop g) [] mk a).1 (B.U.setTop { g with pc := g.pc + len, stack := v.toList ++ g.stack })) ∨
    (∃ (q : Addr) (B : Pt), Stand p l e R s m sargs below meth c B.U B.locs B.cells B.slots ∧ PostX A a q B ∧
      Steps p.tables e below (doInvoke e (A.U.setTop g) [] mk a).1 ((B.U.setTop g).pushFrame (.throwing q)))
section Payer
variable {l : Launch} {R : Room} {p : Program} {e : Env} {below : List Frame} {s : State} {sargs : Array Value} {y : MethodName} {len W9 : Nat}
theorem vx_back {ws : List Cond} {rm : Room} {Pc : Array Value → State → Prop} {Qc : Array Value → State → Outcome → State → Prop} {XC : String → State → State → Prop} {mc ms : Nat} {free : Addr → Prop} {bytes : ByteArray} {maxL : Nat} {ret : Option FieldType}
    (hM : vx_Met l y ws rm Pc Qc XC mc ms free) (hblind : FrameBlind Pc) (hrc : rm.cells = mc) (hrs : rm.slots = ms)
    (hframes : rm.frames + 1 ≤ R.frames) (hlocals : W9 + (maxL + 11) + rm.locals ≤ R.locals)
    (hws : ∀ w ∈ ws, ∀ a' U, s.WarmedH U.vm → w.before a' U = true) (hcode : Cond.code y bytes maxL ret ∈ ws) (hinit : ∀ a' U, s.WarmedH U.vm → (Cond.initialized y.cls).before a' U = true) :
    vx_Back l R p e below s sargs y len W9 (PreOf R mc ms Pc) (PostOf Qc mc ms free) (vx_Post XC mc ms free) := by
  intro m meth c A g ig mk a X hg hsize hdg hW hn hp
  have h1 : (headSpec ws rm).pre.before a A.U = true := atoms_intro fun w hw => hws w hw _ _ X.warmed
  have h2 : (Cond.code y bytes maxL ret).before a A.U = true := hws _ hcode _ _ X.warmed
  have h3 : (Cond.initialized y.cls).before a A.U = true := hinit _ _ X.warmed
  have h4 : A.cells + (headSpec ws rm).room.cells ≤ R.cells := by rw [show (headSpec ws rm).room.cells = mc from hrc]; exact hp.1
  have h5 : A.slots + (headSpec ws rm).room.slots ≤ R.slots := by rw [show (headSpec ws rm).room.slots = ms from hrs]; exact hp.2.1
  have hPc : Pc a (A.U.calling g mk a) := hblind _ _ _ _ hp.2.2
  obtain ⟨U, Ls, c0, s0⟩ := A
  dsimp only [Pt.U, Pt.locs, Pt.cells, Pt.slots] at h1 h2 h3 h4 h5 X hn hPc ⊢
  obtain ⟨methY, cY, hmY, hcY, -, hlY, -, -, -, -⟩ := Cond.code_spec hn h2
  obtain ⟨kY, hkY, -⟩ := className_of_methodNamed hn
  have hinitY : kY.init = .initialized := Cond.initialized_spec (findClass_of_methodNamed hn) hkY h3
  have h : At U g.method c below := by rw [hg]; exact X.here
  have hlocals9 : W9 + (maxL + 11) + (headSpec ws rm).room.locals ≤ R.locals := hlocals
  have happ : (headSpec ws rm).appliesLoose y e.platform (U.calling g mk a) = true :=
    Spec.appliesLoose_calling (g := g) h hdg hn hkY hinitY
      (X.room_calling (g := g) (R' := (headSpec ws rm).room) hsize hmY hcY hframes (by rw [hlY]; omega) h4 h5) h1
  obtain ⟨mid, hmid⟩ := h.above
  have hfr : (U.setTop g).frames = (.java g :: mid) ++ below := by rw [State.frames_setTop' g h.top, hmid]; rfl
  obtain ⟨o, s₂, hsteps, -, hend, hq⟩ := Steps.callFree hM p X.admits X.cas X.clock (acts := []) hfr happ hPc trivial
  have hq' : vx_Q Qc XC mc ms free a (U.calling g mk a) o s₂ := hq
  rw [State.frames_setTop' g h.top] at hend
  obtain ⟨g₀, hg0⟩ := Option.isSome_iff_exists.mp h.top
  obtain ⟨r, hr⟩ := State.topJava?_eq_some.mp hg0
  have hr' : (({ U with heap := s₂.heap, slotsUsed := s₂.slotsUsed } : State).setVm s₂.vm).frames = .java g₀ :: r := hr
  rcases hq' with ⟨hqc, L, hfe, hL⟩ | ⟨q, rfl, E, ce, L, hx, hce, hcv, hcl, hW₂, hsm, hL⟩
  · obtain ⟨⟨v, rfl⟩, hW₂, e2, q2, q3, q4, q5, q6⟩ := id hfe
    have e3 : s₂ = ({ (U.calling g mk a).setFrames s₂.frames with heap := s₂.heap, slotsUsed := s₂.slotsUsed } : State).setVm s₂.vm := by
      have : s₂ = ({ s₂ with vm := (U.calling g mk a).vm } : State).setVm s₂.vm := rfl
      rw [e2] at this
      exact this
    obtain ⟨c₂, i₂, len₂, hc₂, hd₂, hf₂⟩ := hend
    have hW' : U.WarmedH s₂.vm := hW₂
    have hcc : c₂ = c := by
      have h1 : s₂.code? g.method = U.code? g.method := by
        rw [State.code?_eq, State.code?_eq, hW'.alike.method?]
      exact Option.some.inj (hc₂.symm.trans (h1.trans h.code))
    subst hcc
    have hlen : len₂ = len := by rw [hdg] at hd₂; cases hd₂; rfl
    subst hlen
    have hs₂ : s₂ = (({ U with heap := s₂.heap, slotsUsed := s₂.slotsUsed } : State).setVm s₂.vm).setTop { g with pc := g.pc + len₂, stack := v.toList ++ g.stack } := by
      refine e3.trans ?_
      rw [hf₂, State.calling_eq h.top, State.setFrames_setFrames, State.setTop_of_frames _ hr', hr]
      rfl
    have hsame : U.sameButNew ({ U with heap := s₂.heap, slotsUsed := s₂.slotsUsed } : State) L mc ms := by
      refine ⟨?_, q2, q3, q4, q5, q6⟩
      obtain ⟨t, ht, -⟩ := State.frames_cons hr
      show ({ U with heap := s₂.heap, slotsUsed := s₂.slotsUsed } : State) = { U.setFrames U.frames with heap := s₂.heap, slotsUsed := s₂.slotsUsed }
      rw [State.setFrames_self ht]
    subst hg
    refine Or.inl ⟨v, ⟨(({ U with heap := s₂.heap, slotsUsed := s₂.slotsUsed } : State).setVm s₂.vm), Ls ++ L, c0 + mc, s0 + ms⟩,
      ⟨X.admits, X.cas, X.clock, X.frames, X.room, X.hears, X.method, X.code, (X.here.setHeapUsed s₂.heap s₂.slotsUsed).setVm hW'.alike, X.tail, State.WarmedH.trans X.warmed hW', X.limits, X.bytes, X.same.trans (hsame.setVm s.vm)⟩,
      ⟨g, mk, s₂, L, rfl, rfl, hqc, rfl, hL, rfl, rfl⟩, ?_⟩
    show Steps p.tables e below _ ((({ U with heap := s₂.heap, slotsUsed := s₂.slotsUsed } : State).setVm s₂.vm).setTop { g with pc := g.pc + len₂, stack := v.toList ++ g.stack })
    rw [← hs₂]
    exact hsteps
  · obtain ⟨e2, q2, q3, q4, q5, q6⟩ := id hsm
    have e3 : s₂ = ({ (U.calling g mk a).setFrames s₂.frames with heap := s₂.heap, slotsUsed := s₂.slotsUsed } : State).setVm s₂.vm := by
      have : s₂ = ({ s₂ with vm := (U.calling g mk a).vm } : State).setVm s₂.vm := rfl
      rw [e2] at this
      exact this
    have hf₂ : s₂.frames = .throwing q :: .java g :: U.frames.tail := hend
    have hW' : U.WarmedH s₂.vm := hW₂
    have hs₂ : s₂ = ((({ U with heap := s₂.heap, slotsUsed := s₂.slotsUsed } : State).setVm s₂.vm).setTop g).pushFrame (.throwing q) := by
      refine e3.trans ?_
      rw [hf₂, State.calling_eq h.top, State.setFrames_setFrames, State.pushFrame, State.frames_setTop _ hr', State.setTop_of_frames _ hr', State.setFrames_setFrames, hr]
      rfl
    have hsame : U.sameButNew ({ U with heap := s₂.heap, slotsUsed := s₂.slotsUsed } : State) L mc ms := by
      refine ⟨?_, q2, q3, q4, q5, q6⟩
      obtain ⟨t, ht, -⟩ := State.frames_cons hr
      show ({ U with heap := s₂.heap, slotsUsed := s₂.slotsUsed } : State) = { U.setFrames U.frames with heap := s₂.heap, slotsUsed := s₂.slotsUsed }
      rw [State.setFrames_self ht]
    subst hg
    refine Or.inr ⟨q, ⟨(({ U with heap := s₂.heap, slotsUsed := s₂.slotsUsed } : State).setVm s₂.vm), Ls ++ L, c0 + mc, s0 + ms⟩,
      ⟨X.admits, X.cas, X.clock, X.frames, X.room, X.hears, X.method, X.code, (X.here.setHeapUsed s₂.heap s₂.slotsUsed).setVm hW'.alike, X.tail, State.WarmedH.trans X.warmed hW', X.limits, X.bytes, X.same.trans (hsame.setVm s.vm)⟩,
      ⟨g, mk, s₂, L, E, ce, rfl, rfl, hx, hce, hcv, hcl, rfl, hL, rfl, rfl⟩, ?_⟩
    show Steps p.tables e below _ (((({ U with heap := s₂.heap, slotsUsed := s₂.slotsUsed } : State).setVm s₂.vm).setTop g).pushFrame (.throwing q))
    rw [← hs₂]
    exact hsteps
end Payer
section Calls
variable {p : Program} {l : Launch} {e : Env} {R : Room} {s : State} {m : MethodId} {args : Array Value} {below : List Frame} {meth : Method} {c : Code} {T : State} {locs : List Loc} {cells slots : Nat}
theorem vx_callV (X : Stand p l e R s m args below meth c T locs cells slots) (hexec : p.tables.exec = Jvm.exec) {own C : String} {index : Nat} {y : MethodName} {bytes : ByteArray} {maxL : Nat} {ret : Option FieldType}
    (hown : s.vm.findClass own = some m.cls) (hlink : (Cond.methodLink own index y).before args s = true) (hinst : (Cond.instanceMethod y).before args s = true) (hsel : (Cond.selects C y y).before args s = true)
    (hcode : (Cond.code y bytes maxL ret).before args s = true) (hy : y.cls ≠ "java/lang/invoke/MethodHandle" ∧ y.cls ≠ "java/lang/invoke/VarHandle")
    {W9 : Nat} {Pre : Pt → Array Value → Prop} {Post : Pt → Array Value → Option Value → Pt → Prop} {PostX : Pt → Array Value → Addr → Pt → Prop} (hK : vx_Back l R p e below s args y 3 W9 Pre Post PostX)
    {b : Addr} {cellB : Cell} (hcell : T.heap[b]? = some cellB) (hobj : cellB.vm.isStatics = false) (hcls : s.vm.findClass C = some cellB.cls)
    {g : JFrame} (hg : g.method = m) (hsize : g.locals.size = c.maxLocals) {argsL rest : List Value} (hlen : ∀ sig, parseMethodDescriptor y.desc = some sig → argsL.length = sig.parameters.length)
    (hstack : g.stack = argsL.reverse ++ .ref b :: rest) (hW : 2 * g.monitorRoom + (rest.map fun v => v.category).sum ≤ W9) (hdg : decode c.code g.pc = .ok (.invokevirtual index, 3))
    (hpre : ∀ vm₁, s.WarmedH vm₁ → Pre ⟨T.setVm vm₁, locs, cells, slots⟩ (Value.ref b :: argsL).toArray) :
    (∃ (v : Option Value) (vm₁ : Vm) (B : Pt), s.WarmedH vm₁ ∧ Stand p l e R s m args below meth c B.U B.locs B.cells B.slots ∧ Post ⟨T.setVm vm₁, locs, cells, slots⟩ (Value.ref b :: argsL).toArray v B ∧
      ∀ target, Steps p.tables e below (B.U.setTop { g with pc := g.pc + 3, stack := v.toList ++ rest }) target → Steps p.tables e below (T.setTop g) target) ∨
    (∃ (q : Addr) (vm₁ : Vm) (B : Pt), s.WarmedH vm₁ ∧ Stand p l e R s m args below meth c B.U B.locs B.cells B.slots ∧ PostX ⟨T.setVm vm₁, locs, cells, slots⟩ (Value.ref b :: argsL).toArray q B ∧
      Steps p.tables e below (T.setTop g) ((B.U.setTop { g with stack := rest }).pushFrame (.throwing q))) := by
  obtain ⟨mk, methM, hnamed, hmethM, hstM, habM⟩ := Cond.instanceMethod_spec hinst
  obtain ⟨methM', cM, hmethM', -, -, -, -, -, -, hsigM⟩ := Cond.code_spec hnamed hcode
  cases hmethM.symm.trans hmethM'
  obtain ⟨c2, r2, m2, q1, q2, q3, q4, kP, hkP, hkPi⟩ := Cond.selects_spec hsel
  cases hcls.symm.trans q1
  cases (State.methodFound?_of_named hnamed hy).symm.trans q2
  cases hnamed.symm.trans q3
  have hselP : selectMethod e.platform s.vm cellB.cls mk = .method mk := by rw [Launch.admits_selectMethod X.admits]; exact q4
  obtain ⟨vm₁, X₁, hstep₁⟩ := X.invokevirtual hexec hown hlink hnamed hmethM hstM hkP hkPi hy (a := b) (cell := cellB) hcell
    (fun z h => by rw [h] at hobj; cases hobj) hselP hmethM habM hkP hkPi (g := g) hg (argsL := argsL) (rest := rest) (hlen _ hsigM) hstack hdg
  rcases hK m meth c ⟨T.setVm vm₁, locs, cells, slots⟩ { g with stack := rest } (.invokevirtual index) mk (Value.ref b :: argsL).toArray X₁ hg hsize hdg hW (X₁.named hnamed) (hpre vm₁ X₁.warmed) with ⟨v, B, X', hpost, hsteps⟩ | ⟨q, B, X', hpost, hsteps⟩
  · exact Or.inl ⟨v, vm₁, B, X₁.warmed, X', hpost, fun target h => hstep₁ _ fun acts => by rw [doInvoke_state]; exact hsteps.trans h⟩
  · exact Or.inr ⟨q, vm₁, B, X₁.warmed, X', hpost, hstep₁ _ fun acts => by rw [doInvoke_state]; exact hsteps⟩
theorem vx_callS (X : Stand p l e R s m args below meth c T locs cells slots) (hexec : p.tables.exec = Jvm.exec) {own : String} {index : Nat} {y : MethodName} {bytes : ByteArray} {maxL : Nat} {ret : Option FieldType}
    (hown : s.vm.findClass own = some m.cls) (hlink : (Cond.methodLink own index y).before args s = true) (hstat : (Cond.static y).before args s = true) (hinit : (Cond.initialized y.cls).before args s = true)
    (hcode : (Cond.code y bytes maxL ret).before args s = true) (hy : y.cls ≠ "java/lang/invoke/MethodHandle" ∧ y.cls ≠ "java/lang/invoke/VarHandle")
    {W9 : Nat} {Pre : Pt → Array Value → Prop} {Post : Pt → Array Value → Option Value → Pt → Prop} {PostX : Pt → Array Value → Addr → Pt → Prop} (hK : vx_Back l R p e below s args y 3 W9 Pre Post PostX)
    {g : JFrame} (hg : g.method = m) (hsize : g.locals.size = c.maxLocals) {argsL rest : List Value} (hlen : ∀ sig, parseMethodDescriptor y.desc = some sig → argsL.length = sig.parameters.length)
    (hstack : g.stack = argsL.reverse ++ rest) (hW : 2 * g.monitorRoom + (rest.map fun v => v.category).sum ≤ W9) (hdg : decode c.code g.pc = .ok (.invokestatic index, 3))
    (hpre : ∀ vm₁, s.WarmedH vm₁ → Pre ⟨T.setVm vm₁, locs, cells, slots⟩ argsL.toArray) :
    (∃ (v : Option Value) (vm₁ : Vm) (B : Pt), s.WarmedH vm₁ ∧ Stand p l e R s m args below meth c B.U B.locs B.cells B.slots ∧ Post ⟨T.setVm vm₁, locs, cells, slots⟩ argsL.toArray v B ∧
      ∀ target, Steps p.tables e below (B.U.setTop { g with pc := g.pc + 3, stack := v.toList ++ rest }) target → Steps p.tables e below (T.setTop g) target) ∨
    (∃ (q : Addr) (vm₁ : Vm) (B : Pt), s.WarmedH vm₁ ∧ Stand p l e R s m args below meth c B.U B.locs B.cells B.slots ∧ PostX ⟨T.setVm vm₁, locs, cells, slots⟩ argsL.toArray q B ∧
      Steps p.tables e below (T.setTop g) ((B.U.setTop { g with stack := rest }).pushFrame (.throwing q))) := by
  obtain ⟨mk, hnamed⟩ := Cond.code_named hcode
  obtain ⟨methM, cM, hmethM, -, -, -, -, -, -, hsigM⟩ := Cond.code_spec hnamed hcode
  have hstatic : methM.isStatic = true := Cond.static_spec hnamed hmethM hstat
  obtain ⟨kP, hkP, -⟩ := className_of_methodNamed hnamed
  have hinitP : kP.init = .initialized := Cond.initialized_spec (findClass_of_methodNamed hnamed) hkP hinit
  obtain ⟨vm₁, X₁, hstep₁⟩ := X.invokestatic hexec hown hlink hnamed hmethM hstatic hkP hinitP hy (g := g) hg (argsL := argsL) (rest := rest) (hlen _ hsigM) hstack hdg
  rcases hK m meth c ⟨T.setVm vm₁, locs, cells, slots⟩ { g with stack := rest } (.invokestatic index) mk argsL.toArray X₁ hg hsize hdg hW (X₁.named hnamed) (hpre vm₁ X₁.warmed) with ⟨v, B, X', hpost, hsteps⟩ | ⟨q, B, X', hpost, hsteps⟩
  · exact Or.inl ⟨v, vm₁, B, X₁.warmed, X', hpost, fun target h => hstep₁ _ fun acts => by rw [doInvoke_state]; exact hsteps.trans h⟩
  · exact Or.inr ⟨q, vm₁, B, X₁.warmed, X', hpost, hstep₁ _ fun acts => by rw [doInvoke_state]; exact hsteps⟩
end Calls
theorem vx_cls {s : State} {T : State} {vm₁ : Vm} {E : String} {k : ClassId} (hW : s.WarmedH vm₁) (h : (T.setVm vm₁).vm.findClass E = some k) : s.vm.findClass E = some k := by
  have h1 : vm₁.findClass E = some k := h
  rw [hW.alike.findClass] at h1
  exact h1
/-- the method's frame g, with q thrown over it -/
def vx_W (p : Program) (l : Launch) (e : Env) (R : Room) (s : State) (m : MethodId) (args : Array Value) (below : List Frame) (meth : Method) (c : Code) (H : Heap) (locs : List Loc) (cells slots : Nat) (Q : State → Prop) (g : JFrame) (q : Addr) : Prop :=
  ∀ T : State, T.heap = H → Stand p l e R s m args below meth c T locs cells slots → ∃ t, Steps p.tables e below ((T.setTop g).pushFrame (.throwing q)) t ∧ Q t
def vx_Run (p : Program) (l : Launch) (e : Env) (R : Room) (s : State) (m : MethodId) (args : Array Value) (below : List Frame) (meth : Method) (c : Code) (H : Heap) (locs : List Loc) (cells slots mc ms : Nat) (g : JFrame) (rest : List Value) (Qa : State → Outcome → State → Prop) (XC : String → State → State → Prop) (free : Addr → Prop) : Prop :=
  ∀ T : State, T.heap = H → Stand p l e R s m args below meth c T locs cells slots →
    (∃ (v : Option Value) (st₀ t T' : State) (L : List Loc), st₀.heap = H ∧ Stand p l e R s m args below meth c T' (locs ++ L) (cells + mc) (slots + ms) ∧ (∀ q ∈ L, free q.base) ∧ T'.heap = t.heap ∧ T'.vm = t.vm ∧ Qa st₀ (.returned v) t ∧
      Goes p e below T g T' { g with pc := g.pc + 3, stack := v.toList ++ rest }) ∨
    (∃ (q : Addr) (st₀ t T' : State) (L : List Loc) (E : String) (ce : Cell), st₀.heap = H ∧ Stand p l e R s m args below meth c T' (locs ++ L) (cells + mc) (slots + ms) ∧ (∀ z ∈ L, free z.base) ∧ T'.heap = t.heap ∧ T'.vm = t.vm ∧ XC E st₀ t ∧ t.heap[q]? = some ce ∧ ce.vm = .none ∧ s.vm.findClass E = some ce.cls ∧
      Steps p.tables e below (T.setTop g) ((T'.setTop { g with stack := rest }).pushFrame (.throwing q)))
def vx_X {S : Type} (px : S → Prop) (B : String → S → State → Prop) (A : Nat → Prop) : String → State → State → Prop := fun E st t => ∃ u : S, px u ∧ B E u t ∧ va_F A st t
section Runs
variable {p : Program} {l : Launch} {e : Env} {R : Room} {s : State} {m : MethodId} {args : Array Value} {below : List Frame} {meth : Method} {c : Code} {H : Heap} {locs : List Loc} {cells slots : Nat}
variable {y : MethodName} {bytes cc : ByteArray} {maxL nL mc ms n index : Nat} {ret : Option FieldType} {ws : List Cond} {rm : Room} {Pc : Array Value → State → Prop} {Qc : Array Value → State → Outcome → State → Prop} {XC : String → State → State → Prop} {free : Addr → Prop} {Ts : List Cond} {own C : String} {b : Addr} {As rest : List Value} {g : JFrame}
theorem vx_callBack (cb : CallB R s args own index y bytes maxL ret ws rm mc ms n) (hM : vx_Met l y ws rm Pc Qc XC mc ms free) (hbl : FrameBlind Pc) : vx_Back l R p e below s args y 3 8 (PreOf R mc ms Pc) (PostOf Qc mc ms free) (vx_Post XC mc ms free) := by
  obtain ⟨hrc, hrs, hfr, hlo, hws, hcw, -, hini, -⟩ := cb
  exact vx_back (bytes := bytes) (maxL := maxL) (ret := ret) hM hbl hrc hrs hfr hlo hws hcw (fun a' U hW => word_at hW (Or.inl (by first | rfl | simp [Cond.onTables, Cond.keeps, Cond.steady])) hini)
theorem vx_runV (S : CallFix p m c cc nL s args Ts own) (hM : vx_Met l y ws rm Pc Qc XC mc ms free) (cw : CallW R s args own C index y bytes maxL ret ws rm mc ms n) (hp : PreV s H C b Pc As)
    (hg : g.method = m) (hn : As.length = n) (hsize : g.locals.size = nL) (hstack : g.stack = As.reverse ++ .ref b :: rest) (hW : 2 * g.monitorRoom + (rest.map fun v => v.category).sum ≤ 8) (hdg : decode cc g.pc = .ok (.invokevirtual index, 3)) (hf : cells + mc ≤ R.cells ∧ slots + ms ≤ R.slots) :
    vx_Run p l e R s m args below meth c H locs cells slots mc ms g rest (Qc (Value.ref b :: As).toArray) XC free := by
  have hK : vx_Back l R p e below s args y 3 8 (PreOf R mc ms Pc) (PostOf Qc mc ms free) (vx_Post XC mc ms free) := vx_callBack cw.1 hM hp.1
  obtain ⟨⟨-, -, -, -, -, -, hcode, -, hy, hlen, hl⟩, hin, hse⟩ := cw
  obtain ⟨hx, hb, hml, ho, -⟩ := S
  obtain ⟨-, ⟨cellB, hcB, hoB, hclB⟩, hPc⟩ := hp
  intro T hT X
  rcases vx_callV X hx (C := C) (bytes := bytes) (maxL := maxL) (ret := ret) ho hl hin hse hcode hy hK (by rw [hT]; exact hcB) hoB hclB hg (hsize.trans hml.symm) (argsL := As) (rest := rest) (fun sig h => hn.trans (hlen sig h)) hstack hW (by rw [hb]; exact hdg)
    (fun vm₁ hW₁ => ⟨hf.1, hf.2, hPc (T.setVm vm₁) hT hW₁⟩) with ⟨v, vm₁, ⟨U', l2, c2, s2⟩, hW₁, X', ⟨g', mk, t, L, e1, e2, hq, h1, hL, h2, h3⟩, st⟩ | ⟨q, vm₁, ⟨U', l2, c2, s2⟩, hW₁, X', ⟨g', mk, t, L, E, ce, e1, e2, hq, hce, hcv, hcl, h1, hL, h2, h3⟩, st⟩
  · dsimp only [Pt.U, Pt.locs, Pt.cells, Pt.slots] at X' e1 e2 h1 h2 h3 st
    subst h1; subst h2; subst h3
    exact Or.inl ⟨v, (T.setVm vm₁).calling g' mk (Value.ref b :: As).toArray, t, U', L, hT, X', hL, e1, e2, hq, st⟩
  · dsimp only [Pt.U, Pt.locs, Pt.cells, Pt.slots] at X' e1 e2 h1 h2 h3 st hcl
    subst h1; subst h2; subst h3
    exact Or.inr ⟨q, (T.setVm vm₁).calling g' mk (Value.ref b :: As).toArray, t, U', L, E, ce, hT, X', hL, e1, e2, hq, hce, hcv, vx_cls hW₁ hcl, st⟩
theorem vx_runS (S : CallFix p m c cc nL s args Ts own) (hM : vx_Met l y ws rm Pc Qc XC mc ms free) (cw : CallB R s args own index y bytes maxL ret ws rm mc ms n ∧ (Cond.static y).before args s = true) (hp : PreS s H Pc As)
    (hg : g.method = m) (hn : As.length = n) (hsize : g.locals.size = nL) (hstack : g.stack = As.reverse ++ rest) (hW : 2 * g.monitorRoom + (rest.map fun v => v.category).sum ≤ 8) (hdg : decode cc g.pc = .ok (.invokestatic index, 3)) (hf : cells + mc ≤ R.cells ∧ slots + ms ≤ R.slots) :
    vx_Run p l e R s m args below meth c H locs cells slots mc ms g rest (Qc As.toArray) XC free := by
  have hK : vx_Back l R p e below s args y 3 8 (PreOf R mc ms Pc) (PostOf Qc mc ms free) (vx_Post XC mc ms free) := vx_callBack cw.1 hM hp.1
  obtain ⟨⟨-, -, -, -, -, -, hcode, hini, hy, hlen, hl⟩, hstt⟩ := cw
  obtain ⟨hx, hb, hml, ho, -⟩ := S
  intro T hT X
  rcases vx_callS X hx (bytes := bytes) (maxL := maxL) (ret := ret) ho hl hstt hini hcode hy hK hg (hsize.trans hml.symm) (argsL := As) (rest := rest) (fun sig h => hn.trans (hlen sig h)) hstack hW (by rw [hb]; exact hdg)
    (fun vm₁ hW₁ => ⟨hf.1, hf.2, hp.2 (T.setVm vm₁) hT hW₁⟩) with ⟨v, vm₁, ⟨U', l2, c2, s2⟩, hW₁, X', ⟨g', mk, t, L, e1, e2, hq, h1, hL, h2, h3⟩, st⟩ | ⟨q, vm₁, ⟨U', l2, c2, s2⟩, hW₁, X', ⟨g', mk, t, L, E, ce, e1, e2, hq, hce, hcv, hcl, h1, hL, h2, h3⟩, st⟩
  · dsimp only [Pt.U, Pt.locs, Pt.cells, Pt.slots] at X' e1 e2 h1 h2 h3 st
    subst h1; subst h2; subst h3
    exact Or.inl ⟨v, (T.setVm vm₁).calling g' mk As.toArray, t, U', L, hT, X', hL, e1, e2, hq, st⟩
  · dsimp only [Pt.U, Pt.locs, Pt.cells, Pt.slots] at X' e1 e2 h1 h2 h3 st hcl
    subst h1; subst h2; subst h3
    exact Or.inr ⟨q, (T.setVm vm₁).calling g' mk As.toArray, t, U', L, E, ce, hT, X', hL, e1, e2, hq, hce, hcv, vx_cls hW₁ hcl, st⟩
end Runs
section Rows
variable {p : Program} {l : Launch} {e : Env} {R : Room} {s : State} {m : MethodId} {args : Array Value} {below : List Frame} {meth : Method} {c : Code} {H : Heap} {locs : List Loc} {cells slots : Nat} {Q : State → Prop}
variable {mc ms : Nat} {free : Addr → Prop} {A0 A1 : Nat → Prop} {H0 : Heap} {a : Array Value} {pc : Nat} {ls : Array Slot} {st0 rest : List Value}
theorem vx_keep {st₀ t T' : State} {L : List Loc} (h0 : st₀.heap = H) (e1 : T'.heap = t.heap) (hS : va_S A0 H0 H locs) (hA : ∀ q, q < H.size → A1 q → A0 q) (hf : ∀ q, free q → A0 q) (hL : ∀ q ∈ L, free q.base) (hF : va_F A1 st₀ t) :
    H.size ≤ T'.heap.size ∧ (∀ q : Nat, q < H.size → ¬ A1 q → T'.heap[q]? = H[q]?) ∧ va_S A0 H0 T'.heap (locs ++ L) := by
  obtain ⟨hz, hk⟩ := hF
  rw [h0] at hz hk
  exact ⟨by rw [e1]; exact hz, fun q h1 h2 => by rw [e1]; exact hk q h1 h2,
    ⟨Nat.le_trans hS.1 (by rw [e1]; exact hz), fun q h1 h2 => by rw [e1, hk q (Nat.lt_of_lt_of_le h1 hS.1) (fun z => h2 (hA q (Nat.lt_of_lt_of_le h1 hS.1) z))]; exact hS.2.1 q h1 h2, fun q hq => by
      rcases List.mem_append.mp hq with h | h
      · exact hS.2.2 q h
      · exact hf _ (hL q h)⟩⟩
theorem vx_calli {S SX : Type} {post : Int32 → S → Prop} {px : SX → Prop} {B : S → State → Prop} {BX : String → SX → State → Prop} {AX : Nat → Prop} (hr : vx_Run p l e R s m args below meth c H locs cells slots mc ms (F0 m pc ls st0) rest (va_Qi post B A1 a) (vx_X px BX AX) free) (hS : va_S A0 H0 H locs) (hA : ∀ q, q < H.size → A1 q → A0 q) (hf : ∀ q, free q → A0 q) (hAX : ∀ q, q < H.size → AX q → A0 q)
    (kx : ∀ (E : String) (ce : Cell) (q9 : Addr) (u : SX) (t : State) (H1 : Heap) (locs1 : List Loc), t.heap = H1 → s.vm.Alike t.vm → px u → BX E u t → H.size ≤ H1.size → (∀ q : Nat, q < H.size → ¬ AX q → H1[q]? = H[q]?) → va_S A0 H0 H1 locs1 → H1[q9]? = some ce → ce.vm = .none → s.vm.findClass E = some ce.cls → vx_W p l e R s m args below meth c H1 locs1 (cells + mc) (slots + ms) Q (F0 m pc ls rest) q9)
    (kk : ∀ (r : Int32) (u : S) (t : State) (H1 : Heap) (locs1 : List Loc), t.heap = H1 → s.vm.Alike t.vm → post r u → B u t → H.size ≤ H1.size → (∀ q : Nat, q < H.size → ¬ A1 q → H1[q]? = H[q]?) → va_S A0 H0 H1 locs1 → W p l e R s m args below meth c H1 locs1 (cells + mc) (slots + ms) Q (F0 m (pc + 3) ls (.int r :: rest))) : W p l e R s m args below meth c H locs cells slots Q (F0 m pc ls st0) := by
  intro T hT X
  rcases hr T hT X with ⟨v, st₀, t, T', L, h0, X', hL, e1, e2, ⟨⟨r, u, hv, hp, hb⟩, hF⟩, st⟩ | ⟨q, st₀, t, T', L, E, ce, h0, X', hL, e1, e2, ⟨u, hp, hb, hF⟩, hce, hcv, hcl, st⟩
  · cases hv
    obtain ⟨k1, k2, k3⟩ := vx_keep h0 e1 hS hA hf hL hF
    obtain ⟨t2, a1, b1⟩ := kk r u t T'.heap (locs ++ L) e1.symm (by rw [← e2]; exact X'.warmed.alike) hp hb k1 k2 k3 T' rfl X'
    exact ⟨t2, st t2 a1, b1⟩
  · obtain ⟨k1, k2, k3⟩ := vx_keep h0 e1 hS hAX hf hL hF
    obtain ⟨t2, a1, b1⟩ := kx E ce q u t T'.heap (locs ++ L) e1.symm (by rw [← e2]; exact X'.warmed.alike) hp hb k1 k2 k3 (by rw [e1]; exact hce) hcv hcl T' rfl X'
    exact ⟨t2, st.trans a1, b1⟩
theorem vx_calll {S SX : Type} {post : Int64 → S → Prop} {px : SX → Prop} {B : S → State → Prop} {BX : String → SX → State → Prop} {AX : Nat → Prop} (hr : vx_Run p l e R s m args below meth c H locs cells slots mc ms (F0 m pc ls st0) rest (va_Ql post B A1 a) (vx_X px BX AX) free) (hS : va_S A0 H0 H locs) (hA : ∀ q, q < H.size → A1 q → A0 q) (hf : ∀ q, free q → A0 q) (hAX : ∀ q, q < H.size → AX q → A0 q)
    (kx : ∀ (E : String) (ce : Cell) (q9 : Addr) (u : SX) (t : State) (H1 : Heap) (locs1 : List Loc), t.heap = H1 → s.vm.Alike t.vm → px u → BX E u t → H.size ≤ H1.size → (∀ q : Nat, q < H.size → ¬ AX q → H1[q]? = H[q]?) → va_S A0 H0 H1 locs1 → H1[q9]? = some ce → ce.vm = .none → s.vm.findClass E = some ce.cls → vx_W p l e R s m args below meth c H1 locs1 (cells + mc) (slots + ms) Q (F0 m pc ls rest) q9)
    (kk : ∀ (r : Int64) (u : S) (t : State) (H1 : Heap) (locs1 : List Loc), t.heap = H1 → s.vm.Alike t.vm → post r u → B u t → H.size ≤ H1.size → (∀ q : Nat, q < H.size → ¬ A1 q → H1[q]? = H[q]?) → va_S A0 H0 H1 locs1 → W p l e R s m args below meth c H1 locs1 (cells + mc) (slots + ms) Q (F0 m (pc + 3) ls (.long r :: rest))) : W p l e R s m args below meth c H locs cells slots Q (F0 m pc ls st0) := by
  intro T hT X
  rcases hr T hT X with ⟨v, st₀, t, T', L, h0, X', hL, e1, e2, ⟨⟨r, u, hv, hp, hb⟩, hF⟩, st⟩ | ⟨q, st₀, t, T', L, E, ce, h0, X', hL, e1, e2, ⟨u, hp, hb, hF⟩, hce, hcv, hcl, st⟩
  · cases hv
    obtain ⟨k1, k2, k3⟩ := vx_keep h0 e1 hS hA hf hL hF
    obtain ⟨t2, a1, b1⟩ := kk r u t T'.heap (locs ++ L) e1.symm (by rw [← e2]; exact X'.warmed.alike) hp hb k1 k2 k3 T' rfl X'
    exact ⟨t2, st t2 a1, b1⟩
  · obtain ⟨k1, k2, k3⟩ := vx_keep h0 e1 hS hAX hf hL hF
    obtain ⟨t2, a1, b1⟩ := kx E ce q u t T'.heap (locs ++ L) e1.symm (by rw [← e2]; exact X'.warmed.alike) hp hb k1 k2 k3 (by rw [e1]; exact hce) hcv hcl T' rfl X'
    exact ⟨t2, st.trans a1, b1⟩
theorem vx_callf {S SX : Type} {post : UInt32 → S → Prop} {px : SX → Prop} {B : S → State → Prop} {BX : String → SX → State → Prop} {AX : Nat → Prop} (hr : vx_Run p l e R s m args below meth c H locs cells slots mc ms (F0 m pc ls st0) rest (va_Qf post B A1 a) (vx_X px BX AX) free) (hS : va_S A0 H0 H locs) (hA : ∀ q, q < H.size → A1 q → A0 q) (hf : ∀ q, free q → A0 q) (hAX : ∀ q, q < H.size → AX q → A0 q)
    (kx : ∀ (E : String) (ce : Cell) (q9 : Addr) (u : SX) (t : State) (H1 : Heap) (locs1 : List Loc), t.heap = H1 → s.vm.Alike t.vm → px u → BX E u t → H.size ≤ H1.size → (∀ q : Nat, q < H.size → ¬ AX q → H1[q]? = H[q]?) → va_S A0 H0 H1 locs1 → H1[q9]? = some ce → ce.vm = .none → s.vm.findClass E = some ce.cls → vx_W p l e R s m args below meth c H1 locs1 (cells + mc) (slots + ms) Q (F0 m pc ls rest) q9)
    (kk : ∀ (r : UInt32) (u : S) (t : State) (H1 : Heap) (locs1 : List Loc), t.heap = H1 → s.vm.Alike t.vm → post r u → B u t → H.size ≤ H1.size → (∀ q : Nat, q < H.size → ¬ A1 q → H1[q]? = H[q]?) → va_S A0 H0 H1 locs1 → W p l e R s m args below meth c H1 locs1 (cells + mc) (slots + ms) Q (F0 m (pc + 3) ls (.float r :: rest))) : W p l e R s m args below meth c H locs cells slots Q (F0 m pc ls st0) := by
  intro T hT X
  rcases hr T hT X with ⟨v, st₀, t, T', L, h0, X', hL, e1, e2, ⟨⟨r, u, hv, hp, hb⟩, hF⟩, st⟩ | ⟨q, st₀, t, T', L, E, ce, h0, X', hL, e1, e2, ⟨u, hp, hb, hF⟩, hce, hcv, hcl, st⟩
  · cases hv
    obtain ⟨k1, k2, k3⟩ := vx_keep h0 e1 hS hA hf hL hF
    obtain ⟨t2, a1, b1⟩ := kk r u t T'.heap (locs ++ L) e1.symm (by rw [← e2]; exact X'.warmed.alike) hp hb k1 k2 k3 T' rfl X'
    exact ⟨t2, st t2 a1, b1⟩
  · obtain ⟨k1, k2, k3⟩ := vx_keep h0 e1 hS hAX hf hL hF
    obtain ⟨t2, a1, b1⟩ := kx E ce q u t T'.heap (locs ++ L) e1.symm (by rw [← e2]; exact X'.warmed.alike) hp hb k1 k2 k3 (by rw [e1]; exact hce) hcv hcl T' rfl X'
    exact ⟨t2, st.trans a1, b1⟩
theorem vx_calld {S SX : Type} {post : UInt64 → S → Prop} {px : SX → Prop} {B : S → State → Prop} {BX : String → SX → State → Prop} {AX : Nat → Prop} (hr : vx_Run p l e R s m args below meth c H locs cells slots mc ms (F0 m pc ls st0) rest (va_Qd post B A1 a) (vx_X px BX AX) free) (hS : va_S A0 H0 H locs) (hA : ∀ q, q < H.size → A1 q → A0 q) (hf : ∀ q, free q → A0 q) (hAX : ∀ q, q < H.size → AX q → A0 q)
    (kx : ∀ (E : String) (ce : Cell) (q9 : Addr) (u : SX) (t : State) (H1 : Heap) (locs1 : List Loc), t.heap = H1 → s.vm.Alike t.vm → px u → BX E u t → H.size ≤ H1.size → (∀ q : Nat, q < H.size → ¬ AX q → H1[q]? = H[q]?) → va_S A0 H0 H1 locs1 → H1[q9]? = some ce → ce.vm = .none → s.vm.findClass E = some ce.cls → vx_W p l e R s m args below meth c H1 locs1 (cells + mc) (slots + ms) Q (F0 m pc ls rest) q9)
    (kk : ∀ (r : UInt64) (u : S) (t : State) (H1 : Heap) (locs1 : List Loc), t.heap = H1 → s.vm.Alike t.vm → post r u → B u t → H.size ≤ H1.size → (∀ q : Nat, q < H.size → ¬ A1 q → H1[q]? = H[q]?) → va_S A0 H0 H1 locs1 → W p l e R s m args below meth c H1 locs1 (cells + mc) (slots + ms) Q (F0 m (pc + 3) ls (.double r :: rest))) : W p l e R s m args below meth c H locs cells slots Q (F0 m pc ls st0) := by
  intro T hT X
  rcases hr T hT X with ⟨v, st₀, t, T', L, h0, X', hL, e1, e2, ⟨⟨r, u, hv, hp, hb⟩, hF⟩, st⟩ | ⟨q, st₀, t, T', L, E, ce, h0, X', hL, e1, e2, ⟨u, hp, hb, hF⟩, hce, hcv, hcl, st⟩
  · cases hv
    obtain ⟨k1, k2, k3⟩ := vx_keep h0 e1 hS hA hf hL hF
    obtain ⟨t2, a1, b1⟩ := kk r u t T'.heap (locs ++ L) e1.symm (by rw [← e2]; exact X'.warmed.alike) hp hb k1 k2 k3 T' rfl X'
    exact ⟨t2, st t2 a1, b1⟩
  · obtain ⟨k1, k2, k3⟩ := vx_keep h0 e1 hS hAX hf hL hF
    obtain ⟨t2, a1, b1⟩ := kx E ce q u t T'.heap (locs ++ L) e1.symm (by rw [← e2]; exact X'.warmed.alike) hp hb k1 k2 k3 (by rw [e1]; exact hce) hcv hcl T' rfl X'
    exact ⟨t2, st.trans a1, b1⟩
theorem vx_callv {S SX : Type} {post : S → Prop} {px : SX → Prop} {B : S → State → Prop} {BX : String → SX → State → Prop} {AX : Nat → Prop} (hr : vx_Run p l e R s m args below meth c H locs cells slots mc ms (F0 m pc ls st0) rest (va_Qv post B A1 a) (vx_X px BX AX) free) (hS : va_S A0 H0 H locs) (hA : ∀ q, q < H.size → A1 q → A0 q) (hf : ∀ q, free q → A0 q) (hAX : ∀ q, q < H.size → AX q → A0 q)
    (kx : ∀ (E : String) (ce : Cell) (q9 : Addr) (u : SX) (t : State) (H1 : Heap) (locs1 : List Loc), t.heap = H1 → s.vm.Alike t.vm → px u → BX E u t → H.size ≤ H1.size → (∀ q : Nat, q < H.size → ¬ AX q → H1[q]? = H[q]?) → va_S A0 H0 H1 locs1 → H1[q9]? = some ce → ce.vm = .none → s.vm.findClass E = some ce.cls → vx_W p l e R s m args below meth c H1 locs1 (cells + mc) (slots + ms) Q (F0 m pc ls rest) q9)
    (kk : ∀ (u : S) (t : State) (H1 : Heap) (locs1 : List Loc), t.heap = H1 → s.vm.Alike t.vm → post u → B u t → H.size ≤ H1.size → (∀ q : Nat, q < H.size → ¬ A1 q → H1[q]? = H[q]?) → va_S A0 H0 H1 locs1 → W p l e R s m args below meth c H1 locs1 (cells + mc) (slots + ms) Q (F0 m (pc + 3) ls (rest))) : W p l e R s m args below meth c H locs cells slots Q (F0 m pc ls st0) := by
  intro T hT X
  rcases hr T hT X with ⟨v, st₀, t, T', L, h0, X', hL, e1, e2, ⟨⟨u, hv, hp, hb⟩, hF⟩, st⟩ | ⟨q, st₀, t, T', L, E, ce, h0, X', hL, e1, e2, ⟨u, hp, hb, hF⟩, hce, hcv, hcl, st⟩
  · cases hv
    obtain ⟨k1, k2, k3⟩ := vx_keep h0 e1 hS hA hf hL hF
    obtain ⟨t2, a1, b1⟩ := kk u t T'.heap (locs ++ L) e1.symm (by rw [← e2]; exact X'.warmed.alike) hp hb k1 k2 k3 T' rfl X'
    exact ⟨t2, st t2 a1, b1⟩
  · obtain ⟨k1, k2, k3⟩ := vx_keep h0 e1 hS hAX hf hL hF
    obtain ⟨t2, a1, b1⟩ := kx E ce q u t T'.heap (locs ++ L) e1.symm (by rw [← e2]; exact X'.warmed.alike) hp hb k1 k2 k3 (by rw [e1]; exact hce) hcv hcl T' rfl X'
    exact ⟨t2, st.trans a1, b1⟩
/-- caught by the row x of this method's table; the rows ahead don't take it -/
theorem vx_catch {own name : String} {E : String} {ce : Cell} {q : Addr} (hown : s.vm.findClass own = some m.cls) (pre : List ExceptionTableEntry) (x : ExceptionTableEntry) (suf : List ExceptionTableEntry) (hsplit : c.exceptionTable.toList = pre ++ x :: suf)
    (hpass : ∀ z ∈ pre, covers z pc = false ∨ (z.catchType ≠ 0 ∧ ∃ nm : String, (Cond.classLink own z.catchType nm).before args s = true ∧ va_Nc E nm s)) (hx : covers x pc = true) (h0 : x.catchType ≠ 0)
    (hlink : (Cond.classLink own x.catchType name).before args s = true) (hcast : (Cond.castable E name).before args s = true) (hcell : H[q]? = some ce) (hv : ce.vm = .none) (hcl : s.vm.findClass E = some ce.cls)
    (kk : W p l e R s m args below meth c H locs cells slots Q (F0 m x.handlerPc ls [.ref q])) : vx_W p l e R s m args below meth c H locs cells slots Q (F0 m pc ls rest) q := by
  intro T hT X
  have hpl : e.platform.magicAccessors = ({} : Platform).magicAccessors := by rw [X.admits.platform]
  obtain ⟨c3, c4, hc3, hc4, hasg⟩ := Cond.castable_spec hcast
  cases Option.some.inj (hc3.symm.trans hcl)
  obtain ⟨c5, hc5, hcl5⟩ := Cond.classLink_spec hown hlink e.platform hpl
  cases Option.some.inj (hc4.symm.trans hc5)
  obtain ⟨vm', X', st⟩ := X.thenCaughtThrough q (g := F0 m pc ls rest) rfl (Steps.refl _) (by rw [hT]; exact hcell) (by rw [hv]; rfl) (by obtain ⟨k9, h9, -⟩ := Vm.findClass_spec hcl; exact ⟨k9, h9⟩) pre x suf hsplit
    (fun z hz => by
      rcases hpass z hz with h | ⟨hz0, nm, hl1, hn1⟩
      · exact Or.inl h
      · obtain ⟨c6, hc6, hcl6⟩ := Cond.classLink_spec hown hl1 e.platform hpl
        obtain ⟨a8, b8, h1, h2, h3⟩ := hn1
        cases Option.some.inj (h1.symm.trans hcl)
        cases Option.some.inj (h2.symm.trans hc6)
        exact Or.inr ⟨hz0, _, hcl6, h3⟩) hx (Or.inr ⟨h0, c4, hcl5, hasg⟩)
  obtain ⟨t, a1, b1⟩ := kk (T.setVm vm') hT X'
  exact ⟨t, st.trans a1, b1⟩
end Rows
section Ends
variable {p : Program} {l : Launch} {e : Env} {R : Room} {s : State} {m : MethodId} {args : Array Value} {below : List Frame} {meth : Method} {c : Code} {H : Heap} {locs : List Loc} {cells slots : Nat} {Q : State → Prop}
variable {mc ms : Nat} {free : Addr → Prop} {A0 A1 : Nat → Prop} {H0 : Heap} {a : Array Value} {ls : Array Slot} {st0 rest : List Value}
variable {Qc : Array Value → State → Outcome → State → Prop} {XC : String → State → State → Prop}
/-- what a body that may throw owes at its end -/
def vx_MQ (below : List Frame) (Qc : Array Value → State → Outcome → State → Prop) (XC : String → State → State → Prop) (a : Array Value) (s : State) (mc ms : Nat) (free : Addr → Prop) : State → Prop := fun t =>
  ∃ o, t.status = .running ∧ Ended t below o ∧ vx_Q Qc XC mc ms free a s o t
theorem vx_ret {g : JFrame} {mc ms : Nat} (k : W p l e R s m args below meth c H locs cells slots (MQ below Qc args s mc ms free) g) : W p l e R s m args below meth c H locs cells slots (vx_MQ below Qc XC args s mc ms free) g := by
  intro T hT X
  obtain ⟨t, a1, o, b1, b2, b3, b4⟩ := k T hT X
  exact ⟨t, a1, o, b1, b2, Or.inl ⟨b3, b4⟩⟩
/-- not caught here: it goes on to the caller -/
theorem vx_widen {g : JFrame} {q : Addr} {k n : Nat} (h1 : cells ≤ k) (h2 : slots ≤ n) (kk : vx_W p l e R s m args below meth c H locs k n Q g q) : vx_W p l e R s m args below meth c H locs cells slots Q g q := fun T hT X => kk T hT (stand_widen X h1 h2)
theorem vx_out {pc : Nat} {E : String} {ce : Cell} {q : Addr} {mc ms : Nat} (hout : ∀ x ∈ c.exceptionTable.toList, covers x pc = false) (hlocks : meth.locks = false) (hcell : H[q]? = some ce) (hv : ce.vm = .none) (hcl : s.vm.findClass E = some ce.cls)
    (hx : ∀ t : State, t.heap = H → s.vm.Alike t.vm → XC E s t) (hf : ∀ z ∈ locs, free z.base) (hc : cells ≤ mc) (hs : slots ≤ ms) :
    vx_W p l e R s m args below meth c H locs cells slots (vx_MQ below Qc XC args s mc ms free) (F0 m pc ls rest) q := by
  intro T hT X
  obtain ⟨st1, hrun, hend, hW, hsm⟩ := X.leaveThrown q (g := F0 m pc ls rest) rfl rfl rfl hout hlocks
  have hcell9 : (T.setFrames (.throwing q :: below)).heap[q]? = some ce := by
    show T.heap[q]? = some ce
    rw [hT]; exact hcell
  exact ⟨_, st1, .threw q, hrun, hend, Or.inr ⟨q, rfl, E, ce, locs, hx _ hT hW.alike, hcell9, hv, hcl, hW, hsm.mono hc hs, hf⟩⟩
theorem vx_frame {U : State} {k n : Nat} (h : s.sameButNew ({ U with vm := s.vm } : State) locs k n) : s.heap.size ≤ U.heap.size ∧ ∀ q : Nat, q < s.heap.size → (∀ z ∈ locs, z.base ≠ q) → U.heap[q]? = s.heap[q]? := by
  obtain ⟨-, h2, -, -, -, h6⟩ := h
  refine ⟨h2, fun q hq hz => ?_⟩
  obtain ⟨c9, e1, e2, e3, e4⟩ := h6 q _ (Array.getElem?_eq_getElem hq)
  have hs : c9.slots = (s.heap[q]).slots := Array.ext_getElem? fun i => e4 i fun hm => hz _ hm rfl
  have h9 : c9 = s.heap[q] := by
    rw [hs] at e2
    exact e2
  have e5 : U.heap[q]? = some c9 := e1
  rw [e5, h9, Array.getElem?_eq_getElem hq]
/-- the words of a throw but the four that speak of the heap -/
def vx_no (w : Cond) : Bool := decide (w ≠ .isRef (.static Bundle.tN "UNASSIGNED_STACK" Bundle.steD)) && decide (w ≠ .isRef (.static Bundle.tN "SUPPRESSED_SENTINEL" Bundle.listD)) && decide (w ≠ .laysStatic Bundle.tN "UNASSIGNED_STACK" Bundle.steD) && decide (w ≠ .laysStatic Bundle.tN "SUPPRESSED_SENTINEL" Bundle.listD)
def vx_at0 (own : String) (ic : Nat) (X : String) (names : List String) : List Cond := (Bundle.ownAtoms0 own ic X names).filter vx_no
def vx_atS (own : String) (ic : Nat) (X : String) (names : List String) : List Cond := (Bundle.ownAtoms own ic X names).filter vx_no
/-- a word that the tables alone decide, or a good one -/
def vx_ot (w : Cond) : Bool := w.onTables || goodWord w
theorem vx_ot_at {args a' : Array Value} {s U : State} {w : Cond} (hW : s.WarmedH U.vm) (hvm : s.vm = U.vm) (hg : vx_ot w = true) (h : w.before args s = true) : w.before a' U = true := by
  simp only [vx_ot, Bool.or_eq_true] at hg
  rcases hg with hg | hg
  · exact va_tabs hg hvm h
  · exact word_at hW (good_of_word hg) h
/-- a list's words: the good ones out of the method's own list, the others by premises of their own -/
theorem vx_hat {args : Array Value} {s : State} {L B : List Cond} (h1 : ∀ w ∈ L.filter goodWord, w.before args s = true) (h2 : ∀ w ∈ L.filter (fun w => !goodWord w), w ∈ B) (h3 : ∀ w ∈ B, w.before args s = true) : ∀ w ∈ L, w.before args s = true := by
  intro w hw
  by_cases g : goodWord w = true
  · exact h1 w (List.mem_filter.mpr ⟨hw, g⟩)
  · refine h3 w (h2 w (List.mem_filter.mpr ⟨hw, ?_⟩))
    show (!goodWord w) = true
    cases hgw : goodWord w
    · rfl
    · exact absurd hgw g
theorem vx_c {args : Array Value} {s : State} {w : Cond} {B : List Cond} (h : w.before args s = true) (t : ∀ w ∈ B, w.before args s = true) : ∀ w' ∈ w :: B, w'.before args s = true := fun w' h' => (List.mem_cons.mp h').elim (fun e => by rw [e]; exact h) (t w')
theorem vx_n {args : Array Value} {s : State} : ∀ w ∈ ([] : List Cond), w.before args s = true := fun _ h => nomatch h
theorem vx_own {args : Array Value} {s : State} {L : List Cond} (h1 : ∀ w ∈ L.filter vx_no, w.before args s = true)
    (hU : (Cond.isRef (.static Bundle.tN "UNASSIGNED_STACK" Bundle.steD)).before args s = true) (hN : (Cond.isRef (.static Bundle.tN "SUPPRESSED_SENTINEL" Bundle.listD)).before args s = true)
    (lU : (Cond.laysStatic Bundle.tN "UNASSIGNED_STACK" Bundle.steD).before args s = true) (lN : (Cond.laysStatic Bundle.tN "SUPPRESSED_SENTINEL" Bundle.listD).before args s = true) : ∀ w ∈ L, w.before args s = true := by
  intro w hw
  by_cases e1 : w = .isRef (.static Bundle.tN "UNASSIGNED_STACK" Bundle.steD)
  · rw [e1]; exact hU
  · by_cases e2 : w = .isRef (.static Bundle.tN "SUPPRESSED_SENTINEL" Bundle.listD)
    · rw [e2]; exact hN
    · by_cases e3 : w = .laysStatic Bundle.tN "UNASSIGNED_STACK" Bundle.steD
      · rw [e3]; exact lU
      · by_cases e4 : w = .laysStatic Bundle.tN "SUPPRESSED_SENTINEL" Bundle.listD
        · rw [e4]; exact lN
        · exact h1 w (List.mem_filter.mpr ⟨hw, by unfold vx_no; rw [decide_eq_true e1, decide_eq_true e2, decide_eq_true e3, decide_eq_true e4]; rfl⟩)
/-- where a static field lies, its class's statics cell in H -/
def vx_L (C n d : String) (A : Nat → Prop) (U : State) (H : Heap) : Prop := ∃ (c : ClassId) (k : Class) (i : Nat) (f : Field) (a : Nat) (cell : Cell), U.vm.findClass C = some c ∧ U.fieldFound? C n d = some (c, k, i, f) ∧ f.isStatic = true ∧ k.statics = some a ∧ H[a]? = some cell ∧ cell.vm.isStatics = true ∧ cell.cls = c ∧ f.slot < cell.slots.size ∧ k.staticTypes[f.slot]? = some f.type ∧ ¬ A a
theorem vx_L.moved {C n d : String} {A : Nat → Prop} {u U : State} {H : Heap} (hvm : u.vm.Alike U.vm) (h : vx_L C n d A u H) : vx_L C n d A U H := by
  obtain ⟨c, k, i, f, a, cell, h1, h2, h3, h4, h5, h6, h7, h8, h9, h10⟩ := h
  obtain ⟨k', hi', he⟩ := State.fieldFound?_setVm hvm h2
  exact ⟨c, k', i, f, a, cell, by rw [hvm.findClass]; exact h1, hi', h3, by rw [he]; exact h4, h5, h6, h7, h8, by rw [he]; exact h9, h10⟩
theorem vx_L.kept {C n d : String} {A : Nat → Prop} {U : State} {H H1 : Heap} (h : vx_L C n d A U H) (hq : ∀ a : Nat, a < H.size → ¬ A a → H1[a]? = H[a]?) : vx_L C n d A U H1 := by
  obtain ⟨c, k, i, f, a, cell, h1, h2, h3, h4, h5, h6, h7, h8, h9, h10⟩ := h
  exact ⟨c, k, i, f, a, cell, h1, h2, h3, h4, by rw [hq a (Array.getElem?_eq_some_iff.mp h5).1 h10]; exact h5, h6, h7, h8, h9, h10⟩
theorem vx_L.narrow {C n d : String} {A B : Nat → Prop} {U : State} {H : Heap} (h : vx_L C n d A U H) (hAB : ∀ q, B q → A q) : vx_L C n d B U H := by
  obtain ⟨c, k, i, f, a, cell, h1, h2, h3, h4, h5, h6, h7, h8, h9, h10⟩ := h
  exact ⟨c, k, i, f, a, cell, h1, h2, h3, h4, h5, h6, h7, h8, h9, fun z => h10 (hAB _ z)⟩
theorem vx_L.word {C n d : String} {A : Nat → Prop} {s : State} {args : Array Value} (h : vx_L C n d A s s.heap) : (Cond.laysStatic C n d).before args s = true := by
  obtain ⟨c, k, i, f, a, cell, h1, h2, h3, h4, h5, h6, h7, h8, h9, -⟩ := h
  show (Cond.laysStatic C n d).holds args s none s [] = true
  exact Cond.laysStatic_of h1 h2 h3 h4 h5 h6 h7 h8 h9
/-- .. and what it holds: null or some reference -/
def vx_Zq (C n d : String) (A : Nat → Prop) (U : State) (H : Heap) : Prop := va_Zq C n d A U H ∧ vx_L C n d A U H
theorem vx_Zq.moved {C n d : String} {A : Nat → Prop} {u U : State} {H : Heap} (hvm : u.vm.Alike U.vm) (h : vx_Zq C n d A u H) : vx_Zq C n d A U H := ⟨va_Zq.moved hvm h.1, vx_L.moved hvm h.2⟩
theorem vx_Zq.kept {C n d : String} {A : Nat → Prop} {U : State} {H H1 : Heap} (h : vx_Zq C n d A U H) (hq : ∀ a : Nat, a < H.size → ¬ A a → H1[a]? = H[a]?) : vx_Zq C n d A U H1 := ⟨va_Zq.kept h.1 hq, vx_L.kept h.2 hq⟩
theorem vx_Zq.narrow {C n d : String} {A B : Nat → Prop} {U : State} {H : Heap} (h : vx_Zq C n d A U H) (hAB : ∀ q, B q → A q) : vx_Zq C n d B U H := ⟨va_Zq.narrow h.1 hAB, vx_L.narrow h.2 hAB⟩
theorem vx_Zqof {args : Array Value} {s : State} {C n d : String} {A : Nat → Prop} (hl : (Cond.laysStatic C n d).before args s = true) (hini : (Cond.initialized C).before args s = true) (h : (Cond.isRef (.static C n d)).before args s = true) (hA : ∀ a : Nat, a < s.heap.size → ¬ A a) : vx_Zq C n d A s s.heap := by
  refine ⟨va_Zqof hl hini h hA, ?_⟩
  obtain ⟨c, k, i, f, a, cell, h1, h2, h3, h4, h5, h6, h7, h8, h9⟩ := Cond.laysStatic_spec hl
  exact ⟨c, k, i, f, a, cell, h1, h2, h3, h4, h5, h6, h7, h8, h9, hA a (Array.getElem?_eq_some_iff.mp h5).1⟩
theorem vx_isRef {C n d : String} {v : Value} {A : Nat → Prop} {s : State} {args : Array Value} (h : va_Z C n d v A s s.heap) (hv : v.isRef = true) : (Cond.isRef (.static C n d)).before args s = true := by
  obtain ⟨cf, kf, fi, f, a, cell, h1, h2, h3, h4, h5, h6, h7, -⟩ := h
  have he : (Term.static C n d).eval args s none [] s = some v := by
    simp [Term.eval, State.fieldNamed?, h1, h2, h4, h5, h6, h7]
  simp only [Cond.before, Cond.holds, Cond.value, he]
  cases v <;> simp_all [Value.isRef]
theorem vx_isRefq {C n d : String} {A : Nat → Prop} {s : State} {args : Array Value} (h : va_Zq C n d A s s.heap) : (Cond.isRef (.static C n d)).before args s = true := by
  rcases h with h | ⟨t, h⟩
  · exact vx_isRef h rfl
  · exact vx_isRef h rfl
/-- the same frame, seen from here: as if the method were called anew in this heap -/
theorem vx_rebase {T : State} (X : Stand p l e R s m args below meth c T locs cells slots) {R' : Room} (hf : R'.frames ≤ R.frames) (hl : R'.locals ≤ R.locals) (hc : cells + R'.cells ≤ R.cells) (hs : slots + R'.slots ≤ R.slots) :
    Stand p l e R' ((T.setVm s.vm).setFrames (.invoking m args :: below)) m args below meth c T [] 0 0 := by
  have htop : (T.setVm s.vm).topJava?.isSome := X.here.top
  have hF : ((T.setVm s.vm).setFrames (.invoking m args :: below)).frames = .invoking m args :: below := State.frames_setFrames _ (State.cur_lt_of_top htop)
  obtain ⟨g₀, hg0⟩ := Option.isSome_iff_exists.mp htop
  obtain ⟨r, hr⟩ := State.topJava?_eq_some.mp hg0
  have hl9 : e.platform.stackLimits (T.setVm s.vm).me = e.platform.stackLimits s.me := X.limits
  have hb9 : (T.setVm s.vm).me.stackBytes = s.me.stackBytes := X.bytes
  refine ⟨X.admits, X.cas, X.clock, hF, ?_, X.hears, X.method, X.code, X.here, X.tail, X.warmed, ?_, ?_, ?_⟩
  · have h := X.room
    have hU : ((T.setVm s.vm).setFrames (.invoking m args :: below)).localsInUse = s.localsInUse := by
      rw [State.localsInUse_invoking hF (meth := meth) (c := c) X.method X.code, State.localsInUse_invoking X.frames X.method X.code]
    simp only [State.hasRoom, Bool.and_eq_true, decide_eq_true_eq] at h ⊢
    obtain ⟨⟨⟨⟨h1, h2, h3, h4, h5, h6⟩, h7⟩, h8⟩, h9⟩ := h
    rw [X.frames, List.length_cons] at h2 h3
    have q1 := X.heapSize
    have q2 := X.used
    simp only [hF, hU, List.length_cons, State.stackLimits_setFrames, State.stackBytes_setFrames, hl9, hb9]
    refine ⟨⟨⟨⟨by omega, by omega, by omega, by omega, by omega, h6⟩, ?_⟩, ?_⟩, X.book⟩
    · show T.heap.size + R'.cells ≤ e.platform.maxCells
      omega
    · show T.slotsUsed + R'.slots ≤ e.platform.maxSlots
      omega
  · rw [State.stackLimits_setFrames]; rfl
  · rw [State.stackBytes_setFrames]; rfl
  · refine ⟨?_, Nat.le_refl _, Nat.le_refl _, ?_, ?_, fun a c9 h9 => ⟨c9, h9, rfl, rfl, fun _ _ => rfl⟩⟩
    · obtain ⟨t, ht, -⟩ := State.frames_cons hr
      show T.setVm s.vm = { ((T.setVm s.vm).setFrames (.invoking m args :: below)).setFrames (T.setVm s.vm).frames with heap := T.heap, slotsUsed := T.slotsUsed }
      rw [State.setFrames_setFrames, State.setFrames_self ht]
      rfl
    · show T.slotsUsed = T.slotsUsed + ((T.heap.toList.drop T.heap.size).map (·.slots.size)).sum
      rw [List.drop_eq_nil_of_le (Nat.le_of_eq Array.length_toList)]
      rfl
    · show ((T.heap.toList.drop T.heap.size).map (·.slots.size)).sum ≤ 0
      rw [List.drop_eq_nil_of_le (Nat.le_of_eq Array.length_toList)]
      exact Nat.le_refl _
/-- 'throw new E()': new; dup; invokespecial; athrow -/
theorem vx_throw0 {cc : ByteArray} {pc : Nat} (hexec : p.tables.exec = Jvm.exec) (hb : c.code = cc) (hl : l.stackTraces = false) {own cls : String} {names : List String} {ik ic mc ms : Nat} {A : Nat → Prop}
    (hown : s.vm.findClass own = some m.cls) (hcls : Bundle.fit cls = true) (hnames : ∀ n ∈ names, Bundle.fit n = true)
    (hk : (Cond.classLink own ik cls).before args s = true) (hini : (Cond.initialized cls).before args s = true) (hat : ∀ w ∈ vx_at0 own ic cls names, w.before args s = true)
    (hgood : ∀ w ∈ Cond.classLink own ik cls :: Cond.initialized cls :: vx_at0 own ic cls names, vx_ot w = true)
    (hU : vx_Zq Bundle.tN "UNASSIGNED_STACK" Bundle.steD A s s.heap) (hN : vx_Zq Bundle.tN "SUPPRESSED_SENTINEL" Bundle.listD A s s.heap) (hS : va_S A s.heap H locs) (hsize : ls.size = c.maxLocals)
    (d0 : decode cc pc = .ok (.new ik, 3)) (d3 : decode cc (pc + 3) = .ok (.dup, 1)) (d4 : decode cc (pc + 4) = .ok (.invokespecial ic, 3)) (d7 : decode cc (pc + 7) = .ok (.athrow, 1))
    (hout : ∀ x ∈ c.exceptionTable.toList, covers x (pc + 7) = false)
    (hRframes : names.length + 3 < R.frames) (hRlocals : (rest.map fun v => v.category).sum + (13 * (names.length + 1) + 42) ≤ R.locals) (hRcells : cells + 1 ≤ R.cells) (hRslots : slots + 6 ≤ R.slots) (hlocks : meth.locks = false)
    (hx : ∀ t : State, s.vm.Alike t.vm → H.size ≤ t.heap.size → (∀ q : Nat, q < H.size → t.heap[q]? = H[q]?) → XC cls s t)
    (hf : ∀ z ∈ locs, free z.base) (hc : cells + 1 ≤ mc) (hs : slots + 6 ≤ ms) :
    W p l e R s m args below meth c H locs cells slots (vx_MQ below Qc XC args s mc ms free) (F0 m pc ls rest) := by
  intro T hT X
  have htr : e.platform.stackTraces = false := (show e.platform.stackTraces = l.stackTraces by rw [X.admits.platform]).trans hl
  have Y := vx_rebase X (R' := { frames := R.frames, locals := R.locals, cells := 1, slots := 6 }) (Nat.le_refl _) (Nat.le_refl _) hRcells hRslots
  obtain ⟨s', hA⟩ : ∃ z, z = (T.setVm s.vm).setFrames (.invoking m args :: below) := ⟨_, rfl⟩
  rw [← hA] at Y
  have hvm : s'.vm = s.vm := by rw [hA]; rfl
  have hhp : s'.heap = H := by rw [hA]; exact hT
  have hW0 : s.WarmedH s'.vm := by rw [hvm]; exact State.WarmedH.refl s
  have hat' : ∀ w ∈ vx_at0 own ic cls names, w.before args s' = true := fun w hw => vx_ot_at hW0 hvm.symm (hgood w (List.mem_cons_of_mem _ (List.mem_cons_of_mem _ hw))) (hat w hw)
  have hk' : (Cond.classLink own ik cls).before args s' = true := vx_ot_at hW0 hvm.symm (hgood _ List.mem_cons_self) hk
  have hini' : (Cond.initialized cls).before args s' = true := vx_ot_at hW0 hvm.symm (hgood _ (List.mem_cons_of_mem _ List.mem_cons_self)) hini
  have hU' : vx_Zq Bundle.tN "UNASSIGNED_STACK" Bundle.steD A s' s'.heap := by rw [hhp]; exact vx_Zq.moved hW0.alike (hU.kept hS.2.1)
  have hN' : vx_Zq Bundle.tN "SUPPRESSED_SENTINEL" Bundle.listD A s' s'.heap := by rw [hhp]; exact vx_Zq.moved hW0.alike (hN.kept hS.2.1)
  have h : ∀ w ∈ Bundle.ownAtoms0 own ic cls names, w.before args s' = true := vx_own hat' (vx_isRefq hU'.1) (vx_isRefq hN'.1) hU'.2.word hN'.2.word
  have hown' : s'.vm.findClass own = some m.cls := by rw [hvm]; exact hown
  have hins : (Cond.instantiable cls 6).before args s' = true := h _ (by simp [Bundle.ownAtoms0])
  obtain ⟨vm₁, cX, kX, hfX, hkX, -, -, X₁, st1⟩ := Y.newCold hexec (own := own) (C := cls) (index := ik) (n := 6) hown' hk' hins hini'
    (g := F0 m pc ls rest) rfl (by rw [hb]; exact d0) (Nat.le_refl _) (Nat.le_refl _)
  generalize hT1 : (T.setVm vm₁).pushCell { cls := cX, slots := kX.instanceTypes.map defaultValue, vm := .none } = T1 at X₁ st1
  have hcat : (Value.ref T.heap.size).category = 1 := rfl
  have hcellA : T1.heap[T.heap.size]? = some (freshCell cX kX) := by rw [← hT1]; exact State.heap_pushCell_size _ _
  have d3' : decode c.code (pc + 3) = .ok (.dup, 1) := by rw [hb]; exact d3
  obtain ⟨U, hsteps, hrun, hend, hW, hsame, ce, hce, hO⟩ := X₁.ctorThrow0 hexec htr (own := own) (cls := cls) (names := names) (ic := ic) hown' hcls hnames h (fun x hx => nomatch hx) hfX hkX hcellA (by rw [hhp, hT]; exact Nat.le_refl _)
    (g := { method := m, pc := pc + 4, locals := ls, stack := .ref T.heap.size :: .ref T.heap.size :: rest, locked := none }) rfl hsize rfl rfl (rest := rest) rfl
    (by rw [hb]; exact d4) (by rw [hb]; exact d7) hout hRframes (by simp only [List.map_cons, List.sum_cons, hcat]; omega) hlocks
  obtain ⟨f1, f2⟩ := vx_frame hsame
  rw [hhp] at f1 f2
  have hWs : s.WarmedH U.vm := State.WarmedH.trans hW0 hW
  have hcl : s.vm.findClass cls = some ce.cls := by
    have h9 := hO.cls
    rw [hvm] at h9
    exact h9
  have hall : s.sameButNew ({ U with vm := s.vm } : State) locs mc ms := by
    subst hA
    obtain ⟨e1, e2⟩ := hsame
    rw [State.setFrames_setFrames] at e1
    have h2 : (T.setVm s.vm).sameButNew ({ U with vm := s.vm } : State) [] (0 + 1) (0 + 6) := ⟨e1, e2⟩
    have h3 := X.same.trans h2
    rw [List.append_nil] at h3
    exact h3.mono hc hs
  refine ⟨U, ?_, .threw T.heap.size, hrun, hend, Or.inr ⟨T.heap.size, rfl, cls, ce, locs, hx U hWs.alike f1 (fun q hq => f2 q hq (fun z hz => nomatch hz)), hce, hO.vm, hcl, hWs, hall, hf⟩⟩
  refine st1 _ ?_
  show Steps p.tables e below (T1.setTop { method := m, pc := pc + 3, locals := ls, stack := .ref T.heap.size :: rest, locked := none }) _
  jvm_step X₁.here [X₁.here.top, hexec, d3', Value.category]
  exact hsteps
/-- 'throw new E("text")': new; dup; ldc; invokespecial; athrow -/
theorem vx_throwS {cc : ByteArray} {pc : Nat} (hexec : p.tables.exec = Jvm.exec) (hb : c.code = cc) (hl : l.stackTraces = false) {own cls text : String} {names : List String} {ik is ic mc ms sa : Nat} {A : Nat → Prop}
    (hown : s.vm.findClass own = some m.cls) (hcls : Bundle.fit cls = true) (hnames : ∀ n ∈ names, Bundle.fit n = true)
    (hk : (Cond.classLink own ik cls).before args s = true) (hini : (Cond.initialized cls).before args s = true) (hstr : vk_R own is text sa s) (hat : ∀ w ∈ vx_atS own ic cls names, w.before args s = true)
    (hgood : ∀ w ∈ Cond.classLink own ik cls :: Cond.initialized cls :: vx_atS own ic cls names, vx_ot w = true)
    (hU : vx_Zq Bundle.tN "UNASSIGNED_STACK" Bundle.steD A s s.heap) (hN : vx_Zq Bundle.tN "SUPPRESSED_SENTINEL" Bundle.listD A s s.heap) (hS : va_S A s.heap H locs) (hsize : ls.size = c.maxLocals)
    (d0 : decode cc pc = .ok (.new ik, 3)) (d3 : decode cc (pc + 3) = .ok (.dup, 1)) (d4 : decode cc (pc + 4) = .ok (.ldc is, 2)) (d6 : decode cc (pc + 6) = .ok (.invokespecial ic, 3)) (d9 : decode cc (pc + 9) = .ok (.athrow, 1))
    (hout : ∀ x ∈ c.exceptionTable.toList, covers x (pc + 9) = false)
    (hRframes : names.length + 3 < R.frames) (hRlocals : (rest.map fun v => v.category).sum + (13 * (names.length + 1) + 43) ≤ R.locals) (hRcells : cells + 1 ≤ R.cells) (hRslots : slots + 6 ≤ R.slots) (hlocks : meth.locks = false)
    (hx : ∀ t : State, s.vm.Alike t.vm → H.size ≤ t.heap.size → (∀ q : Nat, q < H.size → t.heap[q]? = H[q]?) → XC cls s t)
    (hf : ∀ z ∈ locs, free z.base) (hc : cells + 1 ≤ mc) (hs : slots + 6 ≤ ms) :
    W p l e R s m args below meth c H locs cells slots (vx_MQ below Qc XC args s mc ms free) (F0 m pc ls rest) := by
  intro T hT X
  have htr : e.platform.stackTraces = false := (show e.platform.stackTraces = l.stackTraces by rw [X.admits.platform]).trans hl
  have Y := vx_rebase X (R' := { frames := R.frames, locals := R.locals, cells := 1, slots := 6 }) (Nat.le_refl _) (Nat.le_refl _) hRcells hRslots
  obtain ⟨s', hA⟩ : ∃ z, z = (T.setVm s.vm).setFrames (.invoking m args :: below) := ⟨_, rfl⟩
  rw [← hA] at Y
  have hvm : s'.vm = s.vm := by rw [hA]; rfl
  have hhp : s'.heap = H := by rw [hA]; exact hT
  have hW0 : s.WarmedH s'.vm := by rw [hvm]; exact State.WarmedH.refl s
  have hat' : ∀ w ∈ vx_atS own ic cls names, w.before args s' = true := fun w hw => vx_ot_at hW0 hvm.symm (hgood w (List.mem_cons_of_mem _ (List.mem_cons_of_mem _ hw))) (hat w hw)
  have hk' : (Cond.classLink own ik cls).before args s' = true := vx_ot_at hW0 hvm.symm (hgood _ List.mem_cons_self) hk
  have hini' : (Cond.initialized cls).before args s' = true := vx_ot_at hW0 hvm.symm (hgood _ (List.mem_cons_of_mem _ List.mem_cons_self)) hini
  have hU' : vx_Zq Bundle.tN "UNASSIGNED_STACK" Bundle.steD A s' s'.heap := by rw [hhp]; exact vx_Zq.moved hW0.alike (hU.kept hS.2.1)
  have hN' : vx_Zq Bundle.tN "SUPPRESSED_SENTINEL" Bundle.listD A s' s'.heap := by rw [hhp]; exact vx_Zq.moved hW0.alike (hN.kept hS.2.1)
  have h : ∀ w ∈ Bundle.ownAtoms own ic cls names, w.before args s' = true := vx_own hat' (vx_isRefq hU'.1) (vx_isRefq hN'.1) hU'.2.word hN'.2.word
  have hown' : s'.vm.findClass own = some m.cls := by rw [hvm]; exact hown
  have hins : (Cond.instantiable cls 6).before args s' = true := h _ (by simp [Bundle.ownAtoms])
  obtain ⟨vm₁, cX, kX, hfX, hkX, -, -, X₁, st1⟩ := Y.newCold hexec (own := own) (C := cls) (index := ik) (n := 6) hown' hk' hins hini'
    (g := F0 m pc ls rest) rfl (by rw [hb]; exact d0) (Nat.le_refl _) (Nat.le_refl _)
  generalize hT1 : (T.setVm vm₁).pushCell { cls := cX, slots := kX.instanceTypes.map defaultValue, vm := .none } = T1 at X₁ st1
  have hcat : (Value.ref T.heap.size).category = 1 := rfl
  have hcellA : T1.heap[T.heap.size]? = some (freshCell cX kX) := by rw [← hT1]; exact State.heap_pushCell_size _ _
  have d3' : decode c.code (pc + 3) = .ok (.dup, 1) := by rw [hb]; exact d3
  have d4' : decode c.code (pc + 4) = .ok (.ldc is, 2) := by rw [hb]; exact d4
  have hstr' : vk_R own is text sa s' := vk_R.warm hW0 hstr
  obtain ⟨U, hsteps, hrun, hend, hW, hsame, ce, hce, hO⟩ := X₁.ctorThrowS hexec htr (own := own) (cls := cls) (names := names) (ic := ic) hown' hcls hnames h (fun x hx => nomatch hx) hfX hkX hcellA (by rw [hhp, hT]; exact Nat.le_refl _) (msg := .ref sa) rfl
    (g := { method := m, pc := pc + 6, locals := ls, stack := .ref sa :: .ref T.heap.size :: .ref T.heap.size :: rest, locked := none }) rfl hsize rfl rfl (rest := rest) rfl
    (by rw [hb]; exact d6) (by rw [hb]; exact d9) hout hRframes (by simp only [List.map_cons, List.sum_cons, hcat]; omega) hlocks
  obtain ⟨f1, f2⟩ := vx_frame hsame
  rw [hhp] at f1 f2
  have hWs : s.WarmedH U.vm := State.WarmedH.trans hW0 hW
  have hcl : s.vm.findClass cls = some ce.cls := by
    have h9 := hO.cls
    rw [hvm] at h9
    exact h9
  have hall : s.sameButNew ({ U with vm := s.vm } : State) locs mc ms := by
    subst hA
    obtain ⟨e1, e2⟩ := hsame
    rw [State.setFrames_setFrames] at e1
    have h2 : (T.setVm s.vm).sameButNew ({ U with vm := s.vm } : State) [] (0 + 1) (0 + 6) := ⟨e1, e2⟩
    have h3 := X.same.trans h2
    rw [List.append_nil] at h3
    exact h3.mono hc hs
  refine ⟨U, ?_, .threw T.heap.size, hrun, hend, Or.inr ⟨T.heap.size, rfl, cls, ce, locs, hx U hWs.alike f1 (fun q hq => f2 q hq (fun z hz => nomatch hz)), hce, hO.vm, hcl, hWs, hall, hf⟩⟩
  refine st1 _ ?_
  show Steps p.tables e below (T1.setTop { method := m, pc := pc + 3, locals := ls, stack := .ref T.heap.size :: rest, locked := none }) _
  jvm_step X₁.here [X₁.here.top, hexec, d3', Value.category]
  exact X₁.ldcString hexec (own := own) (text := text) (index := is) (a := sa) hown' hstr'.1 hstr'.2
    (g := { method := m, pc := pc + 4, locals := ls, stack := .ref T.heap.size :: .ref T.heap.size :: rest, locked := none }) rfl d4' _ hsteps
/-- 'throw new E("text")', the text by a wide index -/
theorem vx_throwSW {cc : ByteArray} {pc : Nat} (hexec : p.tables.exec = Jvm.exec) (hb : c.code = cc) (hl : l.stackTraces = false) {own cls text : String} {names : List String} {ik is ic mc ms sa : Nat} {A : Nat → Prop}
    (hown : s.vm.findClass own = some m.cls) (hcls : Bundle.fit cls = true) (hnames : ∀ n ∈ names, Bundle.fit n = true)
    (hk : (Cond.classLink own ik cls).before args s = true) (hini : (Cond.initialized cls).before args s = true) (hstr : vk_R own is text sa s) (hat : ∀ w ∈ vx_atS own ic cls names, w.before args s = true)
    (hgood : ∀ w ∈ Cond.classLink own ik cls :: Cond.initialized cls :: vx_atS own ic cls names, vx_ot w = true)
    (hU : vx_Zq Bundle.tN "UNASSIGNED_STACK" Bundle.steD A s s.heap) (hN : vx_Zq Bundle.tN "SUPPRESSED_SENTINEL" Bundle.listD A s s.heap) (hS : va_S A s.heap H locs) (hsize : ls.size = c.maxLocals)
    (d0 : decode cc pc = .ok (.new ik, 3)) (d3 : decode cc (pc + 3) = .ok (.dup, 1)) (d4 : decode cc (pc + 4) = .ok (.ldc_w is, 3)) (d7 : decode cc (pc + 7) = .ok (.invokespecial ic, 3)) (d10 : decode cc (pc + 10) = .ok (.athrow, 1))
    (hout : ∀ x ∈ c.exceptionTable.toList, covers x (pc + 10) = false)
    (hRframes : names.length + 3 < R.frames) (hRlocals : (rest.map fun v => v.category).sum + (13 * (names.length + 1) + 43) ≤ R.locals) (hRcells : cells + 1 ≤ R.cells) (hRslots : slots + 6 ≤ R.slots) (hlocks : meth.locks = false)
    (hx : ∀ t : State, s.vm.Alike t.vm → H.size ≤ t.heap.size → (∀ q : Nat, q < H.size → t.heap[q]? = H[q]?) → XC cls s t)
    (hf : ∀ z ∈ locs, free z.base) (hc : cells + 1 ≤ mc) (hs : slots + 6 ≤ ms) :
    W p l e R s m args below meth c H locs cells slots (vx_MQ below Qc XC args s mc ms free) (F0 m pc ls rest) := by
  intro T hT X
  have htr : e.platform.stackTraces = false := (show e.platform.stackTraces = l.stackTraces by rw [X.admits.platform]).trans hl
  have Y := vx_rebase X (R' := { frames := R.frames, locals := R.locals, cells := 1, slots := 6 }) (Nat.le_refl _) (Nat.le_refl _) hRcells hRslots
  obtain ⟨s', hA⟩ : ∃ z, z = (T.setVm s.vm).setFrames (.invoking m args :: below) := ⟨_, rfl⟩
  rw [← hA] at Y
  have hvm : s'.vm = s.vm := by rw [hA]; rfl
  have hhp : s'.heap = H := by rw [hA]; exact hT
  have hW0 : s.WarmedH s'.vm := by rw [hvm]; exact State.WarmedH.refl s
  have hat' : ∀ w ∈ vx_atS own ic cls names, w.before args s' = true := fun w hw => vx_ot_at hW0 hvm.symm (hgood w (List.mem_cons_of_mem _ (List.mem_cons_of_mem _ hw))) (hat w hw)
  have hk' : (Cond.classLink own ik cls).before args s' = true := vx_ot_at hW0 hvm.symm (hgood _ List.mem_cons_self) hk
  have hini' : (Cond.initialized cls).before args s' = true := vx_ot_at hW0 hvm.symm (hgood _ (List.mem_cons_of_mem _ List.mem_cons_self)) hini
  have hU' : vx_Zq Bundle.tN "UNASSIGNED_STACK" Bundle.steD A s' s'.heap := by rw [hhp]; exact vx_Zq.moved hW0.alike (hU.kept hS.2.1)
  have hN' : vx_Zq Bundle.tN "SUPPRESSED_SENTINEL" Bundle.listD A s' s'.heap := by rw [hhp]; exact vx_Zq.moved hW0.alike (hN.kept hS.2.1)
  have h : ∀ w ∈ Bundle.ownAtoms own ic cls names, w.before args s' = true := vx_own hat' (vx_isRefq hU'.1) (vx_isRefq hN'.1) hU'.2.word hN'.2.word
  have hown' : s'.vm.findClass own = some m.cls := by rw [hvm]; exact hown
  have hins : (Cond.instantiable cls 6).before args s' = true := h _ (by simp [Bundle.ownAtoms])
  obtain ⟨vm₁, cX, kX, hfX, hkX, -, -, X₁, st1⟩ := Y.newCold hexec (own := own) (C := cls) (index := ik) (n := 6) hown' hk' hins hini'
    (g := F0 m pc ls rest) rfl (by rw [hb]; exact d0) (Nat.le_refl _) (Nat.le_refl _)
  generalize hT1 : (T.setVm vm₁).pushCell { cls := cX, slots := kX.instanceTypes.map defaultValue, vm := .none } = T1 at X₁ st1
  have hcat : (Value.ref T.heap.size).category = 1 := rfl
  have hcellA : T1.heap[T.heap.size]? = some (freshCell cX kX) := by rw [← hT1]; exact State.heap_pushCell_size _ _
  have d3' : decode c.code (pc + 3) = .ok (.dup, 1) := by rw [hb]; exact d3
  have d4' : decode c.code (pc + 4) = .ok (.ldc_w is, 3) := by rw [hb]; exact d4
  have hstr' : vk_R own is text sa s' := vk_R.warm hW0 hstr
  obtain ⟨U, hsteps, hrun, hend, hW, hsame, ce, hce, hO⟩ := X₁.ctorThrowS hexec htr (own := own) (cls := cls) (names := names) (ic := ic) hown' hcls hnames h (fun x hx => nomatch hx) hfX hkX hcellA (by rw [hhp, hT]; exact Nat.le_refl _) (msg := .ref sa) rfl
    (g := { method := m, pc := pc + 7, locals := ls, stack := .ref sa :: .ref T.heap.size :: .ref T.heap.size :: rest, locked := none }) rfl hsize rfl rfl (rest := rest) rfl
    (by rw [hb]; exact d7) (by rw [hb]; exact d10) hout hRframes (by simp only [List.map_cons, List.sum_cons, hcat]; omega) hlocks
  obtain ⟨f1, f2⟩ := vx_frame hsame
  rw [hhp] at f1 f2
  have hWs : s.WarmedH U.vm := State.WarmedH.trans hW0 hW
  have hcl : s.vm.findClass cls = some ce.cls := by
    have h9 := hO.cls
    rw [hvm] at h9
    exact h9
  have hall : s.sameButNew ({ U with vm := s.vm } : State) locs mc ms := by
    subst hA
    obtain ⟨e1, e2⟩ := hsame
    rw [State.setFrames_setFrames] at e1
    have h2 : (T.setVm s.vm).sameButNew ({ U with vm := s.vm } : State) [] (0 + 1) (0 + 6) := ⟨e1, e2⟩
    have h3 := X.same.trans h2
    rw [List.append_nil] at h3
    exact h3.mono hc hs
  refine ⟨U, ?_, .threw T.heap.size, hrun, hend, Or.inr ⟨T.heap.size, rfl, cls, ce, locs, hx U hWs.alike f1 (fun q hq => f2 q hq (fun z hz => nomatch hz)), hce, hO.vm, hcl, hWs, hall, hf⟩⟩
  refine st1 _ ?_
  show Steps p.tables e below (T1.setTop { method := m, pc := pc + 3, locals := ls, stack := .ref T.heap.size :: rest, locked := none }) _
  jvm_step X₁.here [X₁.here.top, hexec, d3', Value.category]
  exact X₁.ldcStringW hexec (own := own) (text := text) (index := is) (a := sa) hown' hstr'.1 hstr'.2
    (g := { method := m, pc := pc + 4, locals := ls, stack := .ref T.heap.size :: .ref T.heap.size :: rest, locked := none }) rfl d4' _ hsteps
end Ends
section Bodies
variable {l : Launch}
theorem vx_ofW {y : MethodName} {ws ws' : List Cond} {rm : Room} {Pc : Array Value → State → Prop} {Qc : Array Value → State → Outcome → State → Prop} {XC : String → State → State → Prop} {mc ms : Nat} {free : Addr → Prop} {cc : ByteArray} {maxL : Nat} {ret : Option FieldType}
    (hy : plainName y.cls = true) (hw : ws = Cond.code y cc maxL ret :: ws')
    (body : ∀ p e s m args below meth c s₁, BodyLoose p l y (headSpec ws rm) cc maxL ret e s m args below meth c s₁ → c.maxLocals = maxL → (∀ x ∈ c.exceptionTable.toList, False) → Pc args s →
      W p l e (headSpec ws rm).room s m args below meth c s.heap [] 0 0 (vx_MQ below Qc XC args s mc ms free) (entryFrame m args maxL)) : vx_Met l y ws rm Pc Qc XC mc ms free := by
  refine MetFree.of_bodyS (code := cc) (maxLocals := maxL) (ret := ret) hy ?_ ?_
  · intro args s m h hn
    obtain ⟨meth, c, h1, h2, h3, h4, h5, h6, -, -⟩ := Cond.code_spec hn (atoms_spec (ws := ws) h _ (by rw [hw]; exact List.mem_cons_self))
    exact ⟨meth, c, h1, h2, h3, h4, h5, h6⟩
  · intro p e s m args below meth c s₁ B hml hP _
    have hh0 : s₁.heap = s.heap := by rw [B.state]; rfl
    have ht : ∀ x ∈ c.exceptionTable.toList, False := by
      obtain ⟨meth9, c9, h1, h2, -, -, -, -, h7, -⟩ := Cond.code_spec B.named (atoms_spec (ws := ws) B.pre _ (by rw [hw]; exact List.mem_cons_self))
      cases Option.some.inj (h1.symm.trans B.method)
      cases Option.some.inj (h2.symm.trans (Stand.of_body B).code)
      intro x hx
      rw [Array.isEmpty_iff.mp h7] at hx
      cases hx
    obtain ⟨t, a1, o, b1, b2, b3⟩ := body p e s m args below meth c s₁ B hml ht hP s₁ hh0 (Stand.of_body B)
    exact ⟨t, o, a1, b1, b2, b3⟩
/-- the table of a body with handlers -/
theorem vx_table {p : Program} {x y : MethodName} {S : Spec} {cc bytes : ByteArray} {maxL maxL' : Nat} {ret ret' : Option FieldType} {e : Env} {s s₁ : State} {m : MethodId} {args : Array Value} {below : List Frame} {meth : Method} {c : Code} {hh : List (Nat × Nat × Nat × Nat)}
    (B : BodyLoose p l y S cc maxL ret e s m args below meth c s₁) (h : (Cond.codeWith y bytes maxL' ret' hh).before args s = true) : c.exceptionTable.toList = tableOf hh := by
  obtain ⟨m9, meth9, c9, hn9, h1, h2, -, -, h6, -⟩ := Cond.codeWith_spec h
  cases Option.some.inj (hn9.symm.trans B.named)
  cases Option.some.inj (h1.symm.trans B.method)
  cases Option.some.inj (h2.symm.trans (Stand.of_body B).code)
  rw [← h6, table_eq]
end Bodies
end VXA
/-! ===== END ===== -/
/-! ===== BEGIN a static call of a method with an exception table ===== -/
section VXS
variable {p : Program} {l : Launch} {e : Env} {R : Room} {s : State} {m : MethodId} {args : Array Value} {below : List Frame} {meth : Method} {c : Code} {T : State} {H : Heap} {locs : List Loc} {cells slots : Nat}
abbrev vx_CSW (R : Room) (s : State) (args : Array Value) (own : String) (index : Nat) (y : MethodName) (bytes : ByteArray) (maxL : Nat) (ret : Option FieldType) (hh : List (Nat × Nat × Nat × Nat)) (ws : List Cond) (rm : Room) (mc ms n : Nat) : Prop :=
  (rm.cells = mc ∧ rm.slots = ms ∧ rm.frames + 1 ≤ R.frames ∧ 8 + (maxL + 11) + rm.locals ≤ R.locals ∧ (∀ w ∈ ws, ∀ (a' : Array Value) (U : State), s.WarmedH U.vm → w.before a' U = true) ∧ Cond.codeWith y bytes maxL ret hh ∈ ws) ∧
  (Cond.codeWith y bytes maxL ret hh).before args s = true ∧ (Cond.initialized y.cls).before args s = true ∧ (y.cls ≠ "java/lang/invoke/MethodHandle" ∧ y.cls ≠ "java/lang/invoke/VarHandle") ∧
  (∀ sig, parseMethodDescriptor y.desc = some sig → n = sig.parameters.length) ∧ (Cond.methodLink own index y).before args s = true ∧ (Cond.static y).before args s = true
theorem vx_cwSW {own : String} {index maxL mc ms : Nat} {y : MethodName} {bytes : ByteArray} {ret : Option FieldType} {hh : List (Nat × Nat × Nat × Nat)} {Ts ws ws' : List Cond} {rm : Room} (n : Nat) (ht : ∀ w ∈ Ts, w.before args s = true) (hT : GoodIn Ts (va_wsS own index y ws)) (hw : ws = Cond.codeWith y bytes maxL ret hh :: ws') (hrc : rm.cells = mc) (hrs : rm.slots = ms)
    (hd : y.cls ≠ "java/lang/invoke/MethodHandle" ∧ y.cls ≠ "java/lang/invoke/VarHandle" ∧ (parseMethodDescriptor y.desc).map (fun d => d.parameters.length) = some n) (hR : rm.frames + 1 ≤ R.frames ∧ 8 + (maxL + 11) + rm.locals ≤ R.locals) :
    vx_CSW R s args own index y bytes maxL ret hh ws rm mc ms n := by
  have ok : ∀ w ∈ va_wsS own index y ws, w.before args s = true := fun w h => ht w (hT w h).1
  have hG : GoodIn Ts ws := fun w h => hT w (by unfold va_wsS; exact List.mem_append_right _ h)
  have hc : Cond.codeWith y bytes maxL ret hh ∈ ws := by rw [hw]; exact List.mem_cons_self
  refine ⟨⟨hrc, hrs, hR.1, hR.2, pay_in ht hG, hc⟩, ht _ (hG _ hc).1, ok _ (by simp [va_wsS]), ⟨hd.1, hd.2.1⟩, fun sig h => ?_, ok _ (by simp [va_wsS]), ok _ (by simp [va_wsS])⟩
  have h2 := hd.2.2
  rw [h] at h2
  exact (Option.some.inj h2).symm
theorem vx_callSW (X : Stand p l e R s m args below meth c T locs cells slots) (hexec : p.tables.exec = Jvm.exec) {own : String} {index : Nat} {y : MethodName} {bytes : ByteArray} {maxL : Nat} {ret : Option FieldType} {hh : List (Nat × Nat × Nat × Nat)}
    (hown : s.vm.findClass own = some m.cls) (hlink : (Cond.methodLink own index y).before args s = true) (hstat : (Cond.static y).before args s = true) (hinit : (Cond.initialized y.cls).before args s = true)
    (hcode : (Cond.codeWith y bytes maxL ret hh).before args s = true) (hy : y.cls ≠ "java/lang/invoke/MethodHandle" ∧ y.cls ≠ "java/lang/invoke/VarHandle")
    {W9 : Nat} {Pre : Pt → Array Value → Prop} {Post : Pt → Array Value → Option Value → Pt → Prop} (hK : Back l R p e below s args y 3 W9 Pre Post)
    {g : JFrame} (hg : g.method = m) (hsize : g.locals.size = c.maxLocals) {argsL rest : List Value} (hlen : ∀ sig, parseMethodDescriptor y.desc = some sig → argsL.length = sig.parameters.length)
    (hstack : g.stack = argsL.reverse ++ rest) (hW : 2 * g.monitorRoom + (rest.map fun v => v.category).sum ≤ W9) (hdg : decode c.code g.pc = .ok (.invokestatic index, 3))
    (hpre : ∀ vm₁, s.WarmedH vm₁ → Pre ⟨T.setVm vm₁, locs, cells, slots⟩ argsL.toArray) :
    ∃ (v : Option Value) (vm₁ : Vm) (B : Pt), s.WarmedH vm₁ ∧ Stand p l e R s m args below meth c B.U B.locs B.cells B.slots ∧ Post ⟨T.setVm vm₁, locs, cells, slots⟩ argsL.toArray v B ∧
      ∀ target, Steps p.tables e below (B.U.setTop { g with pc := g.pc + 3, stack := v.toList ++ rest }) target → Steps p.tables e below (T.setTop g) target := by
  obtain ⟨mk, methM, cM, hnamed, hmethM, -, -, -, -, -, -, hsigM⟩ := Cond.codeWith_spec hcode
  have hstatic : methM.isStatic = true := Cond.static_spec hnamed hmethM hstat
  obtain ⟨kP, hkP, -⟩ := className_of_methodNamed hnamed
  have hinitP : kP.init = .initialized := Cond.initialized_spec (findClass_of_methodNamed hnamed) hkP hinit
  obtain ⟨vm₁, X₁, hstep₁⟩ := X.invokestatic hexec hown hlink hnamed hmethM hstatic hkP hinitP hy (g := g) hg (argsL := argsL) (rest := rest) (hlen _ hsigM) hstack hdg
  obtain ⟨v, B, X', hpost, hsteps⟩ := hK m meth c ⟨T.setVm vm₁, locs, cells, slots⟩ { g with stack := rest } (.invokestatic index) mk argsL.toArray X₁ hg hsize hdg hW (X₁.named hnamed) (hpre vm₁ X₁.warmed)
  exact ⟨v, vm₁, B, X₁.warmed, X', hpost, fun target h => hstep₁ _ fun acts => by rw [doInvoke_state]; exact hsteps.trans h⟩
theorem vx_runSW {y : MethodName} {bytes cc : ByteArray} {maxL nL mc ms n index : Nat} {ret : Option FieldType} {hh : List (Nat × Nat × Nat × Nat)} {ws : List Cond} {rm : Room} {Pc : Array Value → State → Prop} {Qc : Array Value → State → Outcome → State → Prop} {free : Addr → Prop} {Ts : List Cond} {own : String} {As rest : List Value} {g : JFrame}
    (S : CallFix p m c cc nL s args Ts own) (hM : Met l y ws rm Pc Qc mc ms free) (cw : vx_CSW R s args own index y bytes maxL ret hh ws rm mc ms n) (hp : PreS s H Pc As)
    (hg : g.method = m) (hn : As.length = n) (hsize : g.locals.size = nL) (hstack : g.stack = As.reverse ++ rest) (hW : 2 * g.monitorRoom + (rest.map fun v => v.category).sum ≤ 8) (hdg : decode cc g.pc = .ok (.invokestatic index, 3)) (hf : cells + mc ≤ R.cells ∧ slots + ms ≤ R.slots) :
    va_Run p l e R s m args below meth c H locs cells slots mc ms g rest (Qc As.toArray) (free) := by
  obtain ⟨⟨hrc, hrs, hfr, hlo, hws, hcw⟩, hcode, hini, hy, hlen, hl, hstt⟩ := cw
  have hK : Back l R p e below s args y 3 8 (PreOf R mc ms Pc) (PostOf Qc mc ms free) := va_backW (hh := hh) (bytes := bytes) (maxL := maxL) (ret := ret) hM hp.1 hrc hrs hfr hlo hws hcw (fun a' U hW => word_at hW (Or.inl (by first | rfl | simp [Cond.onTables, Cond.keeps, Cond.steady])) hini)
  obtain ⟨hx, hb, hml, ho, -⟩ := S
  intro T hT X
  obtain ⟨v, vm₁, ⟨U', l2, c2, s2⟩, hW₁, X', ⟨g', mk, t, L, e1, e2, hq, h1, hL, h2, h3⟩, st⟩ := vx_callSW X hx (hh := hh) (bytes := bytes) (maxL := maxL) (ret := ret) ho hl hstt hini hcode hy hK hg (hsize.trans hml.symm) (argsL := As) (rest := rest) (fun sig h => hn.trans (hlen sig h)) hstack hW (by rw [hb]; exact hdg)
    (fun vm₁ hW₁ => ⟨hf.1, hf.2, hp.2 (T.setVm vm₁) hT hW₁⟩)
  dsimp only [Pt.U, Pt.locs, Pt.cells, Pt.slots] at X' e1 e2 h1 h2 h3 st
  subst h1; subst h2; subst h3
  exact ⟨v, (T.setVm vm₁).calling g' mk As.toArray, t, U', L, hT, X', hL, e1, e2, hq, st⟩
/-- not caught here, past rows that name other classes: it goes on to the caller -/
theorem vx_outP {p : Program} {l : Launch} {e : Env} {R : Room} {s : State} {m : MethodId} {args : Array Value} {below : List Frame} {meth : Method} {c : Code} {H : Heap} {locs : List Loc} {cells slots : Nat} {free : Addr → Prop} {ls : Array Slot} {rest : List Value} {Qc : Array Value → State → Outcome → State → Prop} {XC : String → State → State → Prop}
    {pc : Nat} {own E : String} {ce : Cell} {q : Addr} {mc ms : Nat} (hown : s.vm.findClass own = some m.cls) (hlocks : meth.locks = false)
    (hpass : ∀ z ∈ c.exceptionTable.toList, covers z pc = false ∨ (z.catchType ≠ 0 ∧ ∃ nm : String, (Cond.classLink own z.catchType nm).before args s = true ∧ va_Nc E nm s)) (hcell : H[q]? = some ce) (hv : ce.vm = .none) (hcl : s.vm.findClass E = some ce.cls)
    (hx : ∀ t : State, t.heap = H → s.vm.Alike t.vm → XC E s t) (hf : ∀ z ∈ locs, free z.base) (hc : cells ≤ mc) (hs : slots ≤ ms) :
    vx_W p l e R s m args below meth c H locs cells slots (vx_MQ below Qc XC args s mc ms free) (F0 m pc ls rest) q := by
  intro T hT X
  have hpl : e.platform.magicAccessors = ({} : Platform).magicAccessors := by rw [X.admits.platform]
  obtain ⟨vm', hW', X', st⟩ := X.outThrough hlocks q (g := F0 m pc ls rest) rfl rfl rfl (cell := ce) (by rw [hT]; exact hcell) (by rw [hv]; rfl)
    (by obtain ⟨k9, h9, -⟩ := Vm.findClass_spec hcl; exact ⟨k9, h9⟩) (fun z hz => by
      rcases hpass z hz with h | ⟨hz0, nm, hl1, hn1⟩
      · exact Or.inl h
      · obtain ⟨c6, hc6, hcl6⟩ := Cond.classLink_spec hown hl1 e.platform hpl
        obtain ⟨a8, b8, h1, h2, h3⟩ := hn1
        cases Option.some.inj (h1.symm.trans hcl)
        cases Option.some.inj (h2.symm.trans hc6)
        exact Or.inr ⟨hz0, _, hcl6, h3⟩)
  obtain ⟨g₀, hfr⟩ := X'.frames_eq
  have hcell9 : ((T.setVm vm').setFrames (.throwing q :: below)).heap[q]? = some ce := by
    show T.heap[q]? = some ce
    rw [hT]; exact hcell
  have hend : Ended ((T.setVm vm').setFrames (.throwing q :: below)) below (.threw q) := State.frames_setFrames _ (State.cur_lt_of_frames hfr)
  refine ⟨(T.setVm vm').setFrames (.throwing q :: below), ?_, .threw q, X'.here.running, hend, Or.inr ⟨q, rfl, E, ce, locs, hx _ hT (X'.ends _).1.alike, hcell9, hv, hcl, (X'.ends _).1, (X'.ends _).2.mono hc hs, hf⟩⟩
  rw [X.pushThrowing_eq]
  exact st
/-- a thing of a world lies in the heap -/
theorem vx_lt {D : va_G} {cl : List vw_C} {ws : va_W} {H1 : Heap} (h : va_P D cl ws H1) {k : Nat} {q : Nat × va_E} (hk : ws[k]? = some q) : q.1 < H1.size := (h k q hk).lt
end VXS
/-! ===== END ===== -/
/-! ===== BEGIN methods with a table of their own: called by a name, returning or throwing ===== -/
section VXH
/-! vx_backW, vx_callVX, vx_callSX, vx_callVW, vx_runVW, vx_runVX, vx_runSX, vx_ofWH follow the same proofs as their sisters above (Free/Laws.lean, Shelf42/LK1.lean); vx_outP calls Shelf42/NT130.lean (outThrough). -/
section
variable {l : Launch} {R : Room} {p : Program} {e : Env} {below : List Frame} {s : State} {sargs : Array Value} {y : MethodName} {len W9 : Nat}
theorem vx_backW {ws : List Cond} {rm : Room} {Pc : Array Value → State → Prop} {Qc : Array Value → State → Outcome → State → Prop} {XC : String → State → State → Prop} {mc ms : Nat} {free : Addr → Prop} {bytes : ByteArray} {maxL : Nat} {ret : Option FieldType} {hh : List (Nat × Nat × Nat × Nat)}
    (hM : vx_Met l y ws rm Pc Qc XC mc ms free) (hblind : FrameBlind Pc) (hrc : rm.cells = mc) (hrs : rm.slots = ms)
    (hframes : rm.frames + 1 ≤ R.frames) (hlocals : W9 + (maxL + 11) + rm.locals ≤ R.locals)
    (hws : ∀ w ∈ ws, ∀ a' U, s.WarmedH U.vm → w.before a' U = true) (hcode : Cond.codeWith y bytes maxL ret hh ∈ ws) (hinit : ∀ a' U, s.WarmedH U.vm → (Cond.initialized y.cls).before a' U = true) :
    vx_Back l R p e below s sargs y len W9 (PreOf R mc ms Pc) (PostOf Qc mc ms free) (vx_Post XC mc ms free) := by
  intro m meth c A g ig mk a X hg hsize hdg hW hn hp
  have h1 : (headSpec ws rm).pre.before a A.U = true := atoms_intro fun w hw => hws w hw _ _ X.warmed
  have h2 : (Cond.codeWith y bytes maxL ret hh).before a A.U = true := hws _ hcode _ _ X.warmed
  have h3 : (Cond.initialized y.cls).before a A.U = true := hinit _ _ X.warmed
  have h4 : A.cells + (headSpec ws rm).room.cells ≤ R.cells := by rw [show (headSpec ws rm).room.cells = mc from hrc]; exact hp.1
  have h5 : A.slots + (headSpec ws rm).room.slots ≤ R.slots := by rw [show (headSpec ws rm).room.slots = ms from hrs]; exact hp.2.1
  have hPc : Pc a (A.U.calling g mk a) := hblind _ _ _ _ hp.2.2
  obtain ⟨U, Ls, c0, s0⟩ := A
  dsimp only [Pt.U, Pt.locs, Pt.cells, Pt.slots] at h1 h2 h3 h4 h5 X hn hPc ⊢
  obtain ⟨m9, methY, cY, hn9, hmY, hcY, -, hlY, -⟩ := Cond.codeWith_spec h2
  cases Option.some.inj (hn9.symm.trans hn)
  obtain ⟨kY, hkY, -⟩ := className_of_methodNamed hn
  have hinitY : kY.init = .initialized := Cond.initialized_spec (findClass_of_methodNamed hn) hkY h3
  have h : At U g.method c below := by rw [hg]; exact X.here
  have hlocals9 : W9 + (maxL + 11) + (headSpec ws rm).room.locals ≤ R.locals := hlocals
  have happ : (headSpec ws rm).appliesLoose y e.platform (U.calling g mk a) = true :=
    Spec.appliesLoose_calling (g := g) h hdg hn hkY hinitY
      (X.room_calling (g := g) (R' := (headSpec ws rm).room) hsize hmY hcY hframes (by rw [hlY]; omega) h4 h5) h1
  obtain ⟨mid, hmid⟩ := h.above
  have hfr : (U.setTop g).frames = (.java g :: mid) ++ below := by rw [State.frames_setTop' g h.top, hmid]; rfl
  obtain ⟨o, s₂, hsteps, -, hend, hq⟩ := Steps.callFree hM p X.admits X.cas X.clock (acts := []) hfr happ hPc trivial
  have hq' : vx_Q Qc XC mc ms free a (U.calling g mk a) o s₂ := hq
  rw [State.frames_setTop' g h.top] at hend
  obtain ⟨g₀, hg0⟩ := Option.isSome_iff_exists.mp h.top
  obtain ⟨r, hr⟩ := State.topJava?_eq_some.mp hg0
  have hr' : (({ U with heap := s₂.heap, slotsUsed := s₂.slotsUsed } : State).setVm s₂.vm).frames = .java g₀ :: r := hr
  rcases hq' with ⟨hqc, L, hfe, hL⟩ | ⟨q, rfl, E, ce, L, hx, hce, hcv, hcl, hW₂, hsm, hL⟩
  · obtain ⟨⟨v, rfl⟩, hW₂, e2, q2, q3, q4, q5, q6⟩ := id hfe
    have e3 : s₂ = ({ (U.calling g mk a).setFrames s₂.frames with heap := s₂.heap, slotsUsed := s₂.slotsUsed } : State).setVm s₂.vm := by
      have : s₂ = ({ s₂ with vm := (U.calling g mk a).vm } : State).setVm s₂.vm := rfl
      rw [e2] at this
      exact this
    obtain ⟨c₂, i₂, len₂, hc₂, hd₂, hf₂⟩ := hend
    have hW' : U.WarmedH s₂.vm := hW₂
    have hcc : c₂ = c := by
      have h1 : s₂.code? g.method = U.code? g.method := by
        rw [State.code?_eq, State.code?_eq, hW'.alike.method?]
      exact Option.some.inj (hc₂.symm.trans (h1.trans h.code))
    subst hcc
    have hlen : len₂ = len := by rw [hdg] at hd₂; cases hd₂; rfl
    subst hlen
    have hs₂ : s₂ = (({ U with heap := s₂.heap, slotsUsed := s₂.slotsUsed } : State).setVm s₂.vm).setTop { g with pc := g.pc + len₂, stack := v.toList ++ g.stack } := by
      refine e3.trans ?_
      rw [hf₂, State.calling_eq h.top, State.setFrames_setFrames, State.setTop_of_frames _ hr', hr]
      rfl
    have hsame : U.sameButNew ({ U with heap := s₂.heap, slotsUsed := s₂.slotsUsed } : State) L mc ms := by
      refine ⟨?_, q2, q3, q4, q5, q6⟩
      obtain ⟨t, ht, -⟩ := State.frames_cons hr
      show ({ U with heap := s₂.heap, slotsUsed := s₂.slotsUsed } : State) = { U.setFrames U.frames with heap := s₂.heap, slotsUsed := s₂.slotsUsed }
      rw [State.setFrames_self ht]
    subst hg
    refine Or.inl ⟨v, ⟨(({ U with heap := s₂.heap, slotsUsed := s₂.slotsUsed } : State).setVm s₂.vm), Ls ++ L, c0 + mc, s0 + ms⟩,
      ⟨X.admits, X.cas, X.clock, X.frames, X.room, X.hears, X.method, X.code, (X.here.setHeapUsed s₂.heap s₂.slotsUsed).setVm hW'.alike, X.tail, State.WarmedH.trans X.warmed hW', X.limits, X.bytes, X.same.trans (hsame.setVm s.vm)⟩,
      ⟨g, mk, s₂, L, rfl, rfl, hqc, rfl, hL, rfl, rfl⟩, ?_⟩
    show Steps p.tables e below _ ((({ U with heap := s₂.heap, slotsUsed := s₂.slotsUsed } : State).setVm s₂.vm).setTop { g with pc := g.pc + len₂, stack := v.toList ++ g.stack })
    rw [← hs₂]
    exact hsteps
  · obtain ⟨e2, q2, q3, q4, q5, q6⟩ := id hsm
    have e3 : s₂ = ({ (U.calling g mk a).setFrames s₂.frames with heap := s₂.heap, slotsUsed := s₂.slotsUsed } : State).setVm s₂.vm := by
      have : s₂ = ({ s₂ with vm := (U.calling g mk a).vm } : State).setVm s₂.vm := rfl
      rw [e2] at this
      exact this
    have hf₂ : s₂.frames = .throwing q :: .java g :: U.frames.tail := hend
    have hW' : U.WarmedH s₂.vm := hW₂
    have hs₂ : s₂ = ((({ U with heap := s₂.heap, slotsUsed := s₂.slotsUsed } : State).setVm s₂.vm).setTop g).pushFrame (.throwing q) := by
      refine e3.trans ?_
      rw [hf₂, State.calling_eq h.top, State.setFrames_setFrames, State.pushFrame, State.frames_setTop _ hr', State.setTop_of_frames _ hr', State.setFrames_setFrames, hr]
      rfl
    have hsame : U.sameButNew ({ U with heap := s₂.heap, slotsUsed := s₂.slotsUsed } : State) L mc ms := by
      refine ⟨?_, q2, q3, q4, q5, q6⟩
      obtain ⟨t, ht, -⟩ := State.frames_cons hr
      show ({ U with heap := s₂.heap, slotsUsed := s₂.slotsUsed } : State) = { U.setFrames U.frames with heap := s₂.heap, slotsUsed := s₂.slotsUsed }
      rw [State.setFrames_self ht]
    subst hg
    refine Or.inr ⟨q, ⟨(({ U with heap := s₂.heap, slotsUsed := s₂.slotsUsed } : State).setVm s₂.vm), Ls ++ L, c0 + mc, s0 + ms⟩,
      ⟨X.admits, X.cas, X.clock, X.frames, X.room, X.hears, X.method, X.code, (X.here.setHeapUsed s₂.heap s₂.slotsUsed).setVm hW'.alike, X.tail, State.WarmedH.trans X.warmed hW', X.limits, X.bytes, X.same.trans (hsame.setVm s.vm)⟩,
      ⟨g, mk, s₂, L, E, ce, rfl, rfl, hx, hce, hcv, hcl, rfl, hL, rfl, rfl⟩, ?_⟩
    show Steps p.tables e below _ (((({ U with heap := s₂.heap, slotsUsed := s₂.slotsUsed } : State).setVm s₂.vm).setTop g).pushFrame (.throwing q))
    rw [← hs₂]
    exact hsteps
end
variable {p : Program} {l : Launch} {e : Env} {R : Room} {s : State} {m : MethodId} {args : Array Value} {below : List Frame} {meth : Method} {c : Code} {T : State} {H : Heap} {locs : List Loc} {cells slots : Nat}
theorem vx_callVX (X : Stand p l e R s m args below meth c T locs cells slots) (hexec : p.tables.exec = Jvm.exec) {own C : String} {index : Nat} {y : MethodName} {bytes : ByteArray} {maxL : Nat} {ret : Option FieldType} {hh : List (Nat × Nat × Nat × Nat)}
    (hown : s.vm.findClass own = some m.cls) (hlink : (Cond.methodLink own index y).before args s = true) (hinst : (Cond.instanceMethod y).before args s = true) (hsel : (Cond.selects C y y).before args s = true)
    (hcode : (Cond.codeWith y bytes maxL ret hh).before args s = true) (hy : y.cls ≠ "java/lang/invoke/MethodHandle" ∧ y.cls ≠ "java/lang/invoke/VarHandle")
    {W9 : Nat} {Pre : Pt → Array Value → Prop} {Post : Pt → Array Value → Option Value → Pt → Prop} {PostX : Pt → Array Value → Addr → Pt → Prop} (hK : vx_Back l R p e below s args y 3 W9 Pre Post PostX)
    {b : Addr} {cellB : Cell} (hcell : T.heap[b]? = some cellB) (hobj : cellB.vm.isStatics = false) (hcls : s.vm.findClass C = some cellB.cls)
    {g : JFrame} (hg : g.method = m) (hsize : g.locals.size = c.maxLocals) {argsL rest : List Value} (hlen : ∀ sig, parseMethodDescriptor y.desc = some sig → argsL.length = sig.parameters.length)
    (hstack : g.stack = argsL.reverse ++ .ref b :: rest) (hW : 2 * g.monitorRoom + (rest.map fun v => v.category).sum ≤ W9) (hdg : decode c.code g.pc = .ok (.invokevirtual index, 3))
    (hpre : ∀ vm₁, s.WarmedH vm₁ → Pre ⟨T.setVm vm₁, locs, cells, slots⟩ (Value.ref b :: argsL).toArray) :
    (∃ (v : Option Value) (vm₁ : Vm) (B : Pt), s.WarmedH vm₁ ∧ Stand p l e R s m args below meth c B.U B.locs B.cells B.slots ∧ Post ⟨T.setVm vm₁, locs, cells, slots⟩ (Value.ref b :: argsL).toArray v B ∧
      ∀ target, Steps p.tables e below (B.U.setTop { g with pc := g.pc + 3, stack := v.toList ++ rest }) target → Steps p.tables e below (T.setTop g) target) ∨
    (∃ (q : Addr) (vm₁ : Vm) (B : Pt), s.WarmedH vm₁ ∧ Stand p l e R s m args below meth c B.U B.locs B.cells B.slots ∧ PostX ⟨T.setVm vm₁, locs, cells, slots⟩ (Value.ref b :: argsL).toArray q B ∧
      Steps p.tables e below (T.setTop g) ((B.U.setTop { g with stack := rest }).pushFrame (.throwing q))) := by
  obtain ⟨mk, methM, hnamed, hmethM, hstM, habM⟩ := Cond.instanceMethod_spec hinst
  obtain ⟨m8, methM', cM, hn8, hmethM', -, -, -, -, -, -, hsigM⟩ := Cond.codeWith_spec hcode
  cases Option.some.inj (hn8.symm.trans hnamed)
  cases hmethM.symm.trans hmethM'
  obtain ⟨c2, r2, m2, q1, q2, q3, q4, kP, hkP, hkPi⟩ := Cond.selects_spec hsel
  cases hcls.symm.trans q1
  cases (State.methodFound?_of_named hnamed hy).symm.trans q2
  cases hnamed.symm.trans q3
  have hselP : selectMethod e.platform s.vm cellB.cls mk = .method mk := by rw [Launch.admits_selectMethod X.admits]; exact q4
  obtain ⟨vm₁, X₁, hstep₁⟩ := X.invokevirtual hexec hown hlink hnamed hmethM hstM hkP hkPi hy (a := b) (cell := cellB) hcell
    (fun z h => by rw [h] at hobj; cases hobj) hselP hmethM habM hkP hkPi (g := g) hg (argsL := argsL) (rest := rest) (hlen _ hsigM) hstack hdg
  rcases hK m meth c ⟨T.setVm vm₁, locs, cells, slots⟩ { g with stack := rest } (.invokevirtual index) mk (Value.ref b :: argsL).toArray X₁ hg hsize hdg hW (X₁.named hnamed) (hpre vm₁ X₁.warmed) with ⟨v, B, X', hpost, hsteps⟩ | ⟨q, B, X', hpost, hsteps⟩
  · exact Or.inl ⟨v, vm₁, B, X₁.warmed, X', hpost, fun target h => hstep₁ _ fun acts => by rw [doInvoke_state]; exact hsteps.trans h⟩
  · exact Or.inr ⟨q, vm₁, B, X₁.warmed, X', hpost, hstep₁ _ fun acts => by rw [doInvoke_state]; exact hsteps⟩
theorem vx_callSX (X : Stand p l e R s m args below meth c T locs cells slots) (hexec : p.tables.exec = Jvm.exec) {own : String} {index : Nat} {y : MethodName} {bytes : ByteArray} {maxL : Nat} {ret : Option FieldType} {hh : List (Nat × Nat × Nat × Nat)}
    (hown : s.vm.findClass own = some m.cls) (hlink : (Cond.methodLink own index y).before args s = true) (hstat : (Cond.static y).before args s = true) (hinit : (Cond.initialized y.cls).before args s = true)
    (hcode : (Cond.codeWith y bytes maxL ret hh).before args s = true) (hy : y.cls ≠ "java/lang/invoke/MethodHandle" ∧ y.cls ≠ "java/lang/invoke/VarHandle")
    {W9 : Nat} {Pre : Pt → Array Value → Prop} {Post : Pt → Array Value → Option Value → Pt → Prop} {PostX : Pt → Array Value → Addr → Pt → Prop} (hK : vx_Back l R p e below s args y 3 W9 Pre Post PostX)
    {g : JFrame} (hg : g.method = m) (hsize : g.locals.size = c.maxLocals) {argsL rest : List Value} (hlen : ∀ sig, parseMethodDescriptor y.desc = some sig → argsL.length = sig.parameters.length)
    (hstack : g.stack = argsL.reverse ++ rest) (hW : 2 * g.monitorRoom + (rest.map fun v => v.category).sum ≤ W9) (hdg : decode c.code g.pc = .ok (.invokestatic index, 3))
    (hpre : ∀ vm₁, s.WarmedH vm₁ → Pre ⟨T.setVm vm₁, locs, cells, slots⟩ argsL.toArray) :
    (∃ (v : Option Value) (vm₁ : Vm) (B : Pt), s.WarmedH vm₁ ∧ Stand p l e R s m args below meth c B.U B.locs B.cells B.slots ∧ Post ⟨T.setVm vm₁, locs, cells, slots⟩ argsL.toArray v B ∧
      ∀ target, Steps p.tables e below (B.U.setTop { g with pc := g.pc + 3, stack := v.toList ++ rest }) target → Steps p.tables e below (T.setTop g) target) ∨
    (∃ (q : Addr) (vm₁ : Vm) (B : Pt), s.WarmedH vm₁ ∧ Stand p l e R s m args below meth c B.U B.locs B.cells B.slots ∧ PostX ⟨T.setVm vm₁, locs, cells, slots⟩ argsL.toArray q B ∧
      Steps p.tables e below (T.setTop g) ((B.U.setTop { g with stack := rest }).pushFrame (.throwing q))) := by
  obtain ⟨mk, methM, cM, hnamed, hmethM, -, -, -, -, -, -, hsigM⟩ := Cond.codeWith_spec hcode
  have hstatic : methM.isStatic = true := Cond.static_spec hnamed hmethM hstat
  obtain ⟨kP, hkP, -⟩ := className_of_methodNamed hnamed
  have hinitP : kP.init = .initialized := Cond.initialized_spec (findClass_of_methodNamed hnamed) hkP hinit
  obtain ⟨vm₁, X₁, hstep₁⟩ := X.invokestatic hexec hown hlink hnamed hmethM hstatic hkP hinitP hy (g := g) hg (argsL := argsL) (rest := rest) (hlen _ hsigM) hstack hdg
  rcases hK m meth c ⟨T.setVm vm₁, locs, cells, slots⟩ { g with stack := rest } (.invokestatic index) mk argsL.toArray X₁ hg hsize hdg hW (X₁.named hnamed) (hpre vm₁ X₁.warmed) with ⟨v, B, X', hpost, hsteps⟩ | ⟨q, B, X', hpost, hsteps⟩
  · exact Or.inl ⟨v, vm₁, B, X₁.warmed, X', hpost, fun target h => hstep₁ _ fun acts => by rw [doInvoke_state]; exact hsteps.trans h⟩
  · exact Or.inr ⟨q, vm₁, B, X₁.warmed, X', hpost, hstep₁ _ fun acts => by rw [doInvoke_state]; exact hsteps⟩
theorem vx_callVW (X : Stand p l e R s m args below meth c T locs cells slots) (hexec : p.tables.exec = Jvm.exec) {own C : String} {index : Nat} {y : MethodName} {bytes : ByteArray} {maxL : Nat} {ret : Option FieldType} {hh : List (Nat × Nat × Nat × Nat)}
    (hown : s.vm.findClass own = some m.cls) (hlink : (Cond.methodLink own index y).before args s = true) (hinst : (Cond.instanceMethod y).before args s = true) (hsel : (Cond.selects C y y).before args s = true)
    (hcode : (Cond.codeWith y bytes maxL ret hh).before args s = true) (hy : y.cls ≠ "java/lang/invoke/MethodHandle" ∧ y.cls ≠ "java/lang/invoke/VarHandle")
    {W9 : Nat} {Pre : Pt → Array Value → Prop} {Post : Pt → Array Value → Option Value → Pt → Prop} (hK : Back l R p e below s args y 3 W9 Pre Post)
    {b : Addr} {cellB : Cell} (hcell : T.heap[b]? = some cellB) (hobj : cellB.vm.isStatics = false) (hcls : s.vm.findClass C = some cellB.cls)
    {g : JFrame} (hg : g.method = m) (hsize : g.locals.size = c.maxLocals) {argsL rest : List Value} (hlen : ∀ sig, parseMethodDescriptor y.desc = some sig → argsL.length = sig.parameters.length)
    (hstack : g.stack = argsL.reverse ++ .ref b :: rest) (hW : 2 * g.monitorRoom + (rest.map fun v => v.category).sum ≤ W9) (hdg : decode c.code g.pc = .ok (.invokevirtual index, 3))
    (hpre : ∀ vm₁, s.WarmedH vm₁ → Pre ⟨T.setVm vm₁, locs, cells, slots⟩ (Value.ref b :: argsL).toArray) :
    ∃ (v : Option Value) (vm₁ : Vm) (B : Pt), s.WarmedH vm₁ ∧ Stand p l e R s m args below meth c B.U B.locs B.cells B.slots ∧ Post ⟨T.setVm vm₁, locs, cells, slots⟩ (Value.ref b :: argsL).toArray v B ∧
      ∀ target, Steps p.tables e below (B.U.setTop { g with pc := g.pc + 3, stack := v.toList ++ rest }) target → Steps p.tables e below (T.setTop g) target := by
  obtain ⟨mk, methM, hnamed, hmethM, hstM, habM⟩ := Cond.instanceMethod_spec hinst
  obtain ⟨m8, methM', cM, hn8, hmethM', -, -, -, -, -, -, hsigM⟩ := Cond.codeWith_spec hcode
  cases Option.some.inj (hn8.symm.trans hnamed)
  cases hmethM.symm.trans hmethM'
  obtain ⟨c2, r2, m2, q1, q2, q3, q4, kP, hkP, hkPi⟩ := Cond.selects_spec hsel
  cases hcls.symm.trans q1
  cases (State.methodFound?_of_named hnamed hy).symm.trans q2
  cases hnamed.symm.trans q3
  have hselP : selectMethod e.platform s.vm cellB.cls mk = .method mk := by rw [Launch.admits_selectMethod X.admits]; exact q4
  obtain ⟨vm₁, X₁, hstep₁⟩ := X.invokevirtual hexec hown hlink hnamed hmethM hstM hkP hkPi hy (a := b) (cell := cellB) hcell
    (fun z h => by rw [h] at hobj; cases hobj) hselP hmethM habM hkP hkPi (g := g) hg (argsL := argsL) (rest := rest) (hlen _ hsigM) hstack hdg
  obtain ⟨v, B, X', hpost, hsteps⟩ := hK m meth c ⟨T.setVm vm₁, locs, cells, slots⟩ { g with stack := rest } (.invokevirtual index) mk (Value.ref b :: argsL).toArray X₁ hg hsize hdg hW (X₁.named hnamed) (hpre vm₁ X₁.warmed)
  exact ⟨v, vm₁, B, X₁.warmed, X', hpost, fun target h => hstep₁ _ fun acts => by rw [doInvoke_state]; exact hsteps.trans h⟩
abbrev vx_CVW (R : Room) (s : State) (args : Array Value) (own C : String) (index : Nat) (y : MethodName) (bytes : ByteArray) (maxL : Nat) (ret : Option FieldType) (hh : List (Nat × Nat × Nat × Nat)) (ws : List Cond) (rm : Room) (mc ms n : Nat) : Prop :=
  (rm.cells = mc ∧ rm.slots = ms ∧ rm.frames + 1 ≤ R.frames ∧ 8 + (maxL + 11) + rm.locals ≤ R.locals ∧ (∀ w ∈ ws, ∀ (a' : Array Value) (U : State), s.WarmedH U.vm → w.before a' U = true) ∧ Cond.codeWith y bytes maxL ret hh ∈ ws) ∧
  (Cond.codeWith y bytes maxL ret hh).before args s = true ∧ (Cond.initialized y.cls).before args s = true ∧ (y.cls ≠ "java/lang/invoke/MethodHandle" ∧ y.cls ≠ "java/lang/invoke/VarHandle") ∧
  (∀ sig, parseMethodDescriptor y.desc = some sig → n = sig.parameters.length) ∧ (Cond.methodLink own index y).before args s = true ∧ (Cond.instanceMethod y).before args s = true ∧ (Cond.selects C y y).before args s = true
theorem vx_cwVW {own C : String} {index maxL mc ms : Nat} {y : MethodName} {bytes : ByteArray} {ret : Option FieldType} {hh : List (Nat × Nat × Nat × Nat)} {Ts ws ws' : List Cond} {rm : Room} (n : Nat) (ht : ∀ w ∈ Ts, w.before args s = true) (hT : GoodIn Ts (wsV own index C y ws)) (hw : ws = Cond.codeWith y bytes maxL ret hh :: ws') (hrc : rm.cells = mc) (hrs : rm.slots = ms)
    (hd : y.cls = C ∧ y.cls ≠ "java/lang/invoke/MethodHandle" ∧ y.cls ≠ "java/lang/invoke/VarHandle" ∧ (parseMethodDescriptor y.desc).map (fun d => d.parameters.length) = some n) (hR : rm.frames + 1 ≤ R.frames ∧ 8 + (maxL + 11) + rm.locals ≤ R.locals) :
    vx_CVW R s args own C index y bytes maxL ret hh ws rm mc ms n := by
  obtain ⟨hC, hd⟩ := hd
  subst hC
  have ok : ∀ w ∈ wsV own index y.cls y ws, w.before args s = true := fun w h => ht w (hT w h).1
  have hG : GoodIn Ts ws := fun w h => hT w (by unfold wsV; exact List.mem_append_right _ h)
  have hc : Cond.codeWith y bytes maxL ret hh ∈ ws := by rw [hw]; exact List.mem_cons_self
  refine ⟨⟨hrc, hrs, hR.1, hR.2, pay_in ht hG, hc⟩, ht _ (hG _ hc).1, ok _ (by simp [wsV]), ⟨hd.1, hd.2.1⟩, fun sig h => ?_, ok _ (by simp [wsV]), ok _ (by simp [wsV]), ok _ (by simp [wsV])⟩
  have h2 := hd.2.2
  rw [h] at h2
  exact (Option.some.inj h2).symm
theorem vx_runVW {y : MethodName} {bytes cc : ByteArray} {maxL nL mc ms n index : Nat} {ret : Option FieldType} {hh : List (Nat × Nat × Nat × Nat)} {ws : List Cond} {rm : Room} {Pc : Array Value → State → Prop} {Qc : Array Value → State → Outcome → State → Prop} {free : Addr → Prop} {Ts : List Cond} {own C : String} {b : Addr} {As rest : List Value} {g : JFrame}
    (S : CallFix p m c cc nL s args Ts own) (hM : Met l y ws rm Pc Qc mc ms free) (cw : vx_CVW R s args own C index y bytes maxL ret hh ws rm mc ms n) (hp : PreV s H C b Pc As)
    (hg : g.method = m) (hn : As.length = n) (hsize : g.locals.size = nL) (hstack : g.stack = As.reverse ++ .ref b :: rest) (hW : 2 * g.monitorRoom + (rest.map fun v => v.category).sum ≤ 8) (hdg : decode cc g.pc = .ok (.invokevirtual index, 3)) (hf : cells + mc ≤ R.cells ∧ slots + ms ≤ R.slots) :
    va_Run p l e R s m args below meth c H locs cells slots mc ms g rest (Qc (Value.ref b :: As).toArray) free := by
  obtain ⟨⟨hrc, hrs, hfr, hlo, hws, hcw⟩, hcode, hini, hy, hlen, hl, hin, hse⟩ := cw
  have hK : Back l R p e below s args y 3 8 (PreOf R mc ms Pc) (PostOf Qc mc ms free) := va_backW (hh := hh) (bytes := bytes) (maxL := maxL) (ret := ret) hM hp.1 hrc hrs hfr hlo hws hcw (fun a' U hW => word_at hW (Or.inl (by first | rfl | simp [Cond.onTables, Cond.keeps, Cond.steady])) hini)
  obtain ⟨hx, hb, hml, ho, -⟩ := S
  obtain ⟨-, ⟨cellB, hcB, hoB, hclB⟩, hPc⟩ := hp
  intro T hT X
  obtain ⟨v, vm₁, ⟨U', l2, c2, s2⟩, hW₁, X', ⟨g', mk, t, L, e1, e2, hq, h1, hL, h2, h3⟩, st⟩ := vx_callVW X hx (C := C) (hh := hh) (bytes := bytes) (maxL := maxL) (ret := ret) ho hl hin hse hcode hy hK (by rw [hT]; exact hcB) hoB hclB hg (hsize.trans hml.symm) (argsL := As) (rest := rest) (fun sig h => hn.trans (hlen sig h)) hstack hW (by rw [hb]; exact hdg)
    (fun vm₁ hW₁ => ⟨hf.1, hf.2, hPc (T.setVm vm₁) hT hW₁⟩)
  dsimp only [Pt.U, Pt.locs, Pt.cells, Pt.slots] at X' e1 e2 h1 h2 h3 st
  subst h1; subst h2; subst h3
  exact ⟨v, (T.setVm vm₁).calling g' mk (Value.ref b :: As).toArray, t, U', L, hT, X', hL, e1, e2, hq, st⟩
section
variable {y : MethodName} {bytes cc : ByteArray} {maxL nL mc ms n index : Nat} {ret : Option FieldType} {ws : List Cond} {rm : Room} {Pc : Array Value → State → Prop} {Qc : Array Value → State → Outcome → State → Prop} {XC : String → State → State → Prop} {free : Addr → Prop} {Ts : List Cond} {own C : String} {b : Addr} {As rest : List Value} {g : JFrame}
theorem vx_runVX {hh : List (Nat × Nat × Nat × Nat)} (S : CallFix p m c cc nL s args Ts own) (hM : vx_Met l y ws rm Pc Qc XC mc ms free) (cw : vx_CVW R s args own C index y bytes maxL ret hh ws rm mc ms n) (hp : PreV s H C b Pc As)
    (hg : g.method = m) (hn : As.length = n) (hsize : g.locals.size = nL) (hstack : g.stack = As.reverse ++ .ref b :: rest) (hW : 2 * g.monitorRoom + (rest.map fun v => v.category).sum ≤ 8) (hdg : decode cc g.pc = .ok (.invokevirtual index, 3)) (hf : cells + mc ≤ R.cells ∧ slots + ms ≤ R.slots) :
    vx_Run p l e R s m args below meth c H locs cells slots mc ms g rest (Qc (Value.ref b :: As).toArray) XC free := by
  obtain ⟨⟨hrc, hrs, hfr, hlo, hws, hcw⟩, hcode, hini, hy, hlen, hl, hin, hse⟩ := cw
  have hK : vx_Back l R p e below s args y 3 8 (PreOf R mc ms Pc) (PostOf Qc mc ms free) (vx_Post XC mc ms free) := vx_backW (hh := hh) (bytes := bytes) (maxL := maxL) (ret := ret) hM hp.1 hrc hrs hfr hlo hws hcw (fun a' U hW => word_at hW (Or.inl (by first | rfl | simp [Cond.onTables, Cond.keeps, Cond.steady])) hini)
  obtain ⟨hx, hb, hml, ho, -⟩ := S
  obtain ⟨-, ⟨cellB, hcB, hoB, hclB⟩, hPc⟩ := hp
  intro T hT X
  rcases vx_callVX X hx (C := C) (hh := hh) (bytes := bytes) (maxL := maxL) (ret := ret) ho hl hin hse hcode hy hK (by rw [hT]; exact hcB) hoB hclB hg (hsize.trans hml.symm) (argsL := As) (rest := rest) (fun sig h => hn.trans (hlen sig h)) hstack hW (by rw [hb]; exact hdg)
    (fun vm₁ hW₁ => ⟨hf.1, hf.2, hPc (T.setVm vm₁) hT hW₁⟩) with ⟨v, vm₁, ⟨U', l2, c2, s2⟩, hW₁, X', ⟨g', mk, t, L, e1, e2, hq, h1, hL, h2, h3⟩, st⟩ | ⟨q, vm₁, ⟨U', l2, c2, s2⟩, hW₁, X', ⟨g', mk, t, L, E, ce, e1, e2, hq, hce, hcv, hcl, h1, hL, h2, h3⟩, st⟩
  · dsimp only [Pt.U, Pt.locs, Pt.cells, Pt.slots] at X' e1 e2 h1 h2 h3 st
    subst h1; subst h2; subst h3
    exact Or.inl ⟨v, (T.setVm vm₁).calling g' mk (Value.ref b :: As).toArray, t, U', L, hT, X', hL, e1, e2, hq, st⟩
  · dsimp only [Pt.U, Pt.locs, Pt.cells, Pt.slots] at X' e1 e2 h1 h2 h3 st hcl
    subst h1; subst h2; subst h3
    exact Or.inr ⟨q, (T.setVm vm₁).calling g' mk (Value.ref b :: As).toArray, t, U', L, E, ce, hT, X', hL, e1, e2, hq, hce, hcv, vx_cls hW₁ hcl, st⟩
theorem vx_runSX {hh : List (Nat × Nat × Nat × Nat)} (S : CallFix p m c cc nL s args Ts own) (hM : vx_Met l y ws rm Pc Qc XC mc ms free) (cw : vx_CSW R s args own index y bytes maxL ret hh ws rm mc ms n) (hp : PreS s H Pc As)
    (hg : g.method = m) (hn : As.length = n) (hsize : g.locals.size = nL) (hstack : g.stack = As.reverse ++ rest) (hW : 2 * g.monitorRoom + (rest.map fun v => v.category).sum ≤ 8) (hdg : decode cc g.pc = .ok (.invokestatic index, 3)) (hf : cells + mc ≤ R.cells ∧ slots + ms ≤ R.slots) :
    vx_Run p l e R s m args below meth c H locs cells slots mc ms g rest (Qc As.toArray) XC free := by
  obtain ⟨⟨hrc, hrs, hfr, hlo, hws, hcw⟩, hcode, hini, hy, hlen, hl, hstt⟩ := cw
  have hK : vx_Back l R p e below s args y 3 8 (PreOf R mc ms Pc) (PostOf Qc mc ms free) (vx_Post XC mc ms free) := vx_backW (hh := hh) (bytes := bytes) (maxL := maxL) (ret := ret) hM hp.1 hrc hrs hfr hlo hws hcw (fun a' U hW => word_at hW (Or.inl (by first | rfl | simp [Cond.onTables, Cond.keeps, Cond.steady])) hini)
  obtain ⟨hx, hb, hml, ho, -⟩ := S
  intro T hT X
  rcases vx_callSX X hx (hh := hh) (bytes := bytes) (maxL := maxL) (ret := ret) ho hl hstt hini hcode hy hK hg (hsize.trans hml.symm) (argsL := As) (rest := rest) (fun sig h => hn.trans (hlen sig h)) hstack hW (by rw [hb]; exact hdg)
    (fun vm₁ hW₁ => ⟨hf.1, hf.2, hp.2 (T.setVm vm₁) hT hW₁⟩) with ⟨v, vm₁, ⟨U', l2, c2, s2⟩, hW₁, X', ⟨g', mk, t, L, e1, e2, hq, h1, hL, h2, h3⟩, st⟩ | ⟨q, vm₁, ⟨U', l2, c2, s2⟩, hW₁, X', ⟨g', mk, t, L, E, ce, e1, e2, hq, hce, hcv, hcl, h1, hL, h2, h3⟩, st⟩
  · dsimp only [Pt.U, Pt.locs, Pt.cells, Pt.slots] at X' e1 e2 h1 h2 h3 st
    subst h1; subst h2; subst h3
    exact Or.inl ⟨v, (T.setVm vm₁).calling g' mk As.toArray, t, U', L, hT, X', hL, e1, e2, hq, st⟩
  · dsimp only [Pt.U, Pt.locs, Pt.cells, Pt.slots] at X' e1 e2 h1 h2 h3 st hcl
    subst h1; subst h2; subst h3
    exact Or.inr ⟨q, (T.setVm vm₁).calling g' mk As.toArray, t, U', L, E, ce, hT, X', hL, e1, e2, hq, hce, hcv, vx_cls hW₁ hcl, st⟩
end
end VXH
theorem vx_ofWH {l : Launch} {y : MethodName} {ws ws' : List Cond} {rm : Room} {Pc : Array Value → State → Prop} {Qc : Array Value → State → Outcome → State → Prop} {XC : String → State → State → Prop} {mc ms : Nat} {free : Addr → Prop} {cc : ByteArray} {maxL : Nat} {ret : Option FieldType} {hh : List (Nat × Nat × Nat × Nat)}
    (hy : plainName y.cls = true) (hw : ws = Cond.codeWith y cc maxL ret hh :: ws')
    (body : ∀ p e s m args below meth c s₁, BodyLoose p l y (headSpec ws rm) cc maxL ret e s m args below meth c s₁ → c.maxLocals = maxL → Pc args s →
      W p l e (headSpec ws rm).room s m args below meth c s.heap [] 0 0 (vx_MQ below Qc XC args s mc ms free) (entryFrame m args maxL)) : vx_Met l y ws rm Pc Qc XC mc ms free := by
  refine MetFree.of_bodyS (code := cc) (maxLocals := maxL) (ret := ret) hy ?_ ?_
  · intro args s m h hn
    obtain ⟨m9, meth, c, hn9, h1, h2, h3, h4, -, h5, h6, -⟩ := Cond.codeWith_spec (atoms_spec (ws := ws) h _ (by rw [hw]; exact List.mem_cons_self))
    cases hn.symm.trans hn9
    exact ⟨meth, c, h1, h2, h3, h4, h5, h6⟩
  · intro p e s m args below meth c s₁ B hml hP _
    have hh0 : s₁.heap = s.heap := by rw [B.state]; rfl
    obtain ⟨t, a1, o, b1, b2, b3⟩ := body p e s m args below meth c s₁ B hml hP s₁ hh0 (Stand.of_body B)
    exact ⟨t, o, a1, b1, b2, b3⟩
/-! ===== END ===== -/
end
section
/-! ===== BEGIN printed: names, fields, word lists, decode rows ===== -/
def RX0 : String := "StampRelay"
def TX0 : u_T := fun k => match k with
  | 0 => ("StampRelay", "senders", "[I", true)
  | 1 => ("StampRelay", "readers", "[I", true)
  | 2 => ("StampRelay", "stakes", "[I", true)
  | 3 => ("StampRelay", "states", "[I", true)
  | 4 => ("StampRelay", "places", "[I", true)
  | 5 => ("StampRelay", "relaysSeen", "[I", true)
  | 6 => ("StampRelay", "deliveryTimes", "[I", true)
  | 7 => ("StampRelay", "falselyMarked", "[Z", true)
  | 8 => ("StampRelay", "purses", "[I", true)
  | 9 => ("StampRelay", "falseMarkCounts", "[I", true)
  | 10 => ("StampRelay", "pools", "[I", true)
  | 11 => ("StampRelay", "routes", "[I", true)
  | 12 => ("StampRelay", "letterCount", "I", false)
  | 13 => ("StampRelay", "now", "I", false)
  | 14 => ("StampRelay", "waitingAt", "[I", true)
  | _ => ("StampRelay", "reputations", "[I", true)
def tyX0 : Nat → FieldType := fun k => match k with
  | 0 => .array .int
  | 1 => .array .int
  | 2 => .array .int
  | 3 => .array .int
  | 4 => .array .int
  | 5 => .array .int
  | 6 => .array .int
  | 7 => .array .boolean
  | 8 => .array .int
  | 9 => .array .int
  | 10 => .array .int
  | 11 => .array .int
  | 12 => .int
  | 13 => .int
  | 14 => .array .int
  | _ => .array .int
abbrev wsX00 : List Cond := u_ws RX0 TX0 16
theorem nmX0 : ∀ a, a < 16 → ∀ b, b < 16 → a ≠ b → (TX0 a).2.1 ≠ (TX0 b).2.1 := by decide +kernel
theorem tyX0_ok : ∀ k, k < 16 → parseFieldDescriptor (TX0 k).2.2.1 = some (tyX0 k) := by decide +kernel
abbrev cX0_init : ByteArray := prog_1_method_1_code
def yX0_init : MethodName := ⟨RX0, "<init>", "()V"⟩
abbrev cX0_setRoute : ByteArray := prog_1_method_2_code
def yX0_setRoute : MethodName := ⟨RX0, "setRoute", "(III)I"⟩
abbrev cX0_steps : ByteArray := prog_1_method_3_code
def yX0_steps : MethodName := ⟨RX0, "steps", "(II)I"⟩
abbrev cX0_send : ByteArray := prog_1_method_4_code
def yX0_send : MethodName := ⟨RX0, "send", "(III)I"⟩
abbrev cX0_pass : ByteArray := prog_1_method_5_code
def yX0_pass : MethodName := ⟨RX0, "pass", "(I)I"⟩
abbrev cX0_answer : ByteArray := prog_1_method_6_code
def yX0_answer : MethodName := ⟨RX0, "answer", "(I)I"⟩
abbrev cX0_mark : ByteArray := prog_1_method_7_code
def yX0_mark : MethodName := ⟨RX0, "mark", "(I)I"⟩
abbrev cX0_letters : ByteArray := prog_1_method_8_code
def yX0_letters : MethodName := ⟨RX0, "letters", "()I"⟩
abbrev cX0_time : ByteArray := prog_1_method_9_code
def yX0_time : MethodName := ⟨RX0, "time", "()I"⟩
abbrev cX0_stateOf : ByteArray := prog_1_method_10_code
def yX0_stateOf : MethodName := ⟨RX0, "stateOf", "(I)I"⟩
abbrev cX0_relayOf : ByteArray := prog_1_method_11_code
def yX0_relayOf : MethodName := ⟨RX0, "relayOf", "(I)I"⟩
abbrev cX0_marksOn : ByteArray := prog_1_method_12_code
def yX0_marksOn : MethodName := ⟨RX0, "marksOn", "(I)I"⟩
abbrev cX0_queue : ByteArray := prog_1_method_13_code
def yX0_queue : MethodName := ⟨RX0, "queue", "(I)I"⟩
abbrev cX0_queueAt : ByteArray := prog_1_method_14_code
def yX0_queueAt : MethodName := ⟨RX0, "queueAt", "(II)I"⟩
abbrev cX0_coins : ByteArray := prog_1_method_15_code
def yX0_coins : MethodName := ⟨RX0, "coins", "(I)I"⟩
abbrev cX0_pool : ByteArray := prog_1_method_16_code
def yX0_pool : MethodName := ⟨RX0, "pool", "(I)I"⟩
abbrev cX0_escrow : ByteArray := prog_1_method_17_code
def yX0_escrow : MethodName := ⟨RX0, "escrow", "()I"⟩
abbrev cX0_reputation : ByteArray := prog_1_method_18_code
def yX0_reputation : MethodName := ⟨RX0, "reputation", "(I)I"⟩
abbrev cX0_reputationAtOnce : ByteArray := prog_1_method_19_code
def yX0_reputationAtOnce : MethodName := ⟨RX0, "reputationAtOnce", "(I)I"⟩
abbrev cX0_leastStake : ByteArray := prog_1_method_20_code
def yX0_leastStake : MethodName := ⟨RX0, "leastStake", "(I)I"⟩
abbrev cX0_falseMarks : ByteArray := prog_1_method_21_code
def yX0_falseMarks : MethodName := ⟨RX0, "falseMarks", "(I)I"⟩
abbrev cX0_isPerson : ByteArray := prog_1_method_22_code
def yX0_isPerson : MethodName := ⟨RX0, "isPerson", "(I)Z"⟩
abbrev cX0_isRelay : ByteArray := prog_1_method_23_code
def yX0_isRelay : MethodName := ⟨RX0, "isRelay", "(I)Z"⟩
abbrev cX0_isLetter : ByteArray := prog_1_method_24_code
def yX0_isLetter : MethodName := ⟨RX0, "isLetter", "(I)Z"⟩
abbrev cX0_homeOf : ByteArray := prog_1_method_25_code
def yX0_homeOf : MethodName := ⟨RX0, "homeOf", "(I)I"⟩
abbrev cX0_markOf : ByteArray := prog_1_method_26_code
def yX0_markOf : MethodName := ⟨RX0, "markOf", "(I)I"⟩
abbrev cX0_nextRelay : ByteArray := prog_1_method_27_code
def yX0_nextRelay : MethodName := ⟨RX0, "nextRelay", "(II)I"⟩
abbrev cX0_passOneTick : ByteArray := prog_1_method_28_code
def yX0_passOneTick : MethodName := ⟨RX0, "passOneTick", "()I"⟩
abbrev cX0_beginLookingAtQueues : ByteArray := prog_1_method_29_code
def yX0_beginLookingAtQueues : MethodName := ⟨RX0, "beginLookingAtQueues", "()V"⟩
abbrev cX0_takeFirstWaiting : ByteArray := prog_1_method_30_code
def yX0_takeFirstWaiting : MethodName := ⟨RX0, "takeFirstWaiting", "(I)I"⟩
abbrev cX0_rankOf : ByteArray := prog_1_method_31_code
def yX0_rankOf : MethodName := ⟨RX0, "rankOf", "(I)I"⟩
abbrev cX0_moveOn : ByteArray := prog_1_method_32_code
def yX0_moveOn : MethodName := ⟨RX0, "moveOn", "(II)I"⟩
abbrev cX0_layAt : ByteArray := prog_1_method_33_code
def yX0_layAt : MethodName := ⟨RX0, "layAt", "(II)V"⟩
abbrev cX0_leaveQueue : ByteArray := prog_1_method_34_code
def yX0_leaveQueue : MethodName := ⟨RX0, "leaveQueue", "(II)V"⟩
abbrev cX0_expireOldLetters : ByteArray := prog_1_method_35_code
def yX0_expireOldLetters : MethodName := ⟨RX0, "expireOldLetters", "()V"⟩
abbrev cX0_lengthOfQueue : ByteArray := prog_1_method_36_code
def yX0_lengthOfQueue : MethodName := ⟨RX0, "lengthOfQueue", "(I)I"⟩
abbrev cX0_giveStakeBack : ByteArray := prog_1_method_37_code
def yX0_giveStakeBack : MethodName := ⟨RX0, "giveStakeBack", "(I)V"⟩
abbrev cX0_putStakeIntoPool : ByteArray := prog_1_method_38_code
def yX0_putStakeIntoPool : MethodName := ⟨RX0, "putStakeIntoPool", "(II)V"⟩
abbrev cX0_payForFalseMark : ByteArray := prog_1_method_39_code
def yX0_payForFalseMark : MethodName := ⟨RX0, "payForFalseMark", "(III)I"⟩
abbrev cX0_othersWhoAnswered : ByteArray := prog_1_method_40_code
def yX0_othersWhoAnswered : MethodName := ⟨RX0, "othersWhoAnswered", "(II)I"⟩
abbrev cX0_opinionIn : ByteArray := prog_1_method_41_code
def yX0_opinionIn : MethodName := ⟨RX0, "opinionIn", "(I)I"⟩
abbrev cX0_weightOf : ByteArray := prog_1_method_42_code
def yX0_weightOf : MethodName := ⟨RX0, "weightOf", "(I)I"⟩
abbrev cX0_reputationOf : ByteArray := prog_1_method_43_code
def yX0_reputationOf : MethodName := ⟨RX0, "reputationOf", "(I)I"⟩
abbrev cX0_findAllReputations : ByteArray := prog_1_method_44_code
def yX0_findAllReputations : MethodName := ⟨RX0, "findAllReputations", "()V"⟩
abbrev cX0_lowestStakeOf : ByteArray := prog_1_method_45_code
def yX0_lowestStakeOf : MethodName := ⟨RX0, "lowestStakeOf", "(I)I"⟩
def RX1 : String := "StampRelayModel"
def TX1 : u_T := fun k => match k with
  | 0 => ("StampRelayModel", "time", "I", false)
  | 1 => ("StampRelayModel", "routes", "[I", true)
  | 2 => ("StampRelayModel", "coins", "[I", true)
  | 3 => ("StampRelayModel", "pools", "[I", true)
  | 4 => ("StampRelayModel", "falsely", "[I", true)
  | 5 => ("StampRelayModel", "letters", "I", false)
  | 6 => ("StampRelayModel", "sender", "[I", true)
  | 7 => ("StampRelayModel", "reader", "[I", true)
  | 8 => ("StampRelayModel", "stake", "[I", true)
  | 9 => ("StampRelayModel", "state", "[I", true)
  | 10 => ("StampRelayModel", "relay", "[I", true)
  | 11 => ("StampRelayModel", "marks", "[I", true)
  | 12 => ("StampRelayModel", "came", "[I", true)
  | 13 => ("StampRelayModel", "isFalse", "[Z", true)
  | 14 => ("StampRelayModel", "moves", "[Z", true)
  | _ => ("StampRelayModel", "thrown", "I", false)
def tyX1 : Nat → FieldType := fun k => match k with
  | 0 => .int
  | 1 => .array .int
  | 2 => .array .int
  | 3 => .array .int
  | 4 => .array .int
  | 5 => .int
  | 6 => .array .int
  | 7 => .array .int
  | 8 => .array .int
  | 9 => .array .int
  | 10 => .array .int
  | 11 => .array .int
  | 12 => .array .int
  | 13 => .array .boolean
  | 14 => .array .boolean
  | _ => .int
abbrev wsX10 : List Cond := u_ws RX1 TX1 16
theorem nmX1 : ∀ a, a < 16 → ∀ b, b < 16 → a ≠ b → (TX1 a).2.1 ≠ (TX1 b).2.1 := by decide +kernel
theorem tyX1_ok : ∀ k, k < 16 → parseFieldDescriptor (TX1 k).2.2.1 = some (tyX1 k) := by decide +kernel
abbrev cX1_init : ByteArray := prog_3_method_1_code
def yX1_init : MethodName := ⟨RX1, "<init>", "()V"⟩
abbrev cX1_thrown : ByteArray := prog_3_method_2_code
def yX1_thrown : MethodName := ⟨RX1, "thrown", "()I"⟩
abbrev cX1_can : ByteArray := prog_3_method_3_code
def yX1_can : MethodName := ⟨RX1, "can", "(I)Z"⟩
abbrev cX1_isIn : ByteArray := prog_3_method_4_code
def yX1_isIn : MethodName := ⟨RX1, "isIn", "(III)Z"⟩
abbrev cX1_isPerson : ByteArray := prog_3_method_5_code
def yX1_isPerson : MethodName := ⟨RX1, "isPerson", "(I)Z"⟩
abbrev cX1_isRelay : ByteArray := prog_3_method_6_code
def yX1_isRelay : MethodName := ⟨RX1, "isRelay", "(I)Z"⟩
abbrev cX1_isLetter : ByteArray := prog_3_method_7_code
def yX1_isLetter : MethodName := ⟨RX1, "isLetter", "(I)Z"⟩
abbrev cX1_has : ByteArray := prog_3_method_8_code
def yX1_has : MethodName := ⟨RX1, "has", "(II)Z"⟩
abbrev cX1_setRoute : ByteArray := prog_3_method_9_code
def yX1_setRoute : MethodName := ⟨RX1, "setRoute", "(III)I"⟩
abbrev cX1_way : ByteArray := prog_3_method_10_code
def yX1_way : MethodName := ⟨RX1, "way", "(II)I"⟩
abbrev cX1_steps : ByteArray := prog_3_method_11_code
def yX1_steps : MethodName := ⟨RX1, "steps", "(II)I"⟩
abbrev cX1_weight : ByteArray := prog_3_method_12_code
def yX1_weight : MethodName := ⟨RX1, "weight", "(I)I"⟩
abbrev cX1_nameOf : ByteArray := prog_3_method_13_code
def yX1_nameOf : MethodName := ⟨RX1, "nameOf", "(I)I"⟩
abbrev cX1_least : ByteArray := prog_3_method_14_code
def yX1_least : MethodName := ⟨RX1, "least", "(I)I"⟩
abbrev cX1_send : ByteArray := prog_3_method_15_code
def yX1_send : MethodName := ⟨RX1, "send", "(III)I"⟩
abbrev cX1_isAhead : ByteArray := prog_3_method_16_code
def yX1_isAhead : MethodName := ⟨RX1, "isAhead", "(II)Z"⟩
abbrev cX1_liesAt : ByteArray := prog_3_method_17_code
def yX1_liesAt : MethodName := ⟨RX1, "liesAt", "(II)Z"⟩
abbrev cX1_placeOf : ByteArray := prog_3_method_18_code
def yX1_placeOf : MethodName := ⟨RX1, "placeOf", "(I)I"⟩
abbrev cX1_goes : ByteArray := prog_3_method_19_code
def yX1_goes : MethodName := ⟨RX1, "goes", "(I)Z"⟩
abbrev cX1_ticks : ByteArray := prog_3_method_20_code
def yX1_ticks : MethodName := ⟨RX1, "ticks", "()I"⟩
abbrev cX1_pass : ByteArray := prog_3_method_21_code
def yX1_pass : MethodName := ⟨RX1, "pass", "(I)I"⟩
abbrev cX1_answer : ByteArray := prog_3_method_22_code
def yX1_answer : MethodName := ⟨RX1, "answer", "(I)I"⟩
abbrev cX1_others : ByteArray := prog_3_method_23_code
def yX1_others : MethodName := ⟨RX1, "others", "(I)I"⟩
abbrev cX1_mark : ByteArray := prog_3_method_24_code
def yX1_mark : MethodName := ⟨RX1, "mark", "(I)I"⟩
abbrev cX1_letters : ByteArray := prog_3_method_25_code
def yX1_letters : MethodName := ⟨RX1, "letters", "()I"⟩
abbrev cX1_time : ByteArray := prog_3_method_26_code
def yX1_time : MethodName := ⟨RX1, "time", "()I"⟩
abbrev cX1_isAsked : ByteArray := prog_3_method_27_code
def yX1_isAsked : MethodName := ⟨RX1, "isAsked", "(I)Z"⟩
abbrev cX1_stateOf : ByteArray := prog_3_method_28_code
def yX1_stateOf : MethodName := ⟨RX1, "stateOf", "(I)I"⟩
abbrev cX1_relayOf : ByteArray := prog_3_method_29_code
def yX1_relayOf : MethodName := ⟨RX1, "relayOf", "(I)I"⟩
abbrev cX1_marksOn : ByteArray := prog_3_method_30_code
def yX1_marksOn : MethodName := ⟨RX1, "marksOn", "(I)I"⟩
abbrev cX1_lengthOf : ByteArray := prog_3_method_31_code
def yX1_lengthOf : MethodName := ⟨RX1, "lengthOf", "(I)I"⟩
abbrev cX1_queue : ByteArray := prog_3_method_32_code
def yX1_queue : MethodName := ⟨RX1, "queue", "(I)I"⟩
abbrev cX1_queueAt : ByteArray := prog_3_method_33_code
def yX1_queueAt : MethodName := ⟨RX1, "queueAt", "(II)I"⟩
abbrev cX1_isKnown : ByteArray := prog_3_method_34_code
def yX1_isKnown : MethodName := ⟨RX1, "isKnown", "(I)Z"⟩
abbrev cX1_coins : ByteArray := prog_3_method_35_code
def yX1_coins : MethodName := ⟨RX1, "coins", "(I)I"⟩
abbrev cX1_pool : ByteArray := prog_3_method_36_code
def yX1_pool : MethodName := ⟨RX1, "pool", "(I)I"⟩
abbrev cX1_escrow : ByteArray := prog_3_method_37_code
def yX1_escrow : MethodName := ⟨RX1, "escrow", "()I"⟩
abbrev cX1_reputation : ByteArray := prog_3_method_38_code
def yX1_reputation : MethodName := ⟨RX1, "reputation", "(I)I"⟩
abbrev cX1_reputationAtOnce : ByteArray := prog_3_method_39_code
def yX1_reputationAtOnce : MethodName := ⟨RX1, "reputationAtOnce", "(I)I"⟩
abbrev cX1_leastStake : ByteArray := prog_3_method_40_code
def yX1_leastStake : MethodName := ⟨RX1, "leastStake", "(I)I"⟩
abbrev cX1_falseMarks : ByteArray := prog_3_method_41_code
def yX1_falseMarks : MethodName := ⟨RX1, "falseMarks", "(I)I"⟩
def RJ6 : String := "java/lang/Integer"
def TJ6 : u_T := fun k => match k with
  | _ => ("", "", "", false)
def tyJ6 : Nat → FieldType := fun k => match k with
  | _ => .int
abbrev wsJ60 : List Cond := u_ws RJ6 TJ6 0
theorem nmJ6 : ∀ a, a < 0 → ∀ b, b < 0 → a ≠ b → (TJ6 a).2.1 ≠ (TJ6 b).2.1 := by decide +kernel
theorem tyJ6_ok : ∀ k, k < 0 → parseFieldDescriptor (TJ6 k).2.2.1 = some (tyJ6 k) := by decide +kernel
abbrev cJ6_bitCount_0f7a4 : ByteArray := prog_8_method_49_code
def yJ6_bitCount_0f7a4 : MethodName := ⟨RJ6, "bitCount", "(I)I"⟩
def RJ9 : String := "java/lang/Math"
def TJ9 : u_T := fun k => match k with
  | _ => ("", "", "", false)
def tyJ9 : Nat → FieldType := fun k => match k with
  | _ => .int
abbrev wsJ90 : List Cond := u_ws RJ9 TJ9 0
theorem nmJ9 : ∀ a, a < 0 → ∀ b, b < 0 → a ≠ b → (TJ9 a).2.1 ≠ (TJ9 b).2.1 := by decide +kernel
theorem tyJ9_ok : ∀ k, k < 0 → parseFieldDescriptor (TJ9 k).2.2.1 = some (tyJ9 k) := by decide +kernel
abbrev cJ9_max_7cf53 : ByteArray := prog_9_method_65_code
def yJ9_max_7cf53 : MethodName := ⟨RJ9, "max", "(II)I"⟩
abbrev cJ9_min_7cf53 : ByteArray := prog_9_method_69_code
def yJ9_min_7cf53 : MethodName := ⟨RJ9, "min", "(II)I"⟩
def RJ0 : String := "java/lang/String"
def TJ0 : u_T := fun k => match k with
  | _ => ("", "", "", false)
def tyJ0 : Nat → FieldType := fun k => match k with
  | _ => .int
abbrev wsJ00 : List Cond := u_ws RJ0 TJ0 0
theorem nmJ0 : ∀ a, a < 0 → ∀ b, b < 0 → a ≠ b → (TJ0 a).2.1 ≠ (TJ0 b).2.1 := by decide +kernel
theorem tyJ0_ok : ∀ k, k < 0 → parseFieldDescriptor (TJ0 k).2.2.1 = some (tyJ0 k) := by decide +kernel
def RL : String := "StampRelayLaw"
abbrev cL_setRoute : ByteArray := method_3_code
def yL_setRoute : MethodName := ⟨RL, "setRoute", "(LStampRelay;III[J)I"⟩
abbrev cL_steps : ByteArray := method_4_code
def yL_steps : MethodName := ⟨RL, "steps", "(LStampRelay;II[J)I"⟩
abbrev cL_send : ByteArray := method_5_code
def yL_send : MethodName := ⟨RL, "send", "(LStampRelay;III[J)I"⟩
abbrev cL_pass : ByteArray := method_6_code
def yL_pass : MethodName := ⟨RL, "pass", "(LStampRelay;I[J)I"⟩
abbrev cL_answer : ByteArray := method_7_code
def yL_answer : MethodName := ⟨RL, "answer", "(LStampRelay;I[J)I"⟩
abbrev cL_mark : ByteArray := method_8_code
def yL_mark : MethodName := ⟨RL, "mark", "(LStampRelay;I[J)I"⟩
abbrev cL_stateOf : ByteArray := method_9_code
def yL_stateOf : MethodName := ⟨RL, "stateOf", "(LStampRelay;I[J)I"⟩
abbrev cL_relayOf : ByteArray := method_10_code
def yL_relayOf : MethodName := ⟨RL, "relayOf", "(LStampRelay;I[J)I"⟩
abbrev cL_marksOn : ByteArray := method_11_code
def yL_marksOn : MethodName := ⟨RL, "marksOn", "(LStampRelay;I[J)I"⟩
abbrev cL_queue : ByteArray := method_12_code
def yL_queue : MethodName := ⟨RL, "queue", "(LStampRelay;I[J)I"⟩
abbrev cL_queueAt : ByteArray := method_13_code
def yL_queueAt : MethodName := ⟨RL, "queueAt", "(LStampRelay;II[J)I"⟩
abbrev cL_coins : ByteArray := method_14_code
def yL_coins : MethodName := ⟨RL, "coins", "(LStampRelay;I[J)I"⟩
abbrev cL_pool : ByteArray := method_15_code
def yL_pool : MethodName := ⟨RL, "pool", "(LStampRelay;I[J)I"⟩
abbrev cL_reputation : ByteArray := method_16_code
def yL_reputation : MethodName := ⟨RL, "reputation", "(LStampRelay;I[J)I"⟩
abbrev cL_reputationAtOnce : ByteArray := method_17_code
def yL_reputationAtOnce : MethodName := ⟨RL, "reputationAtOnce", "(LStampRelay;I[J)I"⟩
abbrev cL_leastStake : ByteArray := method_18_code
def yL_leastStake : MethodName := ⟨RL, "leastStake", "(LStampRelay;I[J)I"⟩
abbrev cL_falseMarks : ByteArray := method_19_code
def yL_falseMarks : MethodName := ⟨RL, "falseMarks", "(LStampRelay;I[J)I"⟩
abbrev cL_law : ByteArray := code
def yL_law : MethodName := ⟨RL, "law", "([I)Z"⟩
def wsX0_init : List Cond := .code yX0_init cX0_init 3 none :: ([.methodLink RX0 1 objectInit, .instanceMethod objectInit, .code objectInit ⟨#[0xb1]⟩ 1 none, .arrayClass .int, .fieldLink RX0 9 "StampRelay" "senders" "[I", .fieldLink RX0 13 "StampRelay" "readers" "[I", .fieldLink RX0 16 "StampRelay" "stakes" "[I", .fieldLink RX0 19 "StampRelay" "states" "[I", .fieldLink RX0 22 "StampRelay" "places" "[I", .fieldLink RX0 25 "StampRelay" "relaysSeen" "[I", .fieldLink RX0 28 "StampRelay" "deliveryTimes" "[I", .arrayClass .boolean, .fieldLink RX0 31 "StampRelay" "falselyMarked" "[Z", .fieldLink RX0 35 "StampRelay" "purses" "[I", .fieldLink RX0 38 "StampRelay" "falseMarkCounts" "[I", .fieldLink RX0 41 "StampRelay" "pools" "[I", .fieldLink RX0 44 "StampRelay" "routes" "[I", .fieldLink RX0 47 "StampRelay" "letterCount" "I", .fieldLink RX0 51 "StampRelay" "now" "I", .fieldLink RX0 54 "StampRelay" "waitingAt" "[I", .fieldLink RX0 57 "StampRelay" "reputations" "[I"] ++ wsX00)
def wsX0_isRelay : List Cond := .code yX0_isRelay cX0_isRelay 1 (some .boolean) :: ([])
def wsX0_setRoute : List Cond := .code yX0_setRoute cX0_setRoute 6 (some .int) :: ([.classLink RX0 64 "java/lang/IndexOutOfBoundsException", .initialized "java/lang/IndexOutOfBoundsException", .classLink RX0 71 "java/lang/IllegalArgumentException", .initialized "java/lang/IllegalArgumentException", .fieldLink RX0 44 "StampRelay" "routes" "[I", .methodLink RX0 60 yX0_isRelay, .static yX0_isRelay, .initialized RX0, .code yX0_isRelay cX0_isRelay 1 (some .boolean)] ++ wsX00 ++ (vx_atS RX0 68 "java/lang/IndexOutOfBoundsException" ["java/lang/RuntimeException", "java/lang/Exception"]).filter goodWord ++ (vx_atS RX0 75 "java/lang/IllegalArgumentException" ["java/lang/RuntimeException", "java/lang/Exception"]).filter goodWord)
def wsX0_nextRelay : List Cond := .code yX0_nextRelay cX0_nextRelay 3 (some .int) :: ([.fieldLink RX0 44 "StampRelay" "routes" "[I", .methodLink RX0 60 yX0_isRelay, .static yX0_isRelay, .initialized RX0, .code yX0_isRelay cX0_isRelay 1 (some .boolean)] ++ wsX00)
def wsX0_steps : List Cond := .code yX0_steps cX0_steps 5 (some .int) :: ([.classLink RX0 64 "java/lang/IndexOutOfBoundsException", .initialized "java/lang/IndexOutOfBoundsException", .methodLink RX0 60 yX0_isRelay, .static yX0_isRelay, .initialized RX0, .code yX0_isRelay cX0_isRelay 1 (some .boolean), .methodLink RX0 76 yX0_nextRelay, .instanceMethod yX0_nextRelay, .selects RX0 yX0_nextRelay yX0_nextRelay, .code yX0_nextRelay cX0_nextRelay 3 (some .int), .fieldLink RX0 44 "StampRelay" "routes" "[I"] ++ wsX00 ++ (vx_atS RX0 68 "java/lang/IndexOutOfBoundsException" ["java/lang/RuntimeException", "java/lang/Exception"]).filter goodWord)
def wsX0_isPerson : List Cond := .code yX0_isPerson cX0_isPerson 1 (some .boolean) :: ([])
def wsX0_isLetter : List Cond := .code yX0_isLetter cX0_isLetter 2 (some .boolean) :: ([.fieldLink RX0 47 "StampRelay" "letterCount" "I"] ++ wsX00)
def wsX0_weightOf : List Cond := .code yX0_weightOf cX0_weightOf 2 (some .int) :: ([.fieldLink RX0 38 "StampRelay" "falseMarkCounts" "[I", .methodLink RX0 178 Lib.Math.max.name, .static Lib.Math.max.name, .initialized "java/lang/Math", .code Lib.Math.max.name Lib.Math.max.code 2 (some .int), .methodLink RX0 80 yX0_isPerson, .static yX0_isPerson, .initialized RX0, .code yX0_isPerson cX0_isPerson 1 (some .boolean)] ++ wsX00)
def wsX0_opinionIn : List Cond := .code yX0_opinionIn cX0_opinionIn 2 (some .int) :: ([.fieldLink RX0 19 "StampRelay" "states" "[I", .fieldLink RX0 13 "StampRelay" "readers" "[I", .fieldLink RX0 31 "StampRelay" "falselyMarked" "[Z", .methodLink RX0 112 yX0_isLetter, .instanceMethod yX0_isLetter, .selects RX0 yX0_isLetter yX0_isLetter, .initialized RX0, .code yX0_isLetter cX0_isLetter 2 (some .boolean), .fieldLink RX0 47 "StampRelay" "letterCount" "I", .methodLink RX0 175 yX0_weightOf, .instanceMethod yX0_weightOf, .selects RX0 yX0_weightOf yX0_weightOf, .code yX0_weightOf cX0_weightOf 2 (some .int), .fieldLink RX0 38 "StampRelay" "falseMarkCounts" "[I", .methodLink RX0 178 Lib.Math.max.name, .static Lib.Math.max.name, .initialized "java/lang/Math", .code Lib.Math.max.name Lib.Math.max.code 2 (some .int), .methodLink RX0 80 yX0_isPerson, .static yX0_isPerson, .code yX0_isPerson cX0_isPerson 1 (some .boolean)] ++ wsX00)
def wsX0_reputationOf_r1 : List Cond := [Cond.fieldLink RX0 47 "StampRelay" "letterCount" "I", Cond.fieldLink RX0 9 "StampRelay" "senders" "[I", Cond.methodLink RX0 181 yX0_opinionIn, Cond.instanceMethod yX0_opinionIn, Cond.selects RX0 yX0_opinionIn yX0_opinionIn, Cond.initialized RX0, Cond.code yX0_opinionIn cX0_opinionIn 2 (some .int), Cond.fieldLink RX0 19 "StampRelay" "states" "[I", Cond.fieldLink RX0 13 "StampRelay" "readers" "[I", Cond.fieldLink RX0 31 "StampRelay" "falselyMarked" "[Z", Cond.methodLink RX0 112 yX0_isLetter, Cond.instanceMethod yX0_isLetter, Cond.selects RX0 yX0_isLetter yX0_isLetter, Cond.code yX0_isLetter cX0_isLetter 2 (some .boolean), Cond.methodLink RX0 175 yX0_weightOf, Cond.instanceMethod yX0_weightOf, Cond.selects RX0 yX0_weightOf yX0_weightOf, Cond.code yX0_weightOf cX0_weightOf 2 (some .int), Cond.fieldLink RX0 38 "StampRelay" "falseMarkCounts" "[I", Cond.methodLink RX0 178 Lib.Math.max.name, Cond.static Lib.Math.max.name, Cond.initialized "java/lang/Math", Cond.code Lib.Math.max.name Lib.Math.max.code 2 (some .int), Cond.methodLink RX0 80 yX0_isPerson]
def wsX0_reputationOf_r2 : List Cond := [Cond.static yX0_isPerson, Cond.code yX0_isPerson cX0_isPerson 1 (some .boolean)]
def wsX0_reputationOf : List Cond := .code yX0_reputationOf cX0_reputationOf 4 (some .int) :: ((wsX0_reputationOf_r1 ++ wsX0_reputationOf_r2) ++ wsX00)
def wsX0_lowestStakeOf_r1 : List Cond := [Cond.methodLink RX0 165 Lib.Math.min.name, Cond.static Lib.Math.min.name, Cond.initialized "java/lang/Math", Cond.code Lib.Math.min.name Lib.Math.min.code 2 (some .int), Cond.methodLink RX0 178 Lib.Math.max.name, Cond.static Lib.Math.max.name, Cond.code Lib.Math.max.name Lib.Math.max.code 2 (some .int), Cond.methodLink RX0 123 yX0_reputationOf, Cond.instanceMethod yX0_reputationOf, Cond.selects RX0 yX0_reputationOf yX0_reputationOf, Cond.initialized RX0, Cond.code yX0_reputationOf cX0_reputationOf 4 (some .int), Cond.fieldLink RX0 47 "StampRelay" "letterCount" "I", Cond.fieldLink RX0 9 "StampRelay" "senders" "[I", Cond.methodLink RX0 181 yX0_opinionIn, Cond.instanceMethod yX0_opinionIn, Cond.selects RX0 yX0_opinionIn yX0_opinionIn, Cond.code yX0_opinionIn cX0_opinionIn 2 (some .int), Cond.fieldLink RX0 19 "StampRelay" "states" "[I", Cond.fieldLink RX0 13 "StampRelay" "readers" "[I", Cond.fieldLink RX0 31 "StampRelay" "falselyMarked" "[Z", Cond.methodLink RX0 112 yX0_isLetter, Cond.instanceMethod yX0_isLetter, Cond.selects RX0 yX0_isLetter yX0_isLetter]
def wsX0_lowestStakeOf_r2 : List Cond := [Cond.code yX0_isLetter cX0_isLetter 2 (some .boolean), Cond.methodLink RX0 175 yX0_weightOf, Cond.instanceMethod yX0_weightOf, Cond.selects RX0 yX0_weightOf yX0_weightOf, Cond.code yX0_weightOf cX0_weightOf 2 (some .int), Cond.fieldLink RX0 38 "StampRelay" "falseMarkCounts" "[I", Cond.methodLink RX0 80 yX0_isPerson, Cond.static yX0_isPerson, Cond.code yX0_isPerson cX0_isPerson 1 (some .boolean)]
def wsX0_lowestStakeOf : List Cond := .code yX0_lowestStakeOf cX0_lowestStakeOf 2 (some .int) :: ((wsX0_lowestStakeOf_r1 ++ wsX0_lowestStakeOf_r2) ++ wsX00)
def wsX0_homeOf : List Cond := .code yX0_homeOf cX0_homeOf 1 (some .int) :: ([])
def wsX0_markOf : List Cond := .code yX0_markOf cX0_markOf 1 (some .int) :: ([])
def wsX0_layAt : List Cond := .code yX0_layAt cX0_layAt 3 none :: ([.fieldLink RX0 22 "StampRelay" "places" "[I", .fieldLink RX0 25 "StampRelay" "relaysSeen" "[I", .methodLink RX0 112 yX0_isLetter, .instanceMethod yX0_isLetter, .selects RX0 yX0_isLetter yX0_isLetter, .initialized RX0, .code yX0_isLetter cX0_isLetter 2 (some .boolean), .fieldLink RX0 47 "StampRelay" "letterCount" "I", .methodLink RX0 162 yX0_markOf, .static yX0_markOf, .code yX0_markOf cX0_markOf 1 (some .int)] ++ wsX00)
def wsX0_send_r1 : List Cond := [Cond.classLink RX0 64 "java/lang/IndexOutOfBoundsException", Cond.initialized "java/lang/IndexOutOfBoundsException", Cond.classLink RX0 71 "java/lang/IllegalArgumentException", Cond.initialized "java/lang/IllegalArgumentException", Cond.classLink RX0 91 "java/lang/IllegalStateException", Cond.initialized "java/lang/IllegalStateException", Cond.fieldLink RX0 35 "StampRelay" "purses" "[I", Cond.fieldLink RX0 47 "StampRelay" "letterCount" "I", Cond.fieldLink RX0 9 "StampRelay" "senders" "[I", Cond.fieldLink RX0 13 "StampRelay" "readers" "[I", Cond.fieldLink RX0 16 "StampRelay" "stakes" "[I", Cond.fieldLink RX0 19 "StampRelay" "states" "[I", Cond.methodLink RX0 80 yX0_isPerson, Cond.static yX0_isPerson, Cond.initialized RX0, Cond.code yX0_isPerson cX0_isPerson 1 (some .boolean), Cond.methodLink RX0 87 yX0_lowestStakeOf, Cond.instanceMethod yX0_lowestStakeOf, Cond.selects RX0 yX0_lowestStakeOf yX0_lowestStakeOf, Cond.code yX0_lowestStakeOf cX0_lowestStakeOf 2 (some .int), Cond.methodLink RX0 165 Lib.Math.min.name, Cond.static Lib.Math.min.name, Cond.initialized "java/lang/Math", Cond.code Lib.Math.min.name Lib.Math.min.code 2 (some .int)]
def wsX0_send_r2 : List Cond := [Cond.methodLink RX0 178 Lib.Math.max.name, Cond.static Lib.Math.max.name, Cond.code Lib.Math.max.name Lib.Math.max.code 2 (some .int), Cond.methodLink RX0 123 yX0_reputationOf, Cond.instanceMethod yX0_reputationOf, Cond.selects RX0 yX0_reputationOf yX0_reputationOf, Cond.code yX0_reputationOf cX0_reputationOf 4 (some .int), Cond.methodLink RX0 181 yX0_opinionIn, Cond.instanceMethod yX0_opinionIn, Cond.selects RX0 yX0_opinionIn yX0_opinionIn, Cond.code yX0_opinionIn cX0_opinionIn 2 (some .int), Cond.fieldLink RX0 31 "StampRelay" "falselyMarked" "[Z", Cond.methodLink RX0 112 yX0_isLetter, Cond.instanceMethod yX0_isLetter, Cond.selects RX0 yX0_isLetter yX0_isLetter, Cond.code yX0_isLetter cX0_isLetter 2 (some .boolean), Cond.methodLink RX0 175 yX0_weightOf, Cond.instanceMethod yX0_weightOf, Cond.selects RX0 yX0_weightOf yX0_weightOf, Cond.code yX0_weightOf cX0_weightOf 2 (some .int), Cond.fieldLink RX0 38 "StampRelay" "falseMarkCounts" "[I", Cond.methodLink RX0 96 yX0_homeOf, Cond.static yX0_homeOf, Cond.code yX0_homeOf cX0_homeOf 1 (some .int)]
def wsX0_send_r3 : List Cond := [Cond.methodLink RX0 99 yX0_layAt, Cond.instanceMethod yX0_layAt, Cond.selects RX0 yX0_layAt yX0_layAt, Cond.code yX0_layAt cX0_layAt 3 none, Cond.fieldLink RX0 22 "StampRelay" "places" "[I", Cond.fieldLink RX0 25 "StampRelay" "relaysSeen" "[I", Cond.methodLink RX0 162 yX0_markOf, Cond.static yX0_markOf, Cond.code yX0_markOf cX0_markOf 1 (some .int)]
def wsX0_send : List Cond := .code yX0_send cX0_send 5 (some .int) :: ((wsX0_send_r1 ++ (wsX0_send_r2 ++ wsX0_send_r3)) ++ wsX00 ++ (vx_atS RX0 68 "java/lang/IndexOutOfBoundsException" ["java/lang/RuntimeException", "java/lang/Exception"]).filter goodWord ++ (vx_atS RX0 75 "java/lang/IllegalArgumentException" ["java/lang/RuntimeException", "java/lang/Exception"]).filter goodWord ++ (vx_atS RX0 95 "java/lang/IllegalStateException" ["java/lang/RuntimeException", "java/lang/Exception"]).filter goodWord)
def wsX0_findAllReputations_r1 : List Cond := [Cond.fieldLink RX0 57 "StampRelay" "reputations" "[I", Cond.fieldLink RX0 47 "StampRelay" "letterCount" "I", Cond.fieldLink RX0 9 "StampRelay" "senders" "[I", Cond.methodLink RX0 80 yX0_isPerson, Cond.static yX0_isPerson, Cond.initialized RX0, Cond.code yX0_isPerson cX0_isPerson 1 (some .boolean), Cond.methodLink RX0 181 yX0_opinionIn, Cond.instanceMethod yX0_opinionIn, Cond.selects RX0 yX0_opinionIn yX0_opinionIn, Cond.code yX0_opinionIn cX0_opinionIn 2 (some .int), Cond.fieldLink RX0 19 "StampRelay" "states" "[I", Cond.fieldLink RX0 13 "StampRelay" "readers" "[I", Cond.fieldLink RX0 31 "StampRelay" "falselyMarked" "[Z", Cond.methodLink RX0 112 yX0_isLetter, Cond.instanceMethod yX0_isLetter, Cond.selects RX0 yX0_isLetter yX0_isLetter, Cond.code yX0_isLetter cX0_isLetter 2 (some .boolean), Cond.methodLink RX0 175 yX0_weightOf, Cond.instanceMethod yX0_weightOf, Cond.selects RX0 yX0_weightOf yX0_weightOf, Cond.code yX0_weightOf cX0_weightOf 2 (some .int), Cond.fieldLink RX0 38 "StampRelay" "falseMarkCounts" "[I", Cond.methodLink RX0 178 Lib.Math.max.name]
def wsX0_findAllReputations_r2 : List Cond := [Cond.static Lib.Math.max.name, Cond.initialized "java/lang/Math", Cond.code Lib.Math.max.name Lib.Math.max.code 2 (some .int)]
def wsX0_findAllReputations : List Cond := .code yX0_findAllReputations cX0_findAllReputations 2 none :: ((wsX0_findAllReputations_r1 ++ wsX0_findAllReputations_r2) ++ wsX00)
def wsX0_beginLookingAtQueues_r1 : List Cond := [Cond.fieldLink RX0 47 "StampRelay" "letterCount" "I", Cond.fieldLink RX0 54 "StampRelay" "waitingAt" "[I", Cond.fieldLink RX0 22 "StampRelay" "places" "[I", Cond.methodLink RX0 147 yX0_findAllReputations, Cond.instanceMethod yX0_findAllReputations, Cond.selects RX0 yX0_findAllReputations yX0_findAllReputations, Cond.initialized RX0, Cond.code yX0_findAllReputations cX0_findAllReputations 2 none, Cond.fieldLink RX0 57 "StampRelay" "reputations" "[I", Cond.fieldLink RX0 9 "StampRelay" "senders" "[I", Cond.methodLink RX0 80 yX0_isPerson, Cond.static yX0_isPerson, Cond.code yX0_isPerson cX0_isPerson 1 (some .boolean), Cond.methodLink RX0 181 yX0_opinionIn, Cond.instanceMethod yX0_opinionIn, Cond.selects RX0 yX0_opinionIn yX0_opinionIn, Cond.code yX0_opinionIn cX0_opinionIn 2 (some .int), Cond.fieldLink RX0 19 "StampRelay" "states" "[I", Cond.fieldLink RX0 13 "StampRelay" "readers" "[I", Cond.fieldLink RX0 31 "StampRelay" "falselyMarked" "[Z", Cond.methodLink RX0 112 yX0_isLetter, Cond.instanceMethod yX0_isLetter, Cond.selects RX0 yX0_isLetter yX0_isLetter, Cond.code yX0_isLetter cX0_isLetter 2 (some .boolean)]
def wsX0_beginLookingAtQueues_r2 : List Cond := [Cond.methodLink RX0 175 yX0_weightOf, Cond.instanceMethod yX0_weightOf, Cond.selects RX0 yX0_weightOf yX0_weightOf, Cond.code yX0_weightOf cX0_weightOf 2 (some .int), Cond.fieldLink RX0 38 "StampRelay" "falseMarkCounts" "[I", Cond.methodLink RX0 178 Lib.Math.max.name, Cond.static Lib.Math.max.name, Cond.initialized "java/lang/Math", Cond.code Lib.Math.max.name Lib.Math.max.code 2 (some .int)]
def wsX0_beginLookingAtQueues : List Cond := .code yX0_beginLookingAtQueues cX0_beginLookingAtQueues 2 none :: ((wsX0_beginLookingAtQueues_r1 ++ wsX0_beginLookingAtQueues_r2) ++ wsX00)
def wsX0_rankOf : List Cond := .code yX0_rankOf cX0_rankOf 2 (some .int) :: ([.fieldLink RX0 9 "StampRelay" "senders" "[I", .fieldLink RX0 16 "StampRelay" "stakes" "[I", .fieldLink RX0 57 "StampRelay" "reputations" "[I", .methodLink RX0 112 yX0_isLetter, .instanceMethod yX0_isLetter, .selects RX0 yX0_isLetter yX0_isLetter, .initialized RX0, .code yX0_isLetter cX0_isLetter 2 (some .boolean), .fieldLink RX0 47 "StampRelay" "letterCount" "I", .methodLink RX0 80 yX0_isPerson, .static yX0_isPerson, .code yX0_isPerson cX0_isPerson 1 (some .boolean)] ++ wsX00)
def wsX0_takeFirstWaiting : List Cond := .code yX0_takeFirstWaiting cX0_takeFirstWaiting 4 (some .int) :: ([.fieldLink RX0 47 "StampRelay" "letterCount" "I", .fieldLink RX0 54 "StampRelay" "waitingAt" "[I", .methodLink RX0 156 yX0_rankOf, .instanceMethod yX0_rankOf, .selects RX0 yX0_rankOf yX0_rankOf, .initialized RX0, .code yX0_rankOf cX0_rankOf 2 (some .int), .fieldLink RX0 9 "StampRelay" "senders" "[I", .fieldLink RX0 16 "StampRelay" "stakes" "[I", .fieldLink RX0 57 "StampRelay" "reputations" "[I", .methodLink RX0 112 yX0_isLetter, .instanceMethod yX0_isLetter, .selects RX0 yX0_isLetter yX0_isLetter, .code yX0_isLetter cX0_isLetter 2 (some .boolean), .methodLink RX0 80 yX0_isPerson, .static yX0_isPerson, .code yX0_isPerson cX0_isPerson 1 (some .boolean)] ++ wsX00)
def wsX0_leaveQueue : List Cond := .code yX0_leaveQueue cX0_leaveQueue 3 none :: ([.fieldLink RX0 22 "StampRelay" "places" "[I", .fieldLink RX0 19 "StampRelay" "states" "[I", .methodLink RX0 112 yX0_isLetter, .instanceMethod yX0_isLetter, .selects RX0 yX0_isLetter yX0_isLetter, .initialized RX0, .code yX0_isLetter cX0_isLetter 2 (some .boolean), .fieldLink RX0 47 "StampRelay" "letterCount" "I"] ++ wsX00)
def wsX0_putStakeIntoPool : List Cond := .code yX0_putStakeIntoPool cX0_putStakeIntoPool 3 none :: ([.fieldLink RX0 41 "StampRelay" "pools" "[I", .fieldLink RX0 16 "StampRelay" "stakes" "[I", .methodLink RX0 112 yX0_isLetter, .instanceMethod yX0_isLetter, .selects RX0 yX0_isLetter yX0_isLetter, .initialized RX0, .code yX0_isLetter cX0_isLetter 2 (some .boolean), .fieldLink RX0 47 "StampRelay" "letterCount" "I", .methodLink RX0 60 yX0_isRelay, .static yX0_isRelay, .code yX0_isRelay cX0_isRelay 1 (some .boolean)] ++ wsX00)
def wsX0_moveOn_r1 : List Cond := [Cond.fieldLink RX0 13 "StampRelay" "readers" "[I", Cond.fieldLink RX0 28 "StampRelay" "deliveryTimes" "[I", Cond.fieldLink RX0 51 "StampRelay" "now" "I", Cond.fieldLink RX0 25 "StampRelay" "relaysSeen" "[I", Cond.methodLink RX0 112 yX0_isLetter, Cond.instanceMethod yX0_isLetter, Cond.selects RX0 yX0_isLetter yX0_isLetter, Cond.initialized RX0, Cond.code yX0_isLetter cX0_isLetter 2 (some .boolean), Cond.fieldLink RX0 47 "StampRelay" "letterCount" "I", Cond.methodLink RX0 96 yX0_homeOf, Cond.static yX0_homeOf, Cond.code yX0_homeOf cX0_homeOf 1 (some .int), Cond.methodLink RX0 159 yX0_leaveQueue, Cond.instanceMethod yX0_leaveQueue, Cond.selects RX0 yX0_leaveQueue yX0_leaveQueue, Cond.code yX0_leaveQueue cX0_leaveQueue 3 none, Cond.fieldLink RX0 22 "StampRelay" "places" "[I", Cond.fieldLink RX0 19 "StampRelay" "states" "[I", Cond.methodLink RX0 76 yX0_nextRelay, Cond.instanceMethod yX0_nextRelay, Cond.selects RX0 yX0_nextRelay yX0_nextRelay, Cond.code yX0_nextRelay cX0_nextRelay 3 (some .int), Cond.fieldLink RX0 44 "StampRelay" "routes" "[I"]
def wsX0_moveOn_r2 : List Cond := [Cond.methodLink RX0 60 yX0_isRelay, Cond.static yX0_isRelay, Cond.code yX0_isRelay cX0_isRelay 1 (some .boolean), Cond.methodLink RX0 162 yX0_markOf, Cond.static yX0_markOf, Cond.code yX0_markOf cX0_markOf 1 (some .int), Cond.methodLink RX0 126 yX0_putStakeIntoPool, Cond.instanceMethod yX0_putStakeIntoPool, Cond.selects RX0 yX0_putStakeIntoPool yX0_putStakeIntoPool, Cond.code yX0_putStakeIntoPool cX0_putStakeIntoPool 3 none, Cond.fieldLink RX0 41 "StampRelay" "pools" "[I", Cond.fieldLink RX0 16 "StampRelay" "stakes" "[I", Cond.methodLink RX0 99 yX0_layAt, Cond.instanceMethod yX0_layAt, Cond.selects RX0 yX0_layAt yX0_layAt, Cond.code yX0_layAt cX0_layAt 3 none]
def wsX0_moveOn : List Cond := .code yX0_moveOn cX0_moveOn 5 (some .int) :: ((wsX0_moveOn_r1 ++ wsX0_moveOn_r2) ++ wsX00)
def wsX0_giveStakeBack : List Cond := .code yX0_giveStakeBack cX0_giveStakeBack 2 none :: ([.fieldLink RX0 9 "StampRelay" "senders" "[I", .fieldLink RX0 35 "StampRelay" "purses" "[I", .fieldLink RX0 16 "StampRelay" "stakes" "[I", .methodLink RX0 112 yX0_isLetter, .instanceMethod yX0_isLetter, .selects RX0 yX0_isLetter yX0_isLetter, .initialized RX0, .code yX0_isLetter cX0_isLetter 2 (some .boolean), .fieldLink RX0 47 "StampRelay" "letterCount" "I", .methodLink RX0 80 yX0_isPerson, .static yX0_isPerson, .code yX0_isPerson cX0_isPerson 1 (some .boolean)] ++ wsX00)
def wsX0_expireOldLetters : List Cond := .code yX0_expireOldLetters cX0_expireOldLetters 2 none :: ([.fieldLink RX0 47 "StampRelay" "letterCount" "I", .fieldLink RX0 19 "StampRelay" "states" "[I", .fieldLink RX0 51 "StampRelay" "now" "I", .fieldLink RX0 28 "StampRelay" "deliveryTimes" "[I", .methodLink RX0 119 yX0_giveStakeBack, .instanceMethod yX0_giveStakeBack, .selects RX0 yX0_giveStakeBack yX0_giveStakeBack, .initialized RX0, .code yX0_giveStakeBack cX0_giveStakeBack 2 none, .fieldLink RX0 9 "StampRelay" "senders" "[I", .fieldLink RX0 35 "StampRelay" "purses" "[I", .fieldLink RX0 16 "StampRelay" "stakes" "[I", .methodLink RX0 112 yX0_isLetter, .instanceMethod yX0_isLetter, .selects RX0 yX0_isLetter yX0_isLetter, .code yX0_isLetter cX0_isLetter 2 (some .boolean), .methodLink RX0 80 yX0_isPerson, .static yX0_isPerson, .code yX0_isPerson cX0_isPerson 1 (some .boolean)] ++ wsX00)
def wsX0_passOneTick_r1 : List Cond := [Cond.fieldLink RX0 51 "StampRelay" "now" "I", Cond.methodLink RX0 141 yX0_beginLookingAtQueues, Cond.instanceMethod yX0_beginLookingAtQueues, Cond.selects RX0 yX0_beginLookingAtQueues yX0_beginLookingAtQueues, Cond.initialized RX0, Cond.code yX0_beginLookingAtQueues cX0_beginLookingAtQueues 2 none, Cond.fieldLink RX0 47 "StampRelay" "letterCount" "I", Cond.fieldLink RX0 54 "StampRelay" "waitingAt" "[I", Cond.fieldLink RX0 22 "StampRelay" "places" "[I", Cond.methodLink RX0 147 yX0_findAllReputations, Cond.instanceMethod yX0_findAllReputations, Cond.selects RX0 yX0_findAllReputations yX0_findAllReputations, Cond.code yX0_findAllReputations cX0_findAllReputations 2 none, Cond.fieldLink RX0 57 "StampRelay" "reputations" "[I", Cond.fieldLink RX0 9 "StampRelay" "senders" "[I", Cond.methodLink RX0 80 yX0_isPerson, Cond.static yX0_isPerson, Cond.code yX0_isPerson cX0_isPerson 1 (some .boolean), Cond.methodLink RX0 181 yX0_opinionIn, Cond.instanceMethod yX0_opinionIn, Cond.selects RX0 yX0_opinionIn yX0_opinionIn, Cond.code yX0_opinionIn cX0_opinionIn 2 (some .int), Cond.fieldLink RX0 19 "StampRelay" "states" "[I", Cond.fieldLink RX0 13 "StampRelay" "readers" "[I"]
def wsX0_passOneTick_r2 : List Cond := [Cond.fieldLink RX0 31 "StampRelay" "falselyMarked" "[Z", Cond.methodLink RX0 112 yX0_isLetter, Cond.instanceMethod yX0_isLetter, Cond.selects RX0 yX0_isLetter yX0_isLetter, Cond.code yX0_isLetter cX0_isLetter 2 (some .boolean), Cond.methodLink RX0 175 yX0_weightOf, Cond.instanceMethod yX0_weightOf, Cond.selects RX0 yX0_weightOf yX0_weightOf, Cond.code yX0_weightOf cX0_weightOf 2 (some .int), Cond.fieldLink RX0 38 "StampRelay" "falseMarkCounts" "[I", Cond.methodLink RX0 178 Lib.Math.max.name, Cond.static Lib.Math.max.name, Cond.initialized "java/lang/Math", Cond.code Lib.Math.max.name Lib.Math.max.code 2 (some .int), Cond.methodLink RX0 144 yX0_takeFirstWaiting, Cond.instanceMethod yX0_takeFirstWaiting, Cond.selects RX0 yX0_takeFirstWaiting yX0_takeFirstWaiting, Cond.code yX0_takeFirstWaiting cX0_takeFirstWaiting 4 (some .int), Cond.methodLink RX0 156 yX0_rankOf, Cond.instanceMethod yX0_rankOf, Cond.selects RX0 yX0_rankOf yX0_rankOf, Cond.code yX0_rankOf cX0_rankOf 2 (some .int), Cond.fieldLink RX0 16 "StampRelay" "stakes" "[I", Cond.methodLink RX0 150 yX0_moveOn]
def wsX0_passOneTick_r3 : List Cond := [Cond.instanceMethod yX0_moveOn, Cond.selects RX0 yX0_moveOn yX0_moveOn, Cond.code yX0_moveOn cX0_moveOn 5 (some .int), Cond.fieldLink RX0 28 "StampRelay" "deliveryTimes" "[I", Cond.fieldLink RX0 25 "StampRelay" "relaysSeen" "[I", Cond.methodLink RX0 96 yX0_homeOf, Cond.static yX0_homeOf, Cond.code yX0_homeOf cX0_homeOf 1 (some .int), Cond.methodLink RX0 159 yX0_leaveQueue, Cond.instanceMethod yX0_leaveQueue, Cond.selects RX0 yX0_leaveQueue yX0_leaveQueue, Cond.code yX0_leaveQueue cX0_leaveQueue 3 none, Cond.methodLink RX0 76 yX0_nextRelay, Cond.instanceMethod yX0_nextRelay, Cond.selects RX0 yX0_nextRelay yX0_nextRelay, Cond.code yX0_nextRelay cX0_nextRelay 3 (some .int), Cond.fieldLink RX0 44 "StampRelay" "routes" "[I", Cond.methodLink RX0 60 yX0_isRelay, Cond.static yX0_isRelay, Cond.code yX0_isRelay cX0_isRelay 1 (some .boolean), Cond.methodLink RX0 162 yX0_markOf, Cond.static yX0_markOf, Cond.code yX0_markOf cX0_markOf 1 (some .int), Cond.methodLink RX0 126 yX0_putStakeIntoPool]
def wsX0_passOneTick_r4 : List Cond := [Cond.instanceMethod yX0_putStakeIntoPool, Cond.selects RX0 yX0_putStakeIntoPool yX0_putStakeIntoPool, Cond.code yX0_putStakeIntoPool cX0_putStakeIntoPool 3 none, Cond.fieldLink RX0 41 "StampRelay" "pools" "[I", Cond.methodLink RX0 99 yX0_layAt, Cond.instanceMethod yX0_layAt, Cond.selects RX0 yX0_layAt yX0_layAt, Cond.code yX0_layAt cX0_layAt 3 none, Cond.methodLink RX0 153 yX0_expireOldLetters, Cond.instanceMethod yX0_expireOldLetters, Cond.selects RX0 yX0_expireOldLetters yX0_expireOldLetters, Cond.code yX0_expireOldLetters cX0_expireOldLetters 2 none, Cond.methodLink RX0 119 yX0_giveStakeBack, Cond.instanceMethod yX0_giveStakeBack, Cond.selects RX0 yX0_giveStakeBack yX0_giveStakeBack, Cond.code yX0_giveStakeBack cX0_giveStakeBack 2 none, Cond.fieldLink RX0 35 "StampRelay" "purses" "[I"]
def wsX0_passOneTick : List Cond := .code yX0_passOneTick cX0_passOneTick 4 (some .int) :: ((wsX0_passOneTick_r1 ++ (wsX0_passOneTick_r2 ++ (wsX0_passOneTick_r3 ++ wsX0_passOneTick_r4))) ++ wsX00)
def wsX0_pass_r1 : List Cond := [Cond.classLink RX0 71 "java/lang/IllegalArgumentException", Cond.initialized "java/lang/IllegalArgumentException", Cond.classLink RX0 91 "java/lang/IllegalStateException", Cond.initialized "java/lang/IllegalStateException", Cond.fieldLink RX0 51 "StampRelay" "now" "I", Cond.constant RX0 105 (100000), Cond.methodLink RX0 108 yX0_passOneTick, Cond.instanceMethod yX0_passOneTick, Cond.selects RX0 yX0_passOneTick yX0_passOneTick, Cond.initialized RX0, Cond.code yX0_passOneTick cX0_passOneTick 4 (some .int), Cond.methodLink RX0 141 yX0_beginLookingAtQueues, Cond.instanceMethod yX0_beginLookingAtQueues, Cond.selects RX0 yX0_beginLookingAtQueues yX0_beginLookingAtQueues, Cond.code yX0_beginLookingAtQueues cX0_beginLookingAtQueues 2 none, Cond.fieldLink RX0 47 "StampRelay" "letterCount" "I", Cond.fieldLink RX0 54 "StampRelay" "waitingAt" "[I", Cond.fieldLink RX0 22 "StampRelay" "places" "[I", Cond.methodLink RX0 147 yX0_findAllReputations, Cond.instanceMethod yX0_findAllReputations, Cond.selects RX0 yX0_findAllReputations yX0_findAllReputations, Cond.code yX0_findAllReputations cX0_findAllReputations 2 none, Cond.fieldLink RX0 57 "StampRelay" "reputations" "[I", Cond.fieldLink RX0 9 "StampRelay" "senders" "[I"]
def wsX0_pass_r2 : List Cond := [Cond.methodLink RX0 80 yX0_isPerson, Cond.static yX0_isPerson, Cond.code yX0_isPerson cX0_isPerson 1 (some .boolean), Cond.methodLink RX0 181 yX0_opinionIn, Cond.instanceMethod yX0_opinionIn, Cond.selects RX0 yX0_opinionIn yX0_opinionIn, Cond.code yX0_opinionIn cX0_opinionIn 2 (some .int), Cond.fieldLink RX0 19 "StampRelay" "states" "[I", Cond.fieldLink RX0 13 "StampRelay" "readers" "[I", Cond.fieldLink RX0 31 "StampRelay" "falselyMarked" "[Z", Cond.methodLink RX0 112 yX0_isLetter, Cond.instanceMethod yX0_isLetter, Cond.selects RX0 yX0_isLetter yX0_isLetter, Cond.code yX0_isLetter cX0_isLetter 2 (some .boolean), Cond.methodLink RX0 175 yX0_weightOf, Cond.instanceMethod yX0_weightOf, Cond.selects RX0 yX0_weightOf yX0_weightOf, Cond.code yX0_weightOf cX0_weightOf 2 (some .int), Cond.fieldLink RX0 38 "StampRelay" "falseMarkCounts" "[I", Cond.methodLink RX0 178 Lib.Math.max.name, Cond.static Lib.Math.max.name, Cond.initialized "java/lang/Math", Cond.code Lib.Math.max.name Lib.Math.max.code 2 (some .int), Cond.methodLink RX0 144 yX0_takeFirstWaiting]
def wsX0_pass_r3 : List Cond := [Cond.instanceMethod yX0_takeFirstWaiting, Cond.selects RX0 yX0_takeFirstWaiting yX0_takeFirstWaiting, Cond.code yX0_takeFirstWaiting cX0_takeFirstWaiting 4 (some .int), Cond.methodLink RX0 156 yX0_rankOf, Cond.instanceMethod yX0_rankOf, Cond.selects RX0 yX0_rankOf yX0_rankOf, Cond.code yX0_rankOf cX0_rankOf 2 (some .int), Cond.fieldLink RX0 16 "StampRelay" "stakes" "[I", Cond.methodLink RX0 150 yX0_moveOn, Cond.instanceMethod yX0_moveOn, Cond.selects RX0 yX0_moveOn yX0_moveOn, Cond.code yX0_moveOn cX0_moveOn 5 (some .int), Cond.fieldLink RX0 28 "StampRelay" "deliveryTimes" "[I", Cond.fieldLink RX0 25 "StampRelay" "relaysSeen" "[I", Cond.methodLink RX0 96 yX0_homeOf, Cond.static yX0_homeOf, Cond.code yX0_homeOf cX0_homeOf 1 (some .int), Cond.methodLink RX0 159 yX0_leaveQueue, Cond.instanceMethod yX0_leaveQueue, Cond.selects RX0 yX0_leaveQueue yX0_leaveQueue, Cond.code yX0_leaveQueue cX0_leaveQueue 3 none, Cond.methodLink RX0 76 yX0_nextRelay, Cond.instanceMethod yX0_nextRelay, Cond.selects RX0 yX0_nextRelay yX0_nextRelay]
def wsX0_pass_r4 : List Cond := [Cond.code yX0_nextRelay cX0_nextRelay 3 (some .int), Cond.fieldLink RX0 44 "StampRelay" "routes" "[I", Cond.methodLink RX0 60 yX0_isRelay, Cond.static yX0_isRelay, Cond.code yX0_isRelay cX0_isRelay 1 (some .boolean), Cond.methodLink RX0 162 yX0_markOf, Cond.static yX0_markOf, Cond.code yX0_markOf cX0_markOf 1 (some .int), Cond.methodLink RX0 126 yX0_putStakeIntoPool, Cond.instanceMethod yX0_putStakeIntoPool, Cond.selects RX0 yX0_putStakeIntoPool yX0_putStakeIntoPool, Cond.code yX0_putStakeIntoPool cX0_putStakeIntoPool 3 none, Cond.fieldLink RX0 41 "StampRelay" "pools" "[I", Cond.methodLink RX0 99 yX0_layAt, Cond.instanceMethod yX0_layAt, Cond.selects RX0 yX0_layAt yX0_layAt, Cond.code yX0_layAt cX0_layAt 3 none, Cond.methodLink RX0 153 yX0_expireOldLetters, Cond.instanceMethod yX0_expireOldLetters, Cond.selects RX0 yX0_expireOldLetters yX0_expireOldLetters, Cond.code yX0_expireOldLetters cX0_expireOldLetters 2 none, Cond.methodLink RX0 119 yX0_giveStakeBack, Cond.instanceMethod yX0_giveStakeBack, Cond.selects RX0 yX0_giveStakeBack yX0_giveStakeBack]
def wsX0_pass_r5 : List Cond := [Cond.code yX0_giveStakeBack cX0_giveStakeBack 2 none, Cond.fieldLink RX0 35 "StampRelay" "purses" "[I"]
def wsX0_pass : List Cond := .code yX0_pass cX0_pass 4 (some .int) :: ((wsX0_pass_r1 ++ (wsX0_pass_r2 ++ (wsX0_pass_r3 ++ (wsX0_pass_r4 ++ wsX0_pass_r5)))) ++ wsX00 ++ (vx_atS RX0 75 "java/lang/IllegalArgumentException" ["java/lang/RuntimeException", "java/lang/Exception"]).filter goodWord ++ (vx_atS RX0 95 "java/lang/IllegalStateException" ["java/lang/RuntimeException", "java/lang/Exception"]).filter goodWord)
def wsX0_answer_r1 : List Cond := [Cond.classLink RX0 64 "java/lang/IndexOutOfBoundsException", Cond.initialized "java/lang/IndexOutOfBoundsException", Cond.classLink RX0 91 "java/lang/IllegalStateException", Cond.initialized "java/lang/IllegalStateException", Cond.fieldLink RX0 19 "StampRelay" "states" "[I", Cond.fieldLink RX0 9 "StampRelay" "senders" "[I", Cond.methodLink RX0 112 yX0_isLetter, Cond.instanceMethod yX0_isLetter, Cond.selects RX0 yX0_isLetter yX0_isLetter, Cond.initialized RX0, Cond.code yX0_isLetter cX0_isLetter 2 (some .boolean), Cond.fieldLink RX0 47 "StampRelay" "letterCount" "I", Cond.methodLink RX0 119 yX0_giveStakeBack, Cond.instanceMethod yX0_giveStakeBack, Cond.selects RX0 yX0_giveStakeBack yX0_giveStakeBack, Cond.code yX0_giveStakeBack cX0_giveStakeBack 2 none, Cond.fieldLink RX0 35 "StampRelay" "purses" "[I", Cond.fieldLink RX0 16 "StampRelay" "stakes" "[I", Cond.methodLink RX0 80 yX0_isPerson, Cond.static yX0_isPerson, Cond.code yX0_isPerson cX0_isPerson 1 (some .boolean), Cond.methodLink RX0 123 yX0_reputationOf, Cond.instanceMethod yX0_reputationOf, Cond.selects RX0 yX0_reputationOf yX0_reputationOf]
def wsX0_answer_r2 : List Cond := [Cond.code yX0_reputationOf cX0_reputationOf 4 (some .int), Cond.methodLink RX0 181 yX0_opinionIn, Cond.instanceMethod yX0_opinionIn, Cond.selects RX0 yX0_opinionIn yX0_opinionIn, Cond.code yX0_opinionIn cX0_opinionIn 2 (some .int), Cond.fieldLink RX0 13 "StampRelay" "readers" "[I", Cond.fieldLink RX0 31 "StampRelay" "falselyMarked" "[Z", Cond.methodLink RX0 175 yX0_weightOf, Cond.instanceMethod yX0_weightOf, Cond.selects RX0 yX0_weightOf yX0_weightOf, Cond.code yX0_weightOf cX0_weightOf 2 (some .int), Cond.fieldLink RX0 38 "StampRelay" "falseMarkCounts" "[I", Cond.methodLink RX0 178 Lib.Math.max.name, Cond.static Lib.Math.max.name, Cond.initialized "java/lang/Math", Cond.code Lib.Math.max.name Lib.Math.max.code 2 (some .int)]
def wsX0_answer : List Cond := .code yX0_answer cX0_answer 2 (some .int) :: ((wsX0_answer_r1 ++ wsX0_answer_r2) ++ wsX00 ++ (vx_atS RX0 68 "java/lang/IndexOutOfBoundsException" ["java/lang/RuntimeException", "java/lang/Exception"]).filter goodWord ++ (vx_atS RX0 95 "java/lang/IllegalStateException" ["java/lang/RuntimeException", "java/lang/Exception"]).filter goodWord)
def wsJ6_bitCount_0f7a4 : List Cond := .code yJ6_bitCount_0f7a4 cJ6_bitCount_0f7a4 1 (some .int) :: ([.constant RJ6 265 (1431655765), .constant RJ6 266 (858993459), .constant RJ6 267 (252645135)])
def wsX0_othersWhoAnswered : List Cond := .code yX0_othersWhoAnswered cX0_othersWhoAnswered 5 (some .int) :: ([.fieldLink RX0 47 "StampRelay" "letterCount" "I", .fieldLink RX0 19 "StampRelay" "states" "[I", .fieldLink RX0 9 "StampRelay" "senders" "[I", .fieldLink RX0 13 "StampRelay" "readers" "[I", .methodLink RX0 170 yJ6_bitCount_0f7a4, .static yJ6_bitCount_0f7a4, .initialized RJ6, .code yJ6_bitCount_0f7a4 cJ6_bitCount_0f7a4 1 (some .int), .constant RJ6 265 (1431655765), .constant RJ6 266 (858993459), .constant RJ6 267 (252645135)] ++ wsX00)
def wsX0_payForFalseMark : List Cond := .code yX0_payForFalseMark cX0_payForFalseMark 5 (some .int) :: ([.fieldLink RX0 35 "StampRelay" "purses" "[I", .methodLink RX0 165 Lib.Math.min.name, .static Lib.Math.min.name, .initialized "java/lang/Math", .code Lib.Math.min.name Lib.Math.min.code 2 (some .int), .fieldLink RX0 38 "StampRelay" "falseMarkCounts" "[I", .methodLink RX0 80 yX0_isPerson, .static yX0_isPerson, .initialized RX0, .code yX0_isPerson cX0_isPerson 1 (some .boolean)] ++ wsX00)
def wsX0_mark_r1 : List Cond := [Cond.classLink RX0 64 "java/lang/IndexOutOfBoundsException", Cond.initialized "java/lang/IndexOutOfBoundsException", Cond.classLink RX0 91 "java/lang/IllegalStateException", Cond.initialized "java/lang/IllegalStateException", Cond.fieldLink RX0 19 "StampRelay" "states" "[I", Cond.fieldLink RX0 13 "StampRelay" "readers" "[I", Cond.fieldLink RX0 9 "StampRelay" "senders" "[I", Cond.fieldLink RX0 31 "StampRelay" "falselyMarked" "[Z", Cond.fieldLink RX0 16 "StampRelay" "stakes" "[I", Cond.methodLink RX0 112 yX0_isLetter, Cond.instanceMethod yX0_isLetter, Cond.selects RX0 yX0_isLetter yX0_isLetter, Cond.initialized RX0, Cond.code yX0_isLetter cX0_isLetter 2 (some .boolean), Cond.fieldLink RX0 47 "StampRelay" "letterCount" "I", Cond.methodLink RX0 96 yX0_homeOf, Cond.static yX0_homeOf, Cond.code yX0_homeOf cX0_homeOf 1 (some .int), Cond.methodLink RX0 126 yX0_putStakeIntoPool, Cond.instanceMethod yX0_putStakeIntoPool, Cond.selects RX0 yX0_putStakeIntoPool yX0_putStakeIntoPool, Cond.code yX0_putStakeIntoPool cX0_putStakeIntoPool 3 none, Cond.fieldLink RX0 41 "StampRelay" "pools" "[I", Cond.methodLink RX0 60 yX0_isRelay]
def wsX0_mark_r2 : List Cond := [Cond.static yX0_isRelay, Cond.code yX0_isRelay cX0_isRelay 1 (some .boolean), Cond.methodLink RX0 129 yX0_othersWhoAnswered, Cond.instanceMethod yX0_othersWhoAnswered, Cond.selects RX0 yX0_othersWhoAnswered yX0_othersWhoAnswered, Cond.code yX0_othersWhoAnswered cX0_othersWhoAnswered 5 (some .int), Cond.methodLink RX0 170 yJ6_bitCount_0f7a4, Cond.static yJ6_bitCount_0f7a4, Cond.initialized RJ6, Cond.code yJ6_bitCount_0f7a4 cJ6_bitCount_0f7a4 1 (some .int), Cond.constant RJ6 265 (1431655765), Cond.constant RJ6 266 (858993459), Cond.constant RJ6 267 (252645135), Cond.methodLink RX0 132 yX0_payForFalseMark, Cond.instanceMethod yX0_payForFalseMark, Cond.selects RX0 yX0_payForFalseMark yX0_payForFalseMark, Cond.code yX0_payForFalseMark cX0_payForFalseMark 5 (some .int), Cond.fieldLink RX0 35 "StampRelay" "purses" "[I", Cond.methodLink RX0 165 Lib.Math.min.name, Cond.static Lib.Math.min.name, Cond.initialized "java/lang/Math", Cond.code Lib.Math.min.name Lib.Math.min.code 2 (some .int), Cond.fieldLink RX0 38 "StampRelay" "falseMarkCounts" "[I", Cond.methodLink RX0 80 yX0_isPerson]
def wsX0_mark_r3 : List Cond := [Cond.static yX0_isPerson, Cond.code yX0_isPerson cX0_isPerson 1 (some .boolean)]
def wsX0_mark : List Cond := .code yX0_mark cX0_mark 2 (some .int) :: ((wsX0_mark_r1 ++ (wsX0_mark_r2 ++ wsX0_mark_r3)) ++ wsX00 ++ (vx_atS RX0 68 "java/lang/IndexOutOfBoundsException" ["java/lang/RuntimeException", "java/lang/Exception"]).filter goodWord ++ (vx_atS RX0 95 "java/lang/IllegalStateException" ["java/lang/RuntimeException", "java/lang/Exception"]).filter goodWord)
def wsX0_letters : List Cond := .code yX0_letters cX0_letters 1 (some .int) :: ([.fieldLink RX0 47 "StampRelay" "letterCount" "I"] ++ wsX00)
def wsX0_time : List Cond := .code yX0_time cX0_time 1 (some .int) :: ([.fieldLink RX0 51 "StampRelay" "now" "I"] ++ wsX00)
def wsX0_stateOf : List Cond := .code yX0_stateOf cX0_stateOf 2 (some .int) :: ([.classLink RX0 64 "java/lang/IndexOutOfBoundsException", .initialized "java/lang/IndexOutOfBoundsException", .fieldLink RX0 19 "StampRelay" "states" "[I", .methodLink RX0 112 yX0_isLetter, .instanceMethod yX0_isLetter, .selects RX0 yX0_isLetter yX0_isLetter, .initialized RX0, .code yX0_isLetter cX0_isLetter 2 (some .boolean), .fieldLink RX0 47 "StampRelay" "letterCount" "I"] ++ wsX00 ++ (vx_atS RX0 68 "java/lang/IndexOutOfBoundsException" ["java/lang/RuntimeException", "java/lang/Exception"]).filter goodWord)
def wsX0_relayOf : List Cond := .code yX0_relayOf cX0_relayOf 2 (some .int) :: ([.classLink RX0 64 "java/lang/IndexOutOfBoundsException", .initialized "java/lang/IndexOutOfBoundsException", .fieldLink RX0 22 "StampRelay" "places" "[I", .methodLink RX0 112 yX0_isLetter, .instanceMethod yX0_isLetter, .selects RX0 yX0_isLetter yX0_isLetter, .initialized RX0, .code yX0_isLetter cX0_isLetter 2 (some .boolean), .fieldLink RX0 47 "StampRelay" "letterCount" "I"] ++ wsX00 ++ (vx_atS RX0 68 "java/lang/IndexOutOfBoundsException" ["java/lang/RuntimeException", "java/lang/Exception"]).filter goodWord)
def wsX0_marksOn : List Cond := .code yX0_marksOn cX0_marksOn 2 (some .int) :: ([.classLink RX0 64 "java/lang/IndexOutOfBoundsException", .initialized "java/lang/IndexOutOfBoundsException", .fieldLink RX0 25 "StampRelay" "relaysSeen" "[I", .methodLink RX0 112 yX0_isLetter, .instanceMethod yX0_isLetter, .selects RX0 yX0_isLetter yX0_isLetter, .initialized RX0, .code yX0_isLetter cX0_isLetter 2 (some .boolean), .fieldLink RX0 47 "StampRelay" "letterCount" "I"] ++ wsX00 ++ (vx_atS RX0 68 "java/lang/IndexOutOfBoundsException" ["java/lang/RuntimeException", "java/lang/Exception"]).filter goodWord)
def wsX0_lengthOfQueue : List Cond := .code yX0_lengthOfQueue cX0_lengthOfQueue 4 (some .int) :: ([.fieldLink RX0 47 "StampRelay" "letterCount" "I", .fieldLink RX0 22 "StampRelay" "places" "[I"] ++ wsX00)
def wsX0_queue : List Cond := .code yX0_queue cX0_queue 2 (some .int) :: ([.classLink RX0 64 "java/lang/IndexOutOfBoundsException", .initialized "java/lang/IndexOutOfBoundsException", .methodLink RX0 60 yX0_isRelay, .static yX0_isRelay, .initialized RX0, .code yX0_isRelay cX0_isRelay 1 (some .boolean), .methodLink RX0 136 yX0_lengthOfQueue, .instanceMethod yX0_lengthOfQueue, .selects RX0 yX0_lengthOfQueue yX0_lengthOfQueue, .code yX0_lengthOfQueue cX0_lengthOfQueue 4 (some .int), .fieldLink RX0 47 "StampRelay" "letterCount" "I", .fieldLink RX0 22 "StampRelay" "places" "[I"] ++ wsX00 ++ (vx_atS RX0 68 "java/lang/IndexOutOfBoundsException" ["java/lang/RuntimeException", "java/lang/Exception"]).filter goodWord)
def wsX0_queueAt_r1 : List Cond := [Cond.classLink RX0 64 "java/lang/IndexOutOfBoundsException", Cond.initialized "java/lang/IndexOutOfBoundsException", Cond.methodLink RX0 60 yX0_isRelay, Cond.static yX0_isRelay, Cond.initialized RX0, Cond.code yX0_isRelay cX0_isRelay 1 (some .boolean), Cond.methodLink RX0 136 yX0_lengthOfQueue, Cond.instanceMethod yX0_lengthOfQueue, Cond.selects RX0 yX0_lengthOfQueue yX0_lengthOfQueue, Cond.code yX0_lengthOfQueue cX0_lengthOfQueue 4 (some .int), Cond.fieldLink RX0 47 "StampRelay" "letterCount" "I", Cond.fieldLink RX0 22 "StampRelay" "places" "[I", Cond.methodLink RX0 141 yX0_beginLookingAtQueues, Cond.instanceMethod yX0_beginLookingAtQueues, Cond.selects RX0 yX0_beginLookingAtQueues yX0_beginLookingAtQueues, Cond.code yX0_beginLookingAtQueues cX0_beginLookingAtQueues 2 none, Cond.fieldLink RX0 54 "StampRelay" "waitingAt" "[I", Cond.methodLink RX0 147 yX0_findAllReputations, Cond.instanceMethod yX0_findAllReputations, Cond.selects RX0 yX0_findAllReputations yX0_findAllReputations, Cond.code yX0_findAllReputations cX0_findAllReputations 2 none, Cond.fieldLink RX0 57 "StampRelay" "reputations" "[I", Cond.fieldLink RX0 9 "StampRelay" "senders" "[I", Cond.methodLink RX0 80 yX0_isPerson]
def wsX0_queueAt_r2 : List Cond := [Cond.static yX0_isPerson, Cond.code yX0_isPerson cX0_isPerson 1 (some .boolean), Cond.methodLink RX0 181 yX0_opinionIn, Cond.instanceMethod yX0_opinionIn, Cond.selects RX0 yX0_opinionIn yX0_opinionIn, Cond.code yX0_opinionIn cX0_opinionIn 2 (some .int), Cond.fieldLink RX0 19 "StampRelay" "states" "[I", Cond.fieldLink RX0 13 "StampRelay" "readers" "[I", Cond.fieldLink RX0 31 "StampRelay" "falselyMarked" "[Z", Cond.methodLink RX0 112 yX0_isLetter, Cond.instanceMethod yX0_isLetter, Cond.selects RX0 yX0_isLetter yX0_isLetter, Cond.code yX0_isLetter cX0_isLetter 2 (some .boolean), Cond.methodLink RX0 175 yX0_weightOf, Cond.instanceMethod yX0_weightOf, Cond.selects RX0 yX0_weightOf yX0_weightOf, Cond.code yX0_weightOf cX0_weightOf 2 (some .int), Cond.fieldLink RX0 38 "StampRelay" "falseMarkCounts" "[I", Cond.methodLink RX0 178 Lib.Math.max.name, Cond.static Lib.Math.max.name, Cond.initialized "java/lang/Math", Cond.code Lib.Math.max.name Lib.Math.max.code 2 (some .int), Cond.methodLink RX0 144 yX0_takeFirstWaiting, Cond.instanceMethod yX0_takeFirstWaiting]
def wsX0_queueAt_r3 : List Cond := [Cond.selects RX0 yX0_takeFirstWaiting yX0_takeFirstWaiting, Cond.code yX0_takeFirstWaiting cX0_takeFirstWaiting 4 (some .int), Cond.methodLink RX0 156 yX0_rankOf, Cond.instanceMethod yX0_rankOf, Cond.selects RX0 yX0_rankOf yX0_rankOf, Cond.code yX0_rankOf cX0_rankOf 2 (some .int), Cond.fieldLink RX0 16 "StampRelay" "stakes" "[I"]
def wsX0_queueAt : List Cond := .code yX0_queueAt cX0_queueAt 4 (some .int) :: ((wsX0_queueAt_r1 ++ (wsX0_queueAt_r2 ++ wsX0_queueAt_r3)) ++ wsX00 ++ (vx_atS RX0 68 "java/lang/IndexOutOfBoundsException" ["java/lang/RuntimeException", "java/lang/Exception"]).filter goodWord)
def wsX0_coins : List Cond := .code yX0_coins cX0_coins 2 (some .int) :: ([.classLink RX0 64 "java/lang/IndexOutOfBoundsException", .initialized "java/lang/IndexOutOfBoundsException", .fieldLink RX0 35 "StampRelay" "purses" "[I", .methodLink RX0 80 yX0_isPerson, .static yX0_isPerson, .initialized RX0, .code yX0_isPerson cX0_isPerson 1 (some .boolean)] ++ wsX00 ++ (vx_atS RX0 68 "java/lang/IndexOutOfBoundsException" ["java/lang/RuntimeException", "java/lang/Exception"]).filter goodWord)
def wsX0_pool : List Cond := .code yX0_pool cX0_pool 2 (some .int) :: ([.classLink RX0 64 "java/lang/IndexOutOfBoundsException", .initialized "java/lang/IndexOutOfBoundsException", .fieldLink RX0 41 "StampRelay" "pools" "[I", .methodLink RX0 60 yX0_isRelay, .static yX0_isRelay, .initialized RX0, .code yX0_isRelay cX0_isRelay 1 (some .boolean)] ++ wsX00 ++ (vx_atS RX0 68 "java/lang/IndexOutOfBoundsException" ["java/lang/RuntimeException", "java/lang/Exception"]).filter goodWord)
def wsX0_escrow : List Cond := .code yX0_escrow cX0_escrow 3 (some .int) :: ([.fieldLink RX0 47 "StampRelay" "letterCount" "I", .fieldLink RX0 19 "StampRelay" "states" "[I", .fieldLink RX0 16 "StampRelay" "stakes" "[I"] ++ wsX00)
def wsX0_reputation_r1 : List Cond := [Cond.classLink RX0 64 "java/lang/IndexOutOfBoundsException", Cond.initialized "java/lang/IndexOutOfBoundsException", Cond.methodLink RX0 80 yX0_isPerson, Cond.static yX0_isPerson, Cond.initialized RX0, Cond.code yX0_isPerson cX0_isPerson 1 (some .boolean), Cond.methodLink RX0 123 yX0_reputationOf, Cond.instanceMethod yX0_reputationOf, Cond.selects RX0 yX0_reputationOf yX0_reputationOf, Cond.code yX0_reputationOf cX0_reputationOf 4 (some .int), Cond.fieldLink RX0 47 "StampRelay" "letterCount" "I", Cond.fieldLink RX0 9 "StampRelay" "senders" "[I", Cond.methodLink RX0 181 yX0_opinionIn, Cond.instanceMethod yX0_opinionIn, Cond.selects RX0 yX0_opinionIn yX0_opinionIn, Cond.code yX0_opinionIn cX0_opinionIn 2 (some .int), Cond.fieldLink RX0 19 "StampRelay" "states" "[I", Cond.fieldLink RX0 13 "StampRelay" "readers" "[I", Cond.fieldLink RX0 31 "StampRelay" "falselyMarked" "[Z", Cond.methodLink RX0 112 yX0_isLetter, Cond.instanceMethod yX0_isLetter, Cond.selects RX0 yX0_isLetter yX0_isLetter, Cond.code yX0_isLetter cX0_isLetter 2 (some .boolean), Cond.methodLink RX0 175 yX0_weightOf]
def wsX0_reputation_r2 : List Cond := [Cond.instanceMethod yX0_weightOf, Cond.selects RX0 yX0_weightOf yX0_weightOf, Cond.code yX0_weightOf cX0_weightOf 2 (some .int), Cond.fieldLink RX0 38 "StampRelay" "falseMarkCounts" "[I", Cond.methodLink RX0 178 Lib.Math.max.name, Cond.static Lib.Math.max.name, Cond.initialized "java/lang/Math", Cond.code Lib.Math.max.name Lib.Math.max.code 2 (some .int)]
def wsX0_reputation : List Cond := .code yX0_reputation cX0_reputation 2 (some .int) :: ((wsX0_reputation_r1 ++ wsX0_reputation_r2) ++ wsX00 ++ (vx_atS RX0 68 "java/lang/IndexOutOfBoundsException" ["java/lang/RuntimeException", "java/lang/Exception"]).filter goodWord)
def wsX0_reputationAtOnce_r1 : List Cond := [Cond.classLink RX0 64 "java/lang/IndexOutOfBoundsException", Cond.initialized "java/lang/IndexOutOfBoundsException", Cond.fieldLink RX0 57 "StampRelay" "reputations" "[I", Cond.methodLink RX0 80 yX0_isPerson, Cond.static yX0_isPerson, Cond.initialized RX0, Cond.code yX0_isPerson cX0_isPerson 1 (some .boolean), Cond.methodLink RX0 147 yX0_findAllReputations, Cond.instanceMethod yX0_findAllReputations, Cond.selects RX0 yX0_findAllReputations yX0_findAllReputations, Cond.code yX0_findAllReputations cX0_findAllReputations 2 none, Cond.fieldLink RX0 47 "StampRelay" "letterCount" "I", Cond.fieldLink RX0 9 "StampRelay" "senders" "[I", Cond.methodLink RX0 181 yX0_opinionIn, Cond.instanceMethod yX0_opinionIn, Cond.selects RX0 yX0_opinionIn yX0_opinionIn, Cond.code yX0_opinionIn cX0_opinionIn 2 (some .int), Cond.fieldLink RX0 19 "StampRelay" "states" "[I", Cond.fieldLink RX0 13 "StampRelay" "readers" "[I", Cond.fieldLink RX0 31 "StampRelay" "falselyMarked" "[Z", Cond.methodLink RX0 112 yX0_isLetter, Cond.instanceMethod yX0_isLetter, Cond.selects RX0 yX0_isLetter yX0_isLetter, Cond.code yX0_isLetter cX0_isLetter 2 (some .boolean)]
def wsX0_reputationAtOnce_r2 : List Cond := [Cond.methodLink RX0 175 yX0_weightOf, Cond.instanceMethod yX0_weightOf, Cond.selects RX0 yX0_weightOf yX0_weightOf, Cond.code yX0_weightOf cX0_weightOf 2 (some .int), Cond.fieldLink RX0 38 "StampRelay" "falseMarkCounts" "[I", Cond.methodLink RX0 178 Lib.Math.max.name, Cond.static Lib.Math.max.name, Cond.initialized "java/lang/Math", Cond.code Lib.Math.max.name Lib.Math.max.code 2 (some .int)]
def wsX0_reputationAtOnce : List Cond := .code yX0_reputationAtOnce cX0_reputationAtOnce 2 (some .int) :: ((wsX0_reputationAtOnce_r1 ++ wsX0_reputationAtOnce_r2) ++ wsX00 ++ (vx_atS RX0 68 "java/lang/IndexOutOfBoundsException" ["java/lang/RuntimeException", "java/lang/Exception"]).filter goodWord)
def wsX0_leastStake_r1 : List Cond := [Cond.classLink RX0 64 "java/lang/IndexOutOfBoundsException", Cond.initialized "java/lang/IndexOutOfBoundsException", Cond.methodLink RX0 80 yX0_isPerson, Cond.static yX0_isPerson, Cond.initialized RX0, Cond.code yX0_isPerson cX0_isPerson 1 (some .boolean), Cond.methodLink RX0 87 yX0_lowestStakeOf, Cond.instanceMethod yX0_lowestStakeOf, Cond.selects RX0 yX0_lowestStakeOf yX0_lowestStakeOf, Cond.code yX0_lowestStakeOf cX0_lowestStakeOf 2 (some .int), Cond.methodLink RX0 165 Lib.Math.min.name, Cond.static Lib.Math.min.name, Cond.initialized "java/lang/Math", Cond.code Lib.Math.min.name Lib.Math.min.code 2 (some .int), Cond.methodLink RX0 178 Lib.Math.max.name, Cond.static Lib.Math.max.name, Cond.code Lib.Math.max.name Lib.Math.max.code 2 (some .int), Cond.methodLink RX0 123 yX0_reputationOf, Cond.instanceMethod yX0_reputationOf, Cond.selects RX0 yX0_reputationOf yX0_reputationOf, Cond.code yX0_reputationOf cX0_reputationOf 4 (some .int), Cond.fieldLink RX0 47 "StampRelay" "letterCount" "I", Cond.fieldLink RX0 9 "StampRelay" "senders" "[I", Cond.methodLink RX0 181 yX0_opinionIn]
def wsX0_leastStake_r2 : List Cond := [Cond.instanceMethod yX0_opinionIn, Cond.selects RX0 yX0_opinionIn yX0_opinionIn, Cond.code yX0_opinionIn cX0_opinionIn 2 (some .int), Cond.fieldLink RX0 19 "StampRelay" "states" "[I", Cond.fieldLink RX0 13 "StampRelay" "readers" "[I", Cond.fieldLink RX0 31 "StampRelay" "falselyMarked" "[Z", Cond.methodLink RX0 112 yX0_isLetter, Cond.instanceMethod yX0_isLetter, Cond.selects RX0 yX0_isLetter yX0_isLetter, Cond.code yX0_isLetter cX0_isLetter 2 (some .boolean), Cond.methodLink RX0 175 yX0_weightOf, Cond.instanceMethod yX0_weightOf, Cond.selects RX0 yX0_weightOf yX0_weightOf, Cond.code yX0_weightOf cX0_weightOf 2 (some .int), Cond.fieldLink RX0 38 "StampRelay" "falseMarkCounts" "[I"]
def wsX0_leastStake : List Cond := .code yX0_leastStake cX0_leastStake 2 (some .int) :: ((wsX0_leastStake_r1 ++ wsX0_leastStake_r2) ++ wsX00 ++ (vx_atS RX0 68 "java/lang/IndexOutOfBoundsException" ["java/lang/RuntimeException", "java/lang/Exception"]).filter goodWord)
def wsX0_falseMarks : List Cond := .code yX0_falseMarks cX0_falseMarks 2 (some .int) :: ([.classLink RX0 64 "java/lang/IndexOutOfBoundsException", .initialized "java/lang/IndexOutOfBoundsException", .fieldLink RX0 38 "StampRelay" "falseMarkCounts" "[I", .methodLink RX0 80 yX0_isPerson, .static yX0_isPerson, .initialized RX0, .code yX0_isPerson cX0_isPerson 1 (some .boolean)] ++ wsX00 ++ (vx_atS RX0 68 "java/lang/IndexOutOfBoundsException" ["java/lang/RuntimeException", "java/lang/Exception"]).filter goodWord)
def wsX1_init : List Cond := .code yX1_init cX1_init 2 none :: ([.methodLink RX1 1 objectInit, .instanceMethod objectInit, .code objectInit ⟨#[0xb1]⟩ 1 none, .arrayClass .int, .fieldLink RX1 7 "StampRelayModel" "routes" "[I", .fieldLink RX1 13 "StampRelayModel" "coins" "[I", .fieldLink RX1 16 "StampRelayModel" "pools" "[I", .fieldLink RX1 19 "StampRelayModel" "falsely" "[I", .fieldLink RX1 22 "StampRelayModel" "sender" "[I", .fieldLink RX1 25 "StampRelayModel" "reader" "[I", .fieldLink RX1 28 "StampRelayModel" "stake" "[I", .fieldLink RX1 31 "StampRelayModel" "state" "[I", .fieldLink RX1 34 "StampRelayModel" "relay" "[I", .fieldLink RX1 37 "StampRelayModel" "marks" "[I", .fieldLink RX1 40 "StampRelayModel" "came" "[I", .arrayClass .boolean, .fieldLink RX1 43 "StampRelayModel" "isFalse" "[Z", .fieldLink RX1 47 "StampRelayModel" "moves" "[Z"] ++ wsX10)
def wsX1_thrown : List Cond := .code yX1_thrown cX1_thrown 1 (some .int) :: ([.fieldLink RX1 50 "StampRelayModel" "thrown" "I"] ++ wsX10)
def wsX1_can : List Cond := .code yX1_can cX1_can 2 (some .boolean) :: ([.fieldLink RX1 50 "StampRelayModel" "thrown" "I"] ++ wsX10)
def wsX1_isIn : List Cond := .code yX1_isIn cX1_isIn 3 (some .boolean) :: ([])
def wsX1_isPerson : List Cond := .code yX1_isPerson cX1_isPerson 1 (some .boolean) :: ([.methodLink RX1 54 yX1_isIn, .static yX1_isIn, .initialized RX1, .code yX1_isIn cX1_isIn 3 (some .boolean)])
def wsX1_isRelay : List Cond := .code yX1_isRelay cX1_isRelay 1 (some .boolean) :: ([.methodLink RX1 54 yX1_isIn, .static yX1_isIn, .initialized RX1, .code yX1_isIn cX1_isIn 3 (some .boolean)])
def wsX1_isLetter : List Cond := .code yX1_isLetter cX1_isLetter 2 (some .boolean) :: ([.fieldLink RX1 58 "StampRelayModel" "letters" "I", .methodLink RX1 54 yX1_isIn, .static yX1_isIn, .initialized RX1, .code yX1_isIn cX1_isIn 3 (some .boolean)] ++ wsX10)
def wsX1_has : List Cond := .code yX1_has cX1_has 2 (some .boolean) :: ([])
def wsX1_setRoute : List Cond := .code yX1_setRoute cX1_setRoute 6 (some .int) :: ([.fieldLink RX1 7 "StampRelayModel" "routes" "[I", .methodLink RX1 61 yX1_isRelay, .static yX1_isRelay, .initialized RX1, .code yX1_isRelay cX1_isRelay 1 (some .boolean), .methodLink RX1 54 yX1_isIn, .static yX1_isIn, .code yX1_isIn cX1_isIn 3 (some .boolean), .methodLink RX1 65 yX1_can, .instanceMethod yX1_can, .selects RX1 yX1_can yX1_can, .code yX1_can cX1_can 2 (some .boolean), .fieldLink RX1 50 "StampRelayModel" "thrown" "I"] ++ wsX10)
def wsX1_way : List Cond := .code yX1_way cX1_way 6 (some .int) :: ([.fieldLink RX1 7 "StampRelayModel" "routes" "[I", .methodLink RX1 68 yX1_has, .static yX1_has, .initialized RX1, .code yX1_has cX1_has 2 (some .boolean)] ++ wsX10)
def wsX1_steps : List Cond := .code yX1_steps cX1_steps 3 (some .int) :: ([.methodLink RX1 61 yX1_isRelay, .static yX1_isRelay, .initialized RX1, .code yX1_isRelay cX1_isRelay 1 (some .boolean), .methodLink RX1 54 yX1_isIn, .static yX1_isIn, .code yX1_isIn cX1_isIn 3 (some .boolean), .methodLink RX1 65 yX1_can, .instanceMethod yX1_can, .selects RX1 yX1_can yX1_can, .code yX1_can cX1_can 2 (some .boolean), .fieldLink RX1 50 "StampRelayModel" "thrown" "I", .methodLink RX1 72 yX1_way, .instanceMethod yX1_way, .selects RX1 yX1_way yX1_way, .code yX1_way cX1_way 6 (some .int), .fieldLink RX1 7 "StampRelayModel" "routes" "[I", .methodLink RX1 68 yX1_has, .static yX1_has, .code yX1_has cX1_has 2 (some .boolean)] ++ wsX10)
def wsX1_weight : List Cond := .code yX1_weight cX1_weight 2 (some .int) :: ([.fieldLink RX1 19 "StampRelayModel" "falsely" "[I"] ++ wsX10)
def wsX1_nameOf : List Cond := .code yX1_nameOf cX1_nameOf 5 (some .int) :: ([.fieldLink RX1 58 "StampRelayModel" "letters" "I", .fieldLink RX1 22 "StampRelayModel" "sender" "[I", .fieldLink RX1 31 "StampRelayModel" "state" "[I", .fieldLink RX1 25 "StampRelayModel" "reader" "[I", .fieldLink RX1 43 "StampRelayModel" "isFalse" "[Z", .methodLink RX1 76 yX1_weight, .instanceMethod yX1_weight, .selects RX1 yX1_weight yX1_weight, .initialized RX1, .code yX1_weight cX1_weight 2 (some .int), .fieldLink RX1 19 "StampRelayModel" "falsely" "[I"] ++ wsX10)
def wsX1_least : List Cond := .code yX1_least cX1_least 3 (some .int) :: ([.methodLink RX1 80 yX1_nameOf, .instanceMethod yX1_nameOf, .selects RX1 yX1_nameOf yX1_nameOf, .initialized RX1, .code yX1_nameOf cX1_nameOf 5 (some .int), .fieldLink RX1 58 "StampRelayModel" "letters" "I", .fieldLink RX1 22 "StampRelayModel" "sender" "[I", .fieldLink RX1 31 "StampRelayModel" "state" "[I", .fieldLink RX1 25 "StampRelayModel" "reader" "[I", .fieldLink RX1 43 "StampRelayModel" "isFalse" "[Z", .methodLink RX1 76 yX1_weight, .instanceMethod yX1_weight, .selects RX1 yX1_weight yX1_weight, .code yX1_weight cX1_weight 2 (some .int), .fieldLink RX1 19 "StampRelayModel" "falsely" "[I"] ++ wsX10)
def wsX1_send_r1 : List Cond := [Cond.fieldLink RX1 13 "StampRelayModel" "coins" "[I", Cond.fieldLink RX1 58 "StampRelayModel" "letters" "I", Cond.fieldLink RX1 22 "StampRelayModel" "sender" "[I", Cond.fieldLink RX1 25 "StampRelayModel" "reader" "[I", Cond.fieldLink RX1 28 "StampRelayModel" "stake" "[I", Cond.fieldLink RX1 34 "StampRelayModel" "relay" "[I", Cond.fieldLink RX1 37 "StampRelayModel" "marks" "[I", Cond.methodLink RX1 83 yX1_isPerson, Cond.static yX1_isPerson, Cond.initialized RX1, Cond.code yX1_isPerson cX1_isPerson 1 (some .boolean), Cond.methodLink RX1 54 yX1_isIn, Cond.static yX1_isIn, Cond.code yX1_isIn cX1_isIn 3 (some .boolean), Cond.methodLink RX1 86 yX1_least, Cond.instanceMethod yX1_least, Cond.selects RX1 yX1_least yX1_least, Cond.code yX1_least cX1_least 3 (some .int), Cond.methodLink RX1 80 yX1_nameOf, Cond.instanceMethod yX1_nameOf, Cond.selects RX1 yX1_nameOf yX1_nameOf, Cond.code yX1_nameOf cX1_nameOf 5 (some .int), Cond.fieldLink RX1 31 "StampRelayModel" "state" "[I", Cond.fieldLink RX1 43 "StampRelayModel" "isFalse" "[Z"]
def wsX1_send_r2 : List Cond := [Cond.methodLink RX1 76 yX1_weight, Cond.instanceMethod yX1_weight, Cond.selects RX1 yX1_weight yX1_weight, Cond.code yX1_weight cX1_weight 2 (some .int), Cond.fieldLink RX1 19 "StampRelayModel" "falsely" "[I", Cond.methodLink RX1 65 yX1_can, Cond.instanceMethod yX1_can, Cond.selects RX1 yX1_can yX1_can, Cond.code yX1_can cX1_can 2 (some .boolean), Cond.fieldLink RX1 50 "StampRelayModel" "thrown" "I"]
def wsX1_send : List Cond := .code yX1_send cX1_send 7 (some .int) :: ((wsX1_send_r1 ++ wsX1_send_r2) ++ wsX10)
def wsX1_isAhead : List Cond := .code yX1_isAhead cX1_isAhead 5 (some .boolean) :: ([.fieldLink RX1 28 "StampRelayModel" "stake" "[I", .fieldLink RX1 22 "StampRelayModel" "sender" "[I", .methodLink RX1 80 yX1_nameOf, .instanceMethod yX1_nameOf, .selects RX1 yX1_nameOf yX1_nameOf, .initialized RX1, .code yX1_nameOf cX1_nameOf 5 (some .int), .fieldLink RX1 58 "StampRelayModel" "letters" "I", .fieldLink RX1 31 "StampRelayModel" "state" "[I", .fieldLink RX1 25 "StampRelayModel" "reader" "[I", .fieldLink RX1 43 "StampRelayModel" "isFalse" "[Z", .methodLink RX1 76 yX1_weight, .instanceMethod yX1_weight, .selects RX1 yX1_weight yX1_weight, .code yX1_weight cX1_weight 2 (some .int), .fieldLink RX1 19 "StampRelayModel" "falsely" "[I"] ++ wsX10)
def wsX1_liesAt : List Cond := .code yX1_liesAt cX1_liesAt 3 (some .boolean) :: ([.fieldLink RX1 31 "StampRelayModel" "state" "[I", .fieldLink RX1 34 "StampRelayModel" "relay" "[I"] ++ wsX10)
def wsX1_placeOf_r1 : List Cond := [Cond.fieldLink RX1 58 "StampRelayModel" "letters" "I", Cond.fieldLink RX1 34 "StampRelayModel" "relay" "[I", Cond.methodLink RX1 89 yX1_liesAt, Cond.instanceMethod yX1_liesAt, Cond.selects RX1 yX1_liesAt yX1_liesAt, Cond.initialized RX1, Cond.code yX1_liesAt cX1_liesAt 3 (some .boolean), Cond.fieldLink RX1 31 "StampRelayModel" "state" "[I", Cond.methodLink RX1 92 yX1_isAhead, Cond.instanceMethod yX1_isAhead, Cond.selects RX1 yX1_isAhead yX1_isAhead, Cond.code yX1_isAhead cX1_isAhead 5 (some .boolean), Cond.fieldLink RX1 28 "StampRelayModel" "stake" "[I", Cond.fieldLink RX1 22 "StampRelayModel" "sender" "[I", Cond.methodLink RX1 80 yX1_nameOf, Cond.instanceMethod yX1_nameOf, Cond.selects RX1 yX1_nameOf yX1_nameOf, Cond.code yX1_nameOf cX1_nameOf 5 (some .int), Cond.fieldLink RX1 25 "StampRelayModel" "reader" "[I", Cond.fieldLink RX1 43 "StampRelayModel" "isFalse" "[Z", Cond.methodLink RX1 76 yX1_weight, Cond.instanceMethod yX1_weight, Cond.selects RX1 yX1_weight yX1_weight, Cond.code yX1_weight cX1_weight 2 (some .int)]
def wsX1_placeOf_r2 : List Cond := [Cond.fieldLink RX1 19 "StampRelayModel" "falsely" "[I"]
def wsX1_placeOf : List Cond := .code yX1_placeOf cX1_placeOf 4 (some .int) :: ((wsX1_placeOf_r1 ++ wsX1_placeOf_r2) ++ wsX10)
def wsX1_goes : List Cond := .code yX1_goes cX1_goes 5 (some .boolean) :: ([.fieldLink RX1 34 "StampRelayModel" "relay" "[I", .fieldLink RX1 25 "StampRelayModel" "reader" "[I", .fieldLink RX1 7 "StampRelayModel" "routes" "[I", .fieldLink RX1 31 "StampRelayModel" "state" "[I", .fieldLink RX1 40 "StampRelayModel" "came" "[I", .fieldLink RX1 95 "StampRelayModel" "time" "I", .fieldLink RX1 37 "StampRelayModel" "marks" "[I", .fieldLink RX1 16 "StampRelayModel" "pools" "[I", .fieldLink RX1 28 "StampRelayModel" "stake" "[I", .methodLink RX1 68 yX1_has, .static yX1_has, .initialized RX1, .code yX1_has cX1_has 2 (some .boolean)] ++ wsX10)
def wsX1_ticks_r1 : List Cond := [Cond.fieldLink RX1 95 "StampRelayModel" "time" "I", Cond.fieldLink RX1 58 "StampRelayModel" "letters" "I", Cond.fieldLink RX1 47 "StampRelayModel" "moves" "[Z", Cond.fieldLink RX1 31 "StampRelayModel" "state" "[I", Cond.fieldLink RX1 40 "StampRelayModel" "came" "[I", Cond.fieldLink RX1 13 "StampRelayModel" "coins" "[I", Cond.fieldLink RX1 22 "StampRelayModel" "sender" "[I", Cond.fieldLink RX1 28 "StampRelayModel" "stake" "[I", Cond.methodLink RX1 98 yX1_placeOf, Cond.instanceMethod yX1_placeOf, Cond.selects RX1 yX1_placeOf yX1_placeOf, Cond.initialized RX1, Cond.code yX1_placeOf cX1_placeOf 4 (some .int), Cond.fieldLink RX1 34 "StampRelayModel" "relay" "[I", Cond.methodLink RX1 89 yX1_liesAt, Cond.instanceMethod yX1_liesAt, Cond.selects RX1 yX1_liesAt yX1_liesAt, Cond.code yX1_liesAt cX1_liesAt 3 (some .boolean), Cond.methodLink RX1 92 yX1_isAhead, Cond.instanceMethod yX1_isAhead, Cond.selects RX1 yX1_isAhead yX1_isAhead, Cond.code yX1_isAhead cX1_isAhead 5 (some .boolean), Cond.methodLink RX1 80 yX1_nameOf, Cond.instanceMethod yX1_nameOf]
def wsX1_ticks_r2 : List Cond := [Cond.selects RX1 yX1_nameOf yX1_nameOf, Cond.code yX1_nameOf cX1_nameOf 5 (some .int), Cond.fieldLink RX1 25 "StampRelayModel" "reader" "[I", Cond.fieldLink RX1 43 "StampRelayModel" "isFalse" "[Z", Cond.methodLink RX1 76 yX1_weight, Cond.instanceMethod yX1_weight, Cond.selects RX1 yX1_weight yX1_weight, Cond.code yX1_weight cX1_weight 2 (some .int), Cond.fieldLink RX1 19 "StampRelayModel" "falsely" "[I", Cond.methodLink RX1 101 yX1_goes, Cond.instanceMethod yX1_goes, Cond.selects RX1 yX1_goes yX1_goes, Cond.code yX1_goes cX1_goes 5 (some .boolean), Cond.fieldLink RX1 7 "StampRelayModel" "routes" "[I", Cond.fieldLink RX1 37 "StampRelayModel" "marks" "[I", Cond.fieldLink RX1 16 "StampRelayModel" "pools" "[I", Cond.methodLink RX1 68 yX1_has, Cond.static yX1_has, Cond.code yX1_has cX1_has 2 (some .boolean)]
def wsX1_ticks : List Cond := .code yX1_ticks cX1_ticks 3 (some .int) :: ((wsX1_ticks_r1 ++ wsX1_ticks_r2) ++ wsX10)
def wsX1_pass_r1 : List Cond := [Cond.fieldLink RX1 95 "StampRelayModel" "time" "I", Cond.constant RX1 104 (100000), Cond.methodLink RX1 54 yX1_isIn, Cond.static yX1_isIn, Cond.initialized RX1, Cond.code yX1_isIn cX1_isIn 3 (some .boolean), Cond.methodLink RX1 65 yX1_can, Cond.instanceMethod yX1_can, Cond.selects RX1 yX1_can yX1_can, Cond.code yX1_can cX1_can 2 (some .boolean), Cond.fieldLink RX1 50 "StampRelayModel" "thrown" "I", Cond.methodLink RX1 105 yX1_ticks, Cond.instanceMethod yX1_ticks, Cond.selects RX1 yX1_ticks yX1_ticks, Cond.code yX1_ticks cX1_ticks 3 (some .int), Cond.fieldLink RX1 58 "StampRelayModel" "letters" "I", Cond.fieldLink RX1 47 "StampRelayModel" "moves" "[Z", Cond.fieldLink RX1 31 "StampRelayModel" "state" "[I", Cond.fieldLink RX1 40 "StampRelayModel" "came" "[I", Cond.fieldLink RX1 13 "StampRelayModel" "coins" "[I", Cond.fieldLink RX1 22 "StampRelayModel" "sender" "[I", Cond.fieldLink RX1 28 "StampRelayModel" "stake" "[I", Cond.methodLink RX1 98 yX1_placeOf, Cond.instanceMethod yX1_placeOf]
def wsX1_pass_r2 : List Cond := [Cond.selects RX1 yX1_placeOf yX1_placeOf, Cond.code yX1_placeOf cX1_placeOf 4 (some .int), Cond.fieldLink RX1 34 "StampRelayModel" "relay" "[I", Cond.methodLink RX1 89 yX1_liesAt, Cond.instanceMethod yX1_liesAt, Cond.selects RX1 yX1_liesAt yX1_liesAt, Cond.code yX1_liesAt cX1_liesAt 3 (some .boolean), Cond.methodLink RX1 92 yX1_isAhead, Cond.instanceMethod yX1_isAhead, Cond.selects RX1 yX1_isAhead yX1_isAhead, Cond.code yX1_isAhead cX1_isAhead 5 (some .boolean), Cond.methodLink RX1 80 yX1_nameOf, Cond.instanceMethod yX1_nameOf, Cond.selects RX1 yX1_nameOf yX1_nameOf, Cond.code yX1_nameOf cX1_nameOf 5 (some .int), Cond.fieldLink RX1 25 "StampRelayModel" "reader" "[I", Cond.fieldLink RX1 43 "StampRelayModel" "isFalse" "[Z", Cond.methodLink RX1 76 yX1_weight, Cond.instanceMethod yX1_weight, Cond.selects RX1 yX1_weight yX1_weight, Cond.code yX1_weight cX1_weight 2 (some .int), Cond.fieldLink RX1 19 "StampRelayModel" "falsely" "[I", Cond.methodLink RX1 101 yX1_goes, Cond.instanceMethod yX1_goes]
def wsX1_pass_r3 : List Cond := [Cond.selects RX1 yX1_goes yX1_goes, Cond.code yX1_goes cX1_goes 5 (some .boolean), Cond.fieldLink RX1 7 "StampRelayModel" "routes" "[I", Cond.fieldLink RX1 37 "StampRelayModel" "marks" "[I", Cond.fieldLink RX1 16 "StampRelayModel" "pools" "[I", Cond.methodLink RX1 68 yX1_has, Cond.static yX1_has, Cond.code yX1_has cX1_has 2 (some .boolean)]
def wsX1_pass : List Cond := .code yX1_pass cX1_pass 4 (some .int) :: ((wsX1_pass_r1 ++ (wsX1_pass_r2 ++ wsX1_pass_r3)) ++ wsX10)
def wsX1_answer_r1 : List Cond := [Cond.fieldLink RX1 31 "StampRelayModel" "state" "[I", Cond.fieldLink RX1 13 "StampRelayModel" "coins" "[I", Cond.fieldLink RX1 22 "StampRelayModel" "sender" "[I", Cond.fieldLink RX1 28 "StampRelayModel" "stake" "[I", Cond.methodLink RX1 109 yX1_isLetter, Cond.instanceMethod yX1_isLetter, Cond.selects RX1 yX1_isLetter yX1_isLetter, Cond.initialized RX1, Cond.code yX1_isLetter cX1_isLetter 2 (some .boolean), Cond.fieldLink RX1 58 "StampRelayModel" "letters" "I", Cond.methodLink RX1 54 yX1_isIn, Cond.static yX1_isIn, Cond.code yX1_isIn cX1_isIn 3 (some .boolean), Cond.methodLink RX1 65 yX1_can, Cond.instanceMethod yX1_can, Cond.selects RX1 yX1_can yX1_can, Cond.code yX1_can cX1_can 2 (some .boolean), Cond.fieldLink RX1 50 "StampRelayModel" "thrown" "I", Cond.methodLink RX1 80 yX1_nameOf, Cond.instanceMethod yX1_nameOf, Cond.selects RX1 yX1_nameOf yX1_nameOf, Cond.code yX1_nameOf cX1_nameOf 5 (some .int), Cond.fieldLink RX1 25 "StampRelayModel" "reader" "[I", Cond.fieldLink RX1 43 "StampRelayModel" "isFalse" "[Z"]
def wsX1_answer_r2 : List Cond := [Cond.methodLink RX1 76 yX1_weight, Cond.instanceMethod yX1_weight, Cond.selects RX1 yX1_weight yX1_weight, Cond.code yX1_weight cX1_weight 2 (some .int), Cond.fieldLink RX1 19 "StampRelayModel" "falsely" "[I"]
def wsX1_answer : List Cond := .code yX1_answer cX1_answer 2 (some .int) :: ((wsX1_answer_r1 ++ wsX1_answer_r2) ++ wsX10)
def wsX1_others : List Cond := .code yX1_others cX1_others 5 (some .int) :: ([.fieldLink RX1 58 "StampRelayModel" "letters" "I", .fieldLink RX1 22 "StampRelayModel" "sender" "[I", .fieldLink RX1 31 "StampRelayModel" "state" "[I", .fieldLink RX1 25 "StampRelayModel" "reader" "[I"] ++ wsX10)
def wsX1_mark_r1 : List Cond := [Cond.fieldLink RX1 31 "StampRelayModel" "state" "[I", Cond.fieldLink RX1 25 "StampRelayModel" "reader" "[I", Cond.fieldLink RX1 43 "StampRelayModel" "isFalse" "[Z", Cond.fieldLink RX1 16 "StampRelayModel" "pools" "[I", Cond.fieldLink RX1 28 "StampRelayModel" "stake" "[I", Cond.fieldLink RX1 13 "StampRelayModel" "coins" "[I", Cond.fieldLink RX1 19 "StampRelayModel" "falsely" "[I", Cond.fieldLink RX1 22 "StampRelayModel" "sender" "[I", Cond.methodLink RX1 109 yX1_isLetter, Cond.instanceMethod yX1_isLetter, Cond.selects RX1 yX1_isLetter yX1_isLetter, Cond.initialized RX1, Cond.code yX1_isLetter cX1_isLetter 2 (some .boolean), Cond.fieldLink RX1 58 "StampRelayModel" "letters" "I", Cond.methodLink RX1 54 yX1_isIn, Cond.static yX1_isIn, Cond.code yX1_isIn cX1_isIn 3 (some .boolean), Cond.methodLink RX1 65 yX1_can, Cond.instanceMethod yX1_can, Cond.selects RX1 yX1_can yX1_can, Cond.code yX1_can cX1_can 2 (some .boolean), Cond.fieldLink RX1 50 "StampRelayModel" "thrown" "I", Cond.methodLink RX1 112 yX1_others, Cond.instanceMethod yX1_others]
def wsX1_mark_r2 : List Cond := [Cond.selects RX1 yX1_others yX1_others, Cond.code yX1_others cX1_others 5 (some .int), Cond.methodLink RX1 68 yX1_has, Cond.static yX1_has, Cond.code yX1_has cX1_has 2 (some .boolean)]
def wsX1_mark : List Cond := .code yX1_mark cX1_mark 5 (some .int) :: ((wsX1_mark_r1 ++ wsX1_mark_r2) ++ wsX10)
def wsX1_letters : List Cond := .code yX1_letters cX1_letters 1 (some .int) :: ([.fieldLink RX1 50 "StampRelayModel" "thrown" "I", .fieldLink RX1 58 "StampRelayModel" "letters" "I"] ++ wsX10)
def wsX1_time : List Cond := .code yX1_time cX1_time 1 (some .int) :: ([.fieldLink RX1 50 "StampRelayModel" "thrown" "I", .fieldLink RX1 95 "StampRelayModel" "time" "I"] ++ wsX10)
def wsX1_isAsked : List Cond := .code yX1_isAsked cX1_isAsked 2 (some .boolean) :: ([.methodLink RX1 109 yX1_isLetter, .instanceMethod yX1_isLetter, .selects RX1 yX1_isLetter yX1_isLetter, .initialized RX1, .code yX1_isLetter cX1_isLetter 2 (some .boolean), .fieldLink RX1 58 "StampRelayModel" "letters" "I", .methodLink RX1 54 yX1_isIn, .static yX1_isIn, .code yX1_isIn cX1_isIn 3 (some .boolean), .methodLink RX1 65 yX1_can, .instanceMethod yX1_can, .selects RX1 yX1_can yX1_can, .code yX1_can cX1_can 2 (some .boolean), .fieldLink RX1 50 "StampRelayModel" "thrown" "I"] ++ wsX10)
def wsX1_stateOf : List Cond := .code yX1_stateOf cX1_stateOf 2 (some .int) :: ([.fieldLink RX1 31 "StampRelayModel" "state" "[I", .methodLink RX1 115 yX1_isAsked, .instanceMethod yX1_isAsked, .selects RX1 yX1_isAsked yX1_isAsked, .initialized RX1, .code yX1_isAsked cX1_isAsked 2 (some .boolean), .methodLink RX1 109 yX1_isLetter, .instanceMethod yX1_isLetter, .selects RX1 yX1_isLetter yX1_isLetter, .code yX1_isLetter cX1_isLetter 2 (some .boolean), .fieldLink RX1 58 "StampRelayModel" "letters" "I", .methodLink RX1 54 yX1_isIn, .static yX1_isIn, .code yX1_isIn cX1_isIn 3 (some .boolean), .methodLink RX1 65 yX1_can, .instanceMethod yX1_can, .selects RX1 yX1_can yX1_can, .code yX1_can cX1_can 2 (some .boolean), .fieldLink RX1 50 "StampRelayModel" "thrown" "I"] ++ wsX10)
def wsX1_relayOf : List Cond := .code yX1_relayOf cX1_relayOf 2 (some .int) :: ([.fieldLink RX1 31 "StampRelayModel" "state" "[I", .fieldLink RX1 34 "StampRelayModel" "relay" "[I", .methodLink RX1 115 yX1_isAsked, .instanceMethod yX1_isAsked, .selects RX1 yX1_isAsked yX1_isAsked, .initialized RX1, .code yX1_isAsked cX1_isAsked 2 (some .boolean), .methodLink RX1 109 yX1_isLetter, .instanceMethod yX1_isLetter, .selects RX1 yX1_isLetter yX1_isLetter, .code yX1_isLetter cX1_isLetter 2 (some .boolean), .fieldLink RX1 58 "StampRelayModel" "letters" "I", .methodLink RX1 54 yX1_isIn, .static yX1_isIn, .code yX1_isIn cX1_isIn 3 (some .boolean), .methodLink RX1 65 yX1_can, .instanceMethod yX1_can, .selects RX1 yX1_can yX1_can, .code yX1_can cX1_can 2 (some .boolean), .fieldLink RX1 50 "StampRelayModel" "thrown" "I"] ++ wsX10)
def wsX1_marksOn : List Cond := .code yX1_marksOn cX1_marksOn 2 (some .int) :: ([.fieldLink RX1 37 "StampRelayModel" "marks" "[I", .methodLink RX1 115 yX1_isAsked, .instanceMethod yX1_isAsked, .selects RX1 yX1_isAsked yX1_isAsked, .initialized RX1, .code yX1_isAsked cX1_isAsked 2 (some .boolean), .methodLink RX1 109 yX1_isLetter, .instanceMethod yX1_isLetter, .selects RX1 yX1_isLetter yX1_isLetter, .code yX1_isLetter cX1_isLetter 2 (some .boolean), .fieldLink RX1 58 "StampRelayModel" "letters" "I", .methodLink RX1 54 yX1_isIn, .static yX1_isIn, .code yX1_isIn cX1_isIn 3 (some .boolean), .methodLink RX1 65 yX1_can, .instanceMethod yX1_can, .selects RX1 yX1_can yX1_can, .code yX1_can cX1_can 2 (some .boolean), .fieldLink RX1 50 "StampRelayModel" "thrown" "I"] ++ wsX10)
def wsX1_lengthOf : List Cond := .code yX1_lengthOf cX1_lengthOf 4 (some .int) :: ([.fieldLink RX1 58 "StampRelayModel" "letters" "I", .methodLink RX1 89 yX1_liesAt, .instanceMethod yX1_liesAt, .selects RX1 yX1_liesAt yX1_liesAt, .initialized RX1, .code yX1_liesAt cX1_liesAt 3 (some .boolean), .fieldLink RX1 31 "StampRelayModel" "state" "[I", .fieldLink RX1 34 "StampRelayModel" "relay" "[I"] ++ wsX10)
def wsX1_queue : List Cond := .code yX1_queue cX1_queue 2 (some .int) :: ([.methodLink RX1 61 yX1_isRelay, .static yX1_isRelay, .initialized RX1, .code yX1_isRelay cX1_isRelay 1 (some .boolean), .methodLink RX1 54 yX1_isIn, .static yX1_isIn, .code yX1_isIn cX1_isIn 3 (some .boolean), .methodLink RX1 65 yX1_can, .instanceMethod yX1_can, .selects RX1 yX1_can yX1_can, .code yX1_can cX1_can 2 (some .boolean), .fieldLink RX1 50 "StampRelayModel" "thrown" "I", .methodLink RX1 118 yX1_lengthOf, .instanceMethod yX1_lengthOf, .selects RX1 yX1_lengthOf yX1_lengthOf, .code yX1_lengthOf cX1_lengthOf 4 (some .int), .fieldLink RX1 58 "StampRelayModel" "letters" "I", .methodLink RX1 89 yX1_liesAt, .instanceMethod yX1_liesAt, .selects RX1 yX1_liesAt yX1_liesAt, .code yX1_liesAt cX1_liesAt 3 (some .boolean), .fieldLink RX1 31 "StampRelayModel" "state" "[I", .fieldLink RX1 34 "StampRelayModel" "relay" "[I"] ++ wsX10)
def wsX1_queueAt_r1 : List Cond := [Cond.fieldLink RX1 58 "StampRelayModel" "letters" "I", Cond.methodLink RX1 61 yX1_isRelay, Cond.static yX1_isRelay, Cond.initialized RX1, Cond.code yX1_isRelay cX1_isRelay 1 (some .boolean), Cond.methodLink RX1 54 yX1_isIn, Cond.static yX1_isIn, Cond.code yX1_isIn cX1_isIn 3 (some .boolean), Cond.methodLink RX1 118 yX1_lengthOf, Cond.instanceMethod yX1_lengthOf, Cond.selects RX1 yX1_lengthOf yX1_lengthOf, Cond.code yX1_lengthOf cX1_lengthOf 4 (some .int), Cond.methodLink RX1 89 yX1_liesAt, Cond.instanceMethod yX1_liesAt, Cond.selects RX1 yX1_liesAt yX1_liesAt, Cond.code yX1_liesAt cX1_liesAt 3 (some .boolean), Cond.fieldLink RX1 31 "StampRelayModel" "state" "[I", Cond.fieldLink RX1 34 "StampRelayModel" "relay" "[I", Cond.methodLink RX1 65 yX1_can, Cond.instanceMethod yX1_can, Cond.selects RX1 yX1_can yX1_can, Cond.code yX1_can cX1_can 2 (some .boolean), Cond.fieldLink RX1 50 "StampRelayModel" "thrown" "I", Cond.methodLink RX1 98 yX1_placeOf]
def wsX1_queueAt_r2 : List Cond := [Cond.instanceMethod yX1_placeOf, Cond.selects RX1 yX1_placeOf yX1_placeOf, Cond.code yX1_placeOf cX1_placeOf 4 (some .int), Cond.methodLink RX1 92 yX1_isAhead, Cond.instanceMethod yX1_isAhead, Cond.selects RX1 yX1_isAhead yX1_isAhead, Cond.code yX1_isAhead cX1_isAhead 5 (some .boolean), Cond.fieldLink RX1 28 "StampRelayModel" "stake" "[I", Cond.fieldLink RX1 22 "StampRelayModel" "sender" "[I", Cond.methodLink RX1 80 yX1_nameOf, Cond.instanceMethod yX1_nameOf, Cond.selects RX1 yX1_nameOf yX1_nameOf, Cond.code yX1_nameOf cX1_nameOf 5 (some .int), Cond.fieldLink RX1 25 "StampRelayModel" "reader" "[I", Cond.fieldLink RX1 43 "StampRelayModel" "isFalse" "[Z", Cond.methodLink RX1 76 yX1_weight, Cond.instanceMethod yX1_weight, Cond.selects RX1 yX1_weight yX1_weight, Cond.code yX1_weight cX1_weight 2 (some .int), Cond.fieldLink RX1 19 "StampRelayModel" "falsely" "[I"]
def wsX1_queueAt : List Cond := .code yX1_queueAt cX1_queueAt 5 (some .int) :: ((wsX1_queueAt_r1 ++ wsX1_queueAt_r2) ++ wsX10)
def wsX1_isKnown : List Cond := .code yX1_isKnown cX1_isKnown 2 (some .boolean) :: ([.methodLink RX1 83 yX1_isPerson, .static yX1_isPerson, .initialized RX1, .code yX1_isPerson cX1_isPerson 1 (some .boolean), .methodLink RX1 54 yX1_isIn, .static yX1_isIn, .code yX1_isIn cX1_isIn 3 (some .boolean), .methodLink RX1 65 yX1_can, .instanceMethod yX1_can, .selects RX1 yX1_can yX1_can, .code yX1_can cX1_can 2 (some .boolean), .fieldLink RX1 50 "StampRelayModel" "thrown" "I"] ++ wsX10)
def wsX1_coins : List Cond := .code yX1_coins cX1_coins 2 (some .int) :: ([.fieldLink RX1 13 "StampRelayModel" "coins" "[I", .methodLink RX1 121 yX1_isKnown, .instanceMethod yX1_isKnown, .selects RX1 yX1_isKnown yX1_isKnown, .initialized RX1, .code yX1_isKnown cX1_isKnown 2 (some .boolean), .methodLink RX1 83 yX1_isPerson, .static yX1_isPerson, .code yX1_isPerson cX1_isPerson 1 (some .boolean), .methodLink RX1 54 yX1_isIn, .static yX1_isIn, .code yX1_isIn cX1_isIn 3 (some .boolean), .methodLink RX1 65 yX1_can, .instanceMethod yX1_can, .selects RX1 yX1_can yX1_can, .code yX1_can cX1_can 2 (some .boolean), .fieldLink RX1 50 "StampRelayModel" "thrown" "I"] ++ wsX10)
def wsX1_pool : List Cond := .code yX1_pool cX1_pool 2 (some .int) :: ([.fieldLink RX1 16 "StampRelayModel" "pools" "[I", .methodLink RX1 61 yX1_isRelay, .static yX1_isRelay, .initialized RX1, .code yX1_isRelay cX1_isRelay 1 (some .boolean), .methodLink RX1 54 yX1_isIn, .static yX1_isIn, .code yX1_isIn cX1_isIn 3 (some .boolean), .methodLink RX1 65 yX1_can, .instanceMethod yX1_can, .selects RX1 yX1_can yX1_can, .code yX1_can cX1_can 2 (some .boolean), .fieldLink RX1 50 "StampRelayModel" "thrown" "I"] ++ wsX10)
def wsX1_escrow : List Cond := .code yX1_escrow cX1_escrow 3 (some .int) :: ([.fieldLink RX1 50 "StampRelayModel" "thrown" "I", .fieldLink RX1 58 "StampRelayModel" "letters" "I", .fieldLink RX1 31 "StampRelayModel" "state" "[I", .fieldLink RX1 28 "StampRelayModel" "stake" "[I"] ++ wsX10)
def wsX1_reputation_r1 : List Cond := [Cond.methodLink RX1 121 yX1_isKnown, Cond.instanceMethod yX1_isKnown, Cond.selects RX1 yX1_isKnown yX1_isKnown, Cond.initialized RX1, Cond.code yX1_isKnown cX1_isKnown 2 (some .boolean), Cond.methodLink RX1 83 yX1_isPerson, Cond.static yX1_isPerson, Cond.code yX1_isPerson cX1_isPerson 1 (some .boolean), Cond.methodLink RX1 54 yX1_isIn, Cond.static yX1_isIn, Cond.code yX1_isIn cX1_isIn 3 (some .boolean), Cond.methodLink RX1 65 yX1_can, Cond.instanceMethod yX1_can, Cond.selects RX1 yX1_can yX1_can, Cond.code yX1_can cX1_can 2 (some .boolean), Cond.fieldLink RX1 50 "StampRelayModel" "thrown" "I", Cond.methodLink RX1 80 yX1_nameOf, Cond.instanceMethod yX1_nameOf, Cond.selects RX1 yX1_nameOf yX1_nameOf, Cond.code yX1_nameOf cX1_nameOf 5 (some .int), Cond.fieldLink RX1 58 "StampRelayModel" "letters" "I", Cond.fieldLink RX1 22 "StampRelayModel" "sender" "[I", Cond.fieldLink RX1 31 "StampRelayModel" "state" "[I", Cond.fieldLink RX1 25 "StampRelayModel" "reader" "[I"]
def wsX1_reputation_r2 : List Cond := [Cond.fieldLink RX1 43 "StampRelayModel" "isFalse" "[Z", Cond.methodLink RX1 76 yX1_weight, Cond.instanceMethod yX1_weight, Cond.selects RX1 yX1_weight yX1_weight, Cond.code yX1_weight cX1_weight 2 (some .int), Cond.fieldLink RX1 19 "StampRelayModel" "falsely" "[I"]
def wsX1_reputation : List Cond := .code yX1_reputation cX1_reputation 2 (some .int) :: ((wsX1_reputation_r1 ++ wsX1_reputation_r2) ++ wsX10)
def wsX1_reputationAtOnce_r1 : List Cond := [Cond.methodLink RX1 121 yX1_isKnown, Cond.instanceMethod yX1_isKnown, Cond.selects RX1 yX1_isKnown yX1_isKnown, Cond.initialized RX1, Cond.code yX1_isKnown cX1_isKnown 2 (some .boolean), Cond.methodLink RX1 83 yX1_isPerson, Cond.static yX1_isPerson, Cond.code yX1_isPerson cX1_isPerson 1 (some .boolean), Cond.methodLink RX1 54 yX1_isIn, Cond.static yX1_isIn, Cond.code yX1_isIn cX1_isIn 3 (some .boolean), Cond.methodLink RX1 65 yX1_can, Cond.instanceMethod yX1_can, Cond.selects RX1 yX1_can yX1_can, Cond.code yX1_can cX1_can 2 (some .boolean), Cond.fieldLink RX1 50 "StampRelayModel" "thrown" "I", Cond.methodLink RX1 80 yX1_nameOf, Cond.instanceMethod yX1_nameOf, Cond.selects RX1 yX1_nameOf yX1_nameOf, Cond.code yX1_nameOf cX1_nameOf 5 (some .int), Cond.fieldLink RX1 58 "StampRelayModel" "letters" "I", Cond.fieldLink RX1 22 "StampRelayModel" "sender" "[I", Cond.fieldLink RX1 31 "StampRelayModel" "state" "[I", Cond.fieldLink RX1 25 "StampRelayModel" "reader" "[I"]
def wsX1_reputationAtOnce_r2 : List Cond := [Cond.fieldLink RX1 43 "StampRelayModel" "isFalse" "[Z", Cond.methodLink RX1 76 yX1_weight, Cond.instanceMethod yX1_weight, Cond.selects RX1 yX1_weight yX1_weight, Cond.code yX1_weight cX1_weight 2 (some .int), Cond.fieldLink RX1 19 "StampRelayModel" "falsely" "[I"]
def wsX1_reputationAtOnce : List Cond := .code yX1_reputationAtOnce cX1_reputationAtOnce 2 (some .int) :: ((wsX1_reputationAtOnce_r1 ++ wsX1_reputationAtOnce_r2) ++ wsX10)
def wsX1_leastStake_r1 : List Cond := [Cond.methodLink RX1 121 yX1_isKnown, Cond.instanceMethod yX1_isKnown, Cond.selects RX1 yX1_isKnown yX1_isKnown, Cond.initialized RX1, Cond.code yX1_isKnown cX1_isKnown 2 (some .boolean), Cond.methodLink RX1 83 yX1_isPerson, Cond.static yX1_isPerson, Cond.code yX1_isPerson cX1_isPerson 1 (some .boolean), Cond.methodLink RX1 54 yX1_isIn, Cond.static yX1_isIn, Cond.code yX1_isIn cX1_isIn 3 (some .boolean), Cond.methodLink RX1 65 yX1_can, Cond.instanceMethod yX1_can, Cond.selects RX1 yX1_can yX1_can, Cond.code yX1_can cX1_can 2 (some .boolean), Cond.fieldLink RX1 50 "StampRelayModel" "thrown" "I", Cond.methodLink RX1 86 yX1_least, Cond.instanceMethod yX1_least, Cond.selects RX1 yX1_least yX1_least, Cond.code yX1_least cX1_least 3 (some .int), Cond.methodLink RX1 80 yX1_nameOf, Cond.instanceMethod yX1_nameOf, Cond.selects RX1 yX1_nameOf yX1_nameOf, Cond.code yX1_nameOf cX1_nameOf 5 (some .int)]
def wsX1_leastStake_r2 : List Cond := [Cond.fieldLink RX1 58 "StampRelayModel" "letters" "I", Cond.fieldLink RX1 22 "StampRelayModel" "sender" "[I", Cond.fieldLink RX1 31 "StampRelayModel" "state" "[I", Cond.fieldLink RX1 25 "StampRelayModel" "reader" "[I", Cond.fieldLink RX1 43 "StampRelayModel" "isFalse" "[Z", Cond.methodLink RX1 76 yX1_weight, Cond.instanceMethod yX1_weight, Cond.selects RX1 yX1_weight yX1_weight, Cond.code yX1_weight cX1_weight 2 (some .int), Cond.fieldLink RX1 19 "StampRelayModel" "falsely" "[I"]
def wsX1_leastStake : List Cond := .code yX1_leastStake cX1_leastStake 2 (some .int) :: ((wsX1_leastStake_r1 ++ wsX1_leastStake_r2) ++ wsX10)
def wsX1_falseMarks : List Cond := .code yX1_falseMarks cX1_falseMarks 2 (some .int) :: ([.fieldLink RX1 19 "StampRelayModel" "falsely" "[I", .methodLink RX1 121 yX1_isKnown, .instanceMethod yX1_isKnown, .selects RX1 yX1_isKnown yX1_isKnown, .initialized RX1, .code yX1_isKnown cX1_isKnown 2 (some .boolean), .methodLink RX1 83 yX1_isPerson, .static yX1_isPerson, .code yX1_isPerson cX1_isPerson 1 (some .boolean), .methodLink RX1 54 yX1_isIn, .static yX1_isIn, .code yX1_isIn cX1_isIn 3 (some .boolean), .methodLink RX1 65 yX1_can, .instanceMethod yX1_can, .selects RX1 yX1_can yX1_can, .code yX1_can cX1_can 2 (some .boolean), .fieldLink RX1 50 "StampRelayModel" "thrown" "I"] ++ wsX10)
def wsJ9_max_7cf53 : List Cond := .code yJ9_max_7cf53 cJ9_max_7cf53 2 (some .int) :: ([])
def wsJ9_min_7cf53 : List Cond := .code yJ9_min_7cf53 cJ9_min_7cf53 2 (some .int) :: ([])
def wsL_setRoute : List Cond := .codeWith yL_setRoute cL_setRoute 6 (some .int) [(0, 12, 15, 13), (0, 12, 19, 15)] :: ([.classLink RL 13 "java/lang/IndexOutOfBoundsException", .classLink RL 15 "java/lang/IllegalArgumentException", .methodLink RL 7 yX0_setRoute, .instanceMethod yX0_setRoute, .selects RX0 yX0_setRoute yX0_setRoute, .initialized RX0, .code yX0_setRoute cX0_setRoute 6 (some .int), .classLink RX0 64 "java/lang/IndexOutOfBoundsException", .initialized "java/lang/IndexOutOfBoundsException", .classLink RX0 71 "java/lang/IllegalArgumentException", .initialized "java/lang/IllegalArgumentException", .fieldLink RX0 44 "StampRelay" "routes" "[I", .methodLink RX0 60 yX0_isRelay, .static yX0_isRelay, .code yX0_isRelay cX0_isRelay 1 (some .boolean)] ++ wsX00 ++ (vx_atS RX0 68 "java/lang/IndexOutOfBoundsException" ["java/lang/RuntimeException", "java/lang/Exception"]).filter goodWord ++ (vx_atS RX0 75 "java/lang/IllegalArgumentException" ["java/lang/RuntimeException", "java/lang/Exception"]).filter goodWord)
def wsL_steps : List Cond := .codeWith yL_steps cL_steps 5 (some .int) [(0, 10, 13, 13)] :: ([.classLink RL 13 "java/lang/IndexOutOfBoundsException", .methodLink RL 17 yX0_steps, .instanceMethod yX0_steps, .selects RX0 yX0_steps yX0_steps, .initialized RX0, .code yX0_steps cX0_steps 5 (some .int), .classLink RX0 64 "java/lang/IndexOutOfBoundsException", .initialized "java/lang/IndexOutOfBoundsException", .methodLink RX0 60 yX0_isRelay, .static yX0_isRelay, .code yX0_isRelay cX0_isRelay 1 (some .boolean), .methodLink RX0 76 yX0_nextRelay, .instanceMethod yX0_nextRelay, .selects RX0 yX0_nextRelay yX0_nextRelay, .code yX0_nextRelay cX0_nextRelay 3 (some .int), .fieldLink RX0 44 "StampRelay" "routes" "[I"] ++ wsX00 ++ (vx_atS RX0 68 "java/lang/IndexOutOfBoundsException" ["java/lang/RuntimeException", "java/lang/Exception"]).filter goodWord)
def wsL_send_r1 : List Cond := [Cond.classLink RL 13 "java/lang/IndexOutOfBoundsException", Cond.classLink RL 15 "java/lang/IllegalArgumentException", Cond.classLink RL 24 "java/lang/IllegalStateException", Cond.methodLink RL 21 yX0_send, Cond.instanceMethod yX0_send, Cond.selects RX0 yX0_send yX0_send, Cond.initialized RX0, Cond.code yX0_send cX0_send 5 (some .int), Cond.classLink RX0 64 "java/lang/IndexOutOfBoundsException", Cond.initialized "java/lang/IndexOutOfBoundsException", Cond.classLink RX0 71 "java/lang/IllegalArgumentException", Cond.initialized "java/lang/IllegalArgumentException", Cond.classLink RX0 91 "java/lang/IllegalStateException", Cond.initialized "java/lang/IllegalStateException", Cond.fieldLink RX0 35 "StampRelay" "purses" "[I", Cond.fieldLink RX0 47 "StampRelay" "letterCount" "I", Cond.fieldLink RX0 9 "StampRelay" "senders" "[I", Cond.fieldLink RX0 13 "StampRelay" "readers" "[I", Cond.fieldLink RX0 16 "StampRelay" "stakes" "[I", Cond.fieldLink RX0 19 "StampRelay" "states" "[I", Cond.methodLink RX0 80 yX0_isPerson, Cond.static yX0_isPerson, Cond.code yX0_isPerson cX0_isPerson 1 (some .boolean), Cond.methodLink RX0 87 yX0_lowestStakeOf]
def wsL_send_r2 : List Cond := [Cond.instanceMethod yX0_lowestStakeOf, Cond.selects RX0 yX0_lowestStakeOf yX0_lowestStakeOf, Cond.code yX0_lowestStakeOf cX0_lowestStakeOf 2 (some .int), Cond.methodLink RX0 165 Lib.Math.min.name, Cond.static Lib.Math.min.name, Cond.initialized "java/lang/Math", Cond.code Lib.Math.min.name Lib.Math.min.code 2 (some .int), Cond.methodLink RX0 178 Lib.Math.max.name, Cond.static Lib.Math.max.name, Cond.code Lib.Math.max.name Lib.Math.max.code 2 (some .int), Cond.methodLink RX0 123 yX0_reputationOf, Cond.instanceMethod yX0_reputationOf, Cond.selects RX0 yX0_reputationOf yX0_reputationOf, Cond.code yX0_reputationOf cX0_reputationOf 4 (some .int), Cond.methodLink RX0 181 yX0_opinionIn, Cond.instanceMethod yX0_opinionIn, Cond.selects RX0 yX0_opinionIn yX0_opinionIn, Cond.code yX0_opinionIn cX0_opinionIn 2 (some .int), Cond.fieldLink RX0 31 "StampRelay" "falselyMarked" "[Z", Cond.methodLink RX0 112 yX0_isLetter, Cond.instanceMethod yX0_isLetter, Cond.selects RX0 yX0_isLetter yX0_isLetter, Cond.code yX0_isLetter cX0_isLetter 2 (some .boolean), Cond.methodLink RX0 175 yX0_weightOf]
def wsL_send_r3 : List Cond := [Cond.instanceMethod yX0_weightOf, Cond.selects RX0 yX0_weightOf yX0_weightOf, Cond.code yX0_weightOf cX0_weightOf 2 (some .int), Cond.fieldLink RX0 38 "StampRelay" "falseMarkCounts" "[I", Cond.methodLink RX0 96 yX0_homeOf, Cond.static yX0_homeOf, Cond.code yX0_homeOf cX0_homeOf 1 (some .int), Cond.methodLink RX0 99 yX0_layAt, Cond.instanceMethod yX0_layAt, Cond.selects RX0 yX0_layAt yX0_layAt, Cond.code yX0_layAt cX0_layAt 3 none, Cond.fieldLink RX0 22 "StampRelay" "places" "[I", Cond.fieldLink RX0 25 "StampRelay" "relaysSeen" "[I", Cond.methodLink RX0 162 yX0_markOf, Cond.static yX0_markOf, Cond.code yX0_markOf cX0_markOf 1 (some .int)]
def wsL_send : List Cond := .codeWith yL_send cL_send 6 (some .int) [(0, 12, 15, 13), (0, 12, 19, 15), (0, 12, 23, 24)] :: ((wsL_send_r1 ++ (wsL_send_r2 ++ wsL_send_r3)) ++ wsX00 ++ (vx_atS RX0 68 "java/lang/IndexOutOfBoundsException" ["java/lang/RuntimeException", "java/lang/Exception"]).filter goodWord ++ (vx_atS RX0 75 "java/lang/IllegalArgumentException" ["java/lang/RuntimeException", "java/lang/Exception"]).filter goodWord ++ (vx_atS RX0 95 "java/lang/IllegalStateException" ["java/lang/RuntimeException", "java/lang/Exception"]).filter goodWord)
def wsL_pass_r1 : List Cond := [Cond.classLink RL 15 "java/lang/IllegalArgumentException", Cond.classLink RL 24 "java/lang/IllegalStateException", Cond.methodLink RL 26 yX0_pass, Cond.instanceMethod yX0_pass, Cond.selects RX0 yX0_pass yX0_pass, Cond.initialized RX0, Cond.code yX0_pass cX0_pass 4 (some .int), Cond.classLink RX0 71 "java/lang/IllegalArgumentException", Cond.initialized "java/lang/IllegalArgumentException", Cond.classLink RX0 91 "java/lang/IllegalStateException", Cond.initialized "java/lang/IllegalStateException", Cond.fieldLink RX0 51 "StampRelay" "now" "I", Cond.constant RX0 105 (100000), Cond.methodLink RX0 108 yX0_passOneTick, Cond.instanceMethod yX0_passOneTick, Cond.selects RX0 yX0_passOneTick yX0_passOneTick, Cond.code yX0_passOneTick cX0_passOneTick 4 (some .int), Cond.methodLink RX0 141 yX0_beginLookingAtQueues, Cond.instanceMethod yX0_beginLookingAtQueues, Cond.selects RX0 yX0_beginLookingAtQueues yX0_beginLookingAtQueues, Cond.code yX0_beginLookingAtQueues cX0_beginLookingAtQueues 2 none, Cond.fieldLink RX0 47 "StampRelay" "letterCount" "I", Cond.fieldLink RX0 54 "StampRelay" "waitingAt" "[I", Cond.fieldLink RX0 22 "StampRelay" "places" "[I"]
def wsL_pass_r2 : List Cond := [Cond.methodLink RX0 147 yX0_findAllReputations, Cond.instanceMethod yX0_findAllReputations, Cond.selects RX0 yX0_findAllReputations yX0_findAllReputations, Cond.code yX0_findAllReputations cX0_findAllReputations 2 none, Cond.fieldLink RX0 57 "StampRelay" "reputations" "[I", Cond.fieldLink RX0 9 "StampRelay" "senders" "[I", Cond.methodLink RX0 80 yX0_isPerson, Cond.static yX0_isPerson, Cond.code yX0_isPerson cX0_isPerson 1 (some .boolean), Cond.methodLink RX0 181 yX0_opinionIn, Cond.instanceMethod yX0_opinionIn, Cond.selects RX0 yX0_opinionIn yX0_opinionIn, Cond.code yX0_opinionIn cX0_opinionIn 2 (some .int), Cond.fieldLink RX0 19 "StampRelay" "states" "[I", Cond.fieldLink RX0 13 "StampRelay" "readers" "[I", Cond.fieldLink RX0 31 "StampRelay" "falselyMarked" "[Z", Cond.methodLink RX0 112 yX0_isLetter, Cond.instanceMethod yX0_isLetter, Cond.selects RX0 yX0_isLetter yX0_isLetter, Cond.code yX0_isLetter cX0_isLetter 2 (some .boolean), Cond.methodLink RX0 175 yX0_weightOf, Cond.instanceMethod yX0_weightOf, Cond.selects RX0 yX0_weightOf yX0_weightOf, Cond.code yX0_weightOf cX0_weightOf 2 (some .int)]
def wsL_pass_r3 : List Cond := [Cond.fieldLink RX0 38 "StampRelay" "falseMarkCounts" "[I", Cond.methodLink RX0 178 Lib.Math.max.name, Cond.static Lib.Math.max.name, Cond.initialized "java/lang/Math", Cond.code Lib.Math.max.name Lib.Math.max.code 2 (some .int), Cond.methodLink RX0 144 yX0_takeFirstWaiting, Cond.instanceMethod yX0_takeFirstWaiting, Cond.selects RX0 yX0_takeFirstWaiting yX0_takeFirstWaiting, Cond.code yX0_takeFirstWaiting cX0_takeFirstWaiting 4 (some .int), Cond.methodLink RX0 156 yX0_rankOf, Cond.instanceMethod yX0_rankOf, Cond.selects RX0 yX0_rankOf yX0_rankOf, Cond.code yX0_rankOf cX0_rankOf 2 (some .int), Cond.fieldLink RX0 16 "StampRelay" "stakes" "[I", Cond.methodLink RX0 150 yX0_moveOn, Cond.instanceMethod yX0_moveOn, Cond.selects RX0 yX0_moveOn yX0_moveOn, Cond.code yX0_moveOn cX0_moveOn 5 (some .int), Cond.fieldLink RX0 28 "StampRelay" "deliveryTimes" "[I", Cond.fieldLink RX0 25 "StampRelay" "relaysSeen" "[I", Cond.methodLink RX0 96 yX0_homeOf, Cond.static yX0_homeOf, Cond.code yX0_homeOf cX0_homeOf 1 (some .int), Cond.methodLink RX0 159 yX0_leaveQueue]
def wsL_pass_r4 : List Cond := [Cond.instanceMethod yX0_leaveQueue, Cond.selects RX0 yX0_leaveQueue yX0_leaveQueue, Cond.code yX0_leaveQueue cX0_leaveQueue 3 none, Cond.methodLink RX0 76 yX0_nextRelay, Cond.instanceMethod yX0_nextRelay, Cond.selects RX0 yX0_nextRelay yX0_nextRelay, Cond.code yX0_nextRelay cX0_nextRelay 3 (some .int), Cond.fieldLink RX0 44 "StampRelay" "routes" "[I", Cond.methodLink RX0 60 yX0_isRelay, Cond.static yX0_isRelay, Cond.code yX0_isRelay cX0_isRelay 1 (some .boolean), Cond.methodLink RX0 162 yX0_markOf, Cond.static yX0_markOf, Cond.code yX0_markOf cX0_markOf 1 (some .int), Cond.methodLink RX0 126 yX0_putStakeIntoPool, Cond.instanceMethod yX0_putStakeIntoPool, Cond.selects RX0 yX0_putStakeIntoPool yX0_putStakeIntoPool, Cond.code yX0_putStakeIntoPool cX0_putStakeIntoPool 3 none, Cond.fieldLink RX0 41 "StampRelay" "pools" "[I", Cond.methodLink RX0 99 yX0_layAt, Cond.instanceMethod yX0_layAt, Cond.selects RX0 yX0_layAt yX0_layAt, Cond.code yX0_layAt cX0_layAt 3 none, Cond.methodLink RX0 153 yX0_expireOldLetters]
def wsL_pass_r5 : List Cond := [Cond.instanceMethod yX0_expireOldLetters, Cond.selects RX0 yX0_expireOldLetters yX0_expireOldLetters, Cond.code yX0_expireOldLetters cX0_expireOldLetters 2 none, Cond.methodLink RX0 119 yX0_giveStakeBack, Cond.instanceMethod yX0_giveStakeBack, Cond.selects RX0 yX0_giveStakeBack yX0_giveStakeBack, Cond.code yX0_giveStakeBack cX0_giveStakeBack 2 none, Cond.fieldLink RX0 35 "StampRelay" "purses" "[I"]
def wsL_pass : List Cond := .codeWith yL_pass cL_pass 4 (some .int) [(0, 9, 12, 15), (0, 9, 15, 24)] :: ((wsL_pass_r1 ++ (wsL_pass_r2 ++ (wsL_pass_r3 ++ (wsL_pass_r4 ++ wsL_pass_r5)))) ++ wsX00 ++ (vx_atS RX0 75 "java/lang/IllegalArgumentException" ["java/lang/RuntimeException", "java/lang/Exception"]).filter goodWord ++ (vx_atS RX0 95 "java/lang/IllegalStateException" ["java/lang/RuntimeException", "java/lang/Exception"]).filter goodWord)
def wsL_answer_r1 : List Cond := [Cond.classLink RL 13 "java/lang/IndexOutOfBoundsException", Cond.classLink RL 24 "java/lang/IllegalStateException", Cond.methodLink RL 30 yX0_answer, Cond.instanceMethod yX0_answer, Cond.selects RX0 yX0_answer yX0_answer, Cond.initialized RX0, Cond.code yX0_answer cX0_answer 2 (some .int), Cond.classLink RX0 64 "java/lang/IndexOutOfBoundsException", Cond.initialized "java/lang/IndexOutOfBoundsException", Cond.classLink RX0 91 "java/lang/IllegalStateException", Cond.initialized "java/lang/IllegalStateException", Cond.fieldLink RX0 19 "StampRelay" "states" "[I", Cond.fieldLink RX0 9 "StampRelay" "senders" "[I", Cond.methodLink RX0 112 yX0_isLetter, Cond.instanceMethod yX0_isLetter, Cond.selects RX0 yX0_isLetter yX0_isLetter, Cond.code yX0_isLetter cX0_isLetter 2 (some .boolean), Cond.fieldLink RX0 47 "StampRelay" "letterCount" "I", Cond.methodLink RX0 119 yX0_giveStakeBack, Cond.instanceMethod yX0_giveStakeBack, Cond.selects RX0 yX0_giveStakeBack yX0_giveStakeBack, Cond.code yX0_giveStakeBack cX0_giveStakeBack 2 none, Cond.fieldLink RX0 35 "StampRelay" "purses" "[I", Cond.fieldLink RX0 16 "StampRelay" "stakes" "[I"]
def wsL_answer_r2 : List Cond := [Cond.methodLink RX0 80 yX0_isPerson, Cond.static yX0_isPerson, Cond.code yX0_isPerson cX0_isPerson 1 (some .boolean), Cond.methodLink RX0 123 yX0_reputationOf, Cond.instanceMethod yX0_reputationOf, Cond.selects RX0 yX0_reputationOf yX0_reputationOf, Cond.code yX0_reputationOf cX0_reputationOf 4 (some .int), Cond.methodLink RX0 181 yX0_opinionIn, Cond.instanceMethod yX0_opinionIn, Cond.selects RX0 yX0_opinionIn yX0_opinionIn, Cond.code yX0_opinionIn cX0_opinionIn 2 (some .int), Cond.fieldLink RX0 13 "StampRelay" "readers" "[I", Cond.fieldLink RX0 31 "StampRelay" "falselyMarked" "[Z", Cond.methodLink RX0 175 yX0_weightOf, Cond.instanceMethod yX0_weightOf, Cond.selects RX0 yX0_weightOf yX0_weightOf, Cond.code yX0_weightOf cX0_weightOf 2 (some .int), Cond.fieldLink RX0 38 "StampRelay" "falseMarkCounts" "[I", Cond.methodLink RX0 178 Lib.Math.max.name, Cond.static Lib.Math.max.name, Cond.initialized "java/lang/Math", Cond.code Lib.Math.max.name Lib.Math.max.code 2 (some .int)]
def wsL_answer : List Cond := .codeWith yL_answer cL_answer 4 (some .int) [(0, 9, 12, 13), (0, 9, 15, 24)] :: ((wsL_answer_r1 ++ wsL_answer_r2) ++ wsX00 ++ (vx_atS RX0 68 "java/lang/IndexOutOfBoundsException" ["java/lang/RuntimeException", "java/lang/Exception"]).filter goodWord ++ (vx_atS RX0 95 "java/lang/IllegalStateException" ["java/lang/RuntimeException", "java/lang/Exception"]).filter goodWord)
def wsL_mark_r1 : List Cond := [Cond.classLink RL 13 "java/lang/IndexOutOfBoundsException", Cond.classLink RL 24 "java/lang/IllegalStateException", Cond.methodLink RL 33 yX0_mark, Cond.instanceMethod yX0_mark, Cond.selects RX0 yX0_mark yX0_mark, Cond.initialized RX0, Cond.code yX0_mark cX0_mark 2 (some .int), Cond.classLink RX0 64 "java/lang/IndexOutOfBoundsException", Cond.initialized "java/lang/IndexOutOfBoundsException", Cond.classLink RX0 91 "java/lang/IllegalStateException", Cond.initialized "java/lang/IllegalStateException", Cond.fieldLink RX0 19 "StampRelay" "states" "[I", Cond.fieldLink RX0 13 "StampRelay" "readers" "[I", Cond.fieldLink RX0 9 "StampRelay" "senders" "[I", Cond.fieldLink RX0 31 "StampRelay" "falselyMarked" "[Z", Cond.fieldLink RX0 16 "StampRelay" "stakes" "[I", Cond.methodLink RX0 112 yX0_isLetter, Cond.instanceMethod yX0_isLetter, Cond.selects RX0 yX0_isLetter yX0_isLetter, Cond.code yX0_isLetter cX0_isLetter 2 (some .boolean), Cond.fieldLink RX0 47 "StampRelay" "letterCount" "I", Cond.methodLink RX0 96 yX0_homeOf, Cond.static yX0_homeOf, Cond.code yX0_homeOf cX0_homeOf 1 (some .int)]
def wsL_mark_r2 : List Cond := [Cond.methodLink RX0 126 yX0_putStakeIntoPool, Cond.instanceMethod yX0_putStakeIntoPool, Cond.selects RX0 yX0_putStakeIntoPool yX0_putStakeIntoPool, Cond.code yX0_putStakeIntoPool cX0_putStakeIntoPool 3 none, Cond.fieldLink RX0 41 "StampRelay" "pools" "[I", Cond.methodLink RX0 60 yX0_isRelay, Cond.static yX0_isRelay, Cond.code yX0_isRelay cX0_isRelay 1 (some .boolean), Cond.methodLink RX0 129 yX0_othersWhoAnswered, Cond.instanceMethod yX0_othersWhoAnswered, Cond.selects RX0 yX0_othersWhoAnswered yX0_othersWhoAnswered, Cond.code yX0_othersWhoAnswered cX0_othersWhoAnswered 5 (some .int), Cond.methodLink RX0 170 yJ6_bitCount_0f7a4, Cond.static yJ6_bitCount_0f7a4, Cond.initialized RJ6, Cond.code yJ6_bitCount_0f7a4 cJ6_bitCount_0f7a4 1 (some .int), Cond.constant RJ6 265 (1431655765), Cond.constant RJ6 266 (858993459), Cond.constant RJ6 267 (252645135), Cond.methodLink RX0 132 yX0_payForFalseMark, Cond.instanceMethod yX0_payForFalseMark, Cond.selects RX0 yX0_payForFalseMark yX0_payForFalseMark, Cond.code yX0_payForFalseMark cX0_payForFalseMark 5 (some .int), Cond.fieldLink RX0 35 "StampRelay" "purses" "[I"]
def wsL_mark_r3 : List Cond := [Cond.methodLink RX0 165 Lib.Math.min.name, Cond.static Lib.Math.min.name, Cond.initialized "java/lang/Math", Cond.code Lib.Math.min.name Lib.Math.min.code 2 (some .int), Cond.fieldLink RX0 38 "StampRelay" "falseMarkCounts" "[I", Cond.methodLink RX0 80 yX0_isPerson, Cond.static yX0_isPerson, Cond.code yX0_isPerson cX0_isPerson 1 (some .boolean)]
def wsL_mark : List Cond := .codeWith yL_mark cL_mark 4 (some .int) [(0, 9, 12, 13), (0, 9, 15, 24)] :: ((wsL_mark_r1 ++ (wsL_mark_r2 ++ wsL_mark_r3)) ++ wsX00 ++ (vx_atS RX0 68 "java/lang/IndexOutOfBoundsException" ["java/lang/RuntimeException", "java/lang/Exception"]).filter goodWord ++ (vx_atS RX0 95 "java/lang/IllegalStateException" ["java/lang/RuntimeException", "java/lang/Exception"]).filter goodWord)
def wsL_stateOf : List Cond := .codeWith yL_stateOf cL_stateOf 4 (some .int) [(0, 9, 12, 13)] :: ([.classLink RL 13 "java/lang/IndexOutOfBoundsException", .methodLink RL 36 yX0_stateOf, .instanceMethod yX0_stateOf, .selects RX0 yX0_stateOf yX0_stateOf, .initialized RX0, .code yX0_stateOf cX0_stateOf 2 (some .int), .classLink RX0 64 "java/lang/IndexOutOfBoundsException", .initialized "java/lang/IndexOutOfBoundsException", .fieldLink RX0 19 "StampRelay" "states" "[I", .methodLink RX0 112 yX0_isLetter, .instanceMethod yX0_isLetter, .selects RX0 yX0_isLetter yX0_isLetter, .code yX0_isLetter cX0_isLetter 2 (some .boolean), .fieldLink RX0 47 "StampRelay" "letterCount" "I"] ++ wsX00 ++ (vx_atS RX0 68 "java/lang/IndexOutOfBoundsException" ["java/lang/RuntimeException", "java/lang/Exception"]).filter goodWord)
def wsL_relayOf : List Cond := .codeWith yL_relayOf cL_relayOf 4 (some .int) [(0, 9, 12, 13)] :: ([.classLink RL 13 "java/lang/IndexOutOfBoundsException", .methodLink RL 39 yX0_relayOf, .instanceMethod yX0_relayOf, .selects RX0 yX0_relayOf yX0_relayOf, .initialized RX0, .code yX0_relayOf cX0_relayOf 2 (some .int), .classLink RX0 64 "java/lang/IndexOutOfBoundsException", .initialized "java/lang/IndexOutOfBoundsException", .fieldLink RX0 22 "StampRelay" "places" "[I", .methodLink RX0 112 yX0_isLetter, .instanceMethod yX0_isLetter, .selects RX0 yX0_isLetter yX0_isLetter, .code yX0_isLetter cX0_isLetter 2 (some .boolean), .fieldLink RX0 47 "StampRelay" "letterCount" "I"] ++ wsX00 ++ (vx_atS RX0 68 "java/lang/IndexOutOfBoundsException" ["java/lang/RuntimeException", "java/lang/Exception"]).filter goodWord)
def wsL_marksOn : List Cond := .codeWith yL_marksOn cL_marksOn 4 (some .int) [(0, 9, 12, 13)] :: ([.classLink RL 13 "java/lang/IndexOutOfBoundsException", .methodLink RL 42 yX0_marksOn, .instanceMethod yX0_marksOn, .selects RX0 yX0_marksOn yX0_marksOn, .initialized RX0, .code yX0_marksOn cX0_marksOn 2 (some .int), .classLink RX0 64 "java/lang/IndexOutOfBoundsException", .initialized "java/lang/IndexOutOfBoundsException", .fieldLink RX0 25 "StampRelay" "relaysSeen" "[I", .methodLink RX0 112 yX0_isLetter, .instanceMethod yX0_isLetter, .selects RX0 yX0_isLetter yX0_isLetter, .code yX0_isLetter cX0_isLetter 2 (some .boolean), .fieldLink RX0 47 "StampRelay" "letterCount" "I"] ++ wsX00 ++ (vx_atS RX0 68 "java/lang/IndexOutOfBoundsException" ["java/lang/RuntimeException", "java/lang/Exception"]).filter goodWord)
def wsL_queue : List Cond := .codeWith yL_queue cL_queue 4 (some .int) [(0, 9, 12, 13)] :: ([.classLink RL 13 "java/lang/IndexOutOfBoundsException", .methodLink RL 45 yX0_queue, .instanceMethod yX0_queue, .selects RX0 yX0_queue yX0_queue, .initialized RX0, .code yX0_queue cX0_queue 2 (some .int), .classLink RX0 64 "java/lang/IndexOutOfBoundsException", .initialized "java/lang/IndexOutOfBoundsException", .methodLink RX0 60 yX0_isRelay, .static yX0_isRelay, .code yX0_isRelay cX0_isRelay 1 (some .boolean), .methodLink RX0 136 yX0_lengthOfQueue, .instanceMethod yX0_lengthOfQueue, .selects RX0 yX0_lengthOfQueue yX0_lengthOfQueue, .code yX0_lengthOfQueue cX0_lengthOfQueue 4 (some .int), .fieldLink RX0 47 "StampRelay" "letterCount" "I", .fieldLink RX0 22 "StampRelay" "places" "[I"] ++ wsX00 ++ (vx_atS RX0 68 "java/lang/IndexOutOfBoundsException" ["java/lang/RuntimeException", "java/lang/Exception"]).filter goodWord)
def wsL_queueAt_r1 : List Cond := [Cond.classLink RL 13 "java/lang/IndexOutOfBoundsException", Cond.methodLink RL 48 yX0_queueAt, Cond.instanceMethod yX0_queueAt, Cond.selects RX0 yX0_queueAt yX0_queueAt, Cond.initialized RX0, Cond.code yX0_queueAt cX0_queueAt 4 (some .int), Cond.classLink RX0 64 "java/lang/IndexOutOfBoundsException", Cond.initialized "java/lang/IndexOutOfBoundsException", Cond.methodLink RX0 60 yX0_isRelay, Cond.static yX0_isRelay, Cond.code yX0_isRelay cX0_isRelay 1 (some .boolean), Cond.methodLink RX0 136 yX0_lengthOfQueue, Cond.instanceMethod yX0_lengthOfQueue, Cond.selects RX0 yX0_lengthOfQueue yX0_lengthOfQueue, Cond.code yX0_lengthOfQueue cX0_lengthOfQueue 4 (some .int), Cond.fieldLink RX0 47 "StampRelay" "letterCount" "I", Cond.fieldLink RX0 22 "StampRelay" "places" "[I", Cond.methodLink RX0 141 yX0_beginLookingAtQueues, Cond.instanceMethod yX0_beginLookingAtQueues, Cond.selects RX0 yX0_beginLookingAtQueues yX0_beginLookingAtQueues, Cond.code yX0_beginLookingAtQueues cX0_beginLookingAtQueues 2 none, Cond.fieldLink RX0 54 "StampRelay" "waitingAt" "[I", Cond.methodLink RX0 147 yX0_findAllReputations, Cond.instanceMethod yX0_findAllReputations]
def wsL_queueAt_r2 : List Cond := [Cond.selects RX0 yX0_findAllReputations yX0_findAllReputations, Cond.code yX0_findAllReputations cX0_findAllReputations 2 none, Cond.fieldLink RX0 57 "StampRelay" "reputations" "[I", Cond.fieldLink RX0 9 "StampRelay" "senders" "[I", Cond.methodLink RX0 80 yX0_isPerson, Cond.static yX0_isPerson, Cond.code yX0_isPerson cX0_isPerson 1 (some .boolean), Cond.methodLink RX0 181 yX0_opinionIn, Cond.instanceMethod yX0_opinionIn, Cond.selects RX0 yX0_opinionIn yX0_opinionIn, Cond.code yX0_opinionIn cX0_opinionIn 2 (some .int), Cond.fieldLink RX0 19 "StampRelay" "states" "[I", Cond.fieldLink RX0 13 "StampRelay" "readers" "[I", Cond.fieldLink RX0 31 "StampRelay" "falselyMarked" "[Z", Cond.methodLink RX0 112 yX0_isLetter, Cond.instanceMethod yX0_isLetter, Cond.selects RX0 yX0_isLetter yX0_isLetter, Cond.code yX0_isLetter cX0_isLetter 2 (some .boolean), Cond.methodLink RX0 175 yX0_weightOf, Cond.instanceMethod yX0_weightOf, Cond.selects RX0 yX0_weightOf yX0_weightOf, Cond.code yX0_weightOf cX0_weightOf 2 (some .int), Cond.fieldLink RX0 38 "StampRelay" "falseMarkCounts" "[I", Cond.methodLink RX0 178 Lib.Math.max.name]
def wsL_queueAt_r3 : List Cond := [Cond.static Lib.Math.max.name, Cond.initialized "java/lang/Math", Cond.code Lib.Math.max.name Lib.Math.max.code 2 (some .int), Cond.methodLink RX0 144 yX0_takeFirstWaiting, Cond.instanceMethod yX0_takeFirstWaiting, Cond.selects RX0 yX0_takeFirstWaiting yX0_takeFirstWaiting, Cond.code yX0_takeFirstWaiting cX0_takeFirstWaiting 4 (some .int), Cond.methodLink RX0 156 yX0_rankOf, Cond.instanceMethod yX0_rankOf, Cond.selects RX0 yX0_rankOf yX0_rankOf, Cond.code yX0_rankOf cX0_rankOf 2 (some .int), Cond.fieldLink RX0 16 "StampRelay" "stakes" "[I"]
def wsL_queueAt : List Cond := .codeWith yL_queueAt cL_queueAt 5 (some .int) [(0, 10, 13, 13)] :: ((wsL_queueAt_r1 ++ (wsL_queueAt_r2 ++ wsL_queueAt_r3)) ++ wsX00 ++ (vx_atS RX0 68 "java/lang/IndexOutOfBoundsException" ["java/lang/RuntimeException", "java/lang/Exception"]).filter goodWord)
def wsL_coins : List Cond := .codeWith yL_coins cL_coins 4 (some .int) [(0, 9, 12, 13)] :: ([.classLink RL 13 "java/lang/IndexOutOfBoundsException", .methodLink RL 51 yX0_coins, .instanceMethod yX0_coins, .selects RX0 yX0_coins yX0_coins, .initialized RX0, .code yX0_coins cX0_coins 2 (some .int), .classLink RX0 64 "java/lang/IndexOutOfBoundsException", .initialized "java/lang/IndexOutOfBoundsException", .fieldLink RX0 35 "StampRelay" "purses" "[I", .methodLink RX0 80 yX0_isPerson, .static yX0_isPerson, .code yX0_isPerson cX0_isPerson 1 (some .boolean)] ++ wsX00 ++ (vx_atS RX0 68 "java/lang/IndexOutOfBoundsException" ["java/lang/RuntimeException", "java/lang/Exception"]).filter goodWord)
def wsL_pool : List Cond := .codeWith yL_pool cL_pool 4 (some .int) [(0, 9, 12, 13)] :: ([.classLink RL 13 "java/lang/IndexOutOfBoundsException", .methodLink RL 54 yX0_pool, .instanceMethod yX0_pool, .selects RX0 yX0_pool yX0_pool, .initialized RX0, .code yX0_pool cX0_pool 2 (some .int), .classLink RX0 64 "java/lang/IndexOutOfBoundsException", .initialized "java/lang/IndexOutOfBoundsException", .fieldLink RX0 41 "StampRelay" "pools" "[I", .methodLink RX0 60 yX0_isRelay, .static yX0_isRelay, .code yX0_isRelay cX0_isRelay 1 (some .boolean)] ++ wsX00 ++ (vx_atS RX0 68 "java/lang/IndexOutOfBoundsException" ["java/lang/RuntimeException", "java/lang/Exception"]).filter goodWord)
def wsL_reputation_r1 : List Cond := [Cond.classLink RL 13 "java/lang/IndexOutOfBoundsException", Cond.methodLink RL 57 yX0_reputation, Cond.instanceMethod yX0_reputation, Cond.selects RX0 yX0_reputation yX0_reputation, Cond.initialized RX0, Cond.code yX0_reputation cX0_reputation 2 (some .int), Cond.classLink RX0 64 "java/lang/IndexOutOfBoundsException", Cond.initialized "java/lang/IndexOutOfBoundsException", Cond.methodLink RX0 80 yX0_isPerson, Cond.static yX0_isPerson, Cond.code yX0_isPerson cX0_isPerson 1 (some .boolean), Cond.methodLink RX0 123 yX0_reputationOf, Cond.instanceMethod yX0_reputationOf, Cond.selects RX0 yX0_reputationOf yX0_reputationOf, Cond.code yX0_reputationOf cX0_reputationOf 4 (some .int), Cond.fieldLink RX0 47 "StampRelay" "letterCount" "I", Cond.fieldLink RX0 9 "StampRelay" "senders" "[I", Cond.methodLink RX0 181 yX0_opinionIn, Cond.instanceMethod yX0_opinionIn, Cond.selects RX0 yX0_opinionIn yX0_opinionIn, Cond.code yX0_opinionIn cX0_opinionIn 2 (some .int), Cond.fieldLink RX0 19 "StampRelay" "states" "[I", Cond.fieldLink RX0 13 "StampRelay" "readers" "[I", Cond.fieldLink RX0 31 "StampRelay" "falselyMarked" "[Z"]
def wsL_reputation_r2 : List Cond := [Cond.methodLink RX0 112 yX0_isLetter, Cond.instanceMethod yX0_isLetter, Cond.selects RX0 yX0_isLetter yX0_isLetter, Cond.code yX0_isLetter cX0_isLetter 2 (some .boolean), Cond.methodLink RX0 175 yX0_weightOf, Cond.instanceMethod yX0_weightOf, Cond.selects RX0 yX0_weightOf yX0_weightOf, Cond.code yX0_weightOf cX0_weightOf 2 (some .int), Cond.fieldLink RX0 38 "StampRelay" "falseMarkCounts" "[I", Cond.methodLink RX0 178 Lib.Math.max.name, Cond.static Lib.Math.max.name, Cond.initialized "java/lang/Math", Cond.code Lib.Math.max.name Lib.Math.max.code 2 (some .int)]
def wsL_reputation : List Cond := .codeWith yL_reputation cL_reputation 4 (some .int) [(0, 9, 12, 13)] :: ((wsL_reputation_r1 ++ wsL_reputation_r2) ++ wsX00 ++ (vx_atS RX0 68 "java/lang/IndexOutOfBoundsException" ["java/lang/RuntimeException", "java/lang/Exception"]).filter goodWord)
def wsL_reputationAtOnce_r1 : List Cond := [Cond.classLink RL 13 "java/lang/IndexOutOfBoundsException", Cond.methodLink RL 60 yX0_reputationAtOnce, Cond.instanceMethod yX0_reputationAtOnce, Cond.selects RX0 yX0_reputationAtOnce yX0_reputationAtOnce, Cond.initialized RX0, Cond.code yX0_reputationAtOnce cX0_reputationAtOnce 2 (some .int), Cond.classLink RX0 64 "java/lang/IndexOutOfBoundsException", Cond.initialized "java/lang/IndexOutOfBoundsException", Cond.fieldLink RX0 57 "StampRelay" "reputations" "[I", Cond.methodLink RX0 80 yX0_isPerson, Cond.static yX0_isPerson, Cond.code yX0_isPerson cX0_isPerson 1 (some .boolean), Cond.methodLink RX0 147 yX0_findAllReputations, Cond.instanceMethod yX0_findAllReputations, Cond.selects RX0 yX0_findAllReputations yX0_findAllReputations, Cond.code yX0_findAllReputations cX0_findAllReputations 2 none, Cond.fieldLink RX0 47 "StampRelay" "letterCount" "I", Cond.fieldLink RX0 9 "StampRelay" "senders" "[I", Cond.methodLink RX0 181 yX0_opinionIn, Cond.instanceMethod yX0_opinionIn, Cond.selects RX0 yX0_opinionIn yX0_opinionIn, Cond.code yX0_opinionIn cX0_opinionIn 2 (some .int), Cond.fieldLink RX0 19 "StampRelay" "states" "[I", Cond.fieldLink RX0 13 "StampRelay" "readers" "[I"]
def wsL_reputationAtOnce_r2 : List Cond := [Cond.fieldLink RX0 31 "StampRelay" "falselyMarked" "[Z", Cond.methodLink RX0 112 yX0_isLetter, Cond.instanceMethod yX0_isLetter, Cond.selects RX0 yX0_isLetter yX0_isLetter, Cond.code yX0_isLetter cX0_isLetter 2 (some .boolean), Cond.methodLink RX0 175 yX0_weightOf, Cond.instanceMethod yX0_weightOf, Cond.selects RX0 yX0_weightOf yX0_weightOf, Cond.code yX0_weightOf cX0_weightOf 2 (some .int), Cond.fieldLink RX0 38 "StampRelay" "falseMarkCounts" "[I", Cond.methodLink RX0 178 Lib.Math.max.name, Cond.static Lib.Math.max.name, Cond.initialized "java/lang/Math", Cond.code Lib.Math.max.name Lib.Math.max.code 2 (some .int)]
def wsL_reputationAtOnce : List Cond := .codeWith yL_reputationAtOnce cL_reputationAtOnce 4 (some .int) [(0, 9, 12, 13)] :: ((wsL_reputationAtOnce_r1 ++ wsL_reputationAtOnce_r2) ++ wsX00 ++ (vx_atS RX0 68 "java/lang/IndexOutOfBoundsException" ["java/lang/RuntimeException", "java/lang/Exception"]).filter goodWord)
def wsL_leastStake_r1 : List Cond := [Cond.classLink RL 13 "java/lang/IndexOutOfBoundsException", Cond.methodLink RL 63 yX0_leastStake, Cond.instanceMethod yX0_leastStake, Cond.selects RX0 yX0_leastStake yX0_leastStake, Cond.initialized RX0, Cond.code yX0_leastStake cX0_leastStake 2 (some .int), Cond.classLink RX0 64 "java/lang/IndexOutOfBoundsException", Cond.initialized "java/lang/IndexOutOfBoundsException", Cond.methodLink RX0 80 yX0_isPerson, Cond.static yX0_isPerson, Cond.code yX0_isPerson cX0_isPerson 1 (some .boolean), Cond.methodLink RX0 87 yX0_lowestStakeOf, Cond.instanceMethod yX0_lowestStakeOf, Cond.selects RX0 yX0_lowestStakeOf yX0_lowestStakeOf, Cond.code yX0_lowestStakeOf cX0_lowestStakeOf 2 (some .int), Cond.methodLink RX0 165 Lib.Math.min.name, Cond.static Lib.Math.min.name, Cond.initialized "java/lang/Math", Cond.code Lib.Math.min.name Lib.Math.min.code 2 (some .int), Cond.methodLink RX0 178 Lib.Math.max.name, Cond.static Lib.Math.max.name, Cond.code Lib.Math.max.name Lib.Math.max.code 2 (some .int), Cond.methodLink RX0 123 yX0_reputationOf, Cond.instanceMethod yX0_reputationOf]
def wsL_leastStake_r2 : List Cond := [Cond.selects RX0 yX0_reputationOf yX0_reputationOf, Cond.code yX0_reputationOf cX0_reputationOf 4 (some .int), Cond.fieldLink RX0 47 "StampRelay" "letterCount" "I", Cond.fieldLink RX0 9 "StampRelay" "senders" "[I", Cond.methodLink RX0 181 yX0_opinionIn, Cond.instanceMethod yX0_opinionIn, Cond.selects RX0 yX0_opinionIn yX0_opinionIn, Cond.code yX0_opinionIn cX0_opinionIn 2 (some .int), Cond.fieldLink RX0 19 "StampRelay" "states" "[I", Cond.fieldLink RX0 13 "StampRelay" "readers" "[I", Cond.fieldLink RX0 31 "StampRelay" "falselyMarked" "[Z", Cond.methodLink RX0 112 yX0_isLetter, Cond.instanceMethod yX0_isLetter, Cond.selects RX0 yX0_isLetter yX0_isLetter, Cond.code yX0_isLetter cX0_isLetter 2 (some .boolean), Cond.methodLink RX0 175 yX0_weightOf, Cond.instanceMethod yX0_weightOf, Cond.selects RX0 yX0_weightOf yX0_weightOf, Cond.code yX0_weightOf cX0_weightOf 2 (some .int), Cond.fieldLink RX0 38 "StampRelay" "falseMarkCounts" "[I"]
def wsL_leastStake : List Cond := .codeWith yL_leastStake cL_leastStake 4 (some .int) [(0, 9, 12, 13)] :: ((wsL_leastStake_r1 ++ wsL_leastStake_r2) ++ wsX00 ++ (vx_atS RX0 68 "java/lang/IndexOutOfBoundsException" ["java/lang/RuntimeException", "java/lang/Exception"]).filter goodWord)
def wsL_falseMarks : List Cond := .codeWith yL_falseMarks cL_falseMarks 4 (some .int) [(0, 9, 12, 13)] :: ([.classLink RL 13 "java/lang/IndexOutOfBoundsException", .methodLink RL 66 yX0_falseMarks, .instanceMethod yX0_falseMarks, .selects RX0 yX0_falseMarks yX0_falseMarks, .initialized RX0, .code yX0_falseMarks cX0_falseMarks 2 (some .int), .classLink RX0 64 "java/lang/IndexOutOfBoundsException", .initialized "java/lang/IndexOutOfBoundsException", .fieldLink RX0 38 "StampRelay" "falseMarkCounts" "[I", .methodLink RX0 80 yX0_isPerson, .static yX0_isPerson, .code yX0_isPerson cX0_isPerson 1 (some .boolean)] ++ wsX00 ++ (vx_atS RX0 68 "java/lang/IndexOutOfBoundsException" ["java/lang/RuntimeException", "java/lang/Exception"]).filter goodWord)
def wsL_law0_r1 : List Cond := [Cond.classLink RL 8 RX0, Cond.instantiable RX0 16, Cond.initialized RX0, Cond.classLink RL 70 RX1, Cond.instantiable RX1 16, Cond.initialized RX1, Cond.arrayClass .long, Cond.methodLink RL 69 yX0_init, Cond.instanceMethod yX0_init, Cond.code yX0_init cX0_init 3 none, Cond.methodLink RX0 1 objectInit, Cond.instanceMethod objectInit, Cond.code objectInit ⟨#[0xb1]⟩ 1 none, Cond.arrayClass .int, Cond.fieldLink RX0 9 "StampRelay" "senders" "[I", Cond.fieldLink RX0 13 "StampRelay" "readers" "[I", Cond.fieldLink RX0 16 "StampRelay" "stakes" "[I", Cond.fieldLink RX0 19 "StampRelay" "states" "[I", Cond.fieldLink RX0 22 "StampRelay" "places" "[I", Cond.fieldLink RX0 25 "StampRelay" "relaysSeen" "[I", Cond.fieldLink RX0 28 "StampRelay" "deliveryTimes" "[I", Cond.arrayClass .boolean, Cond.fieldLink RX0 31 "StampRelay" "falselyMarked" "[Z", Cond.fieldLink RX0 35 "StampRelay" "purses" "[I"]
def wsL_law0_r2 : List Cond := [Cond.fieldLink RX0 38 "StampRelay" "falseMarkCounts" "[I", Cond.fieldLink RX0 41 "StampRelay" "pools" "[I", Cond.fieldLink RX0 44 "StampRelay" "routes" "[I", Cond.fieldLink RX0 47 "StampRelay" "letterCount" "I", Cond.fieldLink RX0 51 "StampRelay" "now" "I", Cond.fieldLink RX0 54 "StampRelay" "waitingAt" "[I", Cond.fieldLink RX0 57 "StampRelay" "reputations" "[I", Cond.methodLink RL 72 yX1_init, Cond.instanceMethod yX1_init, Cond.code yX1_init cX1_init 2 none, Cond.methodLink RX1 1 objectInit, Cond.fieldLink RX1 7 "StampRelayModel" "routes" "[I", Cond.fieldLink RX1 13 "StampRelayModel" "coins" "[I", Cond.fieldLink RX1 16 "StampRelayModel" "pools" "[I", Cond.fieldLink RX1 19 "StampRelayModel" "falsely" "[I", Cond.fieldLink RX1 22 "StampRelayModel" "sender" "[I", Cond.fieldLink RX1 25 "StampRelayModel" "reader" "[I", Cond.fieldLink RX1 28 "StampRelayModel" "stake" "[I", Cond.fieldLink RX1 31 "StampRelayModel" "state" "[I", Cond.fieldLink RX1 34 "StampRelayModel" "relay" "[I", Cond.fieldLink RX1 37 "StampRelayModel" "marks" "[I", Cond.fieldLink RX1 40 "StampRelayModel" "came" "[I", Cond.fieldLink RX1 43 "StampRelayModel" "isFalse" "[Z", Cond.fieldLink RX1 47 "StampRelayModel" "moves" "[Z"]
def wsL_law0_r3 : List Cond := [Cond.methodLink RL 73 yL_setRoute, Cond.static yL_setRoute, Cond.initialized RL, Cond.codeWith yL_setRoute cL_setRoute 6 (some .int) [(0, 12, 15, 13), (0, 12, 19, 15)], Cond.classLink RL 13 "java/lang/IndexOutOfBoundsException", Cond.classLink RL 15 "java/lang/IllegalArgumentException", Cond.methodLink RL 7 yX0_setRoute, Cond.instanceMethod yX0_setRoute, Cond.selects RX0 yX0_setRoute yX0_setRoute, Cond.code yX0_setRoute cX0_setRoute 6 (some .int), Cond.classLink RX0 64 "java/lang/IndexOutOfBoundsException", Cond.initialized "java/lang/IndexOutOfBoundsException", Cond.classLink RX0 71 "java/lang/IllegalArgumentException", Cond.initialized "java/lang/IllegalArgumentException", Cond.methodLink RX0 60 yX0_isRelay, Cond.static yX0_isRelay, Cond.code yX0_isRelay cX0_isRelay 1 (some .boolean), Cond.methodLink RL 78 yX1_setRoute, Cond.instanceMethod yX1_setRoute, Cond.selects RX1 yX1_setRoute yX1_setRoute, Cond.code yX1_setRoute cX1_setRoute 6 (some .int), Cond.methodLink RX1 61 yX1_isRelay, Cond.static yX1_isRelay, Cond.code yX1_isRelay cX1_isRelay 1 (some .boolean)]
def wsL_law0_r4 : List Cond := [Cond.methodLink RX1 54 yX1_isIn, Cond.static yX1_isIn, Cond.code yX1_isIn cX1_isIn 3 (some .boolean), Cond.methodLink RX1 65 yX1_can, Cond.instanceMethod yX1_can, Cond.selects RX1 yX1_can yX1_can, Cond.code yX1_can cX1_can 2 (some .boolean), Cond.fieldLink RX1 50 "StampRelayModel" "thrown" "I", Cond.methodLink RL 79 yX1_thrown, Cond.instanceMethod yX1_thrown, Cond.selects RX1 yX1_thrown yX1_thrown, Cond.code yX1_thrown cX1_thrown 1 (some .int), Cond.methodLink RL 83 yL_steps, Cond.static yL_steps, Cond.codeWith yL_steps cL_steps 5 (some .int) [(0, 10, 13, 13)], Cond.methodLink RL 17 yX0_steps, Cond.instanceMethod yX0_steps, Cond.selects RX0 yX0_steps yX0_steps, Cond.code yX0_steps cX0_steps 5 (some .int), Cond.methodLink RX0 76 yX0_nextRelay, Cond.instanceMethod yX0_nextRelay, Cond.selects RX0 yX0_nextRelay yX0_nextRelay, Cond.code yX0_nextRelay cX0_nextRelay 3 (some .int), Cond.methodLink RL 86 yX1_steps]
def wsL_law0_r5 : List Cond := [Cond.instanceMethod yX1_steps, Cond.selects RX1 yX1_steps yX1_steps, Cond.code yX1_steps cX1_steps 3 (some .int), Cond.methodLink RX1 72 yX1_way, Cond.instanceMethod yX1_way, Cond.selects RX1 yX1_way yX1_way, Cond.code yX1_way cX1_way 6 (some .int), Cond.methodLink RX1 68 yX1_has, Cond.static yX1_has, Cond.code yX1_has cX1_has 2 (some .boolean), Cond.methodLink RL 87 yL_send, Cond.static yL_send, Cond.codeWith yL_send cL_send 6 (some .int) [(0, 12, 15, 13), (0, 12, 19, 15), (0, 12, 23, 24)], Cond.classLink RL 24 "java/lang/IllegalStateException", Cond.methodLink RL 21 yX0_send, Cond.instanceMethod yX0_send, Cond.selects RX0 yX0_send yX0_send, Cond.code yX0_send cX0_send 5 (some .int), Cond.classLink RX0 91 "java/lang/IllegalStateException", Cond.initialized "java/lang/IllegalStateException", Cond.methodLink RX0 80 yX0_isPerson, Cond.static yX0_isPerson, Cond.code yX0_isPerson cX0_isPerson 1 (some .boolean), Cond.methodLink RX0 87 yX0_lowestStakeOf]
def wsL_law0_r6 : List Cond := [Cond.instanceMethod yX0_lowestStakeOf, Cond.selects RX0 yX0_lowestStakeOf yX0_lowestStakeOf, Cond.code yX0_lowestStakeOf cX0_lowestStakeOf 2 (some .int), Cond.methodLink RX0 165 Lib.Math.min.name, Cond.static Lib.Math.min.name, Cond.initialized "java/lang/Math", Cond.code Lib.Math.min.name Lib.Math.min.code 2 (some .int), Cond.methodLink RX0 178 Lib.Math.max.name, Cond.static Lib.Math.max.name, Cond.code Lib.Math.max.name Lib.Math.max.code 2 (some .int), Cond.methodLink RX0 123 yX0_reputationOf, Cond.instanceMethod yX0_reputationOf, Cond.selects RX0 yX0_reputationOf yX0_reputationOf, Cond.code yX0_reputationOf cX0_reputationOf 4 (some .int), Cond.methodLink RX0 181 yX0_opinionIn, Cond.instanceMethod yX0_opinionIn, Cond.selects RX0 yX0_opinionIn yX0_opinionIn, Cond.code yX0_opinionIn cX0_opinionIn 2 (some .int), Cond.methodLink RX0 112 yX0_isLetter, Cond.instanceMethod yX0_isLetter, Cond.selects RX0 yX0_isLetter yX0_isLetter, Cond.code yX0_isLetter cX0_isLetter 2 (some .boolean), Cond.methodLink RX0 175 yX0_weightOf, Cond.instanceMethod yX0_weightOf]
def wsL_law0_r7 : List Cond := [Cond.selects RX0 yX0_weightOf yX0_weightOf, Cond.code yX0_weightOf cX0_weightOf 2 (some .int), Cond.methodLink RX0 96 yX0_homeOf, Cond.static yX0_homeOf, Cond.code yX0_homeOf cX0_homeOf 1 (some .int), Cond.methodLink RX0 99 yX0_layAt, Cond.instanceMethod yX0_layAt, Cond.selects RX0 yX0_layAt yX0_layAt, Cond.code yX0_layAt cX0_layAt 3 none, Cond.methodLink RX0 162 yX0_markOf, Cond.static yX0_markOf, Cond.code yX0_markOf cX0_markOf 1 (some .int), Cond.methodLink RL 89 yX1_send, Cond.instanceMethod yX1_send, Cond.selects RX1 yX1_send yX1_send, Cond.code yX1_send cX1_send 7 (some .int), Cond.fieldLink RX1 58 "StampRelayModel" "letters" "I", Cond.methodLink RX1 83 yX1_isPerson, Cond.static yX1_isPerson, Cond.code yX1_isPerson cX1_isPerson 1 (some .boolean), Cond.methodLink RX1 86 yX1_least, Cond.instanceMethod yX1_least, Cond.selects RX1 yX1_least yX1_least, Cond.code yX1_least cX1_least 3 (some .int)]
def wsL_law0_r8 : List Cond := [Cond.methodLink RX1 80 yX1_nameOf, Cond.instanceMethod yX1_nameOf, Cond.selects RX1 yX1_nameOf yX1_nameOf, Cond.code yX1_nameOf cX1_nameOf 5 (some .int), Cond.methodLink RX1 76 yX1_weight, Cond.instanceMethod yX1_weight, Cond.selects RX1 yX1_weight yX1_weight, Cond.code yX1_weight cX1_weight 2 (some .int), Cond.methodLink RL 90 yL_pass, Cond.static yL_pass, Cond.codeWith yL_pass cL_pass 4 (some .int) [(0, 9, 12, 15), (0, 9, 15, 24)], Cond.methodLink RL 26 yX0_pass, Cond.instanceMethod yX0_pass, Cond.selects RX0 yX0_pass yX0_pass, Cond.code yX0_pass cX0_pass 4 (some .int), Cond.constant RX0 105 (100000), Cond.methodLink RX0 108 yX0_passOneTick, Cond.instanceMethod yX0_passOneTick, Cond.selects RX0 yX0_passOneTick yX0_passOneTick, Cond.code yX0_passOneTick cX0_passOneTick 4 (some .int), Cond.methodLink RX0 141 yX0_beginLookingAtQueues, Cond.instanceMethod yX0_beginLookingAtQueues, Cond.selects RX0 yX0_beginLookingAtQueues yX0_beginLookingAtQueues, Cond.code yX0_beginLookingAtQueues cX0_beginLookingAtQueues 2 none]
def wsL_law0_r9 : List Cond := [Cond.methodLink RX0 147 yX0_findAllReputations, Cond.instanceMethod yX0_findAllReputations, Cond.selects RX0 yX0_findAllReputations yX0_findAllReputations, Cond.code yX0_findAllReputations cX0_findAllReputations 2 none, Cond.methodLink RX0 144 yX0_takeFirstWaiting, Cond.instanceMethod yX0_takeFirstWaiting, Cond.selects RX0 yX0_takeFirstWaiting yX0_takeFirstWaiting, Cond.code yX0_takeFirstWaiting cX0_takeFirstWaiting 4 (some .int), Cond.methodLink RX0 156 yX0_rankOf, Cond.instanceMethod yX0_rankOf, Cond.selects RX0 yX0_rankOf yX0_rankOf, Cond.code yX0_rankOf cX0_rankOf 2 (some .int), Cond.methodLink RX0 150 yX0_moveOn, Cond.instanceMethod yX0_moveOn, Cond.selects RX0 yX0_moveOn yX0_moveOn, Cond.code yX0_moveOn cX0_moveOn 5 (some .int), Cond.methodLink RX0 159 yX0_leaveQueue, Cond.instanceMethod yX0_leaveQueue, Cond.selects RX0 yX0_leaveQueue yX0_leaveQueue, Cond.code yX0_leaveQueue cX0_leaveQueue 3 none, Cond.methodLink RX0 126 yX0_putStakeIntoPool, Cond.instanceMethod yX0_putStakeIntoPool, Cond.selects RX0 yX0_putStakeIntoPool yX0_putStakeIntoPool, Cond.code yX0_putStakeIntoPool cX0_putStakeIntoPool 3 none]
def wsL_law0_r10 : List Cond := [Cond.methodLink RX0 153 yX0_expireOldLetters, Cond.instanceMethod yX0_expireOldLetters, Cond.selects RX0 yX0_expireOldLetters yX0_expireOldLetters, Cond.code yX0_expireOldLetters cX0_expireOldLetters 2 none, Cond.methodLink RX0 119 yX0_giveStakeBack, Cond.instanceMethod yX0_giveStakeBack, Cond.selects RX0 yX0_giveStakeBack yX0_giveStakeBack, Cond.code yX0_giveStakeBack cX0_giveStakeBack 2 none, Cond.methodLink RL 93 yX1_pass, Cond.instanceMethod yX1_pass, Cond.selects RX1 yX1_pass yX1_pass, Cond.code yX1_pass cX1_pass 4 (some .int), Cond.fieldLink RX1 95 "StampRelayModel" "time" "I", Cond.constant RX1 104 (100000), Cond.methodLink RX1 105 yX1_ticks, Cond.instanceMethod yX1_ticks, Cond.selects RX1 yX1_ticks yX1_ticks, Cond.code yX1_ticks cX1_ticks 3 (some .int), Cond.methodLink RX1 98 yX1_placeOf, Cond.instanceMethod yX1_placeOf, Cond.selects RX1 yX1_placeOf yX1_placeOf, Cond.code yX1_placeOf cX1_placeOf 4 (some .int), Cond.methodLink RX1 89 yX1_liesAt, Cond.instanceMethod yX1_liesAt]
def wsL_law0_r11 : List Cond := [Cond.selects RX1 yX1_liesAt yX1_liesAt, Cond.code yX1_liesAt cX1_liesAt 3 (some .boolean), Cond.methodLink RX1 92 yX1_isAhead, Cond.instanceMethod yX1_isAhead, Cond.selects RX1 yX1_isAhead yX1_isAhead, Cond.code yX1_isAhead cX1_isAhead 5 (some .boolean), Cond.methodLink RX1 101 yX1_goes, Cond.instanceMethod yX1_goes, Cond.selects RX1 yX1_goes yX1_goes, Cond.code yX1_goes cX1_goes 5 (some .boolean), Cond.methodLink RL 94 yL_answer, Cond.static yL_answer, Cond.codeWith yL_answer cL_answer 4 (some .int) [(0, 9, 12, 13), (0, 9, 15, 24)], Cond.methodLink RL 30 yX0_answer, Cond.instanceMethod yX0_answer, Cond.selects RX0 yX0_answer yX0_answer, Cond.code yX0_answer cX0_answer 2 (some .int), Cond.methodLink RL 96 yX1_answer, Cond.instanceMethod yX1_answer, Cond.selects RX1 yX1_answer yX1_answer, Cond.code yX1_answer cX1_answer 2 (some .int), Cond.methodLink RX1 109 yX1_isLetter, Cond.instanceMethod yX1_isLetter, Cond.selects RX1 yX1_isLetter yX1_isLetter]
def wsL_law0_r12 : List Cond := [Cond.code yX1_isLetter cX1_isLetter 2 (some .boolean), Cond.methodLink RL 97 yL_mark, Cond.static yL_mark, Cond.codeWith yL_mark cL_mark 4 (some .int) [(0, 9, 12, 13), (0, 9, 15, 24)], Cond.methodLink RL 33 yX0_mark, Cond.instanceMethod yX0_mark, Cond.selects RX0 yX0_mark yX0_mark, Cond.code yX0_mark cX0_mark 2 (some .int), Cond.methodLink RX0 129 yX0_othersWhoAnswered, Cond.instanceMethod yX0_othersWhoAnswered, Cond.selects RX0 yX0_othersWhoAnswered yX0_othersWhoAnswered, Cond.code yX0_othersWhoAnswered cX0_othersWhoAnswered 5 (some .int), Cond.methodLink RX0 170 yJ6_bitCount_0f7a4, Cond.static yJ6_bitCount_0f7a4, Cond.initialized RJ6, Cond.code yJ6_bitCount_0f7a4 cJ6_bitCount_0f7a4 1 (some .int), Cond.constant RJ6 265 (1431655765), Cond.constant RJ6 266 (858993459), Cond.constant RJ6 267 (252645135), Cond.methodLink RX0 132 yX0_payForFalseMark, Cond.instanceMethod yX0_payForFalseMark, Cond.selects RX0 yX0_payForFalseMark yX0_payForFalseMark, Cond.code yX0_payForFalseMark cX0_payForFalseMark 5 (some .int), Cond.methodLink RL 99 yX1_mark]
def wsL_law0_r13 : List Cond := [Cond.instanceMethod yX1_mark, Cond.selects RX1 yX1_mark yX1_mark, Cond.code yX1_mark cX1_mark 5 (some .int), Cond.methodLink RX1 112 yX1_others, Cond.instanceMethod yX1_others, Cond.selects RX1 yX1_others yX1_others, Cond.code yX1_others cX1_others 5 (some .int), Cond.methodLink RL 100 yX0_letters, Cond.instanceMethod yX0_letters, Cond.selects RX0 yX0_letters yX0_letters, Cond.code yX0_letters cX0_letters 1 (some .int), Cond.methodLink RL 103 yX1_letters, Cond.instanceMethod yX1_letters, Cond.selects RX1 yX1_letters yX1_letters, Cond.code yX1_letters cX1_letters 1 (some .int), Cond.methodLink RL 104 yX0_time, Cond.instanceMethod yX0_time, Cond.selects RX0 yX0_time yX0_time, Cond.code yX0_time cX0_time 1 (some .int), Cond.methodLink RL 107 yX1_time, Cond.instanceMethod yX1_time, Cond.selects RX1 yX1_time yX1_time, Cond.code yX1_time cX1_time 1 (some .int), Cond.methodLink RL 108 yL_stateOf]
def wsL_law0_r14 : List Cond := [Cond.static yL_stateOf, Cond.codeWith yL_stateOf cL_stateOf 4 (some .int) [(0, 9, 12, 13)], Cond.methodLink RL 36 yX0_stateOf, Cond.instanceMethod yX0_stateOf, Cond.selects RX0 yX0_stateOf yX0_stateOf, Cond.code yX0_stateOf cX0_stateOf 2 (some .int), Cond.methodLink RL 110 yX1_stateOf, Cond.instanceMethod yX1_stateOf, Cond.selects RX1 yX1_stateOf yX1_stateOf, Cond.code yX1_stateOf cX1_stateOf 2 (some .int), Cond.methodLink RX1 115 yX1_isAsked, Cond.instanceMethod yX1_isAsked, Cond.selects RX1 yX1_isAsked yX1_isAsked, Cond.code yX1_isAsked cX1_isAsked 2 (some .boolean), Cond.methodLink RL 111 yL_relayOf, Cond.static yL_relayOf, Cond.codeWith yL_relayOf cL_relayOf 4 (some .int) [(0, 9, 12, 13)], Cond.methodLink RL 39 yX0_relayOf, Cond.instanceMethod yX0_relayOf, Cond.selects RX0 yX0_relayOf yX0_relayOf, Cond.code yX0_relayOf cX0_relayOf 2 (some .int), Cond.methodLink RL 113 yX1_relayOf, Cond.instanceMethod yX1_relayOf, Cond.selects RX1 yX1_relayOf yX1_relayOf]
def wsL_law0_r15 : List Cond := [Cond.code yX1_relayOf cX1_relayOf 2 (some .int), Cond.methodLink RL 114 yL_marksOn, Cond.static yL_marksOn, Cond.codeWith yL_marksOn cL_marksOn 4 (some .int) [(0, 9, 12, 13)], Cond.methodLink RL 42 yX0_marksOn, Cond.instanceMethod yX0_marksOn, Cond.selects RX0 yX0_marksOn yX0_marksOn, Cond.code yX0_marksOn cX0_marksOn 2 (some .int), Cond.methodLink RL 116 yX1_marksOn, Cond.instanceMethod yX1_marksOn, Cond.selects RX1 yX1_marksOn yX1_marksOn, Cond.code yX1_marksOn cX1_marksOn 2 (some .int), Cond.methodLink RL 117 yL_queue, Cond.static yL_queue, Cond.codeWith yL_queue cL_queue 4 (some .int) [(0, 9, 12, 13)], Cond.methodLink RL 45 yX0_queue, Cond.instanceMethod yX0_queue, Cond.selects RX0 yX0_queue yX0_queue, Cond.code yX0_queue cX0_queue 2 (some .int), Cond.methodLink RX0 136 yX0_lengthOfQueue, Cond.instanceMethod yX0_lengthOfQueue, Cond.selects RX0 yX0_lengthOfQueue yX0_lengthOfQueue, Cond.code yX0_lengthOfQueue cX0_lengthOfQueue 4 (some .int), Cond.methodLink RL 119 yX1_queue]
def wsL_law0_r16 : List Cond := [Cond.instanceMethod yX1_queue, Cond.selects RX1 yX1_queue yX1_queue, Cond.code yX1_queue cX1_queue 2 (some .int), Cond.methodLink RX1 118 yX1_lengthOf, Cond.instanceMethod yX1_lengthOf, Cond.selects RX1 yX1_lengthOf yX1_lengthOf, Cond.code yX1_lengthOf cX1_lengthOf 4 (some .int), Cond.methodLink RL 120 yL_queueAt, Cond.static yL_queueAt, Cond.codeWith yL_queueAt cL_queueAt 5 (some .int) [(0, 10, 13, 13)], Cond.methodLink RL 48 yX0_queueAt, Cond.instanceMethod yX0_queueAt, Cond.selects RX0 yX0_queueAt yX0_queueAt, Cond.code yX0_queueAt cX0_queueAt 4 (some .int), Cond.methodLink RL 122 yX1_queueAt, Cond.instanceMethod yX1_queueAt, Cond.selects RX1 yX1_queueAt yX1_queueAt, Cond.code yX1_queueAt cX1_queueAt 5 (some .int), Cond.methodLink RL 123 yL_coins, Cond.static yL_coins, Cond.codeWith yL_coins cL_coins 4 (some .int) [(0, 9, 12, 13)], Cond.methodLink RL 51 yX0_coins, Cond.instanceMethod yX0_coins, Cond.selects RX0 yX0_coins yX0_coins]
def wsL_law0_r17 : List Cond := [Cond.code yX0_coins cX0_coins 2 (some .int), Cond.methodLink RL 125 yX1_coins, Cond.instanceMethod yX1_coins, Cond.selects RX1 yX1_coins yX1_coins, Cond.code yX1_coins cX1_coins 2 (some .int), Cond.methodLink RX1 121 yX1_isKnown, Cond.instanceMethod yX1_isKnown, Cond.selects RX1 yX1_isKnown yX1_isKnown, Cond.code yX1_isKnown cX1_isKnown 2 (some .boolean), Cond.methodLink RL 126 yL_pool, Cond.static yL_pool, Cond.codeWith yL_pool cL_pool 4 (some .int) [(0, 9, 12, 13)], Cond.methodLink RL 54 yX0_pool, Cond.instanceMethod yX0_pool, Cond.selects RX0 yX0_pool yX0_pool, Cond.code yX0_pool cX0_pool 2 (some .int), Cond.methodLink RL 128 yX1_pool, Cond.instanceMethod yX1_pool, Cond.selects RX1 yX1_pool yX1_pool, Cond.code yX1_pool cX1_pool 2 (some .int), Cond.methodLink RL 129 yX0_escrow, Cond.instanceMethod yX0_escrow, Cond.selects RX0 yX0_escrow yX0_escrow, Cond.code yX0_escrow cX0_escrow 3 (some .int)]
def wsL_law0_r18 : List Cond := [Cond.methodLink RL 132 yX1_escrow, Cond.instanceMethod yX1_escrow, Cond.selects RX1 yX1_escrow yX1_escrow, Cond.code yX1_escrow cX1_escrow 3 (some .int), Cond.methodLink RL 133 yL_reputation, Cond.static yL_reputation, Cond.codeWith yL_reputation cL_reputation 4 (some .int) [(0, 9, 12, 13)], Cond.methodLink RL 57 yX0_reputation, Cond.instanceMethod yX0_reputation, Cond.selects RX0 yX0_reputation yX0_reputation, Cond.code yX0_reputation cX0_reputation 2 (some .int), Cond.methodLink RL 135 yX1_reputation, Cond.instanceMethod yX1_reputation, Cond.selects RX1 yX1_reputation yX1_reputation, Cond.code yX1_reputation cX1_reputation 2 (some .int), Cond.methodLink RL 136 yL_reputationAtOnce, Cond.static yL_reputationAtOnce, Cond.codeWith yL_reputationAtOnce cL_reputationAtOnce 4 (some .int) [(0, 9, 12, 13)], Cond.methodLink RL 60 yX0_reputationAtOnce, Cond.instanceMethod yX0_reputationAtOnce, Cond.selects RX0 yX0_reputationAtOnce yX0_reputationAtOnce, Cond.code yX0_reputationAtOnce cX0_reputationAtOnce 2 (some .int), Cond.methodLink RL 138 yX1_reputationAtOnce, Cond.instanceMethod yX1_reputationAtOnce]
def wsL_law0_r19 : List Cond := [Cond.selects RX1 yX1_reputationAtOnce yX1_reputationAtOnce, Cond.code yX1_reputationAtOnce cX1_reputationAtOnce 2 (some .int), Cond.methodLink RL 139 yL_leastStake, Cond.static yL_leastStake, Cond.codeWith yL_leastStake cL_leastStake 4 (some .int) [(0, 9, 12, 13)], Cond.methodLink RL 63 yX0_leastStake, Cond.instanceMethod yX0_leastStake, Cond.selects RX0 yX0_leastStake yX0_leastStake, Cond.code yX0_leastStake cX0_leastStake 2 (some .int), Cond.methodLink RL 141 yX1_leastStake, Cond.instanceMethod yX1_leastStake, Cond.selects RX1 yX1_leastStake yX1_leastStake, Cond.code yX1_leastStake cX1_leastStake 2 (some .int), Cond.methodLink RL 142 yL_falseMarks, Cond.static yL_falseMarks, Cond.codeWith yL_falseMarks cL_falseMarks 4 (some .int) [(0, 9, 12, 13)], Cond.methodLink RL 66 yX0_falseMarks, Cond.instanceMethod yX0_falseMarks, Cond.selects RX0 yX0_falseMarks yX0_falseMarks, Cond.code yX0_falseMarks cX0_falseMarks 2 (some .int), Cond.methodLink RL 144 yX1_falseMarks, Cond.instanceMethod yX1_falseMarks, Cond.selects RX1 yX1_falseMarks yX1_falseMarks, Cond.code yX1_falseMarks cX1_falseMarks 2 (some .int)]
def wsL_law0 : List Cond := (wsL_law0_r1 ++ (wsL_law0_r2 ++ (wsL_law0_r3 ++ (wsL_law0_r4 ++ (wsL_law0_r5 ++ (wsL_law0_r6 ++ (wsL_law0_r7 ++ (wsL_law0_r8 ++ (wsL_law0_r9 ++ (wsL_law0_r10 ++ (wsL_law0_r11 ++ (wsL_law0_r12 ++ (wsL_law0_r13 ++ (wsL_law0_r14 ++ (wsL_law0_r15 ++ (wsL_law0_r16 ++ (wsL_law0_r17 ++ (wsL_law0_r18 ++ wsL_law0_r19)))))))))))))))))) ++ wsX00 ++ wsX10 ++ ([] : List Cond)
def wsL_law : List Cond := wsL_law0 ++ (vx_atS RX0 68 "java/lang/IndexOutOfBoundsException" ["java/lang/RuntimeException", "java/lang/Exception"]).filter goodWord ++ (vx_atS RX0 75 "java/lang/IllegalArgumentException" ["java/lang/RuntimeException", "java/lang/Exception"]).filter goodWord ++ (vx_atS RX0 95 "java/lang/IllegalStateException" ["java/lang/RuntimeException", "java/lang/Exception"]).filter goodWord
theorem mem_r9 {big : List Cond} (ws : List Cond) (ps : List Nat) (hp : ws = ps.filterMap (fun i => big[i]?)) : ∀ w ∈ ws, w ∈ big := by
  intro w hw
  rw [hp] at hw
  obtain ⟨i, -, hi⟩ := List.mem_filterMap.mp hw
  exact List.mem_of_getElem? hi
set_option maxRecDepth 20000 in
theorem wsL_law0_r1_in : ∀ w ∈ wsL_law0_r1, w ∈ lw_tbl := mem_r9 _ [47, 48, 37, 452, 453, 38, 664, 49, 50, 51, 52, 53, 54, 104, 55, 56, 57, 58, 59, 60, 61, 105, 62, 63] (by decide +kernel)
set_option maxRecDepth 20000 in
theorem wsL_law0_r2_in : ∀ w ∈ wsL_law0_r2, w ∈ lw_tbl := mem_r9 _ [64, 65, 66, 67, 68, 69, 70, 454, 455, 456, 457, 459, 460, 461, 462, 464, 465, 466, 467, 468, 469, 470, 471, 472] (by decide +kernel)
set_option maxRecDepth 20000 in
theorem wsL_law0_r3_in : ∀ w ∈ wsL_law0_r3, w ∈ lw_tbl := mem_r9 _ [118, 119, 36, 120, 121, 122, 123, 124, 125, 126, 130, 42, 198, 43, 127, 128, 129, 511, 512, 513, 514, 515, 516, 517] (by decide +kernel)
set_option maxRecDepth 20000 in
theorem wsL_law0_r4_in : ∀ w ∈ wsL_law0_r4, w ∈ lw_tbl := mem_r9 _ [518, 519, 520, 521, 523, 21, 524, 473, 507, 508, 509, 510, 214, 215, 216, 217, 218, 219, 220, 221, 223, 1, 224, 525] (by decide +kernel)
set_option maxRecDepth 20000 in
theorem wsL_law0_r5_in : ∀ w ∈ wsL_law0_r5, w ∈ lw_tbl := mem_r9 _ [526, 527, 528, 529, 531, 22, 532, 533, 534, 535, 225, 226, 227, 228, 229, 230, 231, 232, 264, 45, 233, 234, 235, 238] (by decide +kernel)
set_option maxRecDepth 20000 in
theorem wsL_law0_r6_in : ∀ w ∈ wsL_law0_r6, w ∈ lw_tbl := mem_r9 _ [240, 2, 241, 261, 262, 44, 263, 258, 259, 260, 242, 244, 3, 245, 246, 248, 4, 249, 250, 252, 5, 253, 254, 256] (by decide +kernel)
set_option maxRecDepth 20000 in
theorem wsL_law0_r7_in : ∀ w ∈ wsL_law0_r7, w ∈ lw_tbl := mem_r9 _ [6, 257, 280, 281, 282, 283, 285, 7, 286, 287, 288, 289, 536, 537, 538, 539, 463, 540, 541, 542, 543, 545, 23, 546] (by decide +kernel)
set_option maxRecDepth 20000 in
theorem wsL_law0_r8_in : ∀ w ∈ wsL_law0_r8, w ∈ lw_tbl := mem_r9 _ [547, 549, 24, 550, 551, 553, 25, 554, 290, 291, 292, 293, 294, 295, 296, 298, 300, 302, 8, 303, 304, 306, 9, 307] (by decide +kernel)
set_option maxRecDepth 20000 in
theorem wsL_law0_r9_in : ∀ w ∈ wsL_law0_r9, w ∈ lw_tbl := mem_r9 _ [308, 310, 10, 311, 312, 314, 11, 315, 316, 318, 12, 319, 320, 322, 13, 323, 324, 326, 14, 327, 328, 330, 15, 331] (by decide +kernel)
set_option maxRecDepth 20000 in
theorem wsL_law0_r10_in : ∀ w ∈ wsL_law0_r10, w ∈ lw_tbl := mem_r9 _ [332, 334, 16, 335, 336, 338, 17, 339, 555, 556, 557, 558, 458, 559, 560, 562, 26, 563, 564, 566, 27, 567, 568, 570] (by decide +kernel)
set_option maxRecDepth 20000 in
theorem wsL_law0_r11_in : ∀ w ∈ wsL_law0_r11, w ∈ lw_tbl := mem_r9 _ [28, 571, 572, 574, 29, 575, 576, 578, 30, 579, 340, 341, 342, 343, 344, 345, 346, 580, 581, 582, 583, 584, 586, 31] (by decide +kernel)
set_option maxRecDepth 20000 in
theorem wsL_law0_r12_in : ∀ w ∈ wsL_law0_r12, w ∈ lw_tbl := mem_r9 _ [587, 349, 350, 351, 352, 353, 354, 355, 356, 358, 18, 359, 360, 361, 46, 362, 363, 364, 365, 366, 368, 19, 369, 588] (by decide +kernel)
set_option maxRecDepth 20000 in
theorem wsL_law0_r13_in : ∀ w ∈ wsL_law0_r13, w ∈ lw_tbl := mem_r9 _ [589, 590, 591, 592, 594, 32, 595, 106, 107, 108, 109, 596, 597, 598, 599, 110, 111, 112, 113, 600, 601, 602, 603, 370] (by decide +kernel)
set_option maxRecDepth 20000 in
theorem wsL_law0_r14_in : ∀ w ∈ wsL_law0_r14, w ∈ lw_tbl := mem_r9 _ [371, 372, 373, 374, 375, 376, 604, 605, 606, 607, 608, 610, 33, 611, 377, 378, 379, 380, 381, 382, 383, 612, 613, 614] (by decide +kernel)
set_option maxRecDepth 20000 in
theorem wsL_law0_r15_in : ∀ w ∈ wsL_law0_r15, w ∈ lw_tbl := mem_r9 _ [615, 384, 385, 386, 387, 388, 389, 390, 616, 617, 618, 619, 391, 392, 393, 394, 395, 396, 397, 398, 400, 20, 401, 620] (by decide +kernel)
set_option maxRecDepth 20000 in
theorem wsL_law0_r16_in : ∀ w ∈ wsL_law0_r16, w ∈ lw_tbl := mem_r9 _ [621, 622, 623, 624, 626, 34, 627, 402, 403, 404, 405, 406, 407, 408, 628, 629, 630, 631, 410, 411, 412, 413, 414, 415] (by decide +kernel)
set_option maxRecDepth 20000 in
theorem wsL_law0_r17_in : ∀ w ∈ wsL_law0_r17, w ∈ lw_tbl := mem_r9 _ [416, 632, 633, 634, 635, 636, 638, 35, 639, 417, 418, 419, 420, 421, 422, 423, 640, 641, 642, 643, 114, 115, 116, 117] (by decide +kernel)
set_option maxRecDepth 20000 in
theorem wsL_law0_r18_in : ∀ w ∈ wsL_law0_r18, w ∈ lw_tbl := mem_r9 _ [644, 645, 646, 647, 424, 425, 426, 427, 428, 429, 430, 648, 649, 650, 651, 431, 432, 433, 434, 435, 436, 437, 652, 653] (by decide +kernel)
set_option maxRecDepth 20000 in
theorem wsL_law0_r19_in : ∀ w ∈ wsL_law0_r19, w ∈ lw_tbl := mem_r9 _ [654, 655, 438, 439, 440, 441, 442, 443, 444, 656, 657, 658, 659, 445, 446, 447, 448, 449, 450, 451, 660, 661, 662, 663] (by decide +kernel)
theorem wsX00_in9 : ∀ w ∈ wsX00, w ∈ lw_tbl := by decide +kernel
theorem wsX10_in9 : ∀ w ∈ wsX10, w ∈ lw_tbl := by decide +kernel
theorem wsL_law_in0 : ∀ w ∈ wsL_law0, w ∈ lw_tbl := List.forall_mem_append.mpr ⟨List.forall_mem_append.mpr ⟨List.forall_mem_append.mpr ⟨List.forall_mem_append.mpr ⟨wsL_law0_r1_in, List.forall_mem_append.mpr ⟨wsL_law0_r2_in, List.forall_mem_append.mpr ⟨wsL_law0_r3_in, List.forall_mem_append.mpr ⟨wsL_law0_r4_in, List.forall_mem_append.mpr ⟨wsL_law0_r5_in, List.forall_mem_append.mpr ⟨wsL_law0_r6_in, List.forall_mem_append.mpr ⟨wsL_law0_r7_in, List.forall_mem_append.mpr ⟨wsL_law0_r8_in, List.forall_mem_append.mpr ⟨wsL_law0_r9_in, List.forall_mem_append.mpr ⟨wsL_law0_r10_in, List.forall_mem_append.mpr ⟨wsL_law0_r11_in, List.forall_mem_append.mpr ⟨wsL_law0_r12_in, List.forall_mem_append.mpr ⟨wsL_law0_r13_in, List.forall_mem_append.mpr ⟨wsL_law0_r14_in, List.forall_mem_append.mpr ⟨wsL_law0_r15_in, List.forall_mem_append.mpr ⟨wsL_law0_r16_in, List.forall_mem_append.mpr ⟨wsL_law0_r17_in, List.forall_mem_append.mpr ⟨wsL_law0_r18_in, wsL_law0_r19_in⟩⟩⟩⟩⟩⟩⟩⟩⟩⟩⟩⟩⟩⟩⟩⟩⟩⟩, wsX00_in9⟩, wsX10_in9⟩, (fun _ h => absurd h List.not_mem_nil)⟩
theorem wsL_law_x0 : ∀ w ∈ (vx_atS RX0 68 "java/lang/IndexOutOfBoundsException" ["java/lang/RuntimeException", "java/lang/Exception"]).filter goodWord, w ∈ lw_tbl := by decide +kernel
theorem wsL_law_x1 : ∀ w ∈ (vx_atS RX0 75 "java/lang/IllegalArgumentException" ["java/lang/RuntimeException", "java/lang/Exception"]).filter goodWord, w ∈ lw_tbl := by decide +kernel
theorem wsL_law_x2 : ∀ w ∈ (vx_atS RX0 95 "java/lang/IllegalStateException" ["java/lang/RuntimeException", "java/lang/Exception"]).filter goodWord, w ∈ lw_tbl := by decide +kernel
theorem wsL_law_in : ∀ w ∈ wsL_law, w ∈ lw_tbl := fun w h => (List.mem_append.mp h).elim (fun h => (List.mem_append.mp h).elim (fun h => (List.mem_append.mp h).elim (fun h => wsL_law_in0 w h) (fun h => wsL_law_x0 w h)) (fun h => wsL_law_x1 w h)) (fun h => wsL_law_x2 w h)
theorem inlX0 : ∀ w ∈ wsX00, w ∈ wsL_law := fun _ h => List.mem_append_left _ (List.mem_append_left _ (List.mem_append_left _ (List.mem_append_left _ (List.mem_append_left _ (List.mem_append_right _ h)))))
theorem inX0 : ∀ w ∈ wsX00, w ∈ lw_tbl := fun w h => wsL_law_in w (inlX0 w h)
theorem inlX1 : ∀ w ∈ wsX10, w ∈ wsL_law := fun _ h => List.mem_append_left _ (List.mem_append_left _ (List.mem_append_left _ (List.mem_append_left _ (List.mem_append_right _ h))))
theorem inX1 : ∀ w ∈ wsX10, w ∈ lw_tbl := fun w h => wsL_law_in w (inlX1 w h)
theorem inJ6 : ∀ w ∈ wsJ60, w ∈ lw_tbl := by decide +kernel
theorem inJ9 : ∀ w ∈ wsJ90, w ∈ lw_tbl := by decide +kernel
theorem inJ0 : ∀ w ∈ wsJ00, w ∈ lw_tbl := by decide +kernel
end
section
theorem dX0_init_0 : decode cX0_init 0 = .ok (.aload_n 0, 1) := by decide +kernel
theorem dX0_init_1 : decode cX0_init 1 = .ok (.invokespecial 1, 3) := by decide +kernel
theorem dX0_init_4 : decode cX0_init 4 = .ok (.aload_n 0, 1) := by decide +kernel
theorem dX0_init_5 : decode cX0_init 5 = .ok (.bipush 60, 2) := by decide +kernel
theorem dX0_init_7 : decode cX0_init 7 = .ok (.newarray .int, 2) := by decide +kernel
theorem dX0_init_9 : decode cX0_init 9 = .ok (.putfield 9, 3) := by decide +kernel
theorem dX0_init_12 : decode cX0_init 12 = .ok (.aload_n 0, 1) := by decide +kernel
theorem dX0_init_13 : decode cX0_init 13 = .ok (.bipush 60, 2) := by decide +kernel
theorem dX0_init_15 : decode cX0_init 15 = .ok (.newarray .int, 2) := by decide +kernel
theorem dX0_init_17 : decode cX0_init 17 = .ok (.putfield 13, 3) := by decide +kernel
theorem dX0_init_20 : decode cX0_init 20 = .ok (.aload_n 0, 1) := by decide +kernel
theorem dX0_init_21 : decode cX0_init 21 = .ok (.bipush 60, 2) := by decide +kernel
theorem dX0_init_23 : decode cX0_init 23 = .ok (.newarray .int, 2) := by decide +kernel
theorem dX0_init_25 : decode cX0_init 25 = .ok (.putfield 16, 3) := by decide +kernel
theorem dX0_init_28 : decode cX0_init 28 = .ok (.aload_n 0, 1) := by decide +kernel
theorem dX0_init_29 : decode cX0_init 29 = .ok (.bipush 60, 2) := by decide +kernel
theorem dX0_init_31 : decode cX0_init 31 = .ok (.newarray .int, 2) := by decide +kernel
theorem dX0_init_33 : decode cX0_init 33 = .ok (.putfield 19, 3) := by decide +kernel
theorem dX0_init_36 : decode cX0_init 36 = .ok (.aload_n 0, 1) := by decide +kernel
theorem dX0_init_37 : decode cX0_init 37 = .ok (.bipush 60, 2) := by decide +kernel
theorem dX0_init_39 : decode cX0_init 39 = .ok (.newarray .int, 2) := by decide +kernel
theorem dX0_init_41 : decode cX0_init 41 = .ok (.putfield 22, 3) := by decide +kernel
theorem dX0_init_44 : decode cX0_init 44 = .ok (.aload_n 0, 1) := by decide +kernel
theorem dX0_init_45 : decode cX0_init 45 = .ok (.bipush 60, 2) := by decide +kernel
theorem dX0_init_47 : decode cX0_init 47 = .ok (.newarray .int, 2) := by decide +kernel
theorem dX0_init_49 : decode cX0_init 49 = .ok (.putfield 25, 3) := by decide +kernel
theorem dX0_init_52 : decode cX0_init 52 = .ok (.aload_n 0, 1) := by decide +kernel
theorem dX0_init_53 : decode cX0_init 53 = .ok (.bipush 60, 2) := by decide +kernel
theorem dX0_init_55 : decode cX0_init 55 = .ok (.newarray .int, 2) := by decide +kernel
theorem dX0_init_57 : decode cX0_init 57 = .ok (.putfield 28, 3) := by decide +kernel
theorem dX0_init_60 : decode cX0_init 60 = .ok (.aload_n 0, 1) := by decide +kernel
theorem dX0_init_61 : decode cX0_init 61 = .ok (.bipush 60, 2) := by decide +kernel
theorem dX0_init_63 : decode cX0_init 63 = .ok (.newarray .boolean, 2) := by decide +kernel
theorem dX0_init_65 : decode cX0_init 65 = .ok (.putfield 31, 3) := by decide +kernel
theorem dX0_init_68 : decode cX0_init 68 = .ok (.aload_n 0, 1) := by decide +kernel
theorem dX0_init_69 : decode cX0_init 69 = .ok (.bipush 8, 2) := by decide +kernel
theorem dX0_init_71 : decode cX0_init 71 = .ok (.newarray .int, 2) := by decide +kernel
theorem dX0_init_73 : decode cX0_init 73 = .ok (.putfield 35, 3) := by decide +kernel
theorem dX0_init_76 : decode cX0_init 76 = .ok (.aload_n 0, 1) := by decide +kernel
theorem dX0_init_77 : decode cX0_init 77 = .ok (.bipush 8, 2) := by decide +kernel
theorem dX0_init_79 : decode cX0_init 79 = .ok (.newarray .int, 2) := by decide +kernel
theorem dX0_init_81 : decode cX0_init 81 = .ok (.putfield 38, 3) := by decide +kernel
theorem dX0_init_84 : decode cX0_init 84 = .ok (.aload_n 0, 1) := by decide +kernel
theorem dX0_init_85 : decode cX0_init 85 = .ok (.iconst 4, 1) := by decide +kernel
theorem dX0_init_86 : decode cX0_init 86 = .ok (.newarray .int, 2) := by decide +kernel
theorem dX0_init_88 : decode cX0_init 88 = .ok (.putfield 41, 3) := by decide +kernel
theorem dX0_init_91 : decode cX0_init 91 = .ok (.aload_n 0, 1) := by decide +kernel
theorem dX0_init_92 : decode cX0_init 92 = .ok (.bipush 16, 2) := by decide +kernel
theorem dX0_init_94 : decode cX0_init 94 = .ok (.newarray .int, 2) := by decide +kernel
theorem dX0_init_96 : decode cX0_init 96 = .ok (.putfield 44, 3) := by decide +kernel
theorem dX0_init_99 : decode cX0_init 99 = .ok (.aload_n 0, 1) := by decide +kernel
theorem dX0_init_100 : decode cX0_init 100 = .ok (.iconst 0, 1) := by decide +kernel
theorem dX0_init_101 : decode cX0_init 101 = .ok (.putfield 47, 3) := by decide +kernel
theorem dX0_init_104 : decode cX0_init 104 = .ok (.aload_n 0, 1) := by decide +kernel
theorem dX0_init_105 : decode cX0_init 105 = .ok (.iconst 0, 1) := by decide +kernel
theorem dX0_init_106 : decode cX0_init 106 = .ok (.putfield 51, 3) := by decide +kernel
theorem dX0_init_109 : decode cX0_init 109 = .ok (.aload_n 0, 1) := by decide +kernel
theorem dX0_init_110 : decode cX0_init 110 = .ok (.bipush 60, 2) := by decide +kernel
theorem dX0_init_112 : decode cX0_init 112 = .ok (.newarray .int, 2) := by decide +kernel
theorem dX0_init_114 : decode cX0_init 114 = .ok (.putfield 54, 3) := by decide +kernel
theorem dX0_init_117 : decode cX0_init 117 = .ok (.aload_n 0, 1) := by decide +kernel
theorem dX0_init_118 : decode cX0_init 118 = .ok (.bipush 8, 2) := by decide +kernel
theorem dX0_init_120 : decode cX0_init 120 = .ok (.newarray .int, 2) := by decide +kernel
theorem dX0_init_122 : decode cX0_init 122 = .ok (.putfield 57, 3) := by decide +kernel
theorem dX0_init_125 : decode cX0_init 125 = .ok (.iconst 0, 1) := by decide +kernel
theorem dX0_init_126 : decode cX0_init 126 = .ok (.istore_n 1, 1) := by decide +kernel
theorem dX0_init_127 : decode cX0_init 127 = .ok (.iload_n 1, 1) := by decide +kernel
theorem dX0_init_128 : decode cX0_init 128 = .ok (.bipush 8, 2) := by decide +kernel
theorem dX0_init_130 : decode cX0_init 130 = .ok (.if_icmp .ge 17, 3) := by decide +kernel
theorem dX0_init_133 : decode cX0_init 133 = .ok (.aload_n 0, 1) := by decide +kernel
theorem dX0_init_134 : decode cX0_init 134 = .ok (.getfield 35, 3) := by decide +kernel
theorem dX0_init_137 : decode cX0_init 137 = .ok (.iload_n 1, 1) := by decide +kernel
theorem dX0_init_138 : decode cX0_init 138 = .ok (.bipush 100, 2) := by decide +kernel
theorem dX0_init_140 : decode cX0_init 140 = .ok (.iastore, 1) := by decide +kernel
theorem dX0_init_141 : decode cX0_init 141 = .ok (.iinc 1 1, 3) := by decide +kernel
theorem dX0_init_144 : decode cX0_init 144 = .ok (.goto (-17), 3) := by decide +kernel
theorem dX0_init_147 : decode cX0_init 147 = .ok (.iconst 0, 1) := by decide +kernel
theorem dX0_init_148 : decode cX0_init 148 = .ok (.istore_n 1, 1) := by decide +kernel
theorem dX0_init_149 : decode cX0_init 149 = .ok (.iload_n 1, 1) := by decide +kernel
theorem dX0_init_150 : decode cX0_init 150 = .ok (.iconst 4, 1) := by decide +kernel
theorem dX0_init_151 : decode cX0_init 151 = .ok (.if_icmp .ge 33, 3) := by decide +kernel
theorem dX0_init_154 : decode cX0_init 154 = .ok (.iconst 0, 1) := by decide +kernel
theorem dX0_init_155 : decode cX0_init 155 = .ok (.istore_n 2, 1) := by decide +kernel
theorem dX0_init_156 : decode cX0_init 156 = .ok (.iload_n 2, 1) := by decide +kernel
theorem dX0_init_157 : decode cX0_init 157 = .ok (.iconst 4, 1) := by decide +kernel
theorem dX0_init_158 : decode cX0_init 158 = .ok (.if_icmp .ge 20, 3) := by decide +kernel
theorem dX0_init_161 : decode cX0_init 161 = .ok (.aload_n 0, 1) := by decide +kernel
theorem dX0_init_162 : decode cX0_init 162 = .ok (.getfield 44, 3) := by decide +kernel
theorem dX0_init_165 : decode cX0_init 165 = .ok (.iload_n 1, 1) := by decide +kernel
theorem dX0_init_166 : decode cX0_init 166 = .ok (.iconst 4, 1) := by decide +kernel
theorem dX0_init_167 : decode cX0_init 167 = .ok (.imul, 1) := by decide +kernel
theorem dX0_init_168 : decode cX0_init 168 = .ok (.iload_n 2, 1) := by decide +kernel
theorem dX0_init_169 : decode cX0_init 169 = .ok (.iadd, 1) := by decide +kernel
theorem dX0_init_170 : decode cX0_init 170 = .ok (.iload_n 2, 1) := by decide +kernel
theorem dX0_init_171 : decode cX0_init 171 = .ok (.iastore, 1) := by decide +kernel
theorem dX0_init_172 : decode cX0_init 172 = .ok (.iinc 2 1, 3) := by decide +kernel
theorem dX0_init_175 : decode cX0_init 175 = .ok (.goto (-19), 3) := by decide +kernel
theorem dX0_init_178 : decode cX0_init 178 = .ok (.iinc 1 1, 3) := by decide +kernel
theorem dX0_init_181 : decode cX0_init 181 = .ok (.goto (-32), 3) := by decide +kernel
theorem dX0_init_184 : decode cX0_init 184 = .ok (.return_, 1) := by decide +kernel
set_option maxRecDepth 20000 in
theorem ggX0_setRoute_X0_isRelay : GoodIn wsX0_setRoute wsX0_isRelay := goodIn_r _ [9] (by decide +kernel) (by decide +kernel)
set_option maxRecDepth 20000 in
theorem gX0_setRoute_X0_isRelay : GoodIn wsX0_setRoute (va_wsS RX0 60 yX0_isRelay wsX0_isRelay) := goodIn_app (goodIn_of _ (by decide +kernel)) ggX0_setRoute_X0_isRelay
theorem dX0_setRoute_0 : decode cX0_setRoute 0 = .ok (.iload_n 1, 1) := by decide +kernel
theorem dX0_setRoute_1 : decode cX0_setRoute 1 = .ok (.invokestatic 60, 3) := by decide +kernel
theorem dX0_setRoute_4 : decode cX0_setRoute 4 = .ok (.ifCond .eq 17, 3) := by decide +kernel
theorem dX0_setRoute_7 : decode cX0_setRoute 7 = .ok (.iload_n 2, 1) := by decide +kernel
theorem dX0_setRoute_8 : decode cX0_setRoute 8 = .ok (.invokestatic 60, 3) := by decide +kernel
theorem dX0_setRoute_11 : decode cX0_setRoute 11 = .ok (.ifCond .eq 10, 3) := by decide +kernel
theorem dX0_setRoute_14 : decode cX0_setRoute 14 = .ok (.iload_n 3, 1) := by decide +kernel
theorem dX0_setRoute_15 : decode cX0_setRoute 15 = .ok (.invokestatic 60, 3) := by decide +kernel
theorem dX0_setRoute_18 : decode cX0_setRoute 18 = .ok (.ifCond .ne 13, 3) := by decide +kernel
theorem dX0_setRoute_21 : decode cX0_setRoute 21 = .ok (.new 64, 3) := by decide +kernel
theorem dX0_setRoute_24 : decode cX0_setRoute 24 = .ok (.dup, 1) := by decide +kernel
theorem dX0_setRoute_25 : decode cX0_setRoute 25 = .ok (.ldc 66, 2) := by decide +kernel
theorem dX0_setRoute_27 : decode cX0_setRoute 27 = .ok (.invokespecial 68, 3) := by decide +kernel
theorem dX0_setRoute_30 : decode cX0_setRoute 30 = .ok (.athrow, 1) := by decide +kernel
theorem dX0_setRoute_31 : decode cX0_setRoute 31 = .ok (.iload_n 2, 1) := by decide +kernel
theorem dX0_setRoute_32 : decode cX0_setRoute 32 = .ok (.iload_n 1, 1) := by decide +kernel
theorem dX0_setRoute_33 : decode cX0_setRoute 33 = .ok (.if_icmp .eq 8, 3) := by decide +kernel
theorem dX0_setRoute_36 : decode cX0_setRoute 36 = .ok (.iload_n 3, 1) := by decide +kernel
theorem dX0_setRoute_37 : decode cX0_setRoute 37 = .ok (.iload_n 1, 1) := by decide +kernel
theorem dX0_setRoute_38 : decode cX0_setRoute 38 = .ok (.if_icmp .ne 13, 3) := by decide +kernel
theorem dX0_setRoute_41 : decode cX0_setRoute 41 = .ok (.new 71, 3) := by decide +kernel
theorem dX0_setRoute_44 : decode cX0_setRoute 44 = .ok (.dup, 1) := by decide +kernel
theorem dX0_setRoute_45 : decode cX0_setRoute 45 = .ok (.ldc 73, 2) := by decide +kernel
theorem dX0_setRoute_47 : decode cX0_setRoute 47 = .ok (.invokespecial 75, 3) := by decide +kernel
theorem dX0_setRoute_50 : decode cX0_setRoute 50 = .ok (.athrow, 1) := by decide +kernel
theorem dX0_setRoute_51 : decode cX0_setRoute 51 = .ok (.iload_n 1, 1) := by decide +kernel
theorem dX0_setRoute_52 : decode cX0_setRoute 52 = .ok (.iconst 4, 1) := by decide +kernel
theorem dX0_setRoute_53 : decode cX0_setRoute 53 = .ok (.imul, 1) := by decide +kernel
theorem dX0_setRoute_54 : decode cX0_setRoute 54 = .ok (.iload_n 2, 1) := by decide +kernel
theorem dX0_setRoute_55 : decode cX0_setRoute 55 = .ok (.iadd, 1) := by decide +kernel
theorem dX0_setRoute_56 : decode cX0_setRoute 56 = .ok (.istore 4, 2) := by decide +kernel
theorem dX0_setRoute_58 : decode cX0_setRoute 58 = .ok (.aload_n 0, 1) := by decide +kernel
theorem dX0_setRoute_59 : decode cX0_setRoute 59 = .ok (.getfield 44, 3) := by decide +kernel
theorem dX0_setRoute_62 : decode cX0_setRoute 62 = .ok (.iload 4, 2) := by decide +kernel
theorem dX0_setRoute_64 : decode cX0_setRoute 64 = .ok (.iaload, 1) := by decide +kernel
theorem dX0_setRoute_65 : decode cX0_setRoute 65 = .ok (.istore 5, 2) := by decide +kernel
theorem dX0_setRoute_67 : decode cX0_setRoute 67 = .ok (.aload_n 0, 1) := by decide +kernel
theorem dX0_setRoute_68 : decode cX0_setRoute 68 = .ok (.getfield 44, 3) := by decide +kernel
theorem dX0_setRoute_71 : decode cX0_setRoute 71 = .ok (.iload 4, 2) := by decide +kernel
theorem dX0_setRoute_73 : decode cX0_setRoute 73 = .ok (.iload_n 3, 1) := by decide +kernel
theorem dX0_setRoute_74 : decode cX0_setRoute 74 = .ok (.iastore, 1) := by decide +kernel
theorem dX0_setRoute_75 : decode cX0_setRoute 75 = .ok (.iload 5, 2) := by decide +kernel
theorem dX0_setRoute_77 : decode cX0_setRoute 77 = .ok (.ireturn, 1) := by decide +kernel
set_option maxRecDepth 20000 in
theorem ggX0_steps_X0_isRelay : GoodIn wsX0_steps wsX0_isRelay := goodIn_r _ [6] (by decide +kernel) (by decide +kernel)
set_option maxRecDepth 20000 in
theorem gX0_steps_X0_isRelay : GoodIn wsX0_steps (va_wsS RX0 60 yX0_isRelay wsX0_isRelay) := goodIn_app (goodIn_of _ (by decide +kernel)) ggX0_steps_X0_isRelay
set_option maxRecDepth 20000 in
theorem ggX0_steps_X0_nextRelay : GoodIn wsX0_steps wsX0_nextRelay := goodIn_r _ [10, 11, 3, 4, 5, 6, 12, 13, 14, 15, 16, 17, 18, 19, 20, 21, 22, 23, 24, 25, 26, 27] (by decide +kernel) (by decide +kernel)
set_option maxRecDepth 20000 in
theorem gX0_steps_X0_nextRelay : GoodIn wsX0_steps (wsV RX0 76 RX0 yX0_nextRelay wsX0_nextRelay) := goodIn_app (goodIn_of _ (by decide +kernel)) ggX0_steps_X0_nextRelay
theorem dX0_steps_0 : decode cX0_steps 0 = .ok (.iload_n 1, 1) := by decide +kernel
theorem dX0_steps_1 : decode cX0_steps 1 = .ok (.invokestatic 60, 3) := by decide +kernel
theorem dX0_steps_4 : decode cX0_steps 4 = .ok (.ifCond .eq 10, 3) := by decide +kernel
theorem dX0_steps_7 : decode cX0_steps 7 = .ok (.iload_n 2, 1) := by decide +kernel
theorem dX0_steps_8 : decode cX0_steps 8 = .ok (.invokestatic 60, 3) := by decide +kernel
theorem dX0_steps_11 : decode cX0_steps 11 = .ok (.ifCond .ne 13, 3) := by decide +kernel
theorem dX0_steps_14 : decode cX0_steps 14 = .ok (.new 64, 3) := by decide +kernel
theorem dX0_steps_17 : decode cX0_steps 17 = .ok (.dup, 1) := by decide +kernel
theorem dX0_steps_18 : decode cX0_steps 18 = .ok (.ldc 66, 2) := by decide +kernel
theorem dX0_steps_20 : decode cX0_steps 20 = .ok (.invokespecial 68, 3) := by decide +kernel
theorem dX0_steps_23 : decode cX0_steps 23 = .ok (.athrow, 1) := by decide +kernel
theorem dX0_steps_24 : decode cX0_steps 24 = .ok (.iload_n 1, 1) := by decide +kernel
theorem dX0_steps_25 : decode cX0_steps 25 = .ok (.istore_n 3, 1) := by decide +kernel
theorem dX0_steps_26 : decode cX0_steps 26 = .ok (.iconst 0, 1) := by decide +kernel
theorem dX0_steps_27 : decode cX0_steps 27 = .ok (.istore 4, 2) := by decide +kernel
theorem dX0_steps_29 : decode cX0_steps 29 = .ok (.iload 4, 2) := by decide +kernel
theorem dX0_steps_31 : decode cX0_steps 31 = .ok (.iconst 4, 1) := by decide +kernel
theorem dX0_steps_32 : decode cX0_steps 32 = .ok (.if_icmp .ge 24, 3) := by decide +kernel
theorem dX0_steps_35 : decode cX0_steps 35 = .ok (.iload_n 3, 1) := by decide +kernel
theorem dX0_steps_36 : decode cX0_steps 36 = .ok (.iload_n 2, 1) := by decide +kernel
theorem dX0_steps_37 : decode cX0_steps 37 = .ok (.if_icmp .ne 6, 3) := by decide +kernel
theorem dX0_steps_40 : decode cX0_steps 40 = .ok (.iload 4, 2) := by decide +kernel
theorem dX0_steps_42 : decode cX0_steps 42 = .ok (.ireturn, 1) := by decide +kernel
theorem dX0_steps_43 : decode cX0_steps 43 = .ok (.aload_n 0, 1) := by decide +kernel
theorem dX0_steps_44 : decode cX0_steps 44 = .ok (.iload_n 3, 1) := by decide +kernel
theorem dX0_steps_45 : decode cX0_steps 45 = .ok (.iload_n 2, 1) := by decide +kernel
theorem dX0_steps_46 : decode cX0_steps 46 = .ok (.invokevirtual 76, 3) := by decide +kernel
theorem dX0_steps_49 : decode cX0_steps 49 = .ok (.istore_n 3, 1) := by decide +kernel
theorem dX0_steps_50 : decode cX0_steps 50 = .ok (.iinc 4 1, 3) := by decide +kernel
theorem dX0_steps_53 : decode cX0_steps 53 = .ok (.goto (-24), 3) := by decide +kernel
theorem dX0_steps_56 : decode cX0_steps 56 = .ok (.iconst (-1), 1) := by decide +kernel
theorem dX0_steps_57 : decode cX0_steps 57 = .ok (.ireturn, 1) := by decide +kernel
set_option maxRecDepth 20000 in
theorem ggX0_send_X0_isPerson : GoodIn wsX0_send wsX0_isPerson := goodIn_r _ [16] (by decide +kernel) (by decide +kernel)
set_option maxRecDepth 20000 in
theorem gX0_send_X0_isPerson : GoodIn wsX0_send (va_wsS RX0 80 yX0_isPerson wsX0_isPerson) := goodIn_app (goodIn_of _ (by decide +kernel)) ggX0_send_X0_isPerson
set_option maxRecDepth 20000 in
theorem ggX0_send_X0_lowestStakeOf : GoodIn wsX0_send wsX0_lowestStakeOf := goodIn_r _ [20, 21, 22, 23, 24, 25, 26, 27, 28, 29, 30, 15, 31, 8, 9, 32, 33, 34, 35, 12, 10, 36, 37, 38, 39, 40, 41, 42, 43, 44, 45, 13, 14, 16, 58, 59, 60, 61, 62, 63, 64, 65, 66, 67, 68, 69, 70, 71, 72, 73] (by decide +kernel) (by decide +kernel)
set_option maxRecDepth 20000 in
theorem gX0_send_X0_lowestStakeOf : GoodIn wsX0_send (wsV RX0 87 RX0 yX0_lowestStakeOf wsX0_lowestStakeOf) := goodIn_app (goodIn_of _ (by decide +kernel)) ggX0_send_X0_lowestStakeOf
set_option maxRecDepth 20000 in
theorem ggX0_send_X0_homeOf : GoodIn wsX0_send wsX0_homeOf := goodIn_r _ [48] (by decide +kernel) (by decide +kernel)
set_option maxRecDepth 20000 in
theorem gX0_send_X0_homeOf : GoodIn wsX0_send (va_wsS RX0 96 yX0_homeOf wsX0_homeOf) := goodIn_app (goodIn_of _ (by decide +kernel)) ggX0_send_X0_homeOf
set_option maxRecDepth 20000 in
theorem ggX0_send_X0_layAt : GoodIn wsX0_send wsX0_layAt := goodIn_r _ [52, 53, 54, 37, 38, 39, 15, 40, 8, 55, 56, 57, 58, 59, 60, 61, 62, 63, 64, 65, 66, 67, 68, 69, 70, 71, 72, 73] (by decide +kernel) (by decide +kernel)
set_option maxRecDepth 20000 in
theorem gX0_send_X0_layAt : GoodIn wsX0_send (wsV RX0 99 RX0 yX0_layAt wsX0_layAt) := goodIn_app (goodIn_of _ (by decide +kernel)) ggX0_send_X0_layAt
theorem dX0_send_0 : decode cX0_send 0 = .ok (.iload_n 1, 1) := by decide +kernel
theorem dX0_send_1 : decode cX0_send 1 = .ok (.invokestatic 80, 3) := by decide +kernel
theorem dX0_send_4 : decode cX0_send 4 = .ok (.ifCond .eq 10, 3) := by decide +kernel
theorem dX0_send_7 : decode cX0_send 7 = .ok (.iload_n 2, 1) := by decide +kernel
theorem dX0_send_8 : decode cX0_send 8 = .ok (.invokestatic 80, 3) := by decide +kernel
theorem dX0_send_11 : decode cX0_send 11 = .ok (.ifCond .ne 13, 3) := by decide +kernel
theorem dX0_send_14 : decode cX0_send 14 = .ok (.new 64, 3) := by decide +kernel
theorem dX0_send_17 : decode cX0_send 17 = .ok (.dup, 1) := by decide +kernel
theorem dX0_send_18 : decode cX0_send 18 = .ok (.ldc 83, 2) := by decide +kernel
theorem dX0_send_20 : decode cX0_send 20 = .ok (.invokespecial 68, 3) := by decide +kernel
theorem dX0_send_23 : decode cX0_send 23 = .ok (.athrow, 1) := by decide +kernel
theorem dX0_send_24 : decode cX0_send 24 = .ok (.iload_n 1, 1) := by decide +kernel
theorem dX0_send_25 : decode cX0_send 25 = .ok (.iload_n 2, 1) := by decide +kernel
theorem dX0_send_26 : decode cX0_send 26 = .ok (.if_icmp .eq 13, 3) := by decide +kernel
theorem dX0_send_29 : decode cX0_send 29 = .ok (.iload_n 3, 1) := by decide +kernel
theorem dX0_send_30 : decode cX0_send 30 = .ok (.ifCond .lt 9, 3) := by decide +kernel
theorem dX0_send_33 : decode cX0_send 33 = .ok (.iload_n 3, 1) := by decide +kernel
theorem dX0_send_34 : decode cX0_send 34 = .ok (.bipush 20, 2) := by decide +kernel
theorem dX0_send_36 : decode cX0_send 36 = .ok (.if_icmp .le 13, 3) := by decide +kernel
theorem dX0_send_39 : decode cX0_send 39 = .ok (.new 71, 3) := by decide +kernel
theorem dX0_send_42 : decode cX0_send 42 = .ok (.dup, 1) := by decide +kernel
theorem dX0_send_43 : decode cX0_send 43 = .ok (.ldc 85, 2) := by decide +kernel
theorem dX0_send_45 : decode cX0_send 45 = .ok (.invokespecial 75, 3) := by decide +kernel
theorem dX0_send_48 : decode cX0_send 48 = .ok (.athrow, 1) := by decide +kernel
theorem dX0_send_49 : decode cX0_send 49 = .ok (.iload_n 3, 1) := by decide +kernel
theorem dX0_send_50 : decode cX0_send 50 = .ok (.aload_n 0, 1) := by decide +kernel
theorem dX0_send_51 : decode cX0_send 51 = .ok (.iload_n 1, 1) := by decide +kernel
theorem dX0_send_52 : decode cX0_send 52 = .ok (.invokevirtual 87, 3) := by decide +kernel
theorem dX0_send_55 : decode cX0_send 55 = .ok (.if_icmp .lt 22, 3) := by decide +kernel
theorem dX0_send_58 : decode cX0_send 58 = .ok (.aload_n 0, 1) := by decide +kernel
theorem dX0_send_59 : decode cX0_send 59 = .ok (.getfield 35, 3) := by decide +kernel
theorem dX0_send_62 : decode cX0_send 62 = .ok (.iload_n 1, 1) := by decide +kernel
theorem dX0_send_63 : decode cX0_send 63 = .ok (.iaload, 1) := by decide +kernel
theorem dX0_send_64 : decode cX0_send 64 = .ok (.iload_n 3, 1) := by decide +kernel
theorem dX0_send_65 : decode cX0_send 65 = .ok (.if_icmp .lt 12, 3) := by decide +kernel
theorem dX0_send_68 : decode cX0_send 68 = .ok (.aload_n 0, 1) := by decide +kernel
theorem dX0_send_69 : decode cX0_send 69 = .ok (.getfield 47, 3) := by decide +kernel
theorem dX0_send_72 : decode cX0_send 72 = .ok (.bipush 60, 2) := by decide +kernel
theorem dX0_send_74 : decode cX0_send 74 = .ok (.if_icmp .lt 13, 3) := by decide +kernel
theorem dX0_send_77 : decode cX0_send 77 = .ok (.new 91, 3) := by decide +kernel
theorem dX0_send_80 : decode cX0_send 80 = .ok (.dup, 1) := by decide +kernel
theorem dX0_send_81 : decode cX0_send 81 = .ok (.ldc 93, 2) := by decide +kernel
theorem dX0_send_83 : decode cX0_send 83 = .ok (.invokespecial 95, 3) := by decide +kernel
theorem dX0_send_86 : decode cX0_send 86 = .ok (.athrow, 1) := by decide +kernel
theorem dX0_send_87 : decode cX0_send 87 = .ok (.aload_n 0, 1) := by decide +kernel
theorem dX0_send_88 : decode cX0_send 88 = .ok (.getfield 47, 3) := by decide +kernel
theorem dX0_send_91 : decode cX0_send 91 = .ok (.istore 4, 2) := by decide +kernel
theorem dX0_send_93 : decode cX0_send 93 = .ok (.aload_n 0, 1) := by decide +kernel
theorem dX0_send_94 : decode cX0_send 94 = .ok (.dup, 1) := by decide +kernel
theorem dX0_send_95 : decode cX0_send 95 = .ok (.getfield 47, 3) := by decide +kernel
theorem dX0_send_98 : decode cX0_send 98 = .ok (.iconst 1, 1) := by decide +kernel
theorem dX0_send_99 : decode cX0_send 99 = .ok (.iadd, 1) := by decide +kernel
theorem dX0_send_100 : decode cX0_send 100 = .ok (.putfield 47, 3) := by decide +kernel
theorem dX0_send_103 : decode cX0_send 103 = .ok (.aload_n 0, 1) := by decide +kernel
theorem dX0_send_104 : decode cX0_send 104 = .ok (.getfield 9, 3) := by decide +kernel
theorem dX0_send_107 : decode cX0_send 107 = .ok (.iload 4, 2) := by decide +kernel
theorem dX0_send_109 : decode cX0_send 109 = .ok (.iload_n 1, 1) := by decide +kernel
theorem dX0_send_110 : decode cX0_send 110 = .ok (.iastore, 1) := by decide +kernel
theorem dX0_send_111 : decode cX0_send 111 = .ok (.aload_n 0, 1) := by decide +kernel
theorem dX0_send_112 : decode cX0_send 112 = .ok (.getfield 13, 3) := by decide +kernel
theorem dX0_send_115 : decode cX0_send 115 = .ok (.iload 4, 2) := by decide +kernel
theorem dX0_send_117 : decode cX0_send 117 = .ok (.iload_n 2, 1) := by decide +kernel
theorem dX0_send_118 : decode cX0_send 118 = .ok (.iastore, 1) := by decide +kernel
theorem dX0_send_119 : decode cX0_send 119 = .ok (.aload_n 0, 1) := by decide +kernel
theorem dX0_send_120 : decode cX0_send 120 = .ok (.getfield 16, 3) := by decide +kernel
theorem dX0_send_123 : decode cX0_send 123 = .ok (.iload 4, 2) := by decide +kernel
theorem dX0_send_125 : decode cX0_send 125 = .ok (.iload_n 3, 1) := by decide +kernel
theorem dX0_send_126 : decode cX0_send 126 = .ok (.iastore, 1) := by decide +kernel
theorem dX0_send_127 : decode cX0_send 127 = .ok (.aload_n 0, 1) := by decide +kernel
theorem dX0_send_128 : decode cX0_send 128 = .ok (.getfield 19, 3) := by decide +kernel
theorem dX0_send_131 : decode cX0_send 131 = .ok (.iload 4, 2) := by decide +kernel
theorem dX0_send_133 : decode cX0_send 133 = .ok (.iconst 0, 1) := by decide +kernel
theorem dX0_send_134 : decode cX0_send 134 = .ok (.iastore, 1) := by decide +kernel
theorem dX0_send_135 : decode cX0_send 135 = .ok (.aload_n 0, 1) := by decide +kernel
theorem dX0_send_136 : decode cX0_send 136 = .ok (.getfield 35, 3) := by decide +kernel
theorem dX0_send_139 : decode cX0_send 139 = .ok (.iload_n 1, 1) := by decide +kernel
theorem dX0_send_140 : decode cX0_send 140 = .ok (.dup2, 1) := by decide +kernel
theorem dX0_send_141 : decode cX0_send 141 = .ok (.iaload, 1) := by decide +kernel
theorem dX0_send_142 : decode cX0_send 142 = .ok (.iload_n 3, 1) := by decide +kernel
theorem dX0_send_143 : decode cX0_send 143 = .ok (.isub, 1) := by decide +kernel
theorem dX0_send_144 : decode cX0_send 144 = .ok (.iastore, 1) := by decide +kernel
theorem dX0_send_145 : decode cX0_send 145 = .ok (.aload_n 0, 1) := by decide +kernel
theorem dX0_send_146 : decode cX0_send 146 = .ok (.iload 4, 2) := by decide +kernel
theorem dX0_send_148 : decode cX0_send 148 = .ok (.iload_n 1, 1) := by decide +kernel
theorem dX0_send_149 : decode cX0_send 149 = .ok (.invokestatic 96, 3) := by decide +kernel
theorem dX0_send_152 : decode cX0_send 152 = .ok (.invokevirtual 99, 3) := by decide +kernel
theorem dX0_send_155 : decode cX0_send 155 = .ok (.iload 4, 2) := by decide +kernel
theorem dX0_send_157 : decode cX0_send 157 = .ok (.ireturn, 1) := by decide +kernel
set_option maxRecDepth 20000 in
theorem ggX0_pass_X0_passOneTick : GoodIn wsX0_pass wsX0_passOneTick := goodIn_r _ [11, 5, 12, 13, 14, 10, 15, 16, 17, 18, 19, 20, 21, 22, 23, 24, 25, 26, 27, 28, 29, 30, 31, 32, 33, 34, 35, 36, 37, 38, 39, 40, 41, 42, 43, 44, 45, 46, 47, 48, 49, 50, 51, 52, 53, 54, 55, 56, 57, 58, 59, 60, 61, 62, 63, 64, 65, 66, 67, 68, 69, 70, 71, 72, 73, 74, 75, 76, 77, 78, 79, 80, 81, 82, 83, 84, 85, 86, 87, 88, 89, 90, 91, 92, 93, 94, 95, 96, 97, 98, 99, 100, 101, 102, 103, 104, 105, 106, 107, 108, 109, 110, 111, 112, 113, 114] (by decide +kernel) (by decide +kernel)
set_option maxRecDepth 20000 in
theorem gX0_pass_X0_passOneTick : GoodIn wsX0_pass (wsV RX0 108 RX0 yX0_passOneTick wsX0_passOneTick) := goodIn_app (goodIn_of _ (by decide +kernel)) ggX0_pass_X0_passOneTick
theorem dX0_pass_0 : decode cX0_pass 0 = .ok (.iload_n 1, 1) := by decide +kernel
theorem dX0_pass_1 : decode cX0_pass 1 = .ok (.iconst 1, 1) := by decide +kernel
theorem dX0_pass_2 : decode cX0_pass 2 = .ok (.if_icmp .lt 9, 3) := by decide +kernel
theorem dX0_pass_5 : decode cX0_pass 5 = .ok (.iload_n 1, 1) := by decide +kernel
theorem dX0_pass_6 : decode cX0_pass 6 = .ok (.bipush 50, 2) := by decide +kernel
theorem dX0_pass_8 : decode cX0_pass 8 = .ok (.if_icmp .le 13, 3) := by decide +kernel
theorem dX0_pass_11 : decode cX0_pass 11 = .ok (.new 71, 3) := by decide +kernel
theorem dX0_pass_14 : decode cX0_pass 14 = .ok (.dup, 1) := by decide +kernel
theorem dX0_pass_15 : decode cX0_pass 15 = .ok (.ldc 103, 2) := by decide +kernel
theorem dX0_pass_17 : decode cX0_pass 17 = .ok (.invokespecial 75, 3) := by decide +kernel
theorem dX0_pass_20 : decode cX0_pass 20 = .ok (.athrow, 1) := by decide +kernel
theorem dX0_pass_21 : decode cX0_pass 21 = .ok (.aload_n 0, 1) := by decide +kernel
theorem dX0_pass_22 : decode cX0_pass 22 = .ok (.getfield 51, 3) := by decide +kernel
theorem dX0_pass_25 : decode cX0_pass 25 = .ok (.ldc 105, 2) := by decide +kernel
theorem dX0_pass_27 : decode cX0_pass 27 = .ok (.iload_n 1, 1) := by decide +kernel
theorem dX0_pass_28 : decode cX0_pass 28 = .ok (.isub, 1) := by decide +kernel
theorem dX0_pass_29 : decode cX0_pass 29 = .ok (.if_icmp .le 13, 3) := by decide +kernel
theorem dX0_pass_32 : decode cX0_pass 32 = .ok (.new 91, 3) := by decide +kernel
theorem dX0_pass_35 : decode cX0_pass 35 = .ok (.dup, 1) := by decide +kernel
theorem dX0_pass_36 : decode cX0_pass 36 = .ok (.ldc 106, 2) := by decide +kernel
theorem dX0_pass_38 : decode cX0_pass 38 = .ok (.invokespecial 95, 3) := by decide +kernel
theorem dX0_pass_41 : decode cX0_pass 41 = .ok (.athrow, 1) := by decide +kernel
theorem dX0_pass_42 : decode cX0_pass 42 = .ok (.iconst 0, 1) := by decide +kernel
theorem dX0_pass_43 : decode cX0_pass 43 = .ok (.istore_n 2, 1) := by decide +kernel
theorem dX0_pass_44 : decode cX0_pass 44 = .ok (.iconst 0, 1) := by decide +kernel
theorem dX0_pass_45 : decode cX0_pass 45 = .ok (.istore_n 3, 1) := by decide +kernel
theorem dX0_pass_46 : decode cX0_pass 46 = .ok (.iload_n 3, 1) := by decide +kernel
theorem dX0_pass_47 : decode cX0_pass 47 = .ok (.iload_n 1, 1) := by decide +kernel
theorem dX0_pass_48 : decode cX0_pass 48 = .ok (.if_icmp .ge 16, 3) := by decide +kernel
theorem dX0_pass_51 : decode cX0_pass 51 = .ok (.iload_n 2, 1) := by decide +kernel
theorem dX0_pass_52 : decode cX0_pass 52 = .ok (.aload_n 0, 1) := by decide +kernel
theorem dX0_pass_53 : decode cX0_pass 53 = .ok (.invokevirtual 108, 3) := by decide +kernel
theorem dX0_pass_56 : decode cX0_pass 56 = .ok (.iadd, 1) := by decide +kernel
theorem dX0_pass_57 : decode cX0_pass 57 = .ok (.istore_n 2, 1) := by decide +kernel
theorem dX0_pass_58 : decode cX0_pass 58 = .ok (.iinc 3 1, 3) := by decide +kernel
theorem dX0_pass_61 : decode cX0_pass 61 = .ok (.goto (-15), 3) := by decide +kernel
theorem dX0_pass_64 : decode cX0_pass 64 = .ok (.iload_n 2, 1) := by decide +kernel
theorem dX0_pass_65 : decode cX0_pass 65 = .ok (.ireturn, 1) := by decide +kernel
set_option maxRecDepth 20000 in
theorem ggX0_answer_X0_isLetter : GoodIn wsX0_answer wsX0_isLetter := goodIn_r _ [11, 12, 41, 42, 43, 44, 45, 46, 47, 48, 49, 50, 51, 52, 53, 54, 55, 56] (by decide +kernel) (by decide +kernel)
set_option maxRecDepth 20000 in
theorem gX0_answer_X0_isLetter : GoodIn wsX0_answer (wsV RX0 112 RX0 yX0_isLetter wsX0_isLetter) := goodIn_app (goodIn_of _ (by decide +kernel)) ggX0_answer_X0_isLetter
set_option maxRecDepth 20000 in
theorem ggX0_answer_X0_giveStakeBack : GoodIn wsX0_answer wsX0_giveStakeBack := goodIn_r _ [16, 6, 17, 18, 7, 8, 9, 10, 11, 12, 19, 20, 21, 41, 42, 43, 44, 45, 46, 47, 48, 49, 50, 51, 52, 53, 54, 55, 56] (by decide +kernel) (by decide +kernel)
set_option maxRecDepth 20000 in
theorem gX0_answer_X0_giveStakeBack : GoodIn wsX0_answer (wsV RX0 119 RX0 yX0_giveStakeBack wsX0_giveStakeBack) := goodIn_app (goodIn_of _ (by decide +kernel)) ggX0_answer_X0_giveStakeBack
set_option maxRecDepth 20000 in
theorem ggX0_answer_X0_reputationOf : GoodIn wsX0_answer wsX0_reputationOf := goodIn_r _ [25, 12, 6, 26, 27, 28, 10, 29, 5, 30, 31, 7, 8, 9, 11, 32, 33, 34, 35, 36, 37, 38, 39, 40, 19, 20, 21, 41, 42, 43, 44, 45, 46, 47, 48, 49, 50, 51, 52, 53, 54, 55, 56] (by decide +kernel) (by decide +kernel)
set_option maxRecDepth 20000 in
theorem gX0_answer_X0_reputationOf : GoodIn wsX0_answer (wsV RX0 123 RX0 yX0_reputationOf wsX0_reputationOf) := goodIn_app (goodIn_of _ (by decide +kernel)) ggX0_answer_X0_reputationOf
theorem dX0_answer_0 : decode cX0_answer 0 = .ok (.aload_n 0, 1) := by decide +kernel
theorem dX0_answer_1 : decode cX0_answer 1 = .ok (.iload_n 1, 1) := by decide +kernel
theorem dX0_answer_2 : decode cX0_answer 2 = .ok (.invokevirtual 112, 3) := by decide +kernel
theorem dX0_answer_5 : decode cX0_answer 5 = .ok (.ifCond .ne 13, 3) := by decide +kernel
theorem dX0_answer_8 : decode cX0_answer 8 = .ok (.new 64, 3) := by decide +kernel
theorem dX0_answer_11 : decode cX0_answer 11 = .ok (.dup, 1) := by decide +kernel
theorem dX0_answer_12 : decode cX0_answer 12 = .ok (.ldc 115, 2) := by decide +kernel
theorem dX0_answer_14 : decode cX0_answer 14 = .ok (.invokespecial 68, 3) := by decide +kernel
theorem dX0_answer_17 : decode cX0_answer 17 = .ok (.athrow, 1) := by decide +kernel
theorem dX0_answer_18 : decode cX0_answer 18 = .ok (.aload_n 0, 1) := by decide +kernel
theorem dX0_answer_19 : decode cX0_answer 19 = .ok (.getfield 19, 3) := by decide +kernel
theorem dX0_answer_22 : decode cX0_answer 22 = .ok (.iload_n 1, 1) := by decide +kernel
theorem dX0_answer_23 : decode cX0_answer 23 = .ok (.iaload, 1) := by decide +kernel
theorem dX0_answer_24 : decode cX0_answer 24 = .ok (.iconst 1, 1) := by decide +kernel
theorem dX0_answer_25 : decode cX0_answer 25 = .ok (.if_icmp .eq 13, 3) := by decide +kernel
theorem dX0_answer_28 : decode cX0_answer 28 = .ok (.new 91, 3) := by decide +kernel
theorem dX0_answer_31 : decode cX0_answer 31 = .ok (.dup, 1) := by decide +kernel
theorem dX0_answer_32 : decode cX0_answer 32 = .ok (.ldc 117, 2) := by decide +kernel
theorem dX0_answer_34 : decode cX0_answer 34 = .ok (.invokespecial 95, 3) := by decide +kernel
theorem dX0_answer_37 : decode cX0_answer 37 = .ok (.athrow, 1) := by decide +kernel
theorem dX0_answer_38 : decode cX0_answer 38 = .ok (.aload_n 0, 1) := by decide +kernel
theorem dX0_answer_39 : decode cX0_answer 39 = .ok (.getfield 19, 3) := by decide +kernel
theorem dX0_answer_42 : decode cX0_answer 42 = .ok (.iload_n 1, 1) := by decide +kernel
theorem dX0_answer_43 : decode cX0_answer 43 = .ok (.iconst 2, 1) := by decide +kernel
theorem dX0_answer_44 : decode cX0_answer 44 = .ok (.iastore, 1) := by decide +kernel
theorem dX0_answer_45 : decode cX0_answer 45 = .ok (.aload_n 0, 1) := by decide +kernel
theorem dX0_answer_46 : decode cX0_answer 46 = .ok (.iload_n 1, 1) := by decide +kernel
theorem dX0_answer_47 : decode cX0_answer 47 = .ok (.invokevirtual 119, 3) := by decide +kernel
theorem dX0_answer_50 : decode cX0_answer 50 = .ok (.aload_n 0, 1) := by decide +kernel
theorem dX0_answer_51 : decode cX0_answer 51 = .ok (.aload_n 0, 1) := by decide +kernel
theorem dX0_answer_52 : decode cX0_answer 52 = .ok (.getfield 9, 3) := by decide +kernel
theorem dX0_answer_55 : decode cX0_answer 55 = .ok (.iload_n 1, 1) := by decide +kernel
theorem dX0_answer_56 : decode cX0_answer 56 = .ok (.iaload, 1) := by decide +kernel
theorem dX0_answer_57 : decode cX0_answer 57 = .ok (.invokevirtual 123, 3) := by decide +kernel
theorem dX0_answer_60 : decode cX0_answer 60 = .ok (.ireturn, 1) := by decide +kernel
set_option maxRecDepth 20000 in
theorem ggX0_mark_X0_isLetter : GoodIn wsX0_mark wsX0_isLetter := goodIn_r _ [14, 15, 51, 52, 53, 54, 55, 56, 57, 58, 59, 60, 61, 62, 63, 64, 65, 66] (by decide +kernel) (by decide +kernel)
set_option maxRecDepth 20000 in
theorem gX0_mark_X0_isLetter : GoodIn wsX0_mark (wsV RX0 112 RX0 yX0_isLetter wsX0_isLetter) := goodIn_app (goodIn_of _ (by decide +kernel)) ggX0_mark_X0_isLetter
set_option maxRecDepth 20000 in
theorem ggX0_mark_X0_homeOf : GoodIn wsX0_mark wsX0_homeOf := goodIn_r _ [18] (by decide +kernel) (by decide +kernel)
set_option maxRecDepth 20000 in
theorem gX0_mark_X0_homeOf : GoodIn wsX0_mark (va_wsS RX0 96 yX0_homeOf wsX0_homeOf) := goodIn_app (goodIn_of _ (by decide +kernel)) ggX0_mark_X0_homeOf
set_option maxRecDepth 20000 in
theorem ggX0_mark_X0_putStakeIntoPool : GoodIn wsX0_mark wsX0_putStakeIntoPool := goodIn_r _ [22, 23, 9, 10, 11, 12, 13, 14, 15, 24, 25, 26, 51, 52, 53, 54, 55, 56, 57, 58, 59, 60, 61, 62, 63, 64, 65, 66] (by decide +kernel) (by decide +kernel)
set_option maxRecDepth 20000 in
theorem gX0_mark_X0_putStakeIntoPool : GoodIn wsX0_mark (wsV RX0 126 RX0 yX0_putStakeIntoPool wsX0_putStakeIntoPool) := goodIn_app (goodIn_of _ (by decide +kernel)) ggX0_mark_X0_putStakeIntoPool
set_option maxRecDepth 20000 in
theorem ggX0_mark_X0_othersWhoAnswered : GoodIn wsX0_mark wsX0_othersWhoAnswered := goodIn_r _ [30, 15, 5, 7, 6, 31, 32, 33, 34, 35, 36, 37, 51, 52, 53, 54, 55, 56, 57, 58, 59, 60, 61, 62, 63, 64, 65, 66] (by decide +kernel) (by decide +kernel)
set_option maxRecDepth 20000 in
theorem gX0_mark_X0_othersWhoAnswered : GoodIn wsX0_mark (wsV RX0 129 RX0 yX0_othersWhoAnswered wsX0_othersWhoAnswered) := goodIn_app (goodIn_of _ (by decide +kernel)) ggX0_mark_X0_othersWhoAnswered
set_option maxRecDepth 20000 in
theorem ggX0_mark_X0_payForFalseMark : GoodIn wsX0_mark wsX0_payForFalseMark := goodIn_r _ [41, 42, 43, 44, 45, 46, 47, 48, 49, 13, 50, 51, 52, 53, 54, 55, 56, 57, 58, 59, 60, 61, 62, 63, 64, 65, 66] (by decide +kernel) (by decide +kernel)
set_option maxRecDepth 20000 in
theorem gX0_mark_X0_payForFalseMark : GoodIn wsX0_mark (wsV RX0 132 RX0 yX0_payForFalseMark wsX0_payForFalseMark) := goodIn_app (goodIn_of _ (by decide +kernel)) ggX0_mark_X0_payForFalseMark
theorem dX0_mark_0 : decode cX0_mark 0 = .ok (.aload_n 0, 1) := by decide +kernel
theorem dX0_mark_1 : decode cX0_mark 1 = .ok (.iload_n 1, 1) := by decide +kernel
theorem dX0_mark_2 : decode cX0_mark 2 = .ok (.invokevirtual 112, 3) := by decide +kernel
theorem dX0_mark_5 : decode cX0_mark 5 = .ok (.ifCond .ne 13, 3) := by decide +kernel
theorem dX0_mark_8 : decode cX0_mark 8 = .ok (.new 64, 3) := by decide +kernel
theorem dX0_mark_11 : decode cX0_mark 11 = .ok (.dup, 1) := by decide +kernel
theorem dX0_mark_12 : decode cX0_mark 12 = .ok (.ldc 115, 2) := by decide +kernel
theorem dX0_mark_14 : decode cX0_mark 14 = .ok (.invokespecial 68, 3) := by decide +kernel
theorem dX0_mark_17 : decode cX0_mark 17 = .ok (.athrow, 1) := by decide +kernel
theorem dX0_mark_18 : decode cX0_mark 18 = .ok (.aload_n 0, 1) := by decide +kernel
theorem dX0_mark_19 : decode cX0_mark 19 = .ok (.getfield 19, 3) := by decide +kernel
theorem dX0_mark_22 : decode cX0_mark 22 = .ok (.iload_n 1, 1) := by decide +kernel
theorem dX0_mark_23 : decode cX0_mark 23 = .ok (.iaload, 1) := by decide +kernel
theorem dX0_mark_24 : decode cX0_mark 24 = .ok (.iconst 1, 1) := by decide +kernel
theorem dX0_mark_25 : decode cX0_mark 25 = .ok (.if_icmp .eq 13, 3) := by decide +kernel
theorem dX0_mark_28 : decode cX0_mark 28 = .ok (.new 91, 3) := by decide +kernel
theorem dX0_mark_31 : decode cX0_mark 31 = .ok (.dup, 1) := by decide +kernel
theorem dX0_mark_32 : decode cX0_mark 32 = .ok (.ldc 117, 2) := by decide +kernel
theorem dX0_mark_34 : decode cX0_mark 34 = .ok (.invokespecial 95, 3) := by decide +kernel
theorem dX0_mark_37 : decode cX0_mark 37 = .ok (.athrow, 1) := by decide +kernel
theorem dX0_mark_38 : decode cX0_mark 38 = .ok (.aload_n 0, 1) := by decide +kernel
theorem dX0_mark_39 : decode cX0_mark 39 = .ok (.getfield 19, 3) := by decide +kernel
theorem dX0_mark_42 : decode cX0_mark 42 = .ok (.iload_n 1, 1) := by decide +kernel
theorem dX0_mark_43 : decode cX0_mark 43 = .ok (.iconst 3, 1) := by decide +kernel
theorem dX0_mark_44 : decode cX0_mark 44 = .ok (.iastore, 1) := by decide +kernel
theorem dX0_mark_45 : decode cX0_mark 45 = .ok (.aload_n 0, 1) := by decide +kernel
theorem dX0_mark_46 : decode cX0_mark 46 = .ok (.iload_n 1, 1) := by decide +kernel
theorem dX0_mark_47 : decode cX0_mark 47 = .ok (.aload_n 0, 1) := by decide +kernel
theorem dX0_mark_48 : decode cX0_mark 48 = .ok (.getfield 13, 3) := by decide +kernel
theorem dX0_mark_51 : decode cX0_mark 51 = .ok (.iload_n 1, 1) := by decide +kernel
theorem dX0_mark_52 : decode cX0_mark 52 = .ok (.iaload, 1) := by decide +kernel
theorem dX0_mark_53 : decode cX0_mark 53 = .ok (.invokestatic 96, 3) := by decide +kernel
theorem dX0_mark_56 : decode cX0_mark 56 = .ok (.invokevirtual 126, 3) := by decide +kernel
theorem dX0_mark_59 : decode cX0_mark 59 = .ok (.aload_n 0, 1) := by decide +kernel
theorem dX0_mark_60 : decode cX0_mark 60 = .ok (.aload_n 0, 1) := by decide +kernel
theorem dX0_mark_61 : decode cX0_mark 61 = .ok (.getfield 9, 3) := by decide +kernel
theorem dX0_mark_64 : decode cX0_mark 64 = .ok (.iload_n 1, 1) := by decide +kernel
theorem dX0_mark_65 : decode cX0_mark 65 = .ok (.iaload, 1) := by decide +kernel
theorem dX0_mark_66 : decode cX0_mark 66 = .ok (.aload_n 0, 1) := by decide +kernel
theorem dX0_mark_67 : decode cX0_mark 67 = .ok (.getfield 13, 3) := by decide +kernel
theorem dX0_mark_70 : decode cX0_mark 70 = .ok (.iload_n 1, 1) := by decide +kernel
theorem dX0_mark_71 : decode cX0_mark 71 = .ok (.iaload, 1) := by decide +kernel
theorem dX0_mark_72 : decode cX0_mark 72 = .ok (.invokevirtual 129, 3) := by decide +kernel
theorem dX0_mark_75 : decode cX0_mark 75 = .ok (.iconst 3, 1) := by decide +kernel
theorem dX0_mark_76 : decode cX0_mark 76 = .ok (.if_icmp .ge 5, 3) := by decide +kernel
theorem dX0_mark_79 : decode cX0_mark 79 = .ok (.iconst 0, 1) := by decide +kernel
theorem dX0_mark_80 : decode cX0_mark 80 = .ok (.ireturn, 1) := by decide +kernel
theorem dX0_mark_81 : decode cX0_mark 81 = .ok (.aload_n 0, 1) := by decide +kernel
theorem dX0_mark_82 : decode cX0_mark 82 = .ok (.getfield 31, 3) := by decide +kernel
theorem dX0_mark_85 : decode cX0_mark 85 = .ok (.iload_n 1, 1) := by decide +kernel
theorem dX0_mark_86 : decode cX0_mark 86 = .ok (.iconst 1, 1) := by decide +kernel
theorem dX0_mark_87 : decode cX0_mark 87 = .ok (.bastore, 1) := by decide +kernel
theorem dX0_mark_88 : decode cX0_mark 88 = .ok (.aload_n 0, 1) := by decide +kernel
theorem dX0_mark_89 : decode cX0_mark 89 = .ok (.aload_n 0, 1) := by decide +kernel
theorem dX0_mark_90 : decode cX0_mark 90 = .ok (.getfield 13, 3) := by decide +kernel
theorem dX0_mark_93 : decode cX0_mark 93 = .ok (.iload_n 1, 1) := by decide +kernel
theorem dX0_mark_94 : decode cX0_mark 94 = .ok (.iaload, 1) := by decide +kernel
theorem dX0_mark_95 : decode cX0_mark 95 = .ok (.aload_n 0, 1) := by decide +kernel
theorem dX0_mark_96 : decode cX0_mark 96 = .ok (.getfield 9, 3) := by decide +kernel
theorem dX0_mark_99 : decode cX0_mark 99 = .ok (.iload_n 1, 1) := by decide +kernel
theorem dX0_mark_100 : decode cX0_mark 100 = .ok (.iaload, 1) := by decide +kernel
theorem dX0_mark_101 : decode cX0_mark 101 = .ok (.aload_n 0, 1) := by decide +kernel
theorem dX0_mark_102 : decode cX0_mark 102 = .ok (.getfield 16, 3) := by decide +kernel
theorem dX0_mark_105 : decode cX0_mark 105 = .ok (.iload_n 1, 1) := by decide +kernel
theorem dX0_mark_106 : decode cX0_mark 106 = .ok (.iaload, 1) := by decide +kernel
theorem dX0_mark_107 : decode cX0_mark 107 = .ok (.invokevirtual 132, 3) := by decide +kernel
theorem dX0_mark_110 : decode cX0_mark 110 = .ok (.ireturn, 1) := by decide +kernel
theorem dX0_letters_0 : decode cX0_letters 0 = .ok (.aload_n 0, 1) := by decide +kernel
theorem dX0_letters_1 : decode cX0_letters 1 = .ok (.getfield 47, 3) := by decide +kernel
theorem dX0_letters_4 : decode cX0_letters 4 = .ok (.ireturn, 1) := by decide +kernel
theorem dX0_time_0 : decode cX0_time 0 = .ok (.aload_n 0, 1) := by decide +kernel
theorem dX0_time_1 : decode cX0_time 1 = .ok (.getfield 51, 3) := by decide +kernel
theorem dX0_time_4 : decode cX0_time 4 = .ok (.ireturn, 1) := by decide +kernel
set_option maxRecDepth 20000 in
theorem ggX0_stateOf_X0_isLetter : GoodIn wsX0_stateOf wsX0_isLetter := goodIn_r _ [8, 9, 10, 11, 12, 13, 14, 15, 16, 17, 18, 19, 20, 21, 22, 23, 24, 25] (by decide +kernel) (by decide +kernel)
set_option maxRecDepth 20000 in
theorem gX0_stateOf_X0_isLetter : GoodIn wsX0_stateOf (wsV RX0 112 RX0 yX0_isLetter wsX0_isLetter) := goodIn_app (goodIn_of _ (by decide +kernel)) ggX0_stateOf_X0_isLetter
theorem dX0_stateOf_0 : decode cX0_stateOf 0 = .ok (.aload_n 0, 1) := by decide +kernel
theorem dX0_stateOf_1 : decode cX0_stateOf 1 = .ok (.iload_n 1, 1) := by decide +kernel
theorem dX0_stateOf_2 : decode cX0_stateOf 2 = .ok (.invokevirtual 112, 3) := by decide +kernel
theorem dX0_stateOf_5 : decode cX0_stateOf 5 = .ok (.ifCond .ne 13, 3) := by decide +kernel
theorem dX0_stateOf_8 : decode cX0_stateOf 8 = .ok (.new 64, 3) := by decide +kernel
theorem dX0_stateOf_11 : decode cX0_stateOf 11 = .ok (.dup, 1) := by decide +kernel
theorem dX0_stateOf_12 : decode cX0_stateOf 12 = .ok (.ldc 115, 2) := by decide +kernel
theorem dX0_stateOf_14 : decode cX0_stateOf 14 = .ok (.invokespecial 68, 3) := by decide +kernel
theorem dX0_stateOf_17 : decode cX0_stateOf 17 = .ok (.athrow, 1) := by decide +kernel
theorem dX0_stateOf_18 : decode cX0_stateOf 18 = .ok (.aload_n 0, 1) := by decide +kernel
theorem dX0_stateOf_19 : decode cX0_stateOf 19 = .ok (.getfield 19, 3) := by decide +kernel
theorem dX0_stateOf_22 : decode cX0_stateOf 22 = .ok (.iload_n 1, 1) := by decide +kernel
theorem dX0_stateOf_23 : decode cX0_stateOf 23 = .ok (.iaload, 1) := by decide +kernel
theorem dX0_stateOf_24 : decode cX0_stateOf 24 = .ok (.ireturn, 1) := by decide +kernel
set_option maxRecDepth 20000 in
theorem ggX0_relayOf_X0_isLetter : GoodIn wsX0_relayOf wsX0_isLetter := goodIn_r _ [8, 9, 10, 11, 12, 13, 14, 15, 16, 17, 18, 19, 20, 21, 22, 23, 24, 25] (by decide +kernel) (by decide +kernel)
set_option maxRecDepth 20000 in
theorem gX0_relayOf_X0_isLetter : GoodIn wsX0_relayOf (wsV RX0 112 RX0 yX0_isLetter wsX0_isLetter) := goodIn_app (goodIn_of _ (by decide +kernel)) ggX0_relayOf_X0_isLetter
theorem dX0_relayOf_0 : decode cX0_relayOf 0 = .ok (.aload_n 0, 1) := by decide +kernel
theorem dX0_relayOf_1 : decode cX0_relayOf 1 = .ok (.iload_n 1, 1) := by decide +kernel
theorem dX0_relayOf_2 : decode cX0_relayOf 2 = .ok (.invokevirtual 112, 3) := by decide +kernel
theorem dX0_relayOf_5 : decode cX0_relayOf 5 = .ok (.ifCond .ne 13, 3) := by decide +kernel
theorem dX0_relayOf_8 : decode cX0_relayOf 8 = .ok (.new 64, 3) := by decide +kernel
theorem dX0_relayOf_11 : decode cX0_relayOf 11 = .ok (.dup, 1) := by decide +kernel
theorem dX0_relayOf_12 : decode cX0_relayOf 12 = .ok (.ldc 115, 2) := by decide +kernel
theorem dX0_relayOf_14 : decode cX0_relayOf 14 = .ok (.invokespecial 68, 3) := by decide +kernel
theorem dX0_relayOf_17 : decode cX0_relayOf 17 = .ok (.athrow, 1) := by decide +kernel
theorem dX0_relayOf_18 : decode cX0_relayOf 18 = .ok (.aload_n 0, 1) := by decide +kernel
theorem dX0_relayOf_19 : decode cX0_relayOf 19 = .ok (.getfield 22, 3) := by decide +kernel
theorem dX0_relayOf_22 : decode cX0_relayOf 22 = .ok (.iload_n 1, 1) := by decide +kernel
theorem dX0_relayOf_23 : decode cX0_relayOf 23 = .ok (.iaload, 1) := by decide +kernel
theorem dX0_relayOf_24 : decode cX0_relayOf 24 = .ok (.ireturn, 1) := by decide +kernel
set_option maxRecDepth 20000 in
theorem ggX0_marksOn_X0_isLetter : GoodIn wsX0_marksOn wsX0_isLetter := goodIn_r _ [8, 9, 10, 11, 12, 13, 14, 15, 16, 17, 18, 19, 20, 21, 22, 23, 24, 25] (by decide +kernel) (by decide +kernel)
set_option maxRecDepth 20000 in
theorem gX0_marksOn_X0_isLetter : GoodIn wsX0_marksOn (wsV RX0 112 RX0 yX0_isLetter wsX0_isLetter) := goodIn_app (goodIn_of _ (by decide +kernel)) ggX0_marksOn_X0_isLetter
theorem dX0_marksOn_0 : decode cX0_marksOn 0 = .ok (.aload_n 0, 1) := by decide +kernel
theorem dX0_marksOn_1 : decode cX0_marksOn 1 = .ok (.iload_n 1, 1) := by decide +kernel
theorem dX0_marksOn_2 : decode cX0_marksOn 2 = .ok (.invokevirtual 112, 3) := by decide +kernel
theorem dX0_marksOn_5 : decode cX0_marksOn 5 = .ok (.ifCond .ne 13, 3) := by decide +kernel
theorem dX0_marksOn_8 : decode cX0_marksOn 8 = .ok (.new 64, 3) := by decide +kernel
theorem dX0_marksOn_11 : decode cX0_marksOn 11 = .ok (.dup, 1) := by decide +kernel
theorem dX0_marksOn_12 : decode cX0_marksOn 12 = .ok (.ldc 115, 2) := by decide +kernel
theorem dX0_marksOn_14 : decode cX0_marksOn 14 = .ok (.invokespecial 68, 3) := by decide +kernel
theorem dX0_marksOn_17 : decode cX0_marksOn 17 = .ok (.athrow, 1) := by decide +kernel
theorem dX0_marksOn_18 : decode cX0_marksOn 18 = .ok (.aload_n 0, 1) := by decide +kernel
theorem dX0_marksOn_19 : decode cX0_marksOn 19 = .ok (.getfield 25, 3) := by decide +kernel
theorem dX0_marksOn_22 : decode cX0_marksOn 22 = .ok (.iload_n 1, 1) := by decide +kernel
theorem dX0_marksOn_23 : decode cX0_marksOn 23 = .ok (.iaload, 1) := by decide +kernel
theorem dX0_marksOn_24 : decode cX0_marksOn 24 = .ok (.ireturn, 1) := by decide +kernel
set_option maxRecDepth 20000 in
theorem ggX0_queue_X0_isRelay : GoodIn wsX0_queue wsX0_isRelay := goodIn_r _ [6] (by decide +kernel) (by decide +kernel)
set_option maxRecDepth 20000 in
theorem gX0_queue_X0_isRelay : GoodIn wsX0_queue (va_wsS RX0 60 yX0_isRelay wsX0_isRelay) := goodIn_app (goodIn_of _ (by decide +kernel)) ggX0_queue_X0_isRelay
set_option maxRecDepth 20000 in
theorem ggX0_queue_X0_lengthOfQueue : GoodIn wsX0_queue wsX0_lengthOfQueue := goodIn_r _ [10, 11, 12, 13, 14, 15, 16, 17, 18, 19, 20, 21, 22, 23, 24, 25, 26, 27, 28] (by decide +kernel) (by decide +kernel)
set_option maxRecDepth 20000 in
theorem gX0_queue_X0_lengthOfQueue : GoodIn wsX0_queue (wsV RX0 136 RX0 yX0_lengthOfQueue wsX0_lengthOfQueue) := goodIn_app (goodIn_of _ (by decide +kernel)) ggX0_queue_X0_lengthOfQueue
theorem dX0_queue_0 : decode cX0_queue 0 = .ok (.iload_n 1, 1) := by decide +kernel
theorem dX0_queue_1 : decode cX0_queue 1 = .ok (.invokestatic 60, 3) := by decide +kernel
theorem dX0_queue_4 : decode cX0_queue 4 = .ok (.ifCond .ne 13, 3) := by decide +kernel
theorem dX0_queue_7 : decode cX0_queue 7 = .ok (.new 64, 3) := by decide +kernel
theorem dX0_queue_10 : decode cX0_queue 10 = .ok (.dup, 1) := by decide +kernel
theorem dX0_queue_11 : decode cX0_queue 11 = .ok (.ldc 66, 2) := by decide +kernel
theorem dX0_queue_13 : decode cX0_queue 13 = .ok (.invokespecial 68, 3) := by decide +kernel
theorem dX0_queue_16 : decode cX0_queue 16 = .ok (.athrow, 1) := by decide +kernel
theorem dX0_queue_17 : decode cX0_queue 17 = .ok (.aload_n 0, 1) := by decide +kernel
theorem dX0_queue_18 : decode cX0_queue 18 = .ok (.iload_n 1, 1) := by decide +kernel
theorem dX0_queue_19 : decode cX0_queue 19 = .ok (.invokevirtual 136, 3) := by decide +kernel
theorem dX0_queue_22 : decode cX0_queue 22 = .ok (.ireturn, 1) := by decide +kernel
set_option maxRecDepth 20000 in
theorem ggX0_queueAt_X0_isRelay : GoodIn wsX0_queueAt wsX0_isRelay := goodIn_r _ [6] (by decide +kernel) (by decide +kernel)
set_option maxRecDepth 20000 in
theorem gX0_queueAt_X0_isRelay : GoodIn wsX0_queueAt (va_wsS RX0 60 yX0_isRelay wsX0_isRelay) := goodIn_app (goodIn_of _ (by decide +kernel)) ggX0_queueAt_X0_isRelay
set_option maxRecDepth 20000 in
theorem ggX0_queueAt_X0_lengthOfQueue : GoodIn wsX0_queueAt wsX0_lengthOfQueue := goodIn_r _ [10, 11, 12, 56, 57, 58, 59, 60, 61, 62, 63, 64, 65, 66, 67, 68, 69, 70, 71] (by decide +kernel) (by decide +kernel)
set_option maxRecDepth 20000 in
theorem gX0_queueAt_X0_lengthOfQueue : GoodIn wsX0_queueAt (wsV RX0 136 RX0 yX0_lengthOfQueue wsX0_lengthOfQueue) := goodIn_app (goodIn_of _ (by decide +kernel)) ggX0_queueAt_X0_lengthOfQueue
set_option maxRecDepth 20000 in
theorem ggX0_queueAt_X0_beginLookingAtQueues : GoodIn wsX0_queueAt wsX0_beginLookingAtQueues := goodIn_r _ [16, 11, 17, 12, 18, 19, 20, 5, 21, 22, 23, 24, 25, 26, 27, 28, 29, 30, 31, 32, 33, 34, 35, 36, 37, 38, 39, 40, 41, 42, 43, 44, 45, 46, 56, 57, 58, 59, 60, 61, 62, 63, 64, 65, 66, 67, 68, 69, 70, 71] (by decide +kernel) (by decide +kernel)
set_option maxRecDepth 20000 in
theorem gX0_queueAt_X0_beginLookingAtQueues : GoodIn wsX0_queueAt (wsV RX0 141 RX0 yX0_beginLookingAtQueues wsX0_beginLookingAtQueues) := goodIn_app (goodIn_of _ (by decide +kernel)) ggX0_queueAt_X0_beginLookingAtQueues
set_option maxRecDepth 20000 in
theorem ggX0_queueAt_X0_takeFirstWaiting : GoodIn wsX0_queueAt wsX0_takeFirstWaiting := goodIn_r _ [50, 11, 17, 51, 52, 53, 5, 54, 23, 55, 22, 34, 35, 36, 37, 24, 25, 26, 56, 57, 58, 59, 60, 61, 62, 63, 64, 65, 66, 67, 68, 69, 70, 71] (by decide +kernel) (by decide +kernel)
set_option maxRecDepth 20000 in
theorem gX0_queueAt_X0_takeFirstWaiting : GoodIn wsX0_queueAt (wsV RX0 144 RX0 yX0_takeFirstWaiting wsX0_takeFirstWaiting) := goodIn_app (goodIn_of _ (by decide +kernel)) ggX0_queueAt_X0_takeFirstWaiting
theorem dX0_queueAt_0 : decode cX0_queueAt 0 = .ok (.iload_n 1, 1) := by decide +kernel
theorem dX0_queueAt_1 : decode cX0_queueAt 1 = .ok (.invokestatic 60, 3) := by decide +kernel
theorem dX0_queueAt_4 : decode cX0_queueAt 4 = .ok (.ifCond .eq 16, 3) := by decide +kernel
theorem dX0_queueAt_7 : decode cX0_queueAt 7 = .ok (.iload_n 2, 1) := by decide +kernel
theorem dX0_queueAt_8 : decode cX0_queueAt 8 = .ok (.ifCond .lt 12, 3) := by decide +kernel
theorem dX0_queueAt_11 : decode cX0_queueAt 11 = .ok (.iload_n 2, 1) := by decide +kernel
theorem dX0_queueAt_12 : decode cX0_queueAt 12 = .ok (.aload_n 0, 1) := by decide +kernel
theorem dX0_queueAt_13 : decode cX0_queueAt 13 = .ok (.iload_n 1, 1) := by decide +kernel
theorem dX0_queueAt_14 : decode cX0_queueAt 14 = .ok (.invokevirtual 136, 3) := by decide +kernel
theorem dX0_queueAt_17 : decode cX0_queueAt 17 = .ok (.if_icmp .lt 13, 3) := by decide +kernel
theorem dX0_queueAt_20 : decode cX0_queueAt 20 = .ok (.new 64, 3) := by decide +kernel
theorem dX0_queueAt_23 : decode cX0_queueAt 23 = .ok (.dup, 1) := by decide +kernel
theorem dX0_queueAt_24 : decode cX0_queueAt 24 = .ok (.ldc 139, 2) := by decide +kernel
theorem dX0_queueAt_26 : decode cX0_queueAt 26 = .ok (.invokespecial 68, 3) := by decide +kernel
theorem dX0_queueAt_29 : decode cX0_queueAt 29 = .ok (.athrow, 1) := by decide +kernel
theorem dX0_queueAt_30 : decode cX0_queueAt 30 = .ok (.aload_n 0, 1) := by decide +kernel
theorem dX0_queueAt_31 : decode cX0_queueAt 31 = .ok (.invokevirtual 141, 3) := by decide +kernel
theorem dX0_queueAt_34 : decode cX0_queueAt 34 = .ok (.iconst 0, 1) := by decide +kernel
theorem dX0_queueAt_35 : decode cX0_queueAt 35 = .ok (.istore_n 3, 1) := by decide +kernel
theorem dX0_queueAt_36 : decode cX0_queueAt 36 = .ok (.iload_n 3, 1) := by decide +kernel
theorem dX0_queueAt_37 : decode cX0_queueAt 37 = .ok (.iload_n 2, 1) := by decide +kernel
theorem dX0_queueAt_38 : decode cX0_queueAt 38 = .ok (.if_icmp .ge 15, 3) := by decide +kernel
theorem dX0_queueAt_41 : decode cX0_queueAt 41 = .ok (.aload_n 0, 1) := by decide +kernel
theorem dX0_queueAt_42 : decode cX0_queueAt 42 = .ok (.iload_n 1, 1) := by decide +kernel
theorem dX0_queueAt_43 : decode cX0_queueAt 43 = .ok (.invokevirtual 144, 3) := by decide +kernel
theorem dX0_queueAt_46 : decode cX0_queueAt 46 = .ok (.pop, 1) := by decide +kernel
theorem dX0_queueAt_47 : decode cX0_queueAt 47 = .ok (.iinc 3 1, 3) := by decide +kernel
theorem dX0_queueAt_50 : decode cX0_queueAt 50 = .ok (.goto (-14), 3) := by decide +kernel
theorem dX0_queueAt_53 : decode cX0_queueAt 53 = .ok (.aload_n 0, 1) := by decide +kernel
theorem dX0_queueAt_54 : decode cX0_queueAt 54 = .ok (.iload_n 1, 1) := by decide +kernel
theorem dX0_queueAt_55 : decode cX0_queueAt 55 = .ok (.invokevirtual 144, 3) := by decide +kernel
theorem dX0_queueAt_58 : decode cX0_queueAt 58 = .ok (.ireturn, 1) := by decide +kernel
set_option maxRecDepth 20000 in
theorem ggX0_coins_X0_isPerson : GoodIn wsX0_coins wsX0_isPerson := goodIn_r _ [7] (by decide +kernel) (by decide +kernel)
set_option maxRecDepth 20000 in
theorem gX0_coins_X0_isPerson : GoodIn wsX0_coins (va_wsS RX0 80 yX0_isPerson wsX0_isPerson) := goodIn_app (goodIn_of _ (by decide +kernel)) ggX0_coins_X0_isPerson
theorem dX0_coins_0 : decode cX0_coins 0 = .ok (.iload_n 1, 1) := by decide +kernel
theorem dX0_coins_1 : decode cX0_coins 1 = .ok (.invokestatic 80, 3) := by decide +kernel
theorem dX0_coins_4 : decode cX0_coins 4 = .ok (.ifCond .ne 13, 3) := by decide +kernel
theorem dX0_coins_7 : decode cX0_coins 7 = .ok (.new 64, 3) := by decide +kernel
theorem dX0_coins_10 : decode cX0_coins 10 = .ok (.dup, 1) := by decide +kernel
theorem dX0_coins_11 : decode cX0_coins 11 = .ok (.ldc 83, 2) := by decide +kernel
theorem dX0_coins_13 : decode cX0_coins 13 = .ok (.invokespecial 68, 3) := by decide +kernel
theorem dX0_coins_16 : decode cX0_coins 16 = .ok (.athrow, 1) := by decide +kernel
theorem dX0_coins_17 : decode cX0_coins 17 = .ok (.aload_n 0, 1) := by decide +kernel
theorem dX0_coins_18 : decode cX0_coins 18 = .ok (.getfield 35, 3) := by decide +kernel
theorem dX0_coins_21 : decode cX0_coins 21 = .ok (.iload_n 1, 1) := by decide +kernel
theorem dX0_coins_22 : decode cX0_coins 22 = .ok (.iaload, 1) := by decide +kernel
theorem dX0_coins_23 : decode cX0_coins 23 = .ok (.ireturn, 1) := by decide +kernel
set_option maxRecDepth 20000 in
theorem ggX0_pool_X0_isRelay : GoodIn wsX0_pool wsX0_isRelay := goodIn_r _ [7] (by decide +kernel) (by decide +kernel)
set_option maxRecDepth 20000 in
theorem gX0_pool_X0_isRelay : GoodIn wsX0_pool (va_wsS RX0 60 yX0_isRelay wsX0_isRelay) := goodIn_app (goodIn_of _ (by decide +kernel)) ggX0_pool_X0_isRelay
theorem dX0_pool_0 : decode cX0_pool 0 = .ok (.iload_n 1, 1) := by decide +kernel
theorem dX0_pool_1 : decode cX0_pool 1 = .ok (.invokestatic 60, 3) := by decide +kernel
theorem dX0_pool_4 : decode cX0_pool 4 = .ok (.ifCond .ne 13, 3) := by decide +kernel
theorem dX0_pool_7 : decode cX0_pool 7 = .ok (.new 64, 3) := by decide +kernel
theorem dX0_pool_10 : decode cX0_pool 10 = .ok (.dup, 1) := by decide +kernel
theorem dX0_pool_11 : decode cX0_pool 11 = .ok (.ldc 66, 2) := by decide +kernel
theorem dX0_pool_13 : decode cX0_pool 13 = .ok (.invokespecial 68, 3) := by decide +kernel
theorem dX0_pool_16 : decode cX0_pool 16 = .ok (.athrow, 1) := by decide +kernel
theorem dX0_pool_17 : decode cX0_pool 17 = .ok (.aload_n 0, 1) := by decide +kernel
theorem dX0_pool_18 : decode cX0_pool 18 = .ok (.getfield 41, 3) := by decide +kernel
theorem dX0_pool_21 : decode cX0_pool 21 = .ok (.iload_n 1, 1) := by decide +kernel
theorem dX0_pool_22 : decode cX0_pool 22 = .ok (.iaload, 1) := by decide +kernel
theorem dX0_pool_23 : decode cX0_pool 23 = .ok (.ireturn, 1) := by decide +kernel
theorem dX0_escrow_0 : decode cX0_escrow 0 = .ok (.iconst 0, 1) := by decide +kernel
theorem dX0_escrow_1 : decode cX0_escrow 1 = .ok (.istore_n 1, 1) := by decide +kernel
theorem dX0_escrow_2 : decode cX0_escrow 2 = .ok (.iconst 0, 1) := by decide +kernel
theorem dX0_escrow_3 : decode cX0_escrow 3 = .ok (.istore_n 2, 1) := by decide +kernel
theorem dX0_escrow_4 : decode cX0_escrow 4 = .ok (.iload_n 2, 1) := by decide +kernel
theorem dX0_escrow_5 : decode cX0_escrow 5 = .ok (.aload_n 0, 1) := by decide +kernel
theorem dX0_escrow_6 : decode cX0_escrow 6 = .ok (.getfield 47, 3) := by decide +kernel
theorem dX0_escrow_9 : decode cX0_escrow 9 = .ok (.if_icmp .ge 37, 3) := by decide +kernel
theorem dX0_escrow_12 : decode cX0_escrow 12 = .ok (.aload_n 0, 1) := by decide +kernel
theorem dX0_escrow_13 : decode cX0_escrow 13 = .ok (.getfield 19, 3) := by decide +kernel
theorem dX0_escrow_16 : decode cX0_escrow 16 = .ok (.iload_n 2, 1) := by decide +kernel
theorem dX0_escrow_17 : decode cX0_escrow 17 = .ok (.iaload, 1) := by decide +kernel
theorem dX0_escrow_18 : decode cX0_escrow 18 = .ok (.ifCond .eq 13, 3) := by decide +kernel
theorem dX0_escrow_21 : decode cX0_escrow 21 = .ok (.aload_n 0, 1) := by decide +kernel
theorem dX0_escrow_22 : decode cX0_escrow 22 = .ok (.getfield 19, 3) := by decide +kernel
theorem dX0_escrow_25 : decode cX0_escrow 25 = .ok (.iload_n 2, 1) := by decide +kernel
theorem dX0_escrow_26 : decode cX0_escrow 26 = .ok (.iaload, 1) := by decide +kernel
theorem dX0_escrow_27 : decode cX0_escrow 27 = .ok (.iconst 1, 1) := by decide +kernel
theorem dX0_escrow_28 : decode cX0_escrow 28 = .ok (.if_icmp .ne 12, 3) := by decide +kernel
theorem dX0_escrow_31 : decode cX0_escrow 31 = .ok (.iload_n 1, 1) := by decide +kernel
theorem dX0_escrow_32 : decode cX0_escrow 32 = .ok (.aload_n 0, 1) := by decide +kernel
theorem dX0_escrow_33 : decode cX0_escrow 33 = .ok (.getfield 16, 3) := by decide +kernel
theorem dX0_escrow_36 : decode cX0_escrow 36 = .ok (.iload_n 2, 1) := by decide +kernel
theorem dX0_escrow_37 : decode cX0_escrow 37 = .ok (.iaload, 1) := by decide +kernel
theorem dX0_escrow_38 : decode cX0_escrow 38 = .ok (.iadd, 1) := by decide +kernel
theorem dX0_escrow_39 : decode cX0_escrow 39 = .ok (.istore_n 1, 1) := by decide +kernel
theorem dX0_escrow_40 : decode cX0_escrow 40 = .ok (.iinc 2 1, 3) := by decide +kernel
theorem dX0_escrow_43 : decode cX0_escrow 43 = .ok (.goto (-39), 3) := by decide +kernel
theorem dX0_escrow_46 : decode cX0_escrow 46 = .ok (.iload_n 1, 1) := by decide +kernel
theorem dX0_escrow_47 : decode cX0_escrow 47 = .ok (.ireturn, 1) := by decide +kernel
set_option maxRecDepth 20000 in
theorem ggX0_reputation_X0_isPerson : GoodIn wsX0_reputation wsX0_isPerson := goodIn_r _ [6] (by decide +kernel) (by decide +kernel)
set_option maxRecDepth 20000 in
theorem gX0_reputation_X0_isPerson : GoodIn wsX0_reputation (va_wsS RX0 80 yX0_isPerson wsX0_isPerson) := goodIn_app (goodIn_of _ (by decide +kernel)) ggX0_reputation_X0_isPerson
set_option maxRecDepth 20000 in
theorem ggX0_reputation_X0_reputationOf : GoodIn wsX0_reputation wsX0_reputationOf := goodIn_r _ [10, 11, 12, 13, 14, 15, 5, 16, 17, 18, 19, 20, 21, 22, 23, 24, 25, 26, 27, 28, 29, 30, 31, 32, 3, 4, 6, 33, 34, 35, 36, 37, 38, 39, 40, 41, 42, 43, 44, 45, 46, 47, 48] (by decide +kernel) (by decide +kernel)
set_option maxRecDepth 20000 in
theorem gX0_reputation_X0_reputationOf : GoodIn wsX0_reputation (wsV RX0 123 RX0 yX0_reputationOf wsX0_reputationOf) := goodIn_app (goodIn_of _ (by decide +kernel)) ggX0_reputation_X0_reputationOf
theorem dX0_reputation_0 : decode cX0_reputation 0 = .ok (.iload_n 1, 1) := by decide +kernel
theorem dX0_reputation_1 : decode cX0_reputation 1 = .ok (.invokestatic 80, 3) := by decide +kernel
theorem dX0_reputation_4 : decode cX0_reputation 4 = .ok (.ifCond .ne 13, 3) := by decide +kernel
theorem dX0_reputation_7 : decode cX0_reputation 7 = .ok (.new 64, 3) := by decide +kernel
theorem dX0_reputation_10 : decode cX0_reputation 10 = .ok (.dup, 1) := by decide +kernel
theorem dX0_reputation_11 : decode cX0_reputation 11 = .ok (.ldc 83, 2) := by decide +kernel
theorem dX0_reputation_13 : decode cX0_reputation 13 = .ok (.invokespecial 68, 3) := by decide +kernel
theorem dX0_reputation_16 : decode cX0_reputation 16 = .ok (.athrow, 1) := by decide +kernel
theorem dX0_reputation_17 : decode cX0_reputation 17 = .ok (.aload_n 0, 1) := by decide +kernel
theorem dX0_reputation_18 : decode cX0_reputation 18 = .ok (.iload_n 1, 1) := by decide +kernel
theorem dX0_reputation_19 : decode cX0_reputation 19 = .ok (.invokevirtual 123, 3) := by decide +kernel
theorem dX0_reputation_22 : decode cX0_reputation 22 = .ok (.ireturn, 1) := by decide +kernel
set_option maxRecDepth 20000 in
theorem ggX0_reputationAtOnce_X0_isPerson : GoodIn wsX0_reputationAtOnce wsX0_isPerson := goodIn_r _ [7] (by decide +kernel) (by decide +kernel)
set_option maxRecDepth 20000 in
theorem gX0_reputationAtOnce_X0_isPerson : GoodIn wsX0_reputationAtOnce (va_wsS RX0 80 yX0_isPerson wsX0_isPerson) := goodIn_app (goodIn_of _ (by decide +kernel)) ggX0_reputationAtOnce_X0_isPerson
set_option maxRecDepth 20000 in
theorem ggX0_reputationAtOnce_X0_findAllReputations : GoodIn wsX0_reputationAtOnce wsX0_findAllReputations := goodIn_r _ [11, 3, 12, 13, 4, 5, 6, 7, 14, 15, 16, 17, 18, 19, 20, 21, 22, 23, 24, 25, 26, 27, 28, 29, 30, 31, 32, 33, 34, 35, 36, 37, 38, 39, 40, 41, 42, 43, 44, 45, 46, 47, 48, 49] (by decide +kernel) (by decide +kernel)
set_option maxRecDepth 20000 in
theorem gX0_reputationAtOnce_X0_findAllReputations : GoodIn wsX0_reputationAtOnce (wsV RX0 147 RX0 yX0_findAllReputations wsX0_findAllReputations) := goodIn_app (goodIn_of _ (by decide +kernel)) ggX0_reputationAtOnce_X0_findAllReputations
theorem dX0_reputationAtOnce_0 : decode cX0_reputationAtOnce 0 = .ok (.iload_n 1, 1) := by decide +kernel
theorem dX0_reputationAtOnce_1 : decode cX0_reputationAtOnce 1 = .ok (.invokestatic 80, 3) := by decide +kernel
theorem dX0_reputationAtOnce_4 : decode cX0_reputationAtOnce 4 = .ok (.ifCond .ne 13, 3) := by decide +kernel
theorem dX0_reputationAtOnce_7 : decode cX0_reputationAtOnce 7 = .ok (.new 64, 3) := by decide +kernel
theorem dX0_reputationAtOnce_10 : decode cX0_reputationAtOnce 10 = .ok (.dup, 1) := by decide +kernel
theorem dX0_reputationAtOnce_11 : decode cX0_reputationAtOnce 11 = .ok (.ldc 83, 2) := by decide +kernel
theorem dX0_reputationAtOnce_13 : decode cX0_reputationAtOnce 13 = .ok (.invokespecial 68, 3) := by decide +kernel
theorem dX0_reputationAtOnce_16 : decode cX0_reputationAtOnce 16 = .ok (.athrow, 1) := by decide +kernel
theorem dX0_reputationAtOnce_17 : decode cX0_reputationAtOnce 17 = .ok (.aload_n 0, 1) := by decide +kernel
theorem dX0_reputationAtOnce_18 : decode cX0_reputationAtOnce 18 = .ok (.invokevirtual 147, 3) := by decide +kernel
theorem dX0_reputationAtOnce_21 : decode cX0_reputationAtOnce 21 = .ok (.aload_n 0, 1) := by decide +kernel
theorem dX0_reputationAtOnce_22 : decode cX0_reputationAtOnce 22 = .ok (.getfield 57, 3) := by decide +kernel
theorem dX0_reputationAtOnce_25 : decode cX0_reputationAtOnce 25 = .ok (.iload_n 1, 1) := by decide +kernel
theorem dX0_reputationAtOnce_26 : decode cX0_reputationAtOnce 26 = .ok (.iaload, 1) := by decide +kernel
theorem dX0_reputationAtOnce_27 : decode cX0_reputationAtOnce 27 = .ok (.ireturn, 1) := by decide +kernel
set_option maxRecDepth 20000 in
theorem ggX0_leastStake_X0_isPerson : GoodIn wsX0_leastStake wsX0_isPerson := goodIn_r _ [6] (by decide +kernel) (by decide +kernel)
set_option maxRecDepth 20000 in
theorem gX0_leastStake_X0_isPerson : GoodIn wsX0_leastStake (va_wsS RX0 80 yX0_isPerson wsX0_isPerson) := goodIn_app (goodIn_of _ (by decide +kernel)) ggX0_leastStake_X0_isPerson
set_option maxRecDepth 20000 in
theorem ggX0_leastStake_X0_lowestStakeOf : GoodIn wsX0_leastStake wsX0_lowestStakeOf := goodIn_r _ [10, 11, 12, 13, 14, 15, 16, 17, 18, 19, 20, 5, 21, 22, 23, 24, 25, 26, 27, 28, 29, 30, 31, 32, 33, 34, 35, 36, 37, 38, 39, 3, 4, 6, 40, 41, 42, 43, 44, 45, 46, 47, 48, 49, 50, 51, 52, 53, 54, 55] (by decide +kernel) (by decide +kernel)
set_option maxRecDepth 20000 in
theorem gX0_leastStake_X0_lowestStakeOf : GoodIn wsX0_leastStake (wsV RX0 87 RX0 yX0_lowestStakeOf wsX0_lowestStakeOf) := goodIn_app (goodIn_of _ (by decide +kernel)) ggX0_leastStake_X0_lowestStakeOf
theorem dX0_leastStake_0 : decode cX0_leastStake 0 = .ok (.iload_n 1, 1) := by decide +kernel
theorem dX0_leastStake_1 : decode cX0_leastStake 1 = .ok (.invokestatic 80, 3) := by decide +kernel
theorem dX0_leastStake_4 : decode cX0_leastStake 4 = .ok (.ifCond .ne 13, 3) := by decide +kernel
theorem dX0_leastStake_7 : decode cX0_leastStake 7 = .ok (.new 64, 3) := by decide +kernel
theorem dX0_leastStake_10 : decode cX0_leastStake 10 = .ok (.dup, 1) := by decide +kernel
theorem dX0_leastStake_11 : decode cX0_leastStake 11 = .ok (.ldc 83, 2) := by decide +kernel
theorem dX0_leastStake_13 : decode cX0_leastStake 13 = .ok (.invokespecial 68, 3) := by decide +kernel
theorem dX0_leastStake_16 : decode cX0_leastStake 16 = .ok (.athrow, 1) := by decide +kernel
theorem dX0_leastStake_17 : decode cX0_leastStake 17 = .ok (.aload_n 0, 1) := by decide +kernel
theorem dX0_leastStake_18 : decode cX0_leastStake 18 = .ok (.iload_n 1, 1) := by decide +kernel
theorem dX0_leastStake_19 : decode cX0_leastStake 19 = .ok (.invokevirtual 87, 3) := by decide +kernel
theorem dX0_leastStake_22 : decode cX0_leastStake 22 = .ok (.ireturn, 1) := by decide +kernel
set_option maxRecDepth 20000 in
theorem ggX0_falseMarks_X0_isPerson : GoodIn wsX0_falseMarks wsX0_isPerson := goodIn_r _ [7] (by decide +kernel) (by decide +kernel)
set_option maxRecDepth 20000 in
theorem gX0_falseMarks_X0_isPerson : GoodIn wsX0_falseMarks (va_wsS RX0 80 yX0_isPerson wsX0_isPerson) := goodIn_app (goodIn_of _ (by decide +kernel)) ggX0_falseMarks_X0_isPerson
theorem dX0_falseMarks_0 : decode cX0_falseMarks 0 = .ok (.iload_n 1, 1) := by decide +kernel
theorem dX0_falseMarks_1 : decode cX0_falseMarks 1 = .ok (.invokestatic 80, 3) := by decide +kernel
theorem dX0_falseMarks_4 : decode cX0_falseMarks 4 = .ok (.ifCond .ne 13, 3) := by decide +kernel
theorem dX0_falseMarks_7 : decode cX0_falseMarks 7 = .ok (.new 64, 3) := by decide +kernel
theorem dX0_falseMarks_10 : decode cX0_falseMarks 10 = .ok (.dup, 1) := by decide +kernel
theorem dX0_falseMarks_11 : decode cX0_falseMarks 11 = .ok (.ldc 83, 2) := by decide +kernel
theorem dX0_falseMarks_13 : decode cX0_falseMarks 13 = .ok (.invokespecial 68, 3) := by decide +kernel
theorem dX0_falseMarks_16 : decode cX0_falseMarks 16 = .ok (.athrow, 1) := by decide +kernel
theorem dX0_falseMarks_17 : decode cX0_falseMarks 17 = .ok (.aload_n 0, 1) := by decide +kernel
theorem dX0_falseMarks_18 : decode cX0_falseMarks 18 = .ok (.getfield 38, 3) := by decide +kernel
theorem dX0_falseMarks_21 : decode cX0_falseMarks 21 = .ok (.iload_n 1, 1) := by decide +kernel
theorem dX0_falseMarks_22 : decode cX0_falseMarks 22 = .ok (.iaload, 1) := by decide +kernel
theorem dX0_falseMarks_23 : decode cX0_falseMarks 23 = .ok (.ireturn, 1) := by decide +kernel
theorem dX0_isPerson_0 : decode cX0_isPerson 0 = .ok (.iload_n 0, 1) := by decide +kernel
theorem dX0_isPerson_1 : decode cX0_isPerson 1 = .ok (.ifCond .lt 13, 3) := by decide +kernel
theorem dX0_isPerson_4 : decode cX0_isPerson 4 = .ok (.iload_n 0, 1) := by decide +kernel
theorem dX0_isPerson_5 : decode cX0_isPerson 5 = .ok (.bipush 8, 2) := by decide +kernel
theorem dX0_isPerson_7 : decode cX0_isPerson 7 = .ok (.if_icmp .ge 7, 3) := by decide +kernel
theorem dX0_isPerson_10 : decode cX0_isPerson 10 = .ok (.iconst 1, 1) := by decide +kernel
theorem dX0_isPerson_11 : decode cX0_isPerson 11 = .ok (.goto 4, 3) := by decide +kernel
theorem dX0_isPerson_14 : decode cX0_isPerson 14 = .ok (.iconst 0, 1) := by decide +kernel
theorem dX0_isPerson_15 : decode cX0_isPerson 15 = .ok (.ireturn, 1) := by decide +kernel
theorem dX0_isRelay_0 : decode cX0_isRelay 0 = .ok (.iload_n 0, 1) := by decide +kernel
theorem dX0_isRelay_1 : decode cX0_isRelay 1 = .ok (.ifCond .lt 12, 3) := by decide +kernel
theorem dX0_isRelay_4 : decode cX0_isRelay 4 = .ok (.iload_n 0, 1) := by decide +kernel
theorem dX0_isRelay_5 : decode cX0_isRelay 5 = .ok (.iconst 4, 1) := by decide +kernel
theorem dX0_isRelay_6 : decode cX0_isRelay 6 = .ok (.if_icmp .ge 7, 3) := by decide +kernel
theorem dX0_isRelay_9 : decode cX0_isRelay 9 = .ok (.iconst 1, 1) := by decide +kernel
theorem dX0_isRelay_10 : decode cX0_isRelay 10 = .ok (.goto 4, 3) := by decide +kernel
theorem dX0_isRelay_13 : decode cX0_isRelay 13 = .ok (.iconst 0, 1) := by decide +kernel
theorem dX0_isRelay_14 : decode cX0_isRelay 14 = .ok (.ireturn, 1) := by decide +kernel
theorem dX0_isLetter_0 : decode cX0_isLetter 0 = .ok (.iload_n 1, 1) := by decide +kernel
theorem dX0_isLetter_1 : decode cX0_isLetter 1 = .ok (.ifCond .lt 15, 3) := by decide +kernel
theorem dX0_isLetter_4 : decode cX0_isLetter 4 = .ok (.iload_n 1, 1) := by decide +kernel
theorem dX0_isLetter_5 : decode cX0_isLetter 5 = .ok (.aload_n 0, 1) := by decide +kernel
theorem dX0_isLetter_6 : decode cX0_isLetter 6 = .ok (.getfield 47, 3) := by decide +kernel
theorem dX0_isLetter_9 : decode cX0_isLetter 9 = .ok (.if_icmp .ge 7, 3) := by decide +kernel
theorem dX0_isLetter_12 : decode cX0_isLetter 12 = .ok (.iconst 1, 1) := by decide +kernel
theorem dX0_isLetter_13 : decode cX0_isLetter 13 = .ok (.goto 4, 3) := by decide +kernel
theorem dX0_isLetter_16 : decode cX0_isLetter 16 = .ok (.iconst 0, 1) := by decide +kernel
theorem dX0_isLetter_17 : decode cX0_isLetter 17 = .ok (.ireturn, 1) := by decide +kernel
theorem dX0_homeOf_0 : decode cX0_homeOf 0 = .ok (.iload_n 0, 1) := by decide +kernel
theorem dX0_homeOf_1 : decode cX0_homeOf 1 = .ok (.iconst 4, 1) := by decide +kernel
theorem dX0_homeOf_2 : decode cX0_homeOf 2 = .ok (.irem, 1) := by decide +kernel
theorem dX0_homeOf_3 : decode cX0_homeOf 3 = .ok (.ireturn, 1) := by decide +kernel
theorem dX0_markOf_0 : decode cX0_markOf 0 = .ok (.iconst 1, 1) := by decide +kernel
theorem dX0_markOf_1 : decode cX0_markOf 1 = .ok (.iload_n 0, 1) := by decide +kernel
theorem dX0_markOf_2 : decode cX0_markOf 2 = .ok (.ishl, 1) := by decide +kernel
theorem dX0_markOf_3 : decode cX0_markOf 3 = .ok (.ireturn, 1) := by decide +kernel
set_option maxRecDepth 20000 in
theorem ggX0_nextRelay_X0_isRelay : GoodIn wsX0_nextRelay wsX0_isRelay := goodIn_r _ [5] (by decide +kernel) (by decide +kernel)
set_option maxRecDepth 20000 in
theorem gX0_nextRelay_X0_isRelay : GoodIn wsX0_nextRelay (va_wsS RX0 60 yX0_isRelay wsX0_isRelay) := goodIn_app (goodIn_of _ (by decide +kernel)) ggX0_nextRelay_X0_isRelay
theorem dX0_nextRelay_0 : decode cX0_nextRelay 0 = .ok (.iload_n 1, 1) := by decide +kernel
theorem dX0_nextRelay_1 : decode cX0_nextRelay 1 = .ok (.invokestatic 60, 3) := by decide +kernel
theorem dX0_nextRelay_4 : decode cX0_nextRelay 4 = .ok (.ifCond .eq 10, 3) := by decide +kernel
theorem dX0_nextRelay_7 : decode cX0_nextRelay 7 = .ok (.iload_n 2, 1) := by decide +kernel
theorem dX0_nextRelay_8 : decode cX0_nextRelay 8 = .ok (.invokestatic 60, 3) := by decide +kernel
theorem dX0_nextRelay_11 : decode cX0_nextRelay 11 = .ok (.ifCond .ne 5, 3) := by decide +kernel
theorem dX0_nextRelay_14 : decode cX0_nextRelay 14 = .ok (.iload_n 2, 1) := by decide +kernel
theorem dX0_nextRelay_15 : decode cX0_nextRelay 15 = .ok (.ireturn, 1) := by decide +kernel
theorem dX0_nextRelay_16 : decode cX0_nextRelay 16 = .ok (.aload_n 0, 1) := by decide +kernel
theorem dX0_nextRelay_17 : decode cX0_nextRelay 17 = .ok (.getfield 44, 3) := by decide +kernel
theorem dX0_nextRelay_20 : decode cX0_nextRelay 20 = .ok (.iload_n 1, 1) := by decide +kernel
theorem dX0_nextRelay_21 : decode cX0_nextRelay 21 = .ok (.iconst 4, 1) := by decide +kernel
theorem dX0_nextRelay_22 : decode cX0_nextRelay 22 = .ok (.imul, 1) := by decide +kernel
theorem dX0_nextRelay_23 : decode cX0_nextRelay 23 = .ok (.iload_n 2, 1) := by decide +kernel
theorem dX0_nextRelay_24 : decode cX0_nextRelay 24 = .ok (.iadd, 1) := by decide +kernel
theorem dX0_nextRelay_25 : decode cX0_nextRelay 25 = .ok (.iaload, 1) := by decide +kernel
theorem dX0_nextRelay_26 : decode cX0_nextRelay 26 = .ok (.ireturn, 1) := by decide +kernel
set_option maxRecDepth 20000 in
theorem ggX0_passOneTick_X0_beginLookingAtQueues : GoodIn wsX0_passOneTick wsX0_beginLookingAtQueues := goodIn_r _ [6, 7, 8, 9, 10, 11, 12, 5, 13, 14, 15, 16, 17, 18, 19, 20, 21, 22, 23, 24, 25, 26, 27, 28, 29, 30, 31, 32, 33, 34, 35, 36, 37, 38, 90, 91, 92, 93, 94, 95, 96, 97, 98, 99, 100, 101, 102, 103, 104, 105] (by decide +kernel) (by decide +kernel)
set_option maxRecDepth 20000 in
theorem gX0_passOneTick_X0_beginLookingAtQueues : GoodIn wsX0_passOneTick (wsV RX0 141 RX0 yX0_beginLookingAtQueues wsX0_beginLookingAtQueues) := goodIn_app (goodIn_of _ (by decide +kernel)) ggX0_passOneTick_X0_beginLookingAtQueues
set_option maxRecDepth 20000 in
theorem ggX0_passOneTick_X0_takeFirstWaiting : GoodIn wsX0_passOneTick wsX0_takeFirstWaiting := goodIn_r _ [42, 7, 8, 43, 44, 45, 5, 46, 15, 47, 14, 26, 27, 28, 29, 16, 17, 18, 90, 91, 92, 93, 94, 95, 96, 97, 98, 99, 100, 101, 102, 103, 104, 105] (by decide +kernel) (by decide +kernel)
set_option maxRecDepth 20000 in
theorem gX0_passOneTick_X0_takeFirstWaiting : GoodIn wsX0_passOneTick (wsV RX0 144 RX0 yX0_takeFirstWaiting wsX0_takeFirstWaiting) := goodIn_app (goodIn_of _ (by decide +kernel)) ggX0_passOneTick_X0_takeFirstWaiting
set_option maxRecDepth 20000 in
theorem ggX0_passOneTick_X0_moveOn : GoodIn wsX0_passOneTick wsX0_moveOn := goodIn_r _ [51, 24, 52, 1, 53, 26, 27, 28, 5, 29, 7, 54, 55, 56, 57, 58, 59, 60, 9, 23, 61, 62, 63, 64, 65, 66, 67, 68, 69, 70, 71, 72, 73, 74, 75, 76, 47, 77, 78, 79, 80, 90, 91, 92, 93, 94, 95, 96, 97, 98, 99, 100, 101, 102, 103, 104, 105] (by decide +kernel) (by decide +kernel)
set_option maxRecDepth 20000 in
theorem gX0_passOneTick_X0_moveOn : GoodIn wsX0_passOneTick (wsV RX0 150 RX0 yX0_moveOn wsX0_moveOn) := goodIn_app (goodIn_of _ (by decide +kernel)) ggX0_passOneTick_X0_moveOn
set_option maxRecDepth 20000 in
theorem ggX0_passOneTick_X0_expireOldLetters : GoodIn wsX0_passOneTick wsX0_expireOldLetters := goodIn_r _ [84, 7, 23, 1, 52, 85, 86, 87, 5, 88, 15, 89, 47, 26, 27, 28, 29, 16, 17, 18, 90, 91, 92, 93, 94, 95, 96, 97, 98, 99, 100, 101, 102, 103, 104, 105] (by decide +kernel) (by decide +kernel)
set_option maxRecDepth 20000 in
theorem gX0_passOneTick_X0_expireOldLetters : GoodIn wsX0_passOneTick (wsV RX0 153 RX0 yX0_expireOldLetters wsX0_expireOldLetters) := goodIn_app (goodIn_of _ (by decide +kernel)) ggX0_passOneTick_X0_expireOldLetters
theorem dX0_passOneTick_0 : decode cX0_passOneTick 0 = .ok (.aload_n 0, 1) := by decide +kernel
theorem dX0_passOneTick_1 : decode cX0_passOneTick 1 = .ok (.dup, 1) := by decide +kernel
theorem dX0_passOneTick_2 : decode cX0_passOneTick 2 = .ok (.getfield 51, 3) := by decide +kernel
theorem dX0_passOneTick_5 : decode cX0_passOneTick 5 = .ok (.iconst 1, 1) := by decide +kernel
theorem dX0_passOneTick_6 : decode cX0_passOneTick 6 = .ok (.iadd, 1) := by decide +kernel
theorem dX0_passOneTick_7 : decode cX0_passOneTick 7 = .ok (.putfield 51, 3) := by decide +kernel
theorem dX0_passOneTick_10 : decode cX0_passOneTick 10 = .ok (.aload_n 0, 1) := by decide +kernel
theorem dX0_passOneTick_11 : decode cX0_passOneTick 11 = .ok (.invokevirtual 141, 3) := by decide +kernel
theorem dX0_passOneTick_14 : decode cX0_passOneTick 14 = .ok (.iconst 0, 1) := by decide +kernel
theorem dX0_passOneTick_15 : decode cX0_passOneTick 15 = .ok (.istore_n 1, 1) := by decide +kernel
theorem dX0_passOneTick_16 : decode cX0_passOneTick 16 = .ok (.iconst 0, 1) := by decide +kernel
theorem dX0_passOneTick_17 : decode cX0_passOneTick 17 = .ok (.istore_n 2, 1) := by decide +kernel
theorem dX0_passOneTick_18 : decode cX0_passOneTick 18 = .ok (.iload_n 2, 1) := by decide +kernel
theorem dX0_passOneTick_19 : decode cX0_passOneTick 19 = .ok (.iconst 4, 1) := by decide +kernel
theorem dX0_passOneTick_20 : decode cX0_passOneTick 20 = .ok (.if_icmp .ge 35, 3) := by decide +kernel
theorem dX0_passOneTick_23 : decode cX0_passOneTick 23 = .ok (.iconst 0, 1) := by decide +kernel
theorem dX0_passOneTick_24 : decode cX0_passOneTick 24 = .ok (.istore_n 3, 1) := by decide +kernel
theorem dX0_passOneTick_25 : decode cX0_passOneTick 25 = .ok (.iload_n 3, 1) := by decide +kernel
theorem dX0_passOneTick_26 : decode cX0_passOneTick 26 = .ok (.iconst 2, 1) := by decide +kernel
theorem dX0_passOneTick_27 : decode cX0_passOneTick 27 = .ok (.if_icmp .ge 22, 3) := by decide +kernel
theorem dX0_passOneTick_30 : decode cX0_passOneTick 30 = .ok (.iload_n 1, 1) := by decide +kernel
theorem dX0_passOneTick_31 : decode cX0_passOneTick 31 = .ok (.aload_n 0, 1) := by decide +kernel
theorem dX0_passOneTick_32 : decode cX0_passOneTick 32 = .ok (.aload_n 0, 1) := by decide +kernel
theorem dX0_passOneTick_33 : decode cX0_passOneTick 33 = .ok (.iload_n 2, 1) := by decide +kernel
theorem dX0_passOneTick_34 : decode cX0_passOneTick 34 = .ok (.invokevirtual 144, 3) := by decide +kernel
theorem dX0_passOneTick_37 : decode cX0_passOneTick 37 = .ok (.iload_n 2, 1) := by decide +kernel
theorem dX0_passOneTick_38 : decode cX0_passOneTick 38 = .ok (.invokevirtual 150, 3) := by decide +kernel
theorem dX0_passOneTick_41 : decode cX0_passOneTick 41 = .ok (.iadd, 1) := by decide +kernel
theorem dX0_passOneTick_42 : decode cX0_passOneTick 42 = .ok (.istore_n 1, 1) := by decide +kernel
theorem dX0_passOneTick_43 : decode cX0_passOneTick 43 = .ok (.iinc 3 1, 3) := by decide +kernel
theorem dX0_passOneTick_46 : decode cX0_passOneTick 46 = .ok (.goto (-21), 3) := by decide +kernel
theorem dX0_passOneTick_49 : decode cX0_passOneTick 49 = .ok (.iinc 2 1, 3) := by decide +kernel
theorem dX0_passOneTick_52 : decode cX0_passOneTick 52 = .ok (.goto (-34), 3) := by decide +kernel
theorem dX0_passOneTick_55 : decode cX0_passOneTick 55 = .ok (.aload_n 0, 1) := by decide +kernel
theorem dX0_passOneTick_56 : decode cX0_passOneTick 56 = .ok (.invokevirtual 153, 3) := by decide +kernel
theorem dX0_passOneTick_59 : decode cX0_passOneTick 59 = .ok (.iload_n 1, 1) := by decide +kernel
theorem dX0_passOneTick_60 : decode cX0_passOneTick 60 = .ok (.ireturn, 1) := by decide +kernel
set_option maxRecDepth 20000 in
theorem ggX0_beginLookingAtQueues_X0_findAllReputations : GoodIn wsX0_beginLookingAtQueues wsX0_findAllReputations := goodIn_r _ [8, 9, 1, 10, 11, 12, 7, 13, 14, 15, 16, 17, 18, 19, 20, 21, 22, 23, 24, 25, 26, 27, 28, 29, 30, 31, 32, 33, 34, 35, 36, 37, 38, 39, 40, 41, 42, 43, 44, 45, 46, 47, 48, 49] (by decide +kernel) (by decide +kernel)
set_option maxRecDepth 20000 in
theorem gX0_beginLookingAtQueues_X0_findAllReputations : GoodIn wsX0_beginLookingAtQueues (wsV RX0 147 RX0 yX0_findAllReputations wsX0_findAllReputations) := goodIn_app (goodIn_of _ (by decide +kernel)) ggX0_beginLookingAtQueues_X0_findAllReputations
theorem dX0_beginLookingAtQueues_0 : decode cX0_beginLookingAtQueues 0 = .ok (.iconst 0, 1) := by decide +kernel
theorem dX0_beginLookingAtQueues_1 : decode cX0_beginLookingAtQueues 1 = .ok (.istore_n 1, 1) := by decide +kernel
theorem dX0_beginLookingAtQueues_2 : decode cX0_beginLookingAtQueues 2 = .ok (.iload_n 1, 1) := by decide +kernel
theorem dX0_beginLookingAtQueues_3 : decode cX0_beginLookingAtQueues 3 = .ok (.aload_n 0, 1) := by decide +kernel
theorem dX0_beginLookingAtQueues_4 : decode cX0_beginLookingAtQueues 4 = .ok (.getfield 47, 3) := by decide +kernel
theorem dX0_beginLookingAtQueues_7 : decode cX0_beginLookingAtQueues 7 = .ok (.if_icmp .ge 21, 3) := by decide +kernel
theorem dX0_beginLookingAtQueues_10 : decode cX0_beginLookingAtQueues 10 = .ok (.aload_n 0, 1) := by decide +kernel
theorem dX0_beginLookingAtQueues_11 : decode cX0_beginLookingAtQueues 11 = .ok (.getfield 54, 3) := by decide +kernel
theorem dX0_beginLookingAtQueues_14 : decode cX0_beginLookingAtQueues 14 = .ok (.iload_n 1, 1) := by decide +kernel
theorem dX0_beginLookingAtQueues_15 : decode cX0_beginLookingAtQueues 15 = .ok (.aload_n 0, 1) := by decide +kernel
theorem dX0_beginLookingAtQueues_16 : decode cX0_beginLookingAtQueues 16 = .ok (.getfield 22, 3) := by decide +kernel
theorem dX0_beginLookingAtQueues_19 : decode cX0_beginLookingAtQueues 19 = .ok (.iload_n 1, 1) := by decide +kernel
theorem dX0_beginLookingAtQueues_20 : decode cX0_beginLookingAtQueues 20 = .ok (.iaload, 1) := by decide +kernel
theorem dX0_beginLookingAtQueues_21 : decode cX0_beginLookingAtQueues 21 = .ok (.iastore, 1) := by decide +kernel
theorem dX0_beginLookingAtQueues_22 : decode cX0_beginLookingAtQueues 22 = .ok (.iinc 1 1, 3) := by decide +kernel
theorem dX0_beginLookingAtQueues_25 : decode cX0_beginLookingAtQueues 25 = .ok (.goto (-23), 3) := by decide +kernel
theorem dX0_beginLookingAtQueues_28 : decode cX0_beginLookingAtQueues 28 = .ok (.aload_n 0, 1) := by decide +kernel
theorem dX0_beginLookingAtQueues_29 : decode cX0_beginLookingAtQueues 29 = .ok (.invokevirtual 147, 3) := by decide +kernel
theorem dX0_beginLookingAtQueues_32 : decode cX0_beginLookingAtQueues 32 = .ok (.return_, 1) := by decide +kernel
set_option maxRecDepth 20000 in
theorem ggX0_takeFirstWaiting_X0_rankOf : GoodIn wsX0_takeFirstWaiting wsX0_rankOf := goodIn_r _ [7, 8, 9, 10, 11, 12, 13, 6, 14, 1, 15, 16, 17, 18, 19, 20, 21, 22, 23, 24, 25, 26, 27, 28, 29, 30, 31, 32, 33] (by decide +kernel) (by decide +kernel)
set_option maxRecDepth 20000 in
theorem gX0_takeFirstWaiting_X0_rankOf : GoodIn wsX0_takeFirstWaiting (wsV RX0 156 RX0 yX0_rankOf wsX0_rankOf) := goodIn_app (goodIn_of _ (by decide +kernel)) ggX0_takeFirstWaiting_X0_rankOf
set_option maxRecDepth 20000 in
theorem ggX0_takeFirstWaiting_X0_isLetter : GoodIn wsX0_takeFirstWaiting wsX0_isLetter := goodIn_r _ [14, 1, 18, 19, 20, 21, 22, 23, 24, 25, 26, 27, 28, 29, 30, 31, 32, 33] (by decide +kernel) (by decide +kernel)
set_option maxRecDepth 20000 in
theorem gX0_takeFirstWaiting_X0_isLetter : GoodIn wsX0_takeFirstWaiting (wsV RX0 112 RX0 yX0_isLetter wsX0_isLetter) := goodIn_app (goodIn_of _ (by decide +kernel)) ggX0_takeFirstWaiting_X0_isLetter
theorem dX0_takeFirstWaiting_0 : decode cX0_takeFirstWaiting 0 = .ok (.iconst (-1), 1) := by decide +kernel
theorem dX0_takeFirstWaiting_1 : decode cX0_takeFirstWaiting 1 = .ok (.istore_n 2, 1) := by decide +kernel
theorem dX0_takeFirstWaiting_2 : decode cX0_takeFirstWaiting 2 = .ok (.iconst 0, 1) := by decide +kernel
theorem dX0_takeFirstWaiting_3 : decode cX0_takeFirstWaiting 3 = .ok (.istore_n 3, 1) := by decide +kernel
theorem dX0_takeFirstWaiting_4 : decode cX0_takeFirstWaiting 4 = .ok (.iload_n 3, 1) := by decide +kernel
theorem dX0_takeFirstWaiting_5 : decode cX0_takeFirstWaiting 5 = .ok (.aload_n 0, 1) := by decide +kernel
theorem dX0_takeFirstWaiting_6 : decode cX0_takeFirstWaiting 6 = .ok (.getfield 47, 3) := by decide +kernel
theorem dX0_takeFirstWaiting_9 : decode cX0_takeFirstWaiting 9 = .ok (.if_icmp .ge 39, 3) := by decide +kernel
theorem dX0_takeFirstWaiting_12 : decode cX0_takeFirstWaiting 12 = .ok (.aload_n 0, 1) := by decide +kernel
theorem dX0_takeFirstWaiting_13 : decode cX0_takeFirstWaiting 13 = .ok (.getfield 54, 3) := by decide +kernel
theorem dX0_takeFirstWaiting_16 : decode cX0_takeFirstWaiting 16 = .ok (.iload_n 3, 1) := by decide +kernel
theorem dX0_takeFirstWaiting_17 : decode cX0_takeFirstWaiting 17 = .ok (.iaload, 1) := by decide +kernel
theorem dX0_takeFirstWaiting_18 : decode cX0_takeFirstWaiting 18 = .ok (.iload_n 1, 1) := by decide +kernel
theorem dX0_takeFirstWaiting_19 : decode cX0_takeFirstWaiting 19 = .ok (.if_icmp .ne 23, 3) := by decide +kernel
theorem dX0_takeFirstWaiting_22 : decode cX0_takeFirstWaiting 22 = .ok (.iload_n 2, 1) := by decide +kernel
theorem dX0_takeFirstWaiting_23 : decode cX0_takeFirstWaiting 23 = .ok (.iconst (-1), 1) := by decide +kernel
theorem dX0_takeFirstWaiting_24 : decode cX0_takeFirstWaiting 24 = .ok (.if_icmp .eq 16, 3) := by decide +kernel
theorem dX0_takeFirstWaiting_27 : decode cX0_takeFirstWaiting 27 = .ok (.aload_n 0, 1) := by decide +kernel
theorem dX0_takeFirstWaiting_28 : decode cX0_takeFirstWaiting 28 = .ok (.iload_n 3, 1) := by decide +kernel
theorem dX0_takeFirstWaiting_29 : decode cX0_takeFirstWaiting 29 = .ok (.invokevirtual 156, 3) := by decide +kernel
theorem dX0_takeFirstWaiting_32 : decode cX0_takeFirstWaiting 32 = .ok (.aload_n 0, 1) := by decide +kernel
theorem dX0_takeFirstWaiting_33 : decode cX0_takeFirstWaiting 33 = .ok (.iload_n 2, 1) := by decide +kernel
theorem dX0_takeFirstWaiting_34 : decode cX0_takeFirstWaiting 34 = .ok (.invokevirtual 156, 3) := by decide +kernel
theorem dX0_takeFirstWaiting_37 : decode cX0_takeFirstWaiting 37 = .ok (.if_icmp .le 5, 3) := by decide +kernel
theorem dX0_takeFirstWaiting_40 : decode cX0_takeFirstWaiting 40 = .ok (.iload_n 3, 1) := by decide +kernel
theorem dX0_takeFirstWaiting_41 : decode cX0_takeFirstWaiting 41 = .ok (.istore_n 2, 1) := by decide +kernel
theorem dX0_takeFirstWaiting_42 : decode cX0_takeFirstWaiting 42 = .ok (.iinc 3 1, 3) := by decide +kernel
theorem dX0_takeFirstWaiting_45 : decode cX0_takeFirstWaiting 45 = .ok (.goto (-41), 3) := by decide +kernel
theorem dX0_takeFirstWaiting_48 : decode cX0_takeFirstWaiting 48 = .ok (.aload_n 0, 1) := by decide +kernel
theorem dX0_takeFirstWaiting_49 : decode cX0_takeFirstWaiting 49 = .ok (.iload_n 2, 1) := by decide +kernel
theorem dX0_takeFirstWaiting_50 : decode cX0_takeFirstWaiting 50 = .ok (.invokevirtual 112, 3) := by decide +kernel
theorem dX0_takeFirstWaiting_53 : decode cX0_takeFirstWaiting 53 = .ok (.ifCond .eq 10, 3) := by decide +kernel
theorem dX0_takeFirstWaiting_56 : decode cX0_takeFirstWaiting 56 = .ok (.aload_n 0, 1) := by decide +kernel
theorem dX0_takeFirstWaiting_57 : decode cX0_takeFirstWaiting 57 = .ok (.getfield 54, 3) := by decide +kernel
theorem dX0_takeFirstWaiting_60 : decode cX0_takeFirstWaiting 60 = .ok (.iload_n 2, 1) := by decide +kernel
theorem dX0_takeFirstWaiting_61 : decode cX0_takeFirstWaiting 61 = .ok (.iconst (-1), 1) := by decide +kernel
theorem dX0_takeFirstWaiting_62 : decode cX0_takeFirstWaiting 62 = .ok (.iastore, 1) := by decide +kernel
theorem dX0_takeFirstWaiting_63 : decode cX0_takeFirstWaiting 63 = .ok (.iload_n 2, 1) := by decide +kernel
theorem dX0_takeFirstWaiting_64 : decode cX0_takeFirstWaiting 64 = .ok (.ireturn, 1) := by decide +kernel
set_option maxRecDepth 20000 in
theorem ggX0_rankOf_X0_isLetter : GoodIn wsX0_rankOf wsX0_isLetter := goodIn_r _ [8, 9, 13, 14, 15, 16, 17, 18, 19, 20, 21, 22, 23, 24, 25, 26, 27, 28] (by decide +kernel) (by decide +kernel)
set_option maxRecDepth 20000 in
theorem gX0_rankOf_X0_isLetter : GoodIn wsX0_rankOf (wsV RX0 112 RX0 yX0_isLetter wsX0_isLetter) := goodIn_app (goodIn_of _ (by decide +kernel)) ggX0_rankOf_X0_isLetter
set_option maxRecDepth 20000 in
theorem ggX0_rankOf_X0_isPerson : GoodIn wsX0_rankOf wsX0_isPerson := goodIn_r _ [12] (by decide +kernel) (by decide +kernel)
set_option maxRecDepth 20000 in
theorem gX0_rankOf_X0_isPerson : GoodIn wsX0_rankOf (va_wsS RX0 80 yX0_isPerson wsX0_isPerson) := goodIn_app (goodIn_of _ (by decide +kernel)) ggX0_rankOf_X0_isPerson
theorem dX0_rankOf_0 : decode cX0_rankOf 0 = .ok (.aload_n 0, 1) := by decide +kernel
theorem dX0_rankOf_1 : decode cX0_rankOf 1 = .ok (.iload_n 1, 1) := by decide +kernel
theorem dX0_rankOf_2 : decode cX0_rankOf 2 = .ok (.invokevirtual 112, 3) := by decide +kernel
theorem dX0_rankOf_5 : decode cX0_rankOf 5 = .ok (.ifCond .eq 15, 3) := by decide +kernel
theorem dX0_rankOf_8 : decode cX0_rankOf 8 = .ok (.aload_n 0, 1) := by decide +kernel
theorem dX0_rankOf_9 : decode cX0_rankOf 9 = .ok (.getfield 9, 3) := by decide +kernel
theorem dX0_rankOf_12 : decode cX0_rankOf 12 = .ok (.iload_n 1, 1) := by decide +kernel
theorem dX0_rankOf_13 : decode cX0_rankOf 13 = .ok (.iaload, 1) := by decide +kernel
theorem dX0_rankOf_14 : decode cX0_rankOf 14 = .ok (.invokestatic 80, 3) := by decide +kernel
theorem dX0_rankOf_17 : decode cX0_rankOf 17 = .ok (.ifCond .ne 5, 3) := by decide +kernel
theorem dX0_rankOf_20 : decode cX0_rankOf 20 = .ok (.iconst 0, 1) := by decide +kernel
theorem dX0_rankOf_21 : decode cX0_rankOf 21 = .ok (.ireturn, 1) := by decide +kernel
theorem dX0_rankOf_22 : decode cX0_rankOf 22 = .ok (.aload_n 0, 1) := by decide +kernel
theorem dX0_rankOf_23 : decode cX0_rankOf 23 = .ok (.getfield 16, 3) := by decide +kernel
theorem dX0_rankOf_26 : decode cX0_rankOf 26 = .ok (.iload_n 1, 1) := by decide +kernel
theorem dX0_rankOf_27 : decode cX0_rankOf 27 = .ok (.iaload, 1) := by decide +kernel
theorem dX0_rankOf_28 : decode cX0_rankOf 28 = .ok (.aload_n 0, 1) := by decide +kernel
theorem dX0_rankOf_29 : decode cX0_rankOf 29 = .ok (.getfield 57, 3) := by decide +kernel
theorem dX0_rankOf_32 : decode cX0_rankOf 32 = .ok (.aload_n 0, 1) := by decide +kernel
theorem dX0_rankOf_33 : decode cX0_rankOf 33 = .ok (.getfield 9, 3) := by decide +kernel
theorem dX0_rankOf_36 : decode cX0_rankOf 36 = .ok (.iload_n 1, 1) := by decide +kernel
theorem dX0_rankOf_37 : decode cX0_rankOf 37 = .ok (.iaload, 1) := by decide +kernel
theorem dX0_rankOf_38 : decode cX0_rankOf 38 = .ok (.iaload, 1) := by decide +kernel
theorem dX0_rankOf_39 : decode cX0_rankOf 39 = .ok (.iadd, 1) := by decide +kernel
theorem dX0_rankOf_40 : decode cX0_rankOf 40 = .ok (.ireturn, 1) := by decide +kernel
set_option maxRecDepth 20000 in
theorem ggX0_moveOn_X0_isLetter : GoodIn wsX0_moveOn wsX0_isLetter := goodIn_r _ [9, 10, 41, 42, 43, 44, 45, 46, 47, 48, 49, 50, 51, 52, 53, 54, 55, 56] (by decide +kernel) (by decide +kernel)
set_option maxRecDepth 20000 in
theorem gX0_moveOn_X0_isLetter : GoodIn wsX0_moveOn (wsV RX0 112 RX0 yX0_isLetter wsX0_isLetter) := goodIn_app (goodIn_of _ (by decide +kernel)) ggX0_moveOn_X0_isLetter
set_option maxRecDepth 20000 in
theorem ggX0_moveOn_X0_homeOf : GoodIn wsX0_moveOn wsX0_homeOf := goodIn_r _ [13] (by decide +kernel) (by decide +kernel)
set_option maxRecDepth 20000 in
theorem gX0_moveOn_X0_homeOf : GoodIn wsX0_moveOn (va_wsS RX0 96 yX0_homeOf wsX0_homeOf) := goodIn_app (goodIn_of _ (by decide +kernel)) ggX0_moveOn_X0_homeOf
set_option maxRecDepth 20000 in
theorem ggX0_moveOn_X0_leaveQueue : GoodIn wsX0_moveOn wsX0_leaveQueue := goodIn_r _ [17, 18, 19, 5, 6, 7, 8, 9, 10, 41, 42, 43, 44, 45, 46, 47, 48, 49, 50, 51, 52, 53, 54, 55, 56] (by decide +kernel) (by decide +kernel)
set_option maxRecDepth 20000 in
theorem gX0_moveOn_X0_leaveQueue : GoodIn wsX0_moveOn (wsV RX0 159 RX0 yX0_leaveQueue wsX0_leaveQueue) := goodIn_app (goodIn_of _ (by decide +kernel)) ggX0_moveOn_X0_leaveQueue
set_option maxRecDepth 20000 in
theorem ggX0_moveOn_X0_nextRelay : GoodIn wsX0_moveOn wsX0_nextRelay := goodIn_r _ [23, 24, 25, 26, 8, 27, 41, 42, 43, 44, 45, 46, 47, 48, 49, 50, 51, 52, 53, 54, 55, 56] (by decide +kernel) (by decide +kernel)
set_option maxRecDepth 20000 in
theorem gX0_moveOn_X0_nextRelay : GoodIn wsX0_moveOn (wsV RX0 76 RX0 yX0_nextRelay wsX0_nextRelay) := goodIn_app (goodIn_of _ (by decide +kernel)) ggX0_moveOn_X0_nextRelay
set_option maxRecDepth 20000 in
theorem ggX0_moveOn_X0_markOf : GoodIn wsX0_moveOn wsX0_markOf := goodIn_r _ [30] (by decide +kernel) (by decide +kernel)
set_option maxRecDepth 20000 in
theorem gX0_moveOn_X0_markOf : GoodIn wsX0_moveOn (va_wsS RX0 162 yX0_markOf wsX0_markOf) := goodIn_app (goodIn_of _ (by decide +kernel)) ggX0_moveOn_X0_markOf
set_option maxRecDepth 20000 in
theorem ggX0_moveOn_X0_putStakeIntoPool : GoodIn wsX0_moveOn wsX0_putStakeIntoPool := goodIn_r _ [34, 35, 36, 5, 6, 7, 8, 9, 10, 25, 26, 27, 41, 42, 43, 44, 45, 46, 47, 48, 49, 50, 51, 52, 53, 54, 55, 56] (by decide +kernel) (by decide +kernel)
set_option maxRecDepth 20000 in
theorem gX0_moveOn_X0_putStakeIntoPool : GoodIn wsX0_moveOn (wsV RX0 126 RX0 yX0_putStakeIntoPool wsX0_putStakeIntoPool) := goodIn_app (goodIn_of _ (by decide +kernel)) ggX0_moveOn_X0_putStakeIntoPool
set_option maxRecDepth 20000 in
theorem ggX0_moveOn_X0_layAt : GoodIn wsX0_moveOn wsX0_layAt := goodIn_r _ [40, 18, 4, 5, 6, 7, 8, 9, 10, 28, 29, 30, 41, 42, 43, 44, 45, 46, 47, 48, 49, 50, 51, 52, 53, 54, 55, 56] (by decide +kernel) (by decide +kernel)
set_option maxRecDepth 20000 in
theorem gX0_moveOn_X0_layAt : GoodIn wsX0_moveOn (wsV RX0 99 RX0 yX0_layAt wsX0_layAt) := goodIn_app (goodIn_of _ (by decide +kernel)) ggX0_moveOn_X0_layAt
theorem dX0_moveOn_0 : decode cX0_moveOn 0 = .ok (.aload_n 0, 1) := by decide +kernel
theorem dX0_moveOn_1 : decode cX0_moveOn 1 = .ok (.iload_n 1, 1) := by decide +kernel
theorem dX0_moveOn_2 : decode cX0_moveOn 2 = .ok (.invokevirtual 112, 3) := by decide +kernel
theorem dX0_moveOn_5 : decode cX0_moveOn 5 = .ok (.ifCond .ne 5, 3) := by decide +kernel
theorem dX0_moveOn_8 : decode cX0_moveOn 8 = .ok (.iconst 0, 1) := by decide +kernel
theorem dX0_moveOn_9 : decode cX0_moveOn 9 = .ok (.ireturn, 1) := by decide +kernel
theorem dX0_moveOn_10 : decode cX0_moveOn 10 = .ok (.aload_n 0, 1) := by decide +kernel
theorem dX0_moveOn_11 : decode cX0_moveOn 11 = .ok (.getfield 13, 3) := by decide +kernel
theorem dX0_moveOn_14 : decode cX0_moveOn 14 = .ok (.iload_n 1, 1) := by decide +kernel
theorem dX0_moveOn_15 : decode cX0_moveOn 15 = .ok (.iaload, 1) := by decide +kernel
theorem dX0_moveOn_16 : decode cX0_moveOn 16 = .ok (.invokestatic 96, 3) := by decide +kernel
theorem dX0_moveOn_19 : decode cX0_moveOn 19 = .ok (.istore_n 3, 1) := by decide +kernel
theorem dX0_moveOn_20 : decode cX0_moveOn 20 = .ok (.iload_n 2, 1) := by decide +kernel
theorem dX0_moveOn_21 : decode cX0_moveOn 21 = .ok (.iload_n 3, 1) := by decide +kernel
theorem dX0_moveOn_22 : decode cX0_moveOn 22 = .ok (.if_icmp .ne 21, 3) := by decide +kernel
theorem dX0_moveOn_25 : decode cX0_moveOn 25 = .ok (.aload_n 0, 1) := by decide +kernel
theorem dX0_moveOn_26 : decode cX0_moveOn 26 = .ok (.iload_n 1, 1) := by decide +kernel
theorem dX0_moveOn_27 : decode cX0_moveOn 27 = .ok (.iconst 1, 1) := by decide +kernel
theorem dX0_moveOn_28 : decode cX0_moveOn 28 = .ok (.invokevirtual 159, 3) := by decide +kernel
theorem dX0_moveOn_31 : decode cX0_moveOn 31 = .ok (.aload_n 0, 1) := by decide +kernel
theorem dX0_moveOn_32 : decode cX0_moveOn 32 = .ok (.getfield 28, 3) := by decide +kernel
theorem dX0_moveOn_35 : decode cX0_moveOn 35 = .ok (.iload_n 1, 1) := by decide +kernel
theorem dX0_moveOn_36 : decode cX0_moveOn 36 = .ok (.aload_n 0, 1) := by decide +kernel
theorem dX0_moveOn_37 : decode cX0_moveOn 37 = .ok (.getfield 51, 3) := by decide +kernel
theorem dX0_moveOn_40 : decode cX0_moveOn 40 = .ok (.iastore, 1) := by decide +kernel
theorem dX0_moveOn_41 : decode cX0_moveOn 41 = .ok (.iconst 1, 1) := by decide +kernel
theorem dX0_moveOn_42 : decode cX0_moveOn 42 = .ok (.ireturn, 1) := by decide +kernel
theorem dX0_moveOn_43 : decode cX0_moveOn 43 = .ok (.aload_n 0, 1) := by decide +kernel
theorem dX0_moveOn_44 : decode cX0_moveOn 44 = .ok (.iload_n 2, 1) := by decide +kernel
theorem dX0_moveOn_45 : decode cX0_moveOn 45 = .ok (.iload_n 3, 1) := by decide +kernel
theorem dX0_moveOn_46 : decode cX0_moveOn 46 = .ok (.invokevirtual 76, 3) := by decide +kernel
theorem dX0_moveOn_49 : decode cX0_moveOn 49 = .ok (.istore 4, 2) := by decide +kernel
theorem dX0_moveOn_51 : decode cX0_moveOn 51 = .ok (.aload_n 0, 1) := by decide +kernel
theorem dX0_moveOn_52 : decode cX0_moveOn 52 = .ok (.getfield 25, 3) := by decide +kernel
theorem dX0_moveOn_55 : decode cX0_moveOn 55 = .ok (.iload_n 1, 1) := by decide +kernel
theorem dX0_moveOn_56 : decode cX0_moveOn 56 = .ok (.iaload, 1) := by decide +kernel
theorem dX0_moveOn_57 : decode cX0_moveOn 57 = .ok (.iload 4, 2) := by decide +kernel
theorem dX0_moveOn_59 : decode cX0_moveOn 59 = .ok (.invokestatic 162, 3) := by decide +kernel
theorem dX0_moveOn_62 : decode cX0_moveOn 62 = .ok (.iand, 1) := by decide +kernel
theorem dX0_moveOn_63 : decode cX0_moveOn 63 = .ok (.ifCond .eq 18, 3) := by decide +kernel
theorem dX0_moveOn_66 : decode cX0_moveOn 66 = .ok (.aload_n 0, 1) := by decide +kernel
theorem dX0_moveOn_67 : decode cX0_moveOn 67 = .ok (.iload_n 1, 1) := by decide +kernel
theorem dX0_moveOn_68 : decode cX0_moveOn 68 = .ok (.iconst 4, 1) := by decide +kernel
theorem dX0_moveOn_69 : decode cX0_moveOn 69 = .ok (.invokevirtual 159, 3) := by decide +kernel
theorem dX0_moveOn_72 : decode cX0_moveOn 72 = .ok (.aload_n 0, 1) := by decide +kernel
theorem dX0_moveOn_73 : decode cX0_moveOn 73 = .ok (.iload_n 1, 1) := by decide +kernel
theorem dX0_moveOn_74 : decode cX0_moveOn 74 = .ok (.iload_n 2, 1) := by decide +kernel
theorem dX0_moveOn_75 : decode cX0_moveOn 75 = .ok (.invokevirtual 126, 3) := by decide +kernel
theorem dX0_moveOn_78 : decode cX0_moveOn 78 = .ok (.goto 10, 3) := by decide +kernel
theorem dX0_moveOn_81 : decode cX0_moveOn 81 = .ok (.aload_n 0, 1) := by decide +kernel
theorem dX0_moveOn_82 : decode cX0_moveOn 82 = .ok (.iload_n 1, 1) := by decide +kernel
theorem dX0_moveOn_83 : decode cX0_moveOn 83 = .ok (.iload 4, 2) := by decide +kernel
theorem dX0_moveOn_85 : decode cX0_moveOn 85 = .ok (.invokevirtual 99, 3) := by decide +kernel
theorem dX0_moveOn_88 : decode cX0_moveOn 88 = .ok (.iconst 0, 1) := by decide +kernel
theorem dX0_moveOn_89 : decode cX0_moveOn 89 = .ok (.ireturn, 1) := by decide +kernel
set_option maxRecDepth 20000 in
theorem ggX0_layAt_X0_isLetter : GoodIn wsX0_layAt wsX0_isLetter := goodIn_r _ [7, 8, 12, 13, 14, 15, 16, 17, 18, 19, 20, 21, 22, 23, 24, 25, 26, 27] (by decide +kernel) (by decide +kernel)
set_option maxRecDepth 20000 in
theorem gX0_layAt_X0_isLetter : GoodIn wsX0_layAt (wsV RX0 112 RX0 yX0_isLetter wsX0_isLetter) := goodIn_app (goodIn_of _ (by decide +kernel)) ggX0_layAt_X0_isLetter
set_option maxRecDepth 20000 in
theorem ggX0_layAt_X0_markOf : GoodIn wsX0_layAt wsX0_markOf := goodIn_r _ [11] (by decide +kernel) (by decide +kernel)
set_option maxRecDepth 20000 in
theorem gX0_layAt_X0_markOf : GoodIn wsX0_layAt (va_wsS RX0 162 yX0_markOf wsX0_markOf) := goodIn_app (goodIn_of _ (by decide +kernel)) ggX0_layAt_X0_markOf
theorem dX0_layAt_0 : decode cX0_layAt 0 = .ok (.aload_n 0, 1) := by decide +kernel
theorem dX0_layAt_1 : decode cX0_layAt 1 = .ok (.iload_n 1, 1) := by decide +kernel
theorem dX0_layAt_2 : decode cX0_layAt 2 = .ok (.invokevirtual 112, 3) := by decide +kernel
theorem dX0_layAt_5 : decode cX0_layAt 5 = .ok (.ifCond .eq 23, 3) := by decide +kernel
theorem dX0_layAt_8 : decode cX0_layAt 8 = .ok (.aload_n 0, 1) := by decide +kernel
theorem dX0_layAt_9 : decode cX0_layAt 9 = .ok (.getfield 22, 3) := by decide +kernel
theorem dX0_layAt_12 : decode cX0_layAt 12 = .ok (.iload_n 1, 1) := by decide +kernel
theorem dX0_layAt_13 : decode cX0_layAt 13 = .ok (.iload_n 2, 1) := by decide +kernel
theorem dX0_layAt_14 : decode cX0_layAt 14 = .ok (.iastore, 1) := by decide +kernel
theorem dX0_layAt_15 : decode cX0_layAt 15 = .ok (.aload_n 0, 1) := by decide +kernel
theorem dX0_layAt_16 : decode cX0_layAt 16 = .ok (.getfield 25, 3) := by decide +kernel
theorem dX0_layAt_19 : decode cX0_layAt 19 = .ok (.iload_n 1, 1) := by decide +kernel
theorem dX0_layAt_20 : decode cX0_layAt 20 = .ok (.dup2, 1) := by decide +kernel
theorem dX0_layAt_21 : decode cX0_layAt 21 = .ok (.iaload, 1) := by decide +kernel
theorem dX0_layAt_22 : decode cX0_layAt 22 = .ok (.iload_n 2, 1) := by decide +kernel
theorem dX0_layAt_23 : decode cX0_layAt 23 = .ok (.invokestatic 162, 3) := by decide +kernel
theorem dX0_layAt_26 : decode cX0_layAt 26 = .ok (.ior, 1) := by decide +kernel
theorem dX0_layAt_27 : decode cX0_layAt 27 = .ok (.iastore, 1) := by decide +kernel
theorem dX0_layAt_28 : decode cX0_layAt 28 = .ok (.return_, 1) := by decide +kernel
set_option maxRecDepth 20000 in
theorem ggX0_leaveQueue_X0_isLetter : GoodIn wsX0_leaveQueue wsX0_isLetter := goodIn_r _ [7, 8, 9, 10, 11, 12, 13, 14, 15, 16, 17, 18, 19, 20, 21, 22, 23, 24] (by decide +kernel) (by decide +kernel)
set_option maxRecDepth 20000 in
theorem gX0_leaveQueue_X0_isLetter : GoodIn wsX0_leaveQueue (wsV RX0 112 RX0 yX0_isLetter wsX0_isLetter) := goodIn_app (goodIn_of _ (by decide +kernel)) ggX0_leaveQueue_X0_isLetter
theorem dX0_leaveQueue_0 : decode cX0_leaveQueue 0 = .ok (.aload_n 0, 1) := by decide +kernel
theorem dX0_leaveQueue_1 : decode cX0_leaveQueue 1 = .ok (.iload_n 1, 1) := by decide +kernel
theorem dX0_leaveQueue_2 : decode cX0_leaveQueue 2 = .ok (.invokevirtual 112, 3) := by decide +kernel
theorem dX0_leaveQueue_5 : decode cX0_leaveQueue 5 = .ok (.ifCond .eq 17, 3) := by decide +kernel
theorem dX0_leaveQueue_8 : decode cX0_leaveQueue 8 = .ok (.aload_n 0, 1) := by decide +kernel
theorem dX0_leaveQueue_9 : decode cX0_leaveQueue 9 = .ok (.getfield 22, 3) := by decide +kernel
theorem dX0_leaveQueue_12 : decode cX0_leaveQueue 12 = .ok (.iload_n 1, 1) := by decide +kernel
theorem dX0_leaveQueue_13 : decode cX0_leaveQueue 13 = .ok (.iconst (-1), 1) := by decide +kernel
theorem dX0_leaveQueue_14 : decode cX0_leaveQueue 14 = .ok (.iastore, 1) := by decide +kernel
theorem dX0_leaveQueue_15 : decode cX0_leaveQueue 15 = .ok (.aload_n 0, 1) := by decide +kernel
theorem dX0_leaveQueue_16 : decode cX0_leaveQueue 16 = .ok (.getfield 19, 3) := by decide +kernel
theorem dX0_leaveQueue_19 : decode cX0_leaveQueue 19 = .ok (.iload_n 1, 1) := by decide +kernel
theorem dX0_leaveQueue_20 : decode cX0_leaveQueue 20 = .ok (.iload_n 2, 1) := by decide +kernel
theorem dX0_leaveQueue_21 : decode cX0_leaveQueue 21 = .ok (.iastore, 1) := by decide +kernel
theorem dX0_leaveQueue_22 : decode cX0_leaveQueue 22 = .ok (.return_, 1) := by decide +kernel
set_option maxRecDepth 20000 in
theorem ggX0_expireOldLetters_X0_giveStakeBack : GoodIn wsX0_expireOldLetters wsX0_giveStakeBack := goodIn_r _ [9, 10, 11, 12, 13, 14, 15, 8, 16, 1, 17, 18, 19, 20, 21, 22, 23, 24, 25, 26, 27, 28, 29, 30, 31, 32, 33, 34, 35] (by decide +kernel) (by decide +kernel)
set_option maxRecDepth 20000 in
theorem gX0_expireOldLetters_X0_giveStakeBack : GoodIn wsX0_expireOldLetters (wsV RX0 119 RX0 yX0_giveStakeBack wsX0_giveStakeBack) := goodIn_app (goodIn_of _ (by decide +kernel)) ggX0_expireOldLetters_X0_giveStakeBack
theorem dX0_expireOldLetters_0 : decode cX0_expireOldLetters 0 = .ok (.iconst 0, 1) := by decide +kernel
theorem dX0_expireOldLetters_1 : decode cX0_expireOldLetters 1 = .ok (.istore_n 1, 1) := by decide +kernel
theorem dX0_expireOldLetters_2 : decode cX0_expireOldLetters 2 = .ok (.iload_n 1, 1) := by decide +kernel
theorem dX0_expireOldLetters_3 : decode cX0_expireOldLetters 3 = .ok (.aload_n 0, 1) := by decide +kernel
theorem dX0_expireOldLetters_4 : decode cX0_expireOldLetters 4 = .ok (.getfield 47, 3) := by decide +kernel
theorem dX0_expireOldLetters_7 : decode cX0_expireOldLetters 7 = .ok (.if_icmp .ge 47, 3) := by decide +kernel
theorem dX0_expireOldLetters_10 : decode cX0_expireOldLetters 10 = .ok (.aload_n 0, 1) := by decide +kernel
theorem dX0_expireOldLetters_11 : decode cX0_expireOldLetters 11 = .ok (.getfield 19, 3) := by decide +kernel
theorem dX0_expireOldLetters_14 : decode cX0_expireOldLetters 14 = .ok (.iload_n 1, 1) := by decide +kernel
theorem dX0_expireOldLetters_15 : decode cX0_expireOldLetters 15 = .ok (.iaload, 1) := by decide +kernel
theorem dX0_expireOldLetters_16 : decode cX0_expireOldLetters 16 = .ok (.iconst 1, 1) := by decide +kernel
theorem dX0_expireOldLetters_17 : decode cX0_expireOldLetters 17 = .ok (.if_icmp .ne 31, 3) := by decide +kernel
theorem dX0_expireOldLetters_20 : decode cX0_expireOldLetters 20 = .ok (.aload_n 0, 1) := by decide +kernel
theorem dX0_expireOldLetters_21 : decode cX0_expireOldLetters 21 = .ok (.getfield 51, 3) := by decide +kernel
theorem dX0_expireOldLetters_24 : decode cX0_expireOldLetters 24 = .ok (.aload_n 0, 1) := by decide +kernel
theorem dX0_expireOldLetters_25 : decode cX0_expireOldLetters 25 = .ok (.getfield 28, 3) := by decide +kernel
theorem dX0_expireOldLetters_28 : decode cX0_expireOldLetters 28 = .ok (.iload_n 1, 1) := by decide +kernel
theorem dX0_expireOldLetters_29 : decode cX0_expireOldLetters 29 = .ok (.iaload, 1) := by decide +kernel
theorem dX0_expireOldLetters_30 : decode cX0_expireOldLetters 30 = .ok (.isub, 1) := by decide +kernel
theorem dX0_expireOldLetters_31 : decode cX0_expireOldLetters 31 = .ok (.bipush 20, 2) := by decide +kernel
theorem dX0_expireOldLetters_33 : decode cX0_expireOldLetters 33 = .ok (.if_icmp .lt 15, 3) := by decide +kernel
theorem dX0_expireOldLetters_36 : decode cX0_expireOldLetters 36 = .ok (.aload_n 0, 1) := by decide +kernel
theorem dX0_expireOldLetters_37 : decode cX0_expireOldLetters 37 = .ok (.getfield 19, 3) := by decide +kernel
theorem dX0_expireOldLetters_40 : decode cX0_expireOldLetters 40 = .ok (.iload_n 1, 1) := by decide +kernel
theorem dX0_expireOldLetters_41 : decode cX0_expireOldLetters 41 = .ok (.iconst 5, 1) := by decide +kernel
theorem dX0_expireOldLetters_42 : decode cX0_expireOldLetters 42 = .ok (.iastore, 1) := by decide +kernel
theorem dX0_expireOldLetters_43 : decode cX0_expireOldLetters 43 = .ok (.aload_n 0, 1) := by decide +kernel
theorem dX0_expireOldLetters_44 : decode cX0_expireOldLetters 44 = .ok (.iload_n 1, 1) := by decide +kernel
theorem dX0_expireOldLetters_45 : decode cX0_expireOldLetters 45 = .ok (.invokevirtual 119, 3) := by decide +kernel
theorem dX0_expireOldLetters_48 : decode cX0_expireOldLetters 48 = .ok (.iinc 1 1, 3) := by decide +kernel
theorem dX0_expireOldLetters_51 : decode cX0_expireOldLetters 51 = .ok (.goto (-49), 3) := by decide +kernel
theorem dX0_expireOldLetters_54 : decode cX0_expireOldLetters 54 = .ok (.return_, 1) := by decide +kernel
theorem dX0_lengthOfQueue_0 : decode cX0_lengthOfQueue 0 = .ok (.iconst 0, 1) := by decide +kernel
theorem dX0_lengthOfQueue_1 : decode cX0_lengthOfQueue 1 = .ok (.istore_n 2, 1) := by decide +kernel
theorem dX0_lengthOfQueue_2 : decode cX0_lengthOfQueue 2 = .ok (.iconst 0, 1) := by decide +kernel
theorem dX0_lengthOfQueue_3 : decode cX0_lengthOfQueue 3 = .ok (.istore_n 3, 1) := by decide +kernel
theorem dX0_lengthOfQueue_4 : decode cX0_lengthOfQueue 4 = .ok (.iload_n 3, 1) := by decide +kernel
theorem dX0_lengthOfQueue_5 : decode cX0_lengthOfQueue 5 = .ok (.aload_n 0, 1) := by decide +kernel
theorem dX0_lengthOfQueue_6 : decode cX0_lengthOfQueue 6 = .ok (.getfield 47, 3) := by decide +kernel
theorem dX0_lengthOfQueue_9 : decode cX0_lengthOfQueue 9 = .ok (.if_icmp .ge 22, 3) := by decide +kernel
theorem dX0_lengthOfQueue_12 : decode cX0_lengthOfQueue 12 = .ok (.aload_n 0, 1) := by decide +kernel
theorem dX0_lengthOfQueue_13 : decode cX0_lengthOfQueue 13 = .ok (.getfield 22, 3) := by decide +kernel
theorem dX0_lengthOfQueue_16 : decode cX0_lengthOfQueue 16 = .ok (.iload_n 3, 1) := by decide +kernel
theorem dX0_lengthOfQueue_17 : decode cX0_lengthOfQueue 17 = .ok (.iaload, 1) := by decide +kernel
theorem dX0_lengthOfQueue_18 : decode cX0_lengthOfQueue 18 = .ok (.iload_n 1, 1) := by decide +kernel
theorem dX0_lengthOfQueue_19 : decode cX0_lengthOfQueue 19 = .ok (.if_icmp .ne 6, 3) := by decide +kernel
theorem dX0_lengthOfQueue_22 : decode cX0_lengthOfQueue 22 = .ok (.iinc 2 1, 3) := by decide +kernel
theorem dX0_lengthOfQueue_25 : decode cX0_lengthOfQueue 25 = .ok (.iinc 3 1, 3) := by decide +kernel
theorem dX0_lengthOfQueue_28 : decode cX0_lengthOfQueue 28 = .ok (.goto (-24), 3) := by decide +kernel
theorem dX0_lengthOfQueue_31 : decode cX0_lengthOfQueue 31 = .ok (.iload_n 2, 1) := by decide +kernel
theorem dX0_lengthOfQueue_32 : decode cX0_lengthOfQueue 32 = .ok (.ireturn, 1) := by decide +kernel
set_option maxRecDepth 20000 in
theorem ggX0_giveStakeBack_X0_isLetter : GoodIn wsX0_giveStakeBack wsX0_isLetter := goodIn_r _ [8, 9, 13, 14, 15, 16, 17, 18, 19, 20, 21, 22, 23, 24, 25, 26, 27, 28] (by decide +kernel) (by decide +kernel)
set_option maxRecDepth 20000 in
theorem gX0_giveStakeBack_X0_isLetter : GoodIn wsX0_giveStakeBack (wsV RX0 112 RX0 yX0_isLetter wsX0_isLetter) := goodIn_app (goodIn_of _ (by decide +kernel)) ggX0_giveStakeBack_X0_isLetter
set_option maxRecDepth 20000 in
theorem ggX0_giveStakeBack_X0_isPerson : GoodIn wsX0_giveStakeBack wsX0_isPerson := goodIn_r _ [12] (by decide +kernel) (by decide +kernel)
set_option maxRecDepth 20000 in
theorem gX0_giveStakeBack_X0_isPerson : GoodIn wsX0_giveStakeBack (va_wsS RX0 80 yX0_isPerson wsX0_isPerson) := goodIn_app (goodIn_of _ (by decide +kernel)) ggX0_giveStakeBack_X0_isPerson
theorem dX0_giveStakeBack_0 : decode cX0_giveStakeBack 0 = .ok (.aload_n 0, 1) := by decide +kernel
theorem dX0_giveStakeBack_1 : decode cX0_giveStakeBack 1 = .ok (.iload_n 1, 1) := by decide +kernel
theorem dX0_giveStakeBack_2 : decode cX0_giveStakeBack 2 = .ok (.invokevirtual 112, 3) := by decide +kernel
theorem dX0_giveStakeBack_5 : decode cX0_giveStakeBack 5 = .ok (.ifCond .eq 35, 3) := by decide +kernel
theorem dX0_giveStakeBack_8 : decode cX0_giveStakeBack 8 = .ok (.aload_n 0, 1) := by decide +kernel
theorem dX0_giveStakeBack_9 : decode cX0_giveStakeBack 9 = .ok (.getfield 9, 3) := by decide +kernel
theorem dX0_giveStakeBack_12 : decode cX0_giveStakeBack 12 = .ok (.iload_n 1, 1) := by decide +kernel
theorem dX0_giveStakeBack_13 : decode cX0_giveStakeBack 13 = .ok (.iaload, 1) := by decide +kernel
theorem dX0_giveStakeBack_14 : decode cX0_giveStakeBack 14 = .ok (.invokestatic 80, 3) := by decide +kernel
theorem dX0_giveStakeBack_17 : decode cX0_giveStakeBack 17 = .ok (.ifCond .eq 23, 3) := by decide +kernel
theorem dX0_giveStakeBack_20 : decode cX0_giveStakeBack 20 = .ok (.aload_n 0, 1) := by decide +kernel
theorem dX0_giveStakeBack_21 : decode cX0_giveStakeBack 21 = .ok (.getfield 35, 3) := by decide +kernel
theorem dX0_giveStakeBack_24 : decode cX0_giveStakeBack 24 = .ok (.aload_n 0, 1) := by decide +kernel
theorem dX0_giveStakeBack_25 : decode cX0_giveStakeBack 25 = .ok (.getfield 9, 3) := by decide +kernel
theorem dX0_giveStakeBack_28 : decode cX0_giveStakeBack 28 = .ok (.iload_n 1, 1) := by decide +kernel
theorem dX0_giveStakeBack_29 : decode cX0_giveStakeBack 29 = .ok (.iaload, 1) := by decide +kernel
theorem dX0_giveStakeBack_30 : decode cX0_giveStakeBack 30 = .ok (.dup2, 1) := by decide +kernel
theorem dX0_giveStakeBack_31 : decode cX0_giveStakeBack 31 = .ok (.iaload, 1) := by decide +kernel
theorem dX0_giveStakeBack_32 : decode cX0_giveStakeBack 32 = .ok (.aload_n 0, 1) := by decide +kernel
theorem dX0_giveStakeBack_33 : decode cX0_giveStakeBack 33 = .ok (.getfield 16, 3) := by decide +kernel
theorem dX0_giveStakeBack_36 : decode cX0_giveStakeBack 36 = .ok (.iload_n 1, 1) := by decide +kernel
theorem dX0_giveStakeBack_37 : decode cX0_giveStakeBack 37 = .ok (.iaload, 1) := by decide +kernel
theorem dX0_giveStakeBack_38 : decode cX0_giveStakeBack 38 = .ok (.iadd, 1) := by decide +kernel
theorem dX0_giveStakeBack_39 : decode cX0_giveStakeBack 39 = .ok (.iastore, 1) := by decide +kernel
theorem dX0_giveStakeBack_40 : decode cX0_giveStakeBack 40 = .ok (.return_, 1) := by decide +kernel
set_option maxRecDepth 20000 in
theorem ggX0_putStakeIntoPool_X0_isLetter : GoodIn wsX0_putStakeIntoPool wsX0_isLetter := goodIn_r _ [7, 8, 12, 13, 14, 15, 16, 17, 18, 19, 20, 21, 22, 23, 24, 25, 26, 27] (by decide +kernel) (by decide +kernel)
set_option maxRecDepth 20000 in
theorem gX0_putStakeIntoPool_X0_isLetter : GoodIn wsX0_putStakeIntoPool (wsV RX0 112 RX0 yX0_isLetter wsX0_isLetter) := goodIn_app (goodIn_of _ (by decide +kernel)) ggX0_putStakeIntoPool_X0_isLetter
set_option maxRecDepth 20000 in
theorem ggX0_putStakeIntoPool_X0_isRelay : GoodIn wsX0_putStakeIntoPool wsX0_isRelay := goodIn_r _ [11] (by decide +kernel) (by decide +kernel)
set_option maxRecDepth 20000 in
theorem gX0_putStakeIntoPool_X0_isRelay : GoodIn wsX0_putStakeIntoPool (va_wsS RX0 60 yX0_isRelay wsX0_isRelay) := goodIn_app (goodIn_of _ (by decide +kernel)) ggX0_putStakeIntoPool_X0_isRelay
theorem dX0_putStakeIntoPool_0 : decode cX0_putStakeIntoPool 0 = .ok (.aload_n 0, 1) := by decide +kernel
theorem dX0_putStakeIntoPool_1 : decode cX0_putStakeIntoPool 1 = .ok (.iload_n 1, 1) := by decide +kernel
theorem dX0_putStakeIntoPool_2 : decode cX0_putStakeIntoPool 2 = .ok (.invokevirtual 112, 3) := by decide +kernel
theorem dX0_putStakeIntoPool_5 : decode cX0_putStakeIntoPool 5 = .ok (.ifCond .eq 25, 3) := by decide +kernel
theorem dX0_putStakeIntoPool_8 : decode cX0_putStakeIntoPool 8 = .ok (.iload_n 2, 1) := by decide +kernel
theorem dX0_putStakeIntoPool_9 : decode cX0_putStakeIntoPool 9 = .ok (.invokestatic 60, 3) := by decide +kernel
theorem dX0_putStakeIntoPool_12 : decode cX0_putStakeIntoPool 12 = .ok (.ifCond .eq 18, 3) := by decide +kernel
theorem dX0_putStakeIntoPool_15 : decode cX0_putStakeIntoPool 15 = .ok (.aload_n 0, 1) := by decide +kernel
theorem dX0_putStakeIntoPool_16 : decode cX0_putStakeIntoPool 16 = .ok (.getfield 41, 3) := by decide +kernel
theorem dX0_putStakeIntoPool_19 : decode cX0_putStakeIntoPool 19 = .ok (.iload_n 2, 1) := by decide +kernel
theorem dX0_putStakeIntoPool_20 : decode cX0_putStakeIntoPool 20 = .ok (.dup2, 1) := by decide +kernel
theorem dX0_putStakeIntoPool_21 : decode cX0_putStakeIntoPool 21 = .ok (.iaload, 1) := by decide +kernel
theorem dX0_putStakeIntoPool_22 : decode cX0_putStakeIntoPool 22 = .ok (.aload_n 0, 1) := by decide +kernel
theorem dX0_putStakeIntoPool_23 : decode cX0_putStakeIntoPool 23 = .ok (.getfield 16, 3) := by decide +kernel
theorem dX0_putStakeIntoPool_26 : decode cX0_putStakeIntoPool 26 = .ok (.iload_n 1, 1) := by decide +kernel
theorem dX0_putStakeIntoPool_27 : decode cX0_putStakeIntoPool 27 = .ok (.iaload, 1) := by decide +kernel
theorem dX0_putStakeIntoPool_28 : decode cX0_putStakeIntoPool 28 = .ok (.iadd, 1) := by decide +kernel
theorem dX0_putStakeIntoPool_29 : decode cX0_putStakeIntoPool 29 = .ok (.iastore, 1) := by decide +kernel
theorem dX0_putStakeIntoPool_30 : decode cX0_putStakeIntoPool 30 = .ok (.return_, 1) := by decide +kernel
set_option maxRecDepth 20000 in
theorem ggX0_payForFalseMark_X0_isPerson : GoodIn wsX0_payForFalseMark wsX0_isPerson := goodIn_r _ [10] (by decide +kernel) (by decide +kernel)
set_option maxRecDepth 20000 in
theorem gX0_payForFalseMark_X0_isPerson : GoodIn wsX0_payForFalseMark (va_wsS RX0 80 yX0_isPerson wsX0_isPerson) := goodIn_app (goodIn_of _ (by decide +kernel)) ggX0_payForFalseMark_X0_isPerson
theorem dX0_payForFalseMark_0 : decode cX0_payForFalseMark 0 = .ok (.iload_n 1, 1) := by decide +kernel
theorem dX0_payForFalseMark_1 : decode cX0_payForFalseMark 1 = .ok (.invokestatic 80, 3) := by decide +kernel
theorem dX0_payForFalseMark_4 : decode cX0_payForFalseMark 4 = .ok (.ifCond .eq 10, 3) := by decide +kernel
theorem dX0_payForFalseMark_7 : decode cX0_payForFalseMark 7 = .ok (.iload_n 2, 1) := by decide +kernel
theorem dX0_payForFalseMark_8 : decode cX0_payForFalseMark 8 = .ok (.invokestatic 80, 3) := by decide +kernel
theorem dX0_payForFalseMark_11 : decode cX0_payForFalseMark 11 = .ok (.ifCond .ne 5, 3) := by decide +kernel
theorem dX0_payForFalseMark_14 : decode cX0_payForFalseMark 14 = .ok (.iconst 0, 1) := by decide +kernel
theorem dX0_payForFalseMark_15 : decode cX0_payForFalseMark 15 = .ok (.ireturn, 1) := by decide +kernel
theorem dX0_payForFalseMark_16 : decode cX0_payForFalseMark 16 = .ok (.iload_n 3, 1) := by decide +kernel
theorem dX0_payForFalseMark_17 : decode cX0_payForFalseMark 17 = .ok (.aload_n 0, 1) := by decide +kernel
theorem dX0_payForFalseMark_18 : decode cX0_payForFalseMark 18 = .ok (.getfield 35, 3) := by decide +kernel
theorem dX0_payForFalseMark_21 : decode cX0_payForFalseMark 21 = .ok (.iload_n 1, 1) := by decide +kernel
theorem dX0_payForFalseMark_22 : decode cX0_payForFalseMark 22 = .ok (.iaload, 1) := by decide +kernel
theorem dX0_payForFalseMark_23 : decode cX0_payForFalseMark 23 = .ok (.invokestatic 165, 3) := by decide +kernel
theorem dX0_payForFalseMark_26 : decode cX0_payForFalseMark 26 = .ok (.istore 4, 2) := by decide +kernel
theorem dX0_payForFalseMark_28 : decode cX0_payForFalseMark 28 = .ok (.aload_n 0, 1) := by decide +kernel
theorem dX0_payForFalseMark_29 : decode cX0_payForFalseMark 29 = .ok (.getfield 38, 3) := by decide +kernel
theorem dX0_payForFalseMark_32 : decode cX0_payForFalseMark 32 = .ok (.iload_n 1, 1) := by decide +kernel
theorem dX0_payForFalseMark_33 : decode cX0_payForFalseMark 33 = .ok (.dup2, 1) := by decide +kernel
theorem dX0_payForFalseMark_34 : decode cX0_payForFalseMark 34 = .ok (.iaload, 1) := by decide +kernel
theorem dX0_payForFalseMark_35 : decode cX0_payForFalseMark 35 = .ok (.iconst 1, 1) := by decide +kernel
theorem dX0_payForFalseMark_36 : decode cX0_payForFalseMark 36 = .ok (.iadd, 1) := by decide +kernel
theorem dX0_payForFalseMark_37 : decode cX0_payForFalseMark 37 = .ok (.iastore, 1) := by decide +kernel
theorem dX0_payForFalseMark_38 : decode cX0_payForFalseMark 38 = .ok (.aload_n 0, 1) := by decide +kernel
theorem dX0_payForFalseMark_39 : decode cX0_payForFalseMark 39 = .ok (.getfield 35, 3) := by decide +kernel
theorem dX0_payForFalseMark_42 : decode cX0_payForFalseMark 42 = .ok (.iload_n 1, 1) := by decide +kernel
theorem dX0_payForFalseMark_43 : decode cX0_payForFalseMark 43 = .ok (.dup2, 1) := by decide +kernel
theorem dX0_payForFalseMark_44 : decode cX0_payForFalseMark 44 = .ok (.iaload, 1) := by decide +kernel
theorem dX0_payForFalseMark_45 : decode cX0_payForFalseMark 45 = .ok (.iload 4, 2) := by decide +kernel
theorem dX0_payForFalseMark_47 : decode cX0_payForFalseMark 47 = .ok (.isub, 1) := by decide +kernel
theorem dX0_payForFalseMark_48 : decode cX0_payForFalseMark 48 = .ok (.iastore, 1) := by decide +kernel
theorem dX0_payForFalseMark_49 : decode cX0_payForFalseMark 49 = .ok (.aload_n 0, 1) := by decide +kernel
theorem dX0_payForFalseMark_50 : decode cX0_payForFalseMark 50 = .ok (.getfield 35, 3) := by decide +kernel
theorem dX0_payForFalseMark_53 : decode cX0_payForFalseMark 53 = .ok (.iload_n 2, 1) := by decide +kernel
theorem dX0_payForFalseMark_54 : decode cX0_payForFalseMark 54 = .ok (.dup2, 1) := by decide +kernel
theorem dX0_payForFalseMark_55 : decode cX0_payForFalseMark 55 = .ok (.iaload, 1) := by decide +kernel
theorem dX0_payForFalseMark_56 : decode cX0_payForFalseMark 56 = .ok (.iload 4, 2) := by decide +kernel
theorem dX0_payForFalseMark_58 : decode cX0_payForFalseMark 58 = .ok (.iadd, 1) := by decide +kernel
theorem dX0_payForFalseMark_59 : decode cX0_payForFalseMark 59 = .ok (.iastore, 1) := by decide +kernel
theorem dX0_payForFalseMark_60 : decode cX0_payForFalseMark 60 = .ok (.iload 4, 2) := by decide +kernel
theorem dX0_payForFalseMark_62 : decode cX0_payForFalseMark 62 = .ok (.ireturn, 1) := by decide +kernel
set_option maxRecDepth 20000 in
theorem ggX0_othersWhoAnswered_J6_bitCount_0f7a4 : GoodIn wsX0_othersWhoAnswered wsJ6_bitCount_0f7a4 := goodIn_r _ [8, 9, 10, 11] (by decide +kernel) (by decide +kernel)
set_option maxRecDepth 20000 in
theorem gX0_othersWhoAnswered_J6_bitCount_0f7a4 : GoodIn wsX0_othersWhoAnswered (va_wsS RX0 170 yJ6_bitCount_0f7a4 wsJ6_bitCount_0f7a4) := goodIn_app (goodIn_of _ (by decide +kernel)) ggX0_othersWhoAnswered_J6_bitCount_0f7a4
theorem dX0_othersWhoAnswered_0 : decode cX0_othersWhoAnswered 0 = .ok (.iconst 0, 1) := by decide +kernel
theorem dX0_othersWhoAnswered_1 : decode cX0_othersWhoAnswered 1 = .ok (.istore_n 3, 1) := by decide +kernel
theorem dX0_othersWhoAnswered_2 : decode cX0_othersWhoAnswered 2 = .ok (.iconst 0, 1) := by decide +kernel
theorem dX0_othersWhoAnswered_3 : decode cX0_othersWhoAnswered 3 = .ok (.istore 4, 2) := by decide +kernel
theorem dX0_othersWhoAnswered_5 : decode cX0_othersWhoAnswered 5 = .ok (.iload 4, 2) := by decide +kernel
theorem dX0_othersWhoAnswered_7 : decode cX0_othersWhoAnswered 7 = .ok (.aload_n 0, 1) := by decide +kernel
theorem dX0_othersWhoAnswered_8 : decode cX0_othersWhoAnswered 8 = .ok (.getfield 47, 3) := by decide +kernel
theorem dX0_othersWhoAnswered_11 : decode cX0_othersWhoAnswered 11 = .ok (.if_icmp .ge 54, 3) := by decide +kernel
theorem dX0_othersWhoAnswered_14 : decode cX0_othersWhoAnswered 14 = .ok (.aload_n 0, 1) := by decide +kernel
theorem dX0_othersWhoAnswered_15 : decode cX0_othersWhoAnswered 15 = .ok (.getfield 19, 3) := by decide +kernel
theorem dX0_othersWhoAnswered_18 : decode cX0_othersWhoAnswered 18 = .ok (.iload 4, 2) := by decide +kernel
theorem dX0_othersWhoAnswered_20 : decode cX0_othersWhoAnswered 20 = .ok (.iaload, 1) := by decide +kernel
theorem dX0_othersWhoAnswered_21 : decode cX0_othersWhoAnswered 21 = .ok (.iconst 2, 1) := by decide +kernel
theorem dX0_othersWhoAnswered_22 : decode cX0_othersWhoAnswered 22 = .ok (.if_icmp .ne 37, 3) := by decide +kernel
theorem dX0_othersWhoAnswered_25 : decode cX0_othersWhoAnswered 25 = .ok (.aload_n 0, 1) := by decide +kernel
theorem dX0_othersWhoAnswered_26 : decode cX0_othersWhoAnswered 26 = .ok (.getfield 9, 3) := by decide +kernel
theorem dX0_othersWhoAnswered_29 : decode cX0_othersWhoAnswered 29 = .ok (.iload 4, 2) := by decide +kernel
theorem dX0_othersWhoAnswered_31 : decode cX0_othersWhoAnswered 31 = .ok (.iaload, 1) := by decide +kernel
theorem dX0_othersWhoAnswered_32 : decode cX0_othersWhoAnswered 32 = .ok (.iload_n 1, 1) := by decide +kernel
theorem dX0_othersWhoAnswered_33 : decode cX0_othersWhoAnswered 33 = .ok (.if_icmp .ne 26, 3) := by decide +kernel
theorem dX0_othersWhoAnswered_36 : decode cX0_othersWhoAnswered 36 = .ok (.aload_n 0, 1) := by decide +kernel
theorem dX0_othersWhoAnswered_37 : decode cX0_othersWhoAnswered 37 = .ok (.getfield 13, 3) := by decide +kernel
theorem dX0_othersWhoAnswered_40 : decode cX0_othersWhoAnswered 40 = .ok (.iload 4, 2) := by decide +kernel
theorem dX0_othersWhoAnswered_42 : decode cX0_othersWhoAnswered 42 = .ok (.iaload, 1) := by decide +kernel
theorem dX0_othersWhoAnswered_43 : decode cX0_othersWhoAnswered 43 = .ok (.iload_n 2, 1) := by decide +kernel
theorem dX0_othersWhoAnswered_44 : decode cX0_othersWhoAnswered 44 = .ok (.if_icmp .eq 15, 3) := by decide +kernel
theorem dX0_othersWhoAnswered_47 : decode cX0_othersWhoAnswered 47 = .ok (.iload_n 3, 1) := by decide +kernel
theorem dX0_othersWhoAnswered_48 : decode cX0_othersWhoAnswered 48 = .ok (.iconst 1, 1) := by decide +kernel
theorem dX0_othersWhoAnswered_49 : decode cX0_othersWhoAnswered 49 = .ok (.aload_n 0, 1) := by decide +kernel
theorem dX0_othersWhoAnswered_50 : decode cX0_othersWhoAnswered 50 = .ok (.getfield 13, 3) := by decide +kernel
theorem dX0_othersWhoAnswered_53 : decode cX0_othersWhoAnswered 53 = .ok (.iload 4, 2) := by decide +kernel
theorem dX0_othersWhoAnswered_55 : decode cX0_othersWhoAnswered 55 = .ok (.iaload, 1) := by decide +kernel
theorem dX0_othersWhoAnswered_56 : decode cX0_othersWhoAnswered 56 = .ok (.ishl, 1) := by decide +kernel
theorem dX0_othersWhoAnswered_57 : decode cX0_othersWhoAnswered 57 = .ok (.ior, 1) := by decide +kernel
theorem dX0_othersWhoAnswered_58 : decode cX0_othersWhoAnswered 58 = .ok (.istore_n 3, 1) := by decide +kernel
theorem dX0_othersWhoAnswered_59 : decode cX0_othersWhoAnswered 59 = .ok (.iinc 4 1, 3) := by decide +kernel
theorem dX0_othersWhoAnswered_62 : decode cX0_othersWhoAnswered 62 = .ok (.goto (-57), 3) := by decide +kernel
theorem dX0_othersWhoAnswered_65 : decode cX0_othersWhoAnswered 65 = .ok (.iload_n 3, 1) := by decide +kernel
theorem dX0_othersWhoAnswered_66 : decode cX0_othersWhoAnswered 66 = .ok (.invokestatic 170, 3) := by decide +kernel
theorem dX0_othersWhoAnswered_69 : decode cX0_othersWhoAnswered 69 = .ok (.ireturn, 1) := by decide +kernel
set_option maxRecDepth 20000 in
theorem ggX0_opinionIn_X0_isLetter : GoodIn wsX0_opinionIn wsX0_isLetter := goodIn_r _ [8, 9, 22, 23, 24, 25, 26, 27, 28, 29, 30, 31, 32, 33, 34, 35, 36, 37] (by decide +kernel) (by decide +kernel)
set_option maxRecDepth 20000 in
theorem gX0_opinionIn_X0_isLetter : GoodIn wsX0_opinionIn (wsV RX0 112 RX0 yX0_isLetter wsX0_isLetter) := goodIn_app (goodIn_of _ (by decide +kernel)) ggX0_opinionIn_X0_isLetter
set_option maxRecDepth 20000 in
theorem ggX0_opinionIn_X0_weightOf : GoodIn wsX0_opinionIn wsX0_weightOf := goodIn_r _ [13, 14, 15, 16, 17, 18, 19, 20, 7, 21, 22, 23, 24, 25, 26, 27, 28, 29, 30, 31, 32, 33, 34, 35, 36, 37] (by decide +kernel) (by decide +kernel)
set_option maxRecDepth 20000 in
theorem gX0_opinionIn_X0_weightOf : GoodIn wsX0_opinionIn (wsV RX0 175 RX0 yX0_weightOf wsX0_weightOf) := goodIn_app (goodIn_of _ (by decide +kernel)) ggX0_opinionIn_X0_weightOf
theorem dX0_opinionIn_0 : decode cX0_opinionIn 0 = .ok (.aload_n 0, 1) := by decide +kernel
theorem dX0_opinionIn_1 : decode cX0_opinionIn 1 = .ok (.iload_n 1, 1) := by decide +kernel
theorem dX0_opinionIn_2 : decode cX0_opinionIn 2 = .ok (.invokevirtual 112, 3) := by decide +kernel
theorem dX0_opinionIn_5 : decode cX0_opinionIn 5 = .ok (.ifCond .ne 5, 3) := by decide +kernel
theorem dX0_opinionIn_8 : decode cX0_opinionIn 8 = .ok (.iconst 0, 1) := by decide +kernel
theorem dX0_opinionIn_9 : decode cX0_opinionIn 9 = .ok (.ireturn, 1) := by decide +kernel
theorem dX0_opinionIn_10 : decode cX0_opinionIn 10 = .ok (.aload_n 0, 1) := by decide +kernel
theorem dX0_opinionIn_11 : decode cX0_opinionIn 11 = .ok (.getfield 19, 3) := by decide +kernel
theorem dX0_opinionIn_14 : decode cX0_opinionIn 14 = .ok (.iload_n 1, 1) := by decide +kernel
theorem dX0_opinionIn_15 : decode cX0_opinionIn 15 = .ok (.iaload, 1) := by decide +kernel
theorem dX0_opinionIn_16 : decode cX0_opinionIn 16 = .ok (.iconst 2, 1) := by decide +kernel
theorem dX0_opinionIn_17 : decode cX0_opinionIn 17 = .ok (.if_icmp .ne 16, 3) := by decide +kernel
theorem dX0_opinionIn_20 : decode cX0_opinionIn 20 = .ok (.iconst 2, 1) := by decide +kernel
theorem dX0_opinionIn_21 : decode cX0_opinionIn 21 = .ok (.aload_n 0, 1) := by decide +kernel
theorem dX0_opinionIn_22 : decode cX0_opinionIn 22 = .ok (.aload_n 0, 1) := by decide +kernel
theorem dX0_opinionIn_23 : decode cX0_opinionIn 23 = .ok (.getfield 13, 3) := by decide +kernel
theorem dX0_opinionIn_26 : decode cX0_opinionIn 26 = .ok (.iload_n 1, 1) := by decide +kernel
theorem dX0_opinionIn_27 : decode cX0_opinionIn 27 = .ok (.iaload, 1) := by decide +kernel
theorem dX0_opinionIn_28 : decode cX0_opinionIn 28 = .ok (.invokevirtual 175, 3) := by decide +kernel
theorem dX0_opinionIn_31 : decode cX0_opinionIn 31 = .ok (.imul, 1) := by decide +kernel
theorem dX0_opinionIn_32 : decode cX0_opinionIn 32 = .ok (.ireturn, 1) := by decide +kernel
theorem dX0_opinionIn_33 : decode cX0_opinionIn 33 = .ok (.aload_n 0, 1) := by decide +kernel
theorem dX0_opinionIn_34 : decode cX0_opinionIn 34 = .ok (.getfield 19, 3) := by decide +kernel
theorem dX0_opinionIn_37 : decode cX0_opinionIn 37 = .ok (.iload_n 1, 1) := by decide +kernel
theorem dX0_opinionIn_38 : decode cX0_opinionIn 38 = .ok (.iaload, 1) := by decide +kernel
theorem dX0_opinionIn_39 : decode cX0_opinionIn 39 = .ok (.iconst 3, 1) := by decide +kernel
theorem dX0_opinionIn_40 : decode cX0_opinionIn 40 = .ok (.if_icmp .ne 26, 3) := by decide +kernel
theorem dX0_opinionIn_43 : decode cX0_opinionIn 43 = .ok (.aload_n 0, 1) := by decide +kernel
theorem dX0_opinionIn_44 : decode cX0_opinionIn 44 = .ok (.getfield 31, 3) := by decide +kernel
theorem dX0_opinionIn_47 : decode cX0_opinionIn 47 = .ok (.iload_n 1, 1) := by decide +kernel
theorem dX0_opinionIn_48 : decode cX0_opinionIn 48 = .ok (.baload, 1) := by decide +kernel
theorem dX0_opinionIn_49 : decode cX0_opinionIn 49 = .ok (.ifCond .ne 17, 3) := by decide +kernel
theorem dX0_opinionIn_52 : decode cX0_opinionIn 52 = .ok (.bipush (-3), 2) := by decide +kernel
theorem dX0_opinionIn_54 : decode cX0_opinionIn 54 = .ok (.aload_n 0, 1) := by decide +kernel
theorem dX0_opinionIn_55 : decode cX0_opinionIn 55 = .ok (.aload_n 0, 1) := by decide +kernel
theorem dX0_opinionIn_56 : decode cX0_opinionIn 56 = .ok (.getfield 13, 3) := by decide +kernel
theorem dX0_opinionIn_59 : decode cX0_opinionIn 59 = .ok (.iload_n 1, 1) := by decide +kernel
theorem dX0_opinionIn_60 : decode cX0_opinionIn 60 = .ok (.iaload, 1) := by decide +kernel
theorem dX0_opinionIn_61 : decode cX0_opinionIn 61 = .ok (.invokevirtual 175, 3) := by decide +kernel
theorem dX0_opinionIn_64 : decode cX0_opinionIn 64 = .ok (.imul, 1) := by decide +kernel
theorem dX0_opinionIn_65 : decode cX0_opinionIn 65 = .ok (.ireturn, 1) := by decide +kernel
theorem dX0_opinionIn_66 : decode cX0_opinionIn 66 = .ok (.iconst 0, 1) := by decide +kernel
theorem dX0_opinionIn_67 : decode cX0_opinionIn 67 = .ok (.ireturn, 1) := by decide +kernel
set_option maxRecDepth 20000 in
theorem ggX0_weightOf_X0_isPerson : GoodIn wsX0_weightOf wsX0_isPerson := goodIn_r _ [9] (by decide +kernel) (by decide +kernel)
set_option maxRecDepth 20000 in
theorem gX0_weightOf_X0_isPerson : GoodIn wsX0_weightOf (va_wsS RX0 80 yX0_isPerson wsX0_isPerson) := goodIn_app (goodIn_of _ (by decide +kernel)) ggX0_weightOf_X0_isPerson
theorem dX0_weightOf_0 : decode cX0_weightOf 0 = .ok (.iload_n 1, 1) := by decide +kernel
theorem dX0_weightOf_1 : decode cX0_weightOf 1 = .ok (.invokestatic 80, 3) := by decide +kernel
theorem dX0_weightOf_4 : decode cX0_weightOf 4 = .ok (.ifCond .ne 5, 3) := by decide +kernel
theorem dX0_weightOf_7 : decode cX0_weightOf 7 = .ok (.iconst 1, 1) := by decide +kernel
theorem dX0_weightOf_8 : decode cX0_weightOf 8 = .ok (.ireturn, 1) := by decide +kernel
theorem dX0_weightOf_9 : decode cX0_weightOf 9 = .ok (.iconst 5, 1) := by decide +kernel
theorem dX0_weightOf_10 : decode cX0_weightOf 10 = .ok (.aload_n 0, 1) := by decide +kernel
theorem dX0_weightOf_11 : decode cX0_weightOf 11 = .ok (.getfield 38, 3) := by decide +kernel
theorem dX0_weightOf_14 : decode cX0_weightOf 14 = .ok (.iload_n 1, 1) := by decide +kernel
theorem dX0_weightOf_15 : decode cX0_weightOf 15 = .ok (.iaload, 1) := by decide +kernel
theorem dX0_weightOf_16 : decode cX0_weightOf 16 = .ok (.isub, 1) := by decide +kernel
theorem dX0_weightOf_17 : decode cX0_weightOf 17 = .ok (.iconst 1, 1) := by decide +kernel
theorem dX0_weightOf_18 : decode cX0_weightOf 18 = .ok (.invokestatic 178, 3) := by decide +kernel
theorem dX0_weightOf_21 : decode cX0_weightOf 21 = .ok (.ireturn, 1) := by decide +kernel
set_option maxRecDepth 20000 in
theorem ggX0_reputationOf_X0_opinionIn : GoodIn wsX0_reputationOf wsX0_opinionIn := goodIn_r _ [7, 8, 9, 10, 11, 12, 13, 6, 14, 1, 15, 16, 17, 18, 19, 20, 21, 22, 23, 24, 25, 26, 27, 28, 29, 30, 31, 32, 33, 34, 35, 36, 37, 38, 39, 40, 41, 42] (by decide +kernel) (by decide +kernel)
set_option maxRecDepth 20000 in
theorem gX0_reputationOf_X0_opinionIn : GoodIn wsX0_reputationOf (wsV RX0 181 RX0 yX0_opinionIn wsX0_opinionIn) := goodIn_app (goodIn_of _ (by decide +kernel)) ggX0_reputationOf_X0_opinionIn
theorem dX0_reputationOf_0 : decode cX0_reputationOf 0 = .ok (.iconst 0, 1) := by decide +kernel
theorem dX0_reputationOf_1 : decode cX0_reputationOf 1 = .ok (.istore_n 2, 1) := by decide +kernel
theorem dX0_reputationOf_2 : decode cX0_reputationOf 2 = .ok (.iconst 0, 1) := by decide +kernel
theorem dX0_reputationOf_3 : decode cX0_reputationOf 3 = .ok (.istore_n 3, 1) := by decide +kernel
theorem dX0_reputationOf_4 : decode cX0_reputationOf 4 = .ok (.iload_n 3, 1) := by decide +kernel
theorem dX0_reputationOf_5 : decode cX0_reputationOf 5 = .ok (.aload_n 0, 1) := by decide +kernel
theorem dX0_reputationOf_6 : decode cX0_reputationOf 6 = .ok (.getfield 47, 3) := by decide +kernel
theorem dX0_reputationOf_9 : decode cX0_reputationOf 9 = .ok (.if_icmp .ge 27, 3) := by decide +kernel
theorem dX0_reputationOf_12 : decode cX0_reputationOf 12 = .ok (.aload_n 0, 1) := by decide +kernel
theorem dX0_reputationOf_13 : decode cX0_reputationOf 13 = .ok (.getfield 9, 3) := by decide +kernel
theorem dX0_reputationOf_16 : decode cX0_reputationOf 16 = .ok (.iload_n 3, 1) := by decide +kernel
theorem dX0_reputationOf_17 : decode cX0_reputationOf 17 = .ok (.iaload, 1) := by decide +kernel
theorem dX0_reputationOf_18 : decode cX0_reputationOf 18 = .ok (.iload_n 1, 1) := by decide +kernel
theorem dX0_reputationOf_19 : decode cX0_reputationOf 19 = .ok (.if_icmp .ne 11, 3) := by decide +kernel
theorem dX0_reputationOf_22 : decode cX0_reputationOf 22 = .ok (.iload_n 2, 1) := by decide +kernel
theorem dX0_reputationOf_23 : decode cX0_reputationOf 23 = .ok (.aload_n 0, 1) := by decide +kernel
theorem dX0_reputationOf_24 : decode cX0_reputationOf 24 = .ok (.iload_n 3, 1) := by decide +kernel
theorem dX0_reputationOf_25 : decode cX0_reputationOf 25 = .ok (.invokevirtual 181, 3) := by decide +kernel
theorem dX0_reputationOf_28 : decode cX0_reputationOf 28 = .ok (.iadd, 1) := by decide +kernel
theorem dX0_reputationOf_29 : decode cX0_reputationOf 29 = .ok (.istore_n 2, 1) := by decide +kernel
theorem dX0_reputationOf_30 : decode cX0_reputationOf 30 = .ok (.iinc 3 1, 3) := by decide +kernel
theorem dX0_reputationOf_33 : decode cX0_reputationOf 33 = .ok (.goto (-29), 3) := by decide +kernel
theorem dX0_reputationOf_36 : decode cX0_reputationOf 36 = .ok (.iload_n 2, 1) := by decide +kernel
theorem dX0_reputationOf_37 : decode cX0_reputationOf 37 = .ok (.ireturn, 1) := by decide +kernel
set_option maxRecDepth 20000 in
theorem ggX0_findAllReputations_X0_isPerson : GoodIn wsX0_findAllReputations wsX0_isPerson := goodIn_r _ [7] (by decide +kernel) (by decide +kernel)
set_option maxRecDepth 20000 in
theorem gX0_findAllReputations_X0_isPerson : GoodIn wsX0_findAllReputations (va_wsS RX0 80 yX0_isPerson wsX0_isPerson) := goodIn_app (goodIn_of _ (by decide +kernel)) ggX0_findAllReputations_X0_isPerson
set_option maxRecDepth 20000 in
theorem ggX0_findAllReputations_X0_opinionIn : GoodIn wsX0_findAllReputations wsX0_opinionIn := goodIn_r _ [11, 12, 13, 14, 15, 16, 17, 6, 18, 2, 19, 20, 21, 22, 23, 24, 25, 26, 27, 4, 5, 7, 28, 29, 30, 31, 32, 33, 34, 35, 36, 37, 38, 39, 40, 41, 42, 43] (by decide +kernel) (by decide +kernel)
set_option maxRecDepth 20000 in
theorem gX0_findAllReputations_X0_opinionIn : GoodIn wsX0_findAllReputations (wsV RX0 181 RX0 yX0_opinionIn wsX0_opinionIn) := goodIn_app (goodIn_of _ (by decide +kernel)) ggX0_findAllReputations_X0_opinionIn
theorem dX0_findAllReputations_0 : decode cX0_findAllReputations 0 = .ok (.iconst 0, 1) := by decide +kernel
theorem dX0_findAllReputations_1 : decode cX0_findAllReputations 1 = .ok (.istore_n 1, 1) := by decide +kernel
theorem dX0_findAllReputations_2 : decode cX0_findAllReputations 2 = .ok (.iload_n 1, 1) := by decide +kernel
theorem dX0_findAllReputations_3 : decode cX0_findAllReputations 3 = .ok (.bipush 8, 2) := by decide +kernel
theorem dX0_findAllReputations_5 : decode cX0_findAllReputations 5 = .ok (.if_icmp .ge 16, 3) := by decide +kernel
theorem dX0_findAllReputations_8 : decode cX0_findAllReputations 8 = .ok (.aload_n 0, 1) := by decide +kernel
theorem dX0_findAllReputations_9 : decode cX0_findAllReputations 9 = .ok (.getfield 57, 3) := by decide +kernel
theorem dX0_findAllReputations_12 : decode cX0_findAllReputations 12 = .ok (.iload_n 1, 1) := by decide +kernel
theorem dX0_findAllReputations_13 : decode cX0_findAllReputations 13 = .ok (.iconst 0, 1) := by decide +kernel
theorem dX0_findAllReputations_14 : decode cX0_findAllReputations 14 = .ok (.iastore, 1) := by decide +kernel
theorem dX0_findAllReputations_15 : decode cX0_findAllReputations 15 = .ok (.iinc 1 1, 3) := by decide +kernel
theorem dX0_findAllReputations_18 : decode cX0_findAllReputations 18 = .ok (.goto (-16), 3) := by decide +kernel
theorem dX0_findAllReputations_21 : decode cX0_findAllReputations 21 = .ok (.iconst 0, 1) := by decide +kernel
theorem dX0_findAllReputations_22 : decode cX0_findAllReputations 22 = .ok (.istore_n 1, 1) := by decide +kernel
theorem dX0_findAllReputations_23 : decode cX0_findAllReputations 23 = .ok (.iload_n 1, 1) := by decide +kernel
theorem dX0_findAllReputations_24 : decode cX0_findAllReputations 24 = .ok (.aload_n 0, 1) := by decide +kernel
theorem dX0_findAllReputations_25 : decode cX0_findAllReputations 25 = .ok (.getfield 47, 3) := by decide +kernel
theorem dX0_findAllReputations_28 : decode cX0_findAllReputations 28 = .ok (.if_icmp .ge 40, 3) := by decide +kernel
theorem dX0_findAllReputations_31 : decode cX0_findAllReputations 31 = .ok (.aload_n 0, 1) := by decide +kernel
theorem dX0_findAllReputations_32 : decode cX0_findAllReputations 32 = .ok (.getfield 9, 3) := by decide +kernel
theorem dX0_findAllReputations_35 : decode cX0_findAllReputations 35 = .ok (.iload_n 1, 1) := by decide +kernel
theorem dX0_findAllReputations_36 : decode cX0_findAllReputations 36 = .ok (.iaload, 1) := by decide +kernel
theorem dX0_findAllReputations_37 : decode cX0_findAllReputations 37 = .ok (.invokestatic 80, 3) := by decide +kernel
theorem dX0_findAllReputations_40 : decode cX0_findAllReputations 40 = .ok (.ifCond .eq 22, 3) := by decide +kernel
theorem dX0_findAllReputations_43 : decode cX0_findAllReputations 43 = .ok (.aload_n 0, 1) := by decide +kernel
theorem dX0_findAllReputations_44 : decode cX0_findAllReputations 44 = .ok (.getfield 57, 3) := by decide +kernel
theorem dX0_findAllReputations_47 : decode cX0_findAllReputations 47 = .ok (.aload_n 0, 1) := by decide +kernel
theorem dX0_findAllReputations_48 : decode cX0_findAllReputations 48 = .ok (.getfield 9, 3) := by decide +kernel
theorem dX0_findAllReputations_51 : decode cX0_findAllReputations 51 = .ok (.iload_n 1, 1) := by decide +kernel
theorem dX0_findAllReputations_52 : decode cX0_findAllReputations 52 = .ok (.iaload, 1) := by decide +kernel
theorem dX0_findAllReputations_53 : decode cX0_findAllReputations 53 = .ok (.dup2, 1) := by decide +kernel
theorem dX0_findAllReputations_54 : decode cX0_findAllReputations 54 = .ok (.iaload, 1) := by decide +kernel
theorem dX0_findAllReputations_55 : decode cX0_findAllReputations 55 = .ok (.aload_n 0, 1) := by decide +kernel
theorem dX0_findAllReputations_56 : decode cX0_findAllReputations 56 = .ok (.iload_n 1, 1) := by decide +kernel
theorem dX0_findAllReputations_57 : decode cX0_findAllReputations 57 = .ok (.invokevirtual 181, 3) := by decide +kernel
theorem dX0_findAllReputations_60 : decode cX0_findAllReputations 60 = .ok (.iadd, 1) := by decide +kernel
theorem dX0_findAllReputations_61 : decode cX0_findAllReputations 61 = .ok (.iastore, 1) := by decide +kernel
theorem dX0_findAllReputations_62 : decode cX0_findAllReputations 62 = .ok (.iinc 1 1, 3) := by decide +kernel
theorem dX0_findAllReputations_65 : decode cX0_findAllReputations 65 = .ok (.goto (-42), 3) := by decide +kernel
theorem dX0_findAllReputations_68 : decode cX0_findAllReputations 68 = .ok (.return_, 1) := by decide +kernel
set_option maxRecDepth 20000 in
theorem ggX0_lowestStakeOf_X0_reputationOf : GoodIn wsX0_lowestStakeOf wsX0_reputationOf := goodIn_r _ [12, 13, 14, 15, 16, 17, 11, 18, 19, 20, 21, 22, 23, 24, 25, 26, 27, 28, 29, 30, 5, 6, 3, 7, 31, 32, 33, 34, 35, 36, 37, 38, 39, 40, 41, 42, 43, 44, 45, 46, 47, 48, 49] (by decide +kernel) (by decide +kernel)
set_option maxRecDepth 20000 in
theorem gX0_lowestStakeOf_X0_reputationOf : GoodIn wsX0_lowestStakeOf (wsV RX0 123 RX0 yX0_reputationOf wsX0_reputationOf) := goodIn_app (goodIn_of _ (by decide +kernel)) ggX0_lowestStakeOf_X0_reputationOf
theorem dX0_lowestStakeOf_0 : decode cX0_lowestStakeOf 0 = .ok (.iconst 0, 1) := by decide +kernel
theorem dX0_lowestStakeOf_1 : decode cX0_lowestStakeOf 1 = .ok (.bipush 20, 2) := by decide +kernel
theorem dX0_lowestStakeOf_3 : decode cX0_lowestStakeOf 3 = .ok (.bipush 10, 2) := by decide +kernel
theorem dX0_lowestStakeOf_5 : decode cX0_lowestStakeOf 5 = .ok (.aload_n 0, 1) := by decide +kernel
theorem dX0_lowestStakeOf_6 : decode cX0_lowestStakeOf 6 = .ok (.iload_n 1, 1) := by decide +kernel
theorem dX0_lowestStakeOf_7 : decode cX0_lowestStakeOf 7 = .ok (.invokevirtual 123, 3) := by decide +kernel
theorem dX0_lowestStakeOf_10 : decode cX0_lowestStakeOf 10 = .ok (.isub, 1) := by decide +kernel
theorem dX0_lowestStakeOf_11 : decode cX0_lowestStakeOf 11 = .ok (.invokestatic 165, 3) := by decide +kernel
theorem dX0_lowestStakeOf_14 : decode cX0_lowestStakeOf 14 = .ok (.invokestatic 178, 3) := by decide +kernel
theorem dX0_lowestStakeOf_17 : decode cX0_lowestStakeOf 17 = .ok (.ireturn, 1) := by decide +kernel
end
section
theorem dX1_init_0 : decode cX1_init 0 = .ok (.aload_n 0, 1) := by decide +kernel
theorem dX1_init_1 : decode cX1_init 1 = .ok (.invokespecial 1, 3) := by decide +kernel
theorem dX1_init_4 : decode cX1_init 4 = .ok (.aload_n 0, 1) := by decide +kernel
theorem dX1_init_5 : decode cX1_init 5 = .ok (.bipush 16, 2) := by decide +kernel
theorem dX1_init_7 : decode cX1_init 7 = .ok (.newarray .int, 2) := by decide +kernel
theorem dX1_init_9 : decode cX1_init 9 = .ok (.putfield 7, 3) := by decide +kernel
theorem dX1_init_12 : decode cX1_init 12 = .ok (.aload_n 0, 1) := by decide +kernel
theorem dX1_init_13 : decode cX1_init 13 = .ok (.bipush 8, 2) := by decide +kernel
theorem dX1_init_15 : decode cX1_init 15 = .ok (.newarray .int, 2) := by decide +kernel
theorem dX1_init_17 : decode cX1_init 17 = .ok (.putfield 13, 3) := by decide +kernel
theorem dX1_init_20 : decode cX1_init 20 = .ok (.aload_n 0, 1) := by decide +kernel
theorem dX1_init_21 : decode cX1_init 21 = .ok (.iconst 4, 1) := by decide +kernel
theorem dX1_init_22 : decode cX1_init 22 = .ok (.newarray .int, 2) := by decide +kernel
theorem dX1_init_24 : decode cX1_init 24 = .ok (.putfield 16, 3) := by decide +kernel
theorem dX1_init_27 : decode cX1_init 27 = .ok (.aload_n 0, 1) := by decide +kernel
theorem dX1_init_28 : decode cX1_init 28 = .ok (.bipush 8, 2) := by decide +kernel
theorem dX1_init_30 : decode cX1_init 30 = .ok (.newarray .int, 2) := by decide +kernel
theorem dX1_init_32 : decode cX1_init 32 = .ok (.putfield 19, 3) := by decide +kernel
theorem dX1_init_35 : decode cX1_init 35 = .ok (.aload_n 0, 1) := by decide +kernel
theorem dX1_init_36 : decode cX1_init 36 = .ok (.bipush 60, 2) := by decide +kernel
theorem dX1_init_38 : decode cX1_init 38 = .ok (.newarray .int, 2) := by decide +kernel
theorem dX1_init_40 : decode cX1_init 40 = .ok (.putfield 22, 3) := by decide +kernel
theorem dX1_init_43 : decode cX1_init 43 = .ok (.aload_n 0, 1) := by decide +kernel
theorem dX1_init_44 : decode cX1_init 44 = .ok (.bipush 60, 2) := by decide +kernel
theorem dX1_init_46 : decode cX1_init 46 = .ok (.newarray .int, 2) := by decide +kernel
theorem dX1_init_48 : decode cX1_init 48 = .ok (.putfield 25, 3) := by decide +kernel
theorem dX1_init_51 : decode cX1_init 51 = .ok (.aload_n 0, 1) := by decide +kernel
theorem dX1_init_52 : decode cX1_init 52 = .ok (.bipush 60, 2) := by decide +kernel
theorem dX1_init_54 : decode cX1_init 54 = .ok (.newarray .int, 2) := by decide +kernel
theorem dX1_init_56 : decode cX1_init 56 = .ok (.putfield 28, 3) := by decide +kernel
theorem dX1_init_59 : decode cX1_init 59 = .ok (.aload_n 0, 1) := by decide +kernel
theorem dX1_init_60 : decode cX1_init 60 = .ok (.bipush 60, 2) := by decide +kernel
theorem dX1_init_62 : decode cX1_init 62 = .ok (.newarray .int, 2) := by decide +kernel
theorem dX1_init_64 : decode cX1_init 64 = .ok (.putfield 31, 3) := by decide +kernel
theorem dX1_init_67 : decode cX1_init 67 = .ok (.aload_n 0, 1) := by decide +kernel
theorem dX1_init_68 : decode cX1_init 68 = .ok (.bipush 60, 2) := by decide +kernel
theorem dX1_init_70 : decode cX1_init 70 = .ok (.newarray .int, 2) := by decide +kernel
theorem dX1_init_72 : decode cX1_init 72 = .ok (.putfield 34, 3) := by decide +kernel
theorem dX1_init_75 : decode cX1_init 75 = .ok (.aload_n 0, 1) := by decide +kernel
theorem dX1_init_76 : decode cX1_init 76 = .ok (.bipush 60, 2) := by decide +kernel
theorem dX1_init_78 : decode cX1_init 78 = .ok (.newarray .int, 2) := by decide +kernel
theorem dX1_init_80 : decode cX1_init 80 = .ok (.putfield 37, 3) := by decide +kernel
theorem dX1_init_83 : decode cX1_init 83 = .ok (.aload_n 0, 1) := by decide +kernel
theorem dX1_init_84 : decode cX1_init 84 = .ok (.bipush 60, 2) := by decide +kernel
theorem dX1_init_86 : decode cX1_init 86 = .ok (.newarray .int, 2) := by decide +kernel
theorem dX1_init_88 : decode cX1_init 88 = .ok (.putfield 40, 3) := by decide +kernel
theorem dX1_init_91 : decode cX1_init 91 = .ok (.aload_n 0, 1) := by decide +kernel
theorem dX1_init_92 : decode cX1_init 92 = .ok (.bipush 60, 2) := by decide +kernel
theorem dX1_init_94 : decode cX1_init 94 = .ok (.newarray .boolean, 2) := by decide +kernel
theorem dX1_init_96 : decode cX1_init 96 = .ok (.putfield 43, 3) := by decide +kernel
theorem dX1_init_99 : decode cX1_init 99 = .ok (.aload_n 0, 1) := by decide +kernel
theorem dX1_init_100 : decode cX1_init 100 = .ok (.bipush 60, 2) := by decide +kernel
theorem dX1_init_102 : decode cX1_init 102 = .ok (.newarray .boolean, 2) := by decide +kernel
theorem dX1_init_104 : decode cX1_init 104 = .ok (.putfield 47, 3) := by decide +kernel
theorem dX1_init_107 : decode cX1_init 107 = .ok (.iconst 0, 1) := by decide +kernel
theorem dX1_init_108 : decode cX1_init 108 = .ok (.istore_n 1, 1) := by decide +kernel
theorem dX1_init_109 : decode cX1_init 109 = .ok (.iload_n 1, 1) := by decide +kernel
theorem dX1_init_110 : decode cX1_init 110 = .ok (.bipush 16, 2) := by decide +kernel
theorem dX1_init_112 : decode cX1_init 112 = .ok (.if_icmp .ge 18, 3) := by decide +kernel
theorem dX1_init_115 : decode cX1_init 115 = .ok (.aload_n 0, 1) := by decide +kernel
theorem dX1_init_116 : decode cX1_init 116 = .ok (.getfield 7, 3) := by decide +kernel
theorem dX1_init_119 : decode cX1_init 119 = .ok (.iload_n 1, 1) := by decide +kernel
theorem dX1_init_120 : decode cX1_init 120 = .ok (.iload_n 1, 1) := by decide +kernel
theorem dX1_init_121 : decode cX1_init 121 = .ok (.iconst 4, 1) := by decide +kernel
theorem dX1_init_122 : decode cX1_init 122 = .ok (.irem, 1) := by decide +kernel
theorem dX1_init_123 : decode cX1_init 123 = .ok (.iastore, 1) := by decide +kernel
theorem dX1_init_124 : decode cX1_init 124 = .ok (.iinc 1 1, 3) := by decide +kernel
theorem dX1_init_127 : decode cX1_init 127 = .ok (.goto (-18), 3) := by decide +kernel
theorem dX1_init_130 : decode cX1_init 130 = .ok (.iconst 0, 1) := by decide +kernel
theorem dX1_init_131 : decode cX1_init 131 = .ok (.istore_n 1, 1) := by decide +kernel
theorem dX1_init_132 : decode cX1_init 132 = .ok (.iload_n 1, 1) := by decide +kernel
theorem dX1_init_133 : decode cX1_init 133 = .ok (.bipush 8, 2) := by decide +kernel
theorem dX1_init_135 : decode cX1_init 135 = .ok (.if_icmp .ge 17, 3) := by decide +kernel
theorem dX1_init_138 : decode cX1_init 138 = .ok (.aload_n 0, 1) := by decide +kernel
theorem dX1_init_139 : decode cX1_init 139 = .ok (.getfield 13, 3) := by decide +kernel
theorem dX1_init_142 : decode cX1_init 142 = .ok (.iload_n 1, 1) := by decide +kernel
theorem dX1_init_143 : decode cX1_init 143 = .ok (.bipush 100, 2) := by decide +kernel
theorem dX1_init_145 : decode cX1_init 145 = .ok (.iastore, 1) := by decide +kernel
theorem dX1_init_146 : decode cX1_init 146 = .ok (.iinc 1 1, 3) := by decide +kernel
theorem dX1_init_149 : decode cX1_init 149 = .ok (.goto (-17), 3) := by decide +kernel
theorem dX1_init_152 : decode cX1_init 152 = .ok (.return_, 1) := by decide +kernel
theorem dX1_thrown_0 : decode cX1_thrown 0 = .ok (.aload_n 0, 1) := by decide +kernel
theorem dX1_thrown_1 : decode cX1_thrown 1 = .ok (.getfield 50, 3) := by decide +kernel
theorem dX1_thrown_4 : decode cX1_thrown 4 = .ok (.ireturn, 1) := by decide +kernel
theorem dX1_can_0 : decode cX1_can 0 = .ok (.aload_n 0, 1) := by decide +kernel
theorem dX1_can_1 : decode cX1_can 1 = .ok (.iload_n 1, 1) := by decide +kernel
theorem dX1_can_2 : decode cX1_can 2 = .ok (.putfield 50, 3) := by decide +kernel
theorem dX1_can_5 : decode cX1_can 5 = .ok (.iload_n 1, 1) := by decide +kernel
theorem dX1_can_6 : decode cX1_can 6 = .ok (.ifCond .ne 7, 3) := by decide +kernel
theorem dX1_can_9 : decode cX1_can 9 = .ok (.iconst 1, 1) := by decide +kernel
theorem dX1_can_10 : decode cX1_can 10 = .ok (.goto 4, 3) := by decide +kernel
theorem dX1_can_13 : decode cX1_can 13 = .ok (.iconst 0, 1) := by decide +kernel
theorem dX1_can_14 : decode cX1_can 14 = .ok (.ireturn, 1) := by decide +kernel
theorem dX1_isIn_0 : decode cX1_isIn 0 = .ok (.iload_n 0, 1) := by decide +kernel
theorem dX1_isIn_1 : decode cX1_isIn 1 = .ok (.iload_n 1, 1) := by decide +kernel
theorem dX1_isIn_2 : decode cX1_isIn 2 = .ok (.if_icmp .lt 12, 3) := by decide +kernel
theorem dX1_isIn_5 : decode cX1_isIn 5 = .ok (.iload_n 0, 1) := by decide +kernel
theorem dX1_isIn_6 : decode cX1_isIn 6 = .ok (.iload_n 2, 1) := by decide +kernel
theorem dX1_isIn_7 : decode cX1_isIn 7 = .ok (.if_icmp .gt 7, 3) := by decide +kernel
theorem dX1_isIn_10 : decode cX1_isIn 10 = .ok (.iconst 1, 1) := by decide +kernel
theorem dX1_isIn_11 : decode cX1_isIn 11 = .ok (.goto 4, 3) := by decide +kernel
theorem dX1_isIn_14 : decode cX1_isIn 14 = .ok (.iconst 0, 1) := by decide +kernel
theorem dX1_isIn_15 : decode cX1_isIn 15 = .ok (.ireturn, 1) := by decide +kernel
set_option maxRecDepth 20000 in
theorem ggX1_isPerson_X1_isIn : GoodIn wsX1_isPerson wsX1_isIn := goodIn_r _ [4] (by decide +kernel) (by decide +kernel)
set_option maxRecDepth 20000 in
theorem gX1_isPerson_X1_isIn : GoodIn wsX1_isPerson (va_wsS RX1 54 yX1_isIn wsX1_isIn) := goodIn_app (goodIn_of _ (by decide +kernel)) ggX1_isPerson_X1_isIn
theorem dX1_isPerson_0 : decode cX1_isPerson 0 = .ok (.iload_n 0, 1) := by decide +kernel
theorem dX1_isPerson_1 : decode cX1_isPerson 1 = .ok (.iconst 0, 1) := by decide +kernel
theorem dX1_isPerson_2 : decode cX1_isPerson 2 = .ok (.bipush 7, 2) := by decide +kernel
theorem dX1_isPerson_4 : decode cX1_isPerson 4 = .ok (.invokestatic 54, 3) := by decide +kernel
theorem dX1_isPerson_7 : decode cX1_isPerson 7 = .ok (.ireturn, 1) := by decide +kernel
set_option maxRecDepth 20000 in
theorem ggX1_isRelay_X1_isIn : GoodIn wsX1_isRelay wsX1_isIn := goodIn_r _ [4] (by decide +kernel) (by decide +kernel)
set_option maxRecDepth 20000 in
theorem gX1_isRelay_X1_isIn : GoodIn wsX1_isRelay (va_wsS RX1 54 yX1_isIn wsX1_isIn) := goodIn_app (goodIn_of _ (by decide +kernel)) ggX1_isRelay_X1_isIn
theorem dX1_isRelay_0 : decode cX1_isRelay 0 = .ok (.iload_n 0, 1) := by decide +kernel
theorem dX1_isRelay_1 : decode cX1_isRelay 1 = .ok (.iconst 0, 1) := by decide +kernel
theorem dX1_isRelay_2 : decode cX1_isRelay 2 = .ok (.iconst 3, 1) := by decide +kernel
theorem dX1_isRelay_3 : decode cX1_isRelay 3 = .ok (.invokestatic 54, 3) := by decide +kernel
theorem dX1_isRelay_6 : decode cX1_isRelay 6 = .ok (.ireturn, 1) := by decide +kernel
set_option maxRecDepth 20000 in
theorem ggX1_isLetter_X1_isIn : GoodIn wsX1_isLetter wsX1_isIn := goodIn_r _ [5] (by decide +kernel) (by decide +kernel)
set_option maxRecDepth 20000 in
theorem gX1_isLetter_X1_isIn : GoodIn wsX1_isLetter (va_wsS RX1 54 yX1_isIn wsX1_isIn) := goodIn_app (goodIn_of _ (by decide +kernel)) ggX1_isLetter_X1_isIn
theorem dX1_isLetter_0 : decode cX1_isLetter 0 = .ok (.iload_n 1, 1) := by decide +kernel
theorem dX1_isLetter_1 : decode cX1_isLetter 1 = .ok (.iconst 0, 1) := by decide +kernel
theorem dX1_isLetter_2 : decode cX1_isLetter 2 = .ok (.aload_n 0, 1) := by decide +kernel
theorem dX1_isLetter_3 : decode cX1_isLetter 3 = .ok (.getfield 58, 3) := by decide +kernel
theorem dX1_isLetter_6 : decode cX1_isLetter 6 = .ok (.iconst 1, 1) := by decide +kernel
theorem dX1_isLetter_7 : decode cX1_isLetter 7 = .ok (.isub, 1) := by decide +kernel
theorem dX1_isLetter_8 : decode cX1_isLetter 8 = .ok (.invokestatic 54, 3) := by decide +kernel
theorem dX1_isLetter_11 : decode cX1_isLetter 11 = .ok (.ireturn, 1) := by decide +kernel
theorem dX1_has_0 : decode cX1_has 0 = .ok (.iload_n 0, 1) := by decide +kernel
theorem dX1_has_1 : decode cX1_has 1 = .ok (.iload_n 1, 1) := by decide +kernel
theorem dX1_has_2 : decode cX1_has 2 = .ok (.ishr, 1) := by decide +kernel
theorem dX1_has_3 : decode cX1_has 3 = .ok (.iconst 1, 1) := by decide +kernel
theorem dX1_has_4 : decode cX1_has 4 = .ok (.iand, 1) := by decide +kernel
theorem dX1_has_5 : decode cX1_has 5 = .ok (.iconst 1, 1) := by decide +kernel
theorem dX1_has_6 : decode cX1_has 6 = .ok (.if_icmp .ne 7, 3) := by decide +kernel
theorem dX1_has_9 : decode cX1_has 9 = .ok (.iconst 1, 1) := by decide +kernel
theorem dX1_has_10 : decode cX1_has 10 = .ok (.goto 4, 3) := by decide +kernel
theorem dX1_has_13 : decode cX1_has 13 = .ok (.iconst 0, 1) := by decide +kernel
theorem dX1_has_14 : decode cX1_has 14 = .ok (.ireturn, 1) := by decide +kernel
set_option maxRecDepth 20000 in
theorem ggX1_setRoute_X1_isRelay : GoodIn wsX1_setRoute wsX1_isRelay := goodIn_r _ [5, 6, 7, 4, 8] (by decide +kernel) (by decide +kernel)
set_option maxRecDepth 20000 in
theorem gX1_setRoute_X1_isRelay : GoodIn wsX1_setRoute (va_wsS RX1 61 yX1_isRelay wsX1_isRelay) := goodIn_app (goodIn_of _ (by decide +kernel)) ggX1_setRoute_X1_isRelay
set_option maxRecDepth 20000 in
theorem ggX1_setRoute_X1_can : GoodIn wsX1_setRoute wsX1_can := goodIn_r _ [12, 13, 14, 15, 16, 17, 18, 19, 20, 21, 22, 23, 24, 25, 26, 27, 28, 29] (by decide +kernel) (by decide +kernel)
set_option maxRecDepth 20000 in
theorem gX1_setRoute_X1_can : GoodIn wsX1_setRoute (wsV RX1 65 RX1 yX1_can wsX1_can) := goodIn_app (goodIn_of _ (by decide +kernel)) ggX1_setRoute_X1_can
theorem dX1_setRoute_0 : decode cX1_setRoute 0 = .ok (.iload_n 1, 1) := by decide +kernel
theorem dX1_setRoute_1 : decode cX1_setRoute 1 = .ok (.invokestatic 61, 3) := by decide +kernel
theorem dX1_setRoute_4 : decode cX1_setRoute 4 = .ok (.ifCond .eq 21, 3) := by decide +kernel
theorem dX1_setRoute_7 : decode cX1_setRoute 7 = .ok (.iload_n 2, 1) := by decide +kernel
theorem dX1_setRoute_8 : decode cX1_setRoute 8 = .ok (.invokestatic 61, 3) := by decide +kernel
theorem dX1_setRoute_11 : decode cX1_setRoute 11 = .ok (.ifCond .eq 14, 3) := by decide +kernel
theorem dX1_setRoute_14 : decode cX1_setRoute 14 = .ok (.iload_n 3, 1) := by decide +kernel
theorem dX1_setRoute_15 : decode cX1_setRoute 15 = .ok (.invokestatic 61, 3) := by decide +kernel
theorem dX1_setRoute_18 : decode cX1_setRoute 18 = .ok (.ifCond .eq 7, 3) := by decide +kernel
theorem dX1_setRoute_21 : decode cX1_setRoute 21 = .ok (.iconst 1, 1) := by decide +kernel
theorem dX1_setRoute_22 : decode cX1_setRoute 22 = .ok (.goto 4, 3) := by decide +kernel
theorem dX1_setRoute_25 : decode cX1_setRoute 25 = .ok (.iconst 0, 1) := by decide +kernel
theorem dX1_setRoute_26 : decode cX1_setRoute 26 = .ok (.istore 4, 2) := by decide +kernel
theorem dX1_setRoute_28 : decode cX1_setRoute 28 = .ok (.aload_n 0, 1) := by decide +kernel
theorem dX1_setRoute_29 : decode cX1_setRoute 29 = .ok (.iload 4, 2) := by decide +kernel
theorem dX1_setRoute_31 : decode cX1_setRoute 31 = .ok (.ifCond .ne 7, 3) := by decide +kernel
theorem dX1_setRoute_34 : decode cX1_setRoute 34 = .ok (.iconst 1, 1) := by decide +kernel
theorem dX1_setRoute_35 : decode cX1_setRoute 35 = .ok (.goto 18, 3) := by decide +kernel
theorem dX1_setRoute_38 : decode cX1_setRoute 38 = .ok (.iload_n 2, 1) := by decide +kernel
theorem dX1_setRoute_39 : decode cX1_setRoute 39 = .ok (.iload_n 1, 1) := by decide +kernel
theorem dX1_setRoute_40 : decode cX1_setRoute 40 = .ok (.if_icmp .eq 8, 3) := by decide +kernel
theorem dX1_setRoute_43 : decode cX1_setRoute 43 = .ok (.iload_n 3, 1) := by decide +kernel
theorem dX1_setRoute_44 : decode cX1_setRoute 44 = .ok (.iload_n 1, 1) := by decide +kernel
theorem dX1_setRoute_45 : decode cX1_setRoute 45 = .ok (.if_icmp .ne 7, 3) := by decide +kernel
theorem dX1_setRoute_48 : decode cX1_setRoute 48 = .ok (.iconst 2, 1) := by decide +kernel
theorem dX1_setRoute_49 : decode cX1_setRoute 49 = .ok (.goto 4, 3) := by decide +kernel
theorem dX1_setRoute_52 : decode cX1_setRoute 52 = .ok (.iconst 0, 1) := by decide +kernel
theorem dX1_setRoute_53 : decode cX1_setRoute 53 = .ok (.invokevirtual 65, 3) := by decide +kernel
theorem dX1_setRoute_56 : decode cX1_setRoute 56 = .ok (.ifCond .ne 5, 3) := by decide +kernel
theorem dX1_setRoute_59 : decode cX1_setRoute 59 = .ok (.iconst 0, 1) := by decide +kernel
theorem dX1_setRoute_60 : decode cX1_setRoute 60 = .ok (.ireturn, 1) := by decide +kernel
theorem dX1_setRoute_61 : decode cX1_setRoute 61 = .ok (.aload_n 0, 1) := by decide +kernel
theorem dX1_setRoute_62 : decode cX1_setRoute 62 = .ok (.getfield 7, 3) := by decide +kernel
theorem dX1_setRoute_65 : decode cX1_setRoute 65 = .ok (.iconst 4, 1) := by decide +kernel
theorem dX1_setRoute_66 : decode cX1_setRoute 66 = .ok (.iload_n 1, 1) := by decide +kernel
theorem dX1_setRoute_67 : decode cX1_setRoute 67 = .ok (.imul, 1) := by decide +kernel
theorem dX1_setRoute_68 : decode cX1_setRoute 68 = .ok (.iload_n 2, 1) := by decide +kernel
theorem dX1_setRoute_69 : decode cX1_setRoute 69 = .ok (.iadd, 1) := by decide +kernel
theorem dX1_setRoute_70 : decode cX1_setRoute 70 = .ok (.iaload, 1) := by decide +kernel
theorem dX1_setRoute_71 : decode cX1_setRoute 71 = .ok (.istore 5, 2) := by decide +kernel
theorem dX1_setRoute_73 : decode cX1_setRoute 73 = .ok (.aload_n 0, 1) := by decide +kernel
theorem dX1_setRoute_74 : decode cX1_setRoute 74 = .ok (.getfield 7, 3) := by decide +kernel
theorem dX1_setRoute_77 : decode cX1_setRoute 77 = .ok (.iconst 4, 1) := by decide +kernel
theorem dX1_setRoute_78 : decode cX1_setRoute 78 = .ok (.iload_n 1, 1) := by decide +kernel
theorem dX1_setRoute_79 : decode cX1_setRoute 79 = .ok (.imul, 1) := by decide +kernel
theorem dX1_setRoute_80 : decode cX1_setRoute 80 = .ok (.iload_n 2, 1) := by decide +kernel
theorem dX1_setRoute_81 : decode cX1_setRoute 81 = .ok (.iadd, 1) := by decide +kernel
theorem dX1_setRoute_82 : decode cX1_setRoute 82 = .ok (.iload_n 3, 1) := by decide +kernel
theorem dX1_setRoute_83 : decode cX1_setRoute 83 = .ok (.iastore, 1) := by decide +kernel
theorem dX1_setRoute_84 : decode cX1_setRoute 84 = .ok (.iload 5, 2) := by decide +kernel
theorem dX1_setRoute_86 : decode cX1_setRoute 86 = .ok (.ireturn, 1) := by decide +kernel
set_option maxRecDepth 20000 in
theorem ggX1_way_X1_has : GoodIn wsX1_way wsX1_has := goodIn_r _ [5] (by decide +kernel) (by decide +kernel)
set_option maxRecDepth 20000 in
theorem gX1_way_X1_has : GoodIn wsX1_way (va_wsS RX1 68 yX1_has wsX1_has) := goodIn_app (goodIn_of _ (by decide +kernel)) ggX1_way_X1_has
theorem dX1_way_0 : decode cX1_way 0 = .ok (.iload_n 1, 1) := by decide +kernel
theorem dX1_way_1 : decode cX1_way 1 = .ok (.istore_n 3, 1) := by decide +kernel
theorem dX1_way_2 : decode cX1_way 2 = .ok (.iconst 1, 1) := by decide +kernel
theorem dX1_way_3 : decode cX1_way 3 = .ok (.iload_n 1, 1) := by decide +kernel
theorem dX1_way_4 : decode cX1_way 4 = .ok (.ishl, 1) := by decide +kernel
theorem dX1_way_5 : decode cX1_way 5 = .ok (.istore 4, 2) := by decide +kernel
theorem dX1_way_7 : decode cX1_way 7 = .ok (.iconst 0, 1) := by decide +kernel
theorem dX1_way_8 : decode cX1_way 8 = .ok (.istore 5, 2) := by decide +kernel
theorem dX1_way_10 : decode cX1_way 10 = .ok (.iload_n 3, 1) := by decide +kernel
theorem dX1_way_11 : decode cX1_way 11 = .ok (.iload_n 2, 1) := by decide +kernel
theorem dX1_way_12 : decode cX1_way 12 = .ok (.if_icmp .eq 39, 3) := by decide +kernel
theorem dX1_way_15 : decode cX1_way 15 = .ok (.aload_n 0, 1) := by decide +kernel
theorem dX1_way_16 : decode cX1_way 16 = .ok (.getfield 7, 3) := by decide +kernel
theorem dX1_way_19 : decode cX1_way 19 = .ok (.iconst 4, 1) := by decide +kernel
theorem dX1_way_20 : decode cX1_way 20 = .ok (.iload_n 3, 1) := by decide +kernel
theorem dX1_way_21 : decode cX1_way 21 = .ok (.imul, 1) := by decide +kernel
theorem dX1_way_22 : decode cX1_way 22 = .ok (.iload_n 2, 1) := by decide +kernel
theorem dX1_way_23 : decode cX1_way 23 = .ok (.iadd, 1) := by decide +kernel
theorem dX1_way_24 : decode cX1_way 24 = .ok (.iaload, 1) := by decide +kernel
theorem dX1_way_25 : decode cX1_way 25 = .ok (.istore_n 3, 1) := by decide +kernel
theorem dX1_way_26 : decode cX1_way 26 = .ok (.iload 4, 2) := by decide +kernel
theorem dX1_way_28 : decode cX1_way 28 = .ok (.iload_n 3, 1) := by decide +kernel
theorem dX1_way_29 : decode cX1_way 29 = .ok (.invokestatic 68, 3) := by decide +kernel
theorem dX1_way_32 : decode cX1_way 32 = .ok (.ifCond .eq 5, 3) := by decide +kernel
theorem dX1_way_35 : decode cX1_way 35 = .ok (.iconst (-1), 1) := by decide +kernel
theorem dX1_way_36 : decode cX1_way 36 = .ok (.ireturn, 1) := by decide +kernel
theorem dX1_way_37 : decode cX1_way 37 = .ok (.iload 4, 2) := by decide +kernel
theorem dX1_way_39 : decode cX1_way 39 = .ok (.iconst 1, 1) := by decide +kernel
theorem dX1_way_40 : decode cX1_way 40 = .ok (.iload_n 3, 1) := by decide +kernel
theorem dX1_way_41 : decode cX1_way 41 = .ok (.ishl, 1) := by decide +kernel
theorem dX1_way_42 : decode cX1_way 42 = .ok (.ior, 1) := by decide +kernel
theorem dX1_way_43 : decode cX1_way 43 = .ok (.istore 4, 2) := by decide +kernel
theorem dX1_way_45 : decode cX1_way 45 = .ok (.iinc 5 1, 3) := by decide +kernel
theorem dX1_way_48 : decode cX1_way 48 = .ok (.goto (-38), 3) := by decide +kernel
theorem dX1_way_51 : decode cX1_way 51 = .ok (.iload 5, 2) := by decide +kernel
theorem dX1_way_53 : decode cX1_way 53 = .ok (.ireturn, 1) := by decide +kernel
set_option maxRecDepth 20000 in
theorem ggX1_steps_X1_isRelay : GoodIn wsX1_steps wsX1_isRelay := goodIn_r _ [4, 5, 6, 3, 7] (by decide +kernel) (by decide +kernel)
set_option maxRecDepth 20000 in
theorem gX1_steps_X1_isRelay : GoodIn wsX1_steps (va_wsS RX1 61 yX1_isRelay wsX1_isRelay) := goodIn_app (goodIn_of _ (by decide +kernel)) ggX1_steps_X1_isRelay
set_option maxRecDepth 20000 in
theorem ggX1_steps_X1_can : GoodIn wsX1_steps wsX1_can := goodIn_r _ [11, 12, 21, 22, 23, 24, 25, 26, 27, 28, 29, 30, 31, 32, 33, 34, 35, 36] (by decide +kernel) (by decide +kernel)
set_option maxRecDepth 20000 in
theorem gX1_steps_X1_can : GoodIn wsX1_steps (wsV RX1 65 RX1 yX1_can wsX1_can) := goodIn_app (goodIn_of _ (by decide +kernel)) ggX1_steps_X1_can
set_option maxRecDepth 20000 in
theorem ggX1_steps_X1_way : GoodIn wsX1_steps wsX1_way := goodIn_r _ [16, 17, 18, 19, 3, 20, 21, 22, 23, 24, 25, 26, 27, 28, 29, 30, 31, 32, 33, 34, 35, 36] (by decide +kernel) (by decide +kernel)
set_option maxRecDepth 20000 in
theorem gX1_steps_X1_way : GoodIn wsX1_steps (wsV RX1 72 RX1 yX1_way wsX1_way) := goodIn_app (goodIn_of _ (by decide +kernel)) ggX1_steps_X1_way
theorem dX1_steps_0 : decode cX1_steps 0 = .ok (.aload_n 0, 1) := by decide +kernel
theorem dX1_steps_1 : decode cX1_steps 1 = .ok (.iload_n 1, 1) := by decide +kernel
theorem dX1_steps_2 : decode cX1_steps 2 = .ok (.invokestatic 61, 3) := by decide +kernel
theorem dX1_steps_5 : decode cX1_steps 5 = .ok (.ifCond .eq 14, 3) := by decide +kernel
theorem dX1_steps_8 : decode cX1_steps 8 = .ok (.iload_n 2, 1) := by decide +kernel
theorem dX1_steps_9 : decode cX1_steps 9 = .ok (.invokestatic 61, 3) := by decide +kernel
theorem dX1_steps_12 : decode cX1_steps 12 = .ok (.ifCond .eq 7, 3) := by decide +kernel
theorem dX1_steps_15 : decode cX1_steps 15 = .ok (.iconst 0, 1) := by decide +kernel
theorem dX1_steps_16 : decode cX1_steps 16 = .ok (.goto 4, 3) := by decide +kernel
theorem dX1_steps_19 : decode cX1_steps 19 = .ok (.iconst 1, 1) := by decide +kernel
theorem dX1_steps_20 : decode cX1_steps 20 = .ok (.invokevirtual 65, 3) := by decide +kernel
theorem dX1_steps_23 : decode cX1_steps 23 = .ok (.ifCond .eq 12, 3) := by decide +kernel
theorem dX1_steps_26 : decode cX1_steps 26 = .ok (.aload_n 0, 1) := by decide +kernel
theorem dX1_steps_27 : decode cX1_steps 27 = .ok (.iload_n 1, 1) := by decide +kernel
theorem dX1_steps_28 : decode cX1_steps 28 = .ok (.iload_n 2, 1) := by decide +kernel
theorem dX1_steps_29 : decode cX1_steps 29 = .ok (.invokevirtual 72, 3) := by decide +kernel
theorem dX1_steps_32 : decode cX1_steps 32 = .ok (.goto 4, 3) := by decide +kernel
theorem dX1_steps_35 : decode cX1_steps 35 = .ok (.iconst 0, 1) := by decide +kernel
theorem dX1_steps_36 : decode cX1_steps 36 = .ok (.ireturn, 1) := by decide +kernel
theorem dX1_weight_0 : decode cX1_weight 0 = .ok (.aload_n 0, 1) := by decide +kernel
theorem dX1_weight_1 : decode cX1_weight 1 = .ok (.getfield 19, 3) := by decide +kernel
theorem dX1_weight_4 : decode cX1_weight 4 = .ok (.iload_n 1, 1) := by decide +kernel
theorem dX1_weight_5 : decode cX1_weight 5 = .ok (.iaload, 1) := by decide +kernel
theorem dX1_weight_6 : decode cX1_weight 6 = .ok (.iconst 4, 1) := by decide +kernel
theorem dX1_weight_7 : decode cX1_weight 7 = .ok (.if_icmp .le 7, 3) := by decide +kernel
theorem dX1_weight_10 : decode cX1_weight 10 = .ok (.iconst 1, 1) := by decide +kernel
theorem dX1_weight_11 : decode cX1_weight 11 = .ok (.goto 11, 3) := by decide +kernel
theorem dX1_weight_14 : decode cX1_weight 14 = .ok (.iconst 5, 1) := by decide +kernel
theorem dX1_weight_15 : decode cX1_weight 15 = .ok (.aload_n 0, 1) := by decide +kernel
theorem dX1_weight_16 : decode cX1_weight 16 = .ok (.getfield 19, 3) := by decide +kernel
theorem dX1_weight_19 : decode cX1_weight 19 = .ok (.iload_n 1, 1) := by decide +kernel
theorem dX1_weight_20 : decode cX1_weight 20 = .ok (.iaload, 1) := by decide +kernel
theorem dX1_weight_21 : decode cX1_weight 21 = .ok (.isub, 1) := by decide +kernel
theorem dX1_weight_22 : decode cX1_weight 22 = .ok (.ireturn, 1) := by decide +kernel
set_option maxRecDepth 20000 in
theorem ggX1_nameOf_X1_weight : GoodIn wsX1_nameOf wsX1_weight := goodIn_r _ [10, 11, 12, 13, 14, 15, 16, 17, 18, 19, 20, 21, 22, 23, 24, 25, 26, 27] (by decide +kernel) (by decide +kernel)
set_option maxRecDepth 20000 in
theorem gX1_nameOf_X1_weight : GoodIn wsX1_nameOf (wsV RX1 76 RX1 yX1_weight wsX1_weight) := goodIn_app (goodIn_of _ (by decide +kernel)) ggX1_nameOf_X1_weight
theorem dX1_nameOf_0 : decode cX1_nameOf 0 = .ok (.iconst 0, 1) := by decide +kernel
theorem dX1_nameOf_1 : decode cX1_nameOf 1 = .ok (.istore_n 2, 1) := by decide +kernel
theorem dX1_nameOf_2 : decode cX1_nameOf 2 = .ok (.iconst 0, 1) := by decide +kernel
theorem dX1_nameOf_3 : decode cX1_nameOf 3 = .ok (.istore_n 3, 1) := by decide +kernel
theorem dX1_nameOf_4 : decode cX1_nameOf 4 = .ok (.iload_n 3, 1) := by decide +kernel
theorem dX1_nameOf_5 : decode cX1_nameOf 5 = .ok (.aload_n 0, 1) := by decide +kernel
theorem dX1_nameOf_6 : decode cX1_nameOf 6 = .ok (.getfield 58, 3) := by decide +kernel
theorem dX1_nameOf_9 : decode cX1_nameOf 9 = .ok (.if_icmp .ge 103, 3) := by decide +kernel
theorem dX1_nameOf_12 : decode cX1_nameOf 12 = .ok (.aload_n 0, 1) := by decide +kernel
theorem dX1_nameOf_13 : decode cX1_nameOf 13 = .ok (.getfield 22, 3) := by decide +kernel
theorem dX1_nameOf_16 : decode cX1_nameOf 16 = .ok (.iload_n 3, 1) := by decide +kernel
theorem dX1_nameOf_17 : decode cX1_nameOf 17 = .ok (.iaload, 1) := by decide +kernel
theorem dX1_nameOf_18 : decode cX1_nameOf 18 = .ok (.iload_n 1, 1) := by decide +kernel
theorem dX1_nameOf_19 : decode cX1_nameOf 19 = .ok (.if_icmp .ne 7, 3) := by decide +kernel
theorem dX1_nameOf_22 : decode cX1_nameOf 22 = .ok (.iconst 1, 1) := by decide +kernel
theorem dX1_nameOf_23 : decode cX1_nameOf 23 = .ok (.goto 4, 3) := by decide +kernel
theorem dX1_nameOf_26 : decode cX1_nameOf 26 = .ok (.iconst 0, 1) := by decide +kernel
theorem dX1_nameOf_27 : decode cX1_nameOf 27 = .ok (.istore 4, 2) := by decide +kernel
theorem dX1_nameOf_29 : decode cX1_nameOf 29 = .ok (.iload_n 2, 1) := by decide +kernel
theorem dX1_nameOf_30 : decode cX1_nameOf 30 = .ok (.iload 4, 2) := by decide +kernel
theorem dX1_nameOf_32 : decode cX1_nameOf 32 = .ok (.ifCond .eq 28, 3) := by decide +kernel
theorem dX1_nameOf_35 : decode cX1_nameOf 35 = .ok (.aload_n 0, 1) := by decide +kernel
theorem dX1_nameOf_36 : decode cX1_nameOf 36 = .ok (.getfield 31, 3) := by decide +kernel
theorem dX1_nameOf_39 : decode cX1_nameOf 39 = .ok (.iload_n 3, 1) := by decide +kernel
theorem dX1_nameOf_40 : decode cX1_nameOf 40 = .ok (.iaload, 1) := by decide +kernel
theorem dX1_nameOf_41 : decode cX1_nameOf 41 = .ok (.iconst 2, 1) := by decide +kernel
theorem dX1_nameOf_42 : decode cX1_nameOf 42 = .ok (.if_icmp .ne 18, 3) := by decide +kernel
theorem dX1_nameOf_45 : decode cX1_nameOf 45 = .ok (.iconst 2, 1) := by decide +kernel
theorem dX1_nameOf_46 : decode cX1_nameOf 46 = .ok (.aload_n 0, 1) := by decide +kernel
theorem dX1_nameOf_47 : decode cX1_nameOf 47 = .ok (.aload_n 0, 1) := by decide +kernel
theorem dX1_nameOf_48 : decode cX1_nameOf 48 = .ok (.getfield 25, 3) := by decide +kernel
theorem dX1_nameOf_51 : decode cX1_nameOf 51 = .ok (.iload_n 3, 1) := by decide +kernel
theorem dX1_nameOf_52 : decode cX1_nameOf 52 = .ok (.iaload, 1) := by decide +kernel
theorem dX1_nameOf_53 : decode cX1_nameOf 53 = .ok (.invokevirtual 76, 3) := by decide +kernel
theorem dX1_nameOf_56 : decode cX1_nameOf 56 = .ok (.imul, 1) := by decide +kernel
theorem dX1_nameOf_57 : decode cX1_nameOf 57 = .ok (.goto 4, 3) := by decide +kernel
theorem dX1_nameOf_60 : decode cX1_nameOf 60 = .ok (.iconst 0, 1) := by decide +kernel
theorem dX1_nameOf_61 : decode cX1_nameOf 61 = .ok (.iadd, 1) := by decide +kernel
theorem dX1_nameOf_62 : decode cX1_nameOf 62 = .ok (.istore_n 2, 1) := by decide +kernel
theorem dX1_nameOf_63 : decode cX1_nameOf 63 = .ok (.iload_n 2, 1) := by decide +kernel
theorem dX1_nameOf_64 : decode cX1_nameOf 64 = .ok (.iload 4, 2) := by decide +kernel
theorem dX1_nameOf_66 : decode cX1_nameOf 66 = .ok (.ifCond .eq 37, 3) := by decide +kernel
theorem dX1_nameOf_69 : decode cX1_nameOf 69 = .ok (.aload_n 0, 1) := by decide +kernel
theorem dX1_nameOf_70 : decode cX1_nameOf 70 = .ok (.getfield 31, 3) := by decide +kernel
theorem dX1_nameOf_73 : decode cX1_nameOf 73 = .ok (.iload_n 3, 1) := by decide +kernel
theorem dX1_nameOf_74 : decode cX1_nameOf 74 = .ok (.iaload, 1) := by decide +kernel
theorem dX1_nameOf_75 : decode cX1_nameOf 75 = .ok (.iconst 3, 1) := by decide +kernel
theorem dX1_nameOf_76 : decode cX1_nameOf 76 = .ok (.if_icmp .ne 27, 3) := by decide +kernel
theorem dX1_nameOf_79 : decode cX1_nameOf 79 = .ok (.aload_n 0, 1) := by decide +kernel
theorem dX1_nameOf_80 : decode cX1_nameOf 80 = .ok (.getfield 43, 3) := by decide +kernel
theorem dX1_nameOf_83 : decode cX1_nameOf 83 = .ok (.iload_n 3, 1) := by decide +kernel
theorem dX1_nameOf_84 : decode cX1_nameOf 84 = .ok (.baload, 1) := by decide +kernel
theorem dX1_nameOf_85 : decode cX1_nameOf 85 = .ok (.ifCond .ne 18, 3) := by decide +kernel
theorem dX1_nameOf_88 : decode cX1_nameOf 88 = .ok (.iconst 3, 1) := by decide +kernel
theorem dX1_nameOf_89 : decode cX1_nameOf 89 = .ok (.aload_n 0, 1) := by decide +kernel
theorem dX1_nameOf_90 : decode cX1_nameOf 90 = .ok (.aload_n 0, 1) := by decide +kernel
theorem dX1_nameOf_91 : decode cX1_nameOf 91 = .ok (.getfield 25, 3) := by decide +kernel
theorem dX1_nameOf_94 : decode cX1_nameOf 94 = .ok (.iload_n 3, 1) := by decide +kernel
theorem dX1_nameOf_95 : decode cX1_nameOf 95 = .ok (.iaload, 1) := by decide +kernel
theorem dX1_nameOf_96 : decode cX1_nameOf 96 = .ok (.invokevirtual 76, 3) := by decide +kernel
theorem dX1_nameOf_99 : decode cX1_nameOf 99 = .ok (.imul, 1) := by decide +kernel
theorem dX1_nameOf_100 : decode cX1_nameOf 100 = .ok (.goto 4, 3) := by decide +kernel
theorem dX1_nameOf_103 : decode cX1_nameOf 103 = .ok (.iconst 0, 1) := by decide +kernel
theorem dX1_nameOf_104 : decode cX1_nameOf 104 = .ok (.isub, 1) := by decide +kernel
theorem dX1_nameOf_105 : decode cX1_nameOf 105 = .ok (.istore_n 2, 1) := by decide +kernel
theorem dX1_nameOf_106 : decode cX1_nameOf 106 = .ok (.iinc 3 1, 3) := by decide +kernel
theorem dX1_nameOf_109 : decode cX1_nameOf 109 = .ok (.goto (-105), 3) := by decide +kernel
theorem dX1_nameOf_112 : decode cX1_nameOf 112 = .ok (.iload_n 2, 1) := by decide +kernel
theorem dX1_nameOf_113 : decode cX1_nameOf 113 = .ok (.ireturn, 1) := by decide +kernel
set_option maxRecDepth 20000 in
theorem ggX1_least_X1_nameOf : GoodIn wsX1_least wsX1_nameOf := goodIn_r _ [5, 6, 7, 8, 9, 10, 11, 12, 13, 4, 14, 15, 16, 17, 18, 19, 20, 21, 22, 23, 24, 25, 26, 27, 28, 29, 30, 31] (by decide +kernel) (by decide +kernel)
set_option maxRecDepth 20000 in
theorem gX1_least_X1_nameOf : GoodIn wsX1_least (wsV RX1 80 RX1 yX1_nameOf wsX1_nameOf) := goodIn_app (goodIn_of _ (by decide +kernel)) ggX1_least_X1_nameOf
theorem dX1_least_0 : decode cX1_least 0 = .ok (.bipush 10, 2) := by decide +kernel
theorem dX1_least_2 : decode cX1_least 2 = .ok (.aload_n 0, 1) := by decide +kernel
theorem dX1_least_3 : decode cX1_least 3 = .ok (.iload_n 1, 1) := by decide +kernel
theorem dX1_least_4 : decode cX1_least 4 = .ok (.invokevirtual 80, 3) := by decide +kernel
theorem dX1_least_7 : decode cX1_least 7 = .ok (.isub, 1) := by decide +kernel
theorem dX1_least_8 : decode cX1_least 8 = .ok (.istore_n 2, 1) := by decide +kernel
theorem dX1_least_9 : decode cX1_least 9 = .ok (.iload_n 2, 1) := by decide +kernel
theorem dX1_least_10 : decode cX1_least 10 = .ok (.ifCond .ge 7, 3) := by decide +kernel
theorem dX1_least_13 : decode cX1_least 13 = .ok (.iconst 0, 1) := by decide +kernel
theorem dX1_least_14 : decode cX1_least 14 = .ok (.goto 15, 3) := by decide +kernel
theorem dX1_least_17 : decode cX1_least 17 = .ok (.iload_n 2, 1) := by decide +kernel
theorem dX1_least_18 : decode cX1_least 18 = .ok (.bipush 20, 2) := by decide +kernel
theorem dX1_least_20 : decode cX1_least 20 = .ok (.if_icmp .le 8, 3) := by decide +kernel
theorem dX1_least_23 : decode cX1_least 23 = .ok (.bipush 20, 2) := by decide +kernel
theorem dX1_least_25 : decode cX1_least 25 = .ok (.goto 4, 3) := by decide +kernel
theorem dX1_least_28 : decode cX1_least 28 = .ok (.iload_n 2, 1) := by decide +kernel
theorem dX1_least_29 : decode cX1_least 29 = .ok (.ireturn, 1) := by decide +kernel
set_option maxRecDepth 20000 in
theorem ggX1_send_X1_isPerson : GoodIn wsX1_send wsX1_isPerson := goodIn_r _ [11, 12, 13, 10, 14] (by decide +kernel) (by decide +kernel)
set_option maxRecDepth 20000 in
theorem gX1_send_X1_isPerson : GoodIn wsX1_send (va_wsS RX1 83 yX1_isPerson wsX1_isPerson) := goodIn_app (goodIn_of _ (by decide +kernel)) ggX1_send_X1_isPerson
set_option maxRecDepth 20000 in
theorem ggX1_send_X1_isIn : GoodIn wsX1_send wsX1_isIn := goodIn_r _ [14] (by decide +kernel) (by decide +kernel)
set_option maxRecDepth 20000 in
theorem gX1_send_X1_isIn : GoodIn wsX1_send (va_wsS RX1 54 yX1_isIn wsX1_isIn) := goodIn_app (goodIn_of _ (by decide +kernel)) ggX1_send_X1_isIn
set_option maxRecDepth 20000 in
theorem ggX1_send_X1_least : GoodIn wsX1_send wsX1_least := goodIn_r _ [18, 19, 20, 21, 10, 22, 2, 3, 23, 4, 24, 25, 26, 27, 28, 29, 35, 36, 37, 38, 39, 40, 41, 42, 43, 44, 45, 46, 47, 48, 49, 50] (by decide +kernel) (by decide +kernel)
set_option maxRecDepth 20000 in
theorem gX1_send_X1_least : GoodIn wsX1_send (wsV RX1 86 RX1 yX1_least wsX1_least) := goodIn_app (goodIn_of _ (by decide +kernel)) ggX1_send_X1_least
set_option maxRecDepth 20000 in
theorem ggX1_send_X1_can : GoodIn wsX1_send wsX1_can := goodIn_r _ [33, 34, 35, 36, 37, 38, 39, 40, 41, 42, 43, 44, 45, 46, 47, 48, 49, 50] (by decide +kernel) (by decide +kernel)
set_option maxRecDepth 20000 in
theorem gX1_send_X1_can : GoodIn wsX1_send (wsV RX1 65 RX1 yX1_can wsX1_can) := goodIn_app (goodIn_of _ (by decide +kernel)) ggX1_send_X1_can
theorem dX1_send_0 : decode cX1_send 0 = .ok (.iload_n 1, 1) := by decide +kernel
theorem dX1_send_1 : decode cX1_send 1 = .ok (.invokestatic 83, 3) := by decide +kernel
theorem dX1_send_4 : decode cX1_send 4 = .ok (.ifCond .eq 14, 3) := by decide +kernel
theorem dX1_send_7 : decode cX1_send 7 = .ok (.iload_n 2, 1) := by decide +kernel
theorem dX1_send_8 : decode cX1_send 8 = .ok (.invokestatic 83, 3) := by decide +kernel
theorem dX1_send_11 : decode cX1_send 11 = .ok (.ifCond .eq 7, 3) := by decide +kernel
theorem dX1_send_14 : decode cX1_send 14 = .ok (.iconst 1, 1) := by decide +kernel
theorem dX1_send_15 : decode cX1_send 15 = .ok (.goto 4, 3) := by decide +kernel
theorem dX1_send_18 : decode cX1_send 18 = .ok (.iconst 0, 1) := by decide +kernel
theorem dX1_send_19 : decode cX1_send 19 = .ok (.istore 4, 2) := by decide +kernel
theorem dX1_send_21 : decode cX1_send 21 = .ok (.iload_n 1, 1) := by decide +kernel
theorem dX1_send_22 : decode cX1_send 22 = .ok (.iload_n 2, 1) := by decide +kernel
theorem dX1_send_23 : decode cX1_send 23 = .ok (.if_icmp .eq 17, 3) := by decide +kernel
theorem dX1_send_26 : decode cX1_send 26 = .ok (.iload_n 3, 1) := by decide +kernel
theorem dX1_send_27 : decode cX1_send 27 = .ok (.iconst 0, 1) := by decide +kernel
theorem dX1_send_28 : decode cX1_send 28 = .ok (.bipush 20, 2) := by decide +kernel
theorem dX1_send_30 : decode cX1_send 30 = .ok (.invokestatic 54, 3) := by decide +kernel
theorem dX1_send_33 : decode cX1_send 33 = .ok (.ifCond .eq 7, 3) := by decide +kernel
theorem dX1_send_36 : decode cX1_send 36 = .ok (.iconst 1, 1) := by decide +kernel
theorem dX1_send_37 : decode cX1_send 37 = .ok (.goto 4, 3) := by decide +kernel
theorem dX1_send_40 : decode cX1_send 40 = .ok (.iconst 0, 1) := by decide +kernel
theorem dX1_send_41 : decode cX1_send 41 = .ok (.istore 5, 2) := by decide +kernel
theorem dX1_send_43 : decode cX1_send 43 = .ok (.iload 4, 2) := by decide +kernel
theorem dX1_send_45 : decode cX1_send 45 = .ok (.ifCond .eq 40, 3) := by decide +kernel
theorem dX1_send_48 : decode cX1_send 48 = .ok (.iload 5, 2) := by decide +kernel
theorem dX1_send_50 : decode cX1_send 50 = .ok (.ifCond .eq 35, 3) := by decide +kernel
theorem dX1_send_53 : decode cX1_send 53 = .ok (.iload_n 3, 1) := by decide +kernel
theorem dX1_send_54 : decode cX1_send 54 = .ok (.aload_n 0, 1) := by decide +kernel
theorem dX1_send_55 : decode cX1_send 55 = .ok (.iload_n 1, 1) := by decide +kernel
theorem dX1_send_56 : decode cX1_send 56 = .ok (.invokevirtual 86, 3) := by decide +kernel
theorem dX1_send_59 : decode cX1_send 59 = .ok (.if_icmp .lt 26, 3) := by decide +kernel
theorem dX1_send_62 : decode cX1_send 62 = .ok (.aload_n 0, 1) := by decide +kernel
theorem dX1_send_63 : decode cX1_send 63 = .ok (.getfield 13, 3) := by decide +kernel
theorem dX1_send_66 : decode cX1_send 66 = .ok (.iload_n 1, 1) := by decide +kernel
theorem dX1_send_67 : decode cX1_send 67 = .ok (.iaload, 1) := by decide +kernel
theorem dX1_send_68 : decode cX1_send 68 = .ok (.iload_n 3, 1) := by decide +kernel
theorem dX1_send_69 : decode cX1_send 69 = .ok (.if_icmp .lt 16, 3) := by decide +kernel
theorem dX1_send_72 : decode cX1_send 72 = .ok (.aload_n 0, 1) := by decide +kernel
theorem dX1_send_73 : decode cX1_send 73 = .ok (.getfield 58, 3) := by decide +kernel
theorem dX1_send_76 : decode cX1_send 76 = .ok (.bipush 60, 2) := by decide +kernel
theorem dX1_send_78 : decode cX1_send 78 = .ok (.if_icmp .ge 7, 3) := by decide +kernel
theorem dX1_send_81 : decode cX1_send 81 = .ok (.iconst 1, 1) := by decide +kernel
theorem dX1_send_82 : decode cX1_send 82 = .ok (.goto 4, 3) := by decide +kernel
theorem dX1_send_85 : decode cX1_send 85 = .ok (.iconst 0, 1) := by decide +kernel
theorem dX1_send_86 : decode cX1_send 86 = .ok (.istore 6, 2) := by decide +kernel
theorem dX1_send_88 : decode cX1_send 88 = .ok (.aload_n 0, 1) := by decide +kernel
theorem dX1_send_89 : decode cX1_send 89 = .ok (.iload 4, 2) := by decide +kernel
theorem dX1_send_91 : decode cX1_send 91 = .ok (.ifCond .ne 7, 3) := by decide +kernel
theorem dX1_send_94 : decode cX1_send 94 = .ok (.iconst 1, 1) := by decide +kernel
theorem dX1_send_95 : decode cX1_send 95 = .ok (.goto 22, 3) := by decide +kernel
theorem dX1_send_98 : decode cX1_send 98 = .ok (.iload 5, 2) := by decide +kernel
theorem dX1_send_100 : decode cX1_send 100 = .ok (.ifCond .ne 7, 3) := by decide +kernel
theorem dX1_send_103 : decode cX1_send 103 = .ok (.iconst 2, 1) := by decide +kernel
theorem dX1_send_104 : decode cX1_send 104 = .ok (.goto 13, 3) := by decide +kernel
theorem dX1_send_107 : decode cX1_send 107 = .ok (.iload 6, 2) := by decide +kernel
theorem dX1_send_109 : decode cX1_send 109 = .ok (.ifCond .eq 7, 3) := by decide +kernel
theorem dX1_send_112 : decode cX1_send 112 = .ok (.iconst 0, 1) := by decide +kernel
theorem dX1_send_113 : decode cX1_send 113 = .ok (.goto 4, 3) := by decide +kernel
theorem dX1_send_116 : decode cX1_send 116 = .ok (.iconst 3, 1) := by decide +kernel
theorem dX1_send_117 : decode cX1_send 117 = .ok (.invokevirtual 65, 3) := by decide +kernel
theorem dX1_send_120 : decode cX1_send 120 = .ok (.ifCond .ne 5, 3) := by decide +kernel
theorem dX1_send_123 : decode cX1_send 123 = .ok (.iconst 0, 1) := by decide +kernel
theorem dX1_send_124 : decode cX1_send 124 = .ok (.ireturn, 1) := by decide +kernel
theorem dX1_send_125 : decode cX1_send 125 = .ok (.aload_n 0, 1) := by decide +kernel
theorem dX1_send_126 : decode cX1_send 126 = .ok (.getfield 22, 3) := by decide +kernel
theorem dX1_send_129 : decode cX1_send 129 = .ok (.aload_n 0, 1) := by decide +kernel
theorem dX1_send_130 : decode cX1_send 130 = .ok (.getfield 58, 3) := by decide +kernel
theorem dX1_send_133 : decode cX1_send 133 = .ok (.iload_n 1, 1) := by decide +kernel
theorem dX1_send_134 : decode cX1_send 134 = .ok (.iastore, 1) := by decide +kernel
theorem dX1_send_135 : decode cX1_send 135 = .ok (.aload_n 0, 1) := by decide +kernel
theorem dX1_send_136 : decode cX1_send 136 = .ok (.getfield 25, 3) := by decide +kernel
theorem dX1_send_139 : decode cX1_send 139 = .ok (.aload_n 0, 1) := by decide +kernel
theorem dX1_send_140 : decode cX1_send 140 = .ok (.getfield 58, 3) := by decide +kernel
theorem dX1_send_143 : decode cX1_send 143 = .ok (.iload_n 2, 1) := by decide +kernel
theorem dX1_send_144 : decode cX1_send 144 = .ok (.iastore, 1) := by decide +kernel
theorem dX1_send_145 : decode cX1_send 145 = .ok (.aload_n 0, 1) := by decide +kernel
theorem dX1_send_146 : decode cX1_send 146 = .ok (.getfield 28, 3) := by decide +kernel
theorem dX1_send_149 : decode cX1_send 149 = .ok (.aload_n 0, 1) := by decide +kernel
theorem dX1_send_150 : decode cX1_send 150 = .ok (.getfield 58, 3) := by decide +kernel
theorem dX1_send_153 : decode cX1_send 153 = .ok (.iload_n 3, 1) := by decide +kernel
theorem dX1_send_154 : decode cX1_send 154 = .ok (.iastore, 1) := by decide +kernel
theorem dX1_send_155 : decode cX1_send 155 = .ok (.aload_n 0, 1) := by decide +kernel
theorem dX1_send_156 : decode cX1_send 156 = .ok (.getfield 34, 3) := by decide +kernel
theorem dX1_send_159 : decode cX1_send 159 = .ok (.aload_n 0, 1) := by decide +kernel
theorem dX1_send_160 : decode cX1_send 160 = .ok (.getfield 58, 3) := by decide +kernel
theorem dX1_send_163 : decode cX1_send 163 = .ok (.iload_n 1, 1) := by decide +kernel
theorem dX1_send_164 : decode cX1_send 164 = .ok (.iconst 4, 1) := by decide +kernel
theorem dX1_send_165 : decode cX1_send 165 = .ok (.irem, 1) := by decide +kernel
theorem dX1_send_166 : decode cX1_send 166 = .ok (.iastore, 1) := by decide +kernel
theorem dX1_send_167 : decode cX1_send 167 = .ok (.aload_n 0, 1) := by decide +kernel
theorem dX1_send_168 : decode cX1_send 168 = .ok (.getfield 37, 3) := by decide +kernel
theorem dX1_send_171 : decode cX1_send 171 = .ok (.aload_n 0, 1) := by decide +kernel
theorem dX1_send_172 : decode cX1_send 172 = .ok (.getfield 58, 3) := by decide +kernel
theorem dX1_send_175 : decode cX1_send 175 = .ok (.iconst 1, 1) := by decide +kernel
theorem dX1_send_176 : decode cX1_send 176 = .ok (.iload_n 1, 1) := by decide +kernel
theorem dX1_send_177 : decode cX1_send 177 = .ok (.iconst 4, 1) := by decide +kernel
theorem dX1_send_178 : decode cX1_send 178 = .ok (.irem, 1) := by decide +kernel
theorem dX1_send_179 : decode cX1_send 179 = .ok (.ishl, 1) := by decide +kernel
theorem dX1_send_180 : decode cX1_send 180 = .ok (.iastore, 1) := by decide +kernel
theorem dX1_send_181 : decode cX1_send 181 = .ok (.aload_n 0, 1) := by decide +kernel
theorem dX1_send_182 : decode cX1_send 182 = .ok (.getfield 13, 3) := by decide +kernel
theorem dX1_send_185 : decode cX1_send 185 = .ok (.iload_n 1, 1) := by decide +kernel
theorem dX1_send_186 : decode cX1_send 186 = .ok (.dup2, 1) := by decide +kernel
theorem dX1_send_187 : decode cX1_send 187 = .ok (.iaload, 1) := by decide +kernel
theorem dX1_send_188 : decode cX1_send 188 = .ok (.iload_n 3, 1) := by decide +kernel
theorem dX1_send_189 : decode cX1_send 189 = .ok (.isub, 1) := by decide +kernel
theorem dX1_send_190 : decode cX1_send 190 = .ok (.iastore, 1) := by decide +kernel
theorem dX1_send_191 : decode cX1_send 191 = .ok (.aload_n 0, 1) := by decide +kernel
theorem dX1_send_192 : decode cX1_send 192 = .ok (.dup, 1) := by decide +kernel
theorem dX1_send_193 : decode cX1_send 193 = .ok (.getfield 58, 3) := by decide +kernel
theorem dX1_send_196 : decode cX1_send 196 = .ok (.iconst 1, 1) := by decide +kernel
theorem dX1_send_197 : decode cX1_send 197 = .ok (.iadd, 1) := by decide +kernel
theorem dX1_send_198 : decode cX1_send 198 = .ok (.putfield 58, 3) := by decide +kernel
theorem dX1_send_201 : decode cX1_send 201 = .ok (.aload_n 0, 1) := by decide +kernel
theorem dX1_send_202 : decode cX1_send 202 = .ok (.getfield 58, 3) := by decide +kernel
theorem dX1_send_205 : decode cX1_send 205 = .ok (.iconst 1, 1) := by decide +kernel
theorem dX1_send_206 : decode cX1_send 206 = .ok (.isub, 1) := by decide +kernel
theorem dX1_send_207 : decode cX1_send 207 = .ok (.ireturn, 1) := by decide +kernel
set_option maxRecDepth 20000 in
theorem ggX1_isAhead_X1_nameOf : GoodIn wsX1_isAhead wsX1_nameOf := goodIn_r _ [7, 8, 2, 9, 10, 11, 12, 13, 14, 6, 15, 16, 17, 18, 19, 20, 21, 22, 23, 24, 25, 26, 27, 28, 29, 30, 31, 32] (by decide +kernel) (by decide +kernel)
set_option maxRecDepth 20000 in
theorem gX1_isAhead_X1_nameOf : GoodIn wsX1_isAhead (wsV RX1 80 RX1 yX1_nameOf wsX1_nameOf) := goodIn_app (goodIn_of _ (by decide +kernel)) ggX1_isAhead_X1_nameOf
theorem dX1_isAhead_0 : decode cX1_isAhead 0 = .ok (.aload_n 0, 1) := by decide +kernel
theorem dX1_isAhead_1 : decode cX1_isAhead 1 = .ok (.getfield 28, 3) := by decide +kernel
theorem dX1_isAhead_4 : decode cX1_isAhead 4 = .ok (.iload_n 1, 1) := by decide +kernel
theorem dX1_isAhead_5 : decode cX1_isAhead 5 = .ok (.iaload, 1) := by decide +kernel
theorem dX1_isAhead_6 : decode cX1_isAhead 6 = .ok (.aload_n 0, 1) := by decide +kernel
theorem dX1_isAhead_7 : decode cX1_isAhead 7 = .ok (.aload_n 0, 1) := by decide +kernel
theorem dX1_isAhead_8 : decode cX1_isAhead 8 = .ok (.getfield 22, 3) := by decide +kernel
theorem dX1_isAhead_11 : decode cX1_isAhead 11 = .ok (.iload_n 1, 1) := by decide +kernel
theorem dX1_isAhead_12 : decode cX1_isAhead 12 = .ok (.iaload, 1) := by decide +kernel
theorem dX1_isAhead_13 : decode cX1_isAhead 13 = .ok (.invokevirtual 80, 3) := by decide +kernel
theorem dX1_isAhead_16 : decode cX1_isAhead 16 = .ok (.iadd, 1) := by decide +kernel
theorem dX1_isAhead_17 : decode cX1_isAhead 17 = .ok (.istore_n 3, 1) := by decide +kernel
theorem dX1_isAhead_18 : decode cX1_isAhead 18 = .ok (.aload_n 0, 1) := by decide +kernel
theorem dX1_isAhead_19 : decode cX1_isAhead 19 = .ok (.getfield 28, 3) := by decide +kernel
theorem dX1_isAhead_22 : decode cX1_isAhead 22 = .ok (.iload_n 2, 1) := by decide +kernel
theorem dX1_isAhead_23 : decode cX1_isAhead 23 = .ok (.iaload, 1) := by decide +kernel
theorem dX1_isAhead_24 : decode cX1_isAhead 24 = .ok (.aload_n 0, 1) := by decide +kernel
theorem dX1_isAhead_25 : decode cX1_isAhead 25 = .ok (.aload_n 0, 1) := by decide +kernel
theorem dX1_isAhead_26 : decode cX1_isAhead 26 = .ok (.getfield 22, 3) := by decide +kernel
theorem dX1_isAhead_29 : decode cX1_isAhead 29 = .ok (.iload_n 2, 1) := by decide +kernel
theorem dX1_isAhead_30 : decode cX1_isAhead 30 = .ok (.iaload, 1) := by decide +kernel
theorem dX1_isAhead_31 : decode cX1_isAhead 31 = .ok (.invokevirtual 80, 3) := by decide +kernel
theorem dX1_isAhead_34 : decode cX1_isAhead 34 = .ok (.iadd, 1) := by decide +kernel
theorem dX1_isAhead_35 : decode cX1_isAhead 35 = .ok (.istore 4, 2) := by decide +kernel
theorem dX1_isAhead_37 : decode cX1_isAhead 37 = .ok (.iload_n 3, 1) := by decide +kernel
theorem dX1_isAhead_38 : decode cX1_isAhead 38 = .ok (.iload 4, 2) := by decide +kernel
theorem dX1_isAhead_40 : decode cX1_isAhead 40 = .ok (.if_icmp .gt 14, 3) := by decide +kernel
theorem dX1_isAhead_43 : decode cX1_isAhead 43 = .ok (.iload_n 3, 1) := by decide +kernel
theorem dX1_isAhead_44 : decode cX1_isAhead 44 = .ok (.iload 4, 2) := by decide +kernel
theorem dX1_isAhead_46 : decode cX1_isAhead 46 = .ok (.if_icmp .ne 12, 3) := by decide +kernel
theorem dX1_isAhead_49 : decode cX1_isAhead 49 = .ok (.iload_n 1, 1) := by decide +kernel
theorem dX1_isAhead_50 : decode cX1_isAhead 50 = .ok (.iload_n 2, 1) := by decide +kernel
theorem dX1_isAhead_51 : decode cX1_isAhead 51 = .ok (.if_icmp .ge 7, 3) := by decide +kernel
theorem dX1_isAhead_54 : decode cX1_isAhead 54 = .ok (.iconst 1, 1) := by decide +kernel
theorem dX1_isAhead_55 : decode cX1_isAhead 55 = .ok (.goto 4, 3) := by decide +kernel
theorem dX1_isAhead_58 : decode cX1_isAhead 58 = .ok (.iconst 0, 1) := by decide +kernel
theorem dX1_isAhead_59 : decode cX1_isAhead 59 = .ok (.ireturn, 1) := by decide +kernel
theorem dX1_liesAt_0 : decode cX1_liesAt 0 = .ok (.aload_n 0, 1) := by decide +kernel
theorem dX1_liesAt_1 : decode cX1_liesAt 1 = .ok (.getfield 31, 3) := by decide +kernel
theorem dX1_liesAt_4 : decode cX1_liesAt 4 = .ok (.iload_n 1, 1) := by decide +kernel
theorem dX1_liesAt_5 : decode cX1_liesAt 5 = .ok (.iaload, 1) := by decide +kernel
theorem dX1_liesAt_6 : decode cX1_liesAt 6 = .ok (.ifCond .ne 17, 3) := by decide +kernel
theorem dX1_liesAt_9 : decode cX1_liesAt 9 = .ok (.aload_n 0, 1) := by decide +kernel
theorem dX1_liesAt_10 : decode cX1_liesAt 10 = .ok (.getfield 34, 3) := by decide +kernel
theorem dX1_liesAt_13 : decode cX1_liesAt 13 = .ok (.iload_n 1, 1) := by decide +kernel
theorem dX1_liesAt_14 : decode cX1_liesAt 14 = .ok (.iaload, 1) := by decide +kernel
theorem dX1_liesAt_15 : decode cX1_liesAt 15 = .ok (.iload_n 2, 1) := by decide +kernel
theorem dX1_liesAt_16 : decode cX1_liesAt 16 = .ok (.if_icmp .ne 7, 3) := by decide +kernel
theorem dX1_liesAt_19 : decode cX1_liesAt 19 = .ok (.iconst 1, 1) := by decide +kernel
theorem dX1_liesAt_20 : decode cX1_liesAt 20 = .ok (.goto 4, 3) := by decide +kernel
theorem dX1_liesAt_23 : decode cX1_liesAt 23 = .ok (.iconst 0, 1) := by decide +kernel
theorem dX1_liesAt_24 : decode cX1_liesAt 24 = .ok (.ireturn, 1) := by decide +kernel
set_option maxRecDepth 20000 in
theorem ggX1_placeOf_X1_liesAt : GoodIn wsX1_placeOf wsX1_liesAt := goodIn_r _ [7, 8, 2, 26, 27, 28, 29, 30, 31, 32, 33, 34, 35, 36, 37, 38, 39, 40, 41] (by decide +kernel) (by decide +kernel)
set_option maxRecDepth 20000 in
theorem gX1_placeOf_X1_liesAt : GoodIn wsX1_placeOf (wsV RX1 89 RX1 yX1_liesAt wsX1_liesAt) := goodIn_app (goodIn_of _ (by decide +kernel)) ggX1_placeOf_X1_liesAt
set_option maxRecDepth 20000 in
theorem ggX1_placeOf_X1_isAhead : GoodIn wsX1_placeOf wsX1_isAhead := goodIn_r _ [12, 13, 14, 15, 16, 17, 6, 18, 1, 8, 19, 20, 21, 22, 23, 24, 25, 26, 27, 28, 29, 30, 31, 32, 33, 34, 35, 36, 37, 38, 39, 40, 41] (by decide +kernel) (by decide +kernel)
set_option maxRecDepth 20000 in
theorem gX1_placeOf_X1_isAhead : GoodIn wsX1_placeOf (wsV RX1 92 RX1 yX1_isAhead wsX1_isAhead) := goodIn_app (goodIn_of _ (by decide +kernel)) ggX1_placeOf_X1_isAhead
theorem dX1_placeOf_0 : decode cX1_placeOf 0 = .ok (.iconst 0, 1) := by decide +kernel
theorem dX1_placeOf_1 : decode cX1_placeOf 1 = .ok (.istore_n 2, 1) := by decide +kernel
theorem dX1_placeOf_2 : decode cX1_placeOf 2 = .ok (.iconst 0, 1) := by decide +kernel
theorem dX1_placeOf_3 : decode cX1_placeOf 3 = .ok (.istore_n 3, 1) := by decide +kernel
theorem dX1_placeOf_4 : decode cX1_placeOf 4 = .ok (.iload_n 3, 1) := by decide +kernel
theorem dX1_placeOf_5 : decode cX1_placeOf 5 = .ok (.aload_n 0, 1) := by decide +kernel
theorem dX1_placeOf_6 : decode cX1_placeOf 6 = .ok (.getfield 58, 3) := by decide +kernel
theorem dX1_placeOf_9 : decode cX1_placeOf 9 = .ok (.if_icmp .ge 45, 3) := by decide +kernel
theorem dX1_placeOf_12 : decode cX1_placeOf 12 = .ok (.iload_n 2, 1) := by decide +kernel
theorem dX1_placeOf_13 : decode cX1_placeOf 13 = .ok (.iload_n 3, 1) := by decide +kernel
theorem dX1_placeOf_14 : decode cX1_placeOf 14 = .ok (.iload_n 1, 1) := by decide +kernel
theorem dX1_placeOf_15 : decode cX1_placeOf 15 = .ok (.if_icmp .eq 30, 3) := by decide +kernel
theorem dX1_placeOf_18 : decode cX1_placeOf 18 = .ok (.aload_n 0, 1) := by decide +kernel
theorem dX1_placeOf_19 : decode cX1_placeOf 19 = .ok (.iload_n 3, 1) := by decide +kernel
theorem dX1_placeOf_20 : decode cX1_placeOf 20 = .ok (.aload_n 0, 1) := by decide +kernel
theorem dX1_placeOf_21 : decode cX1_placeOf 21 = .ok (.getfield 34, 3) := by decide +kernel
theorem dX1_placeOf_24 : decode cX1_placeOf 24 = .ok (.iload_n 1, 1) := by decide +kernel
theorem dX1_placeOf_25 : decode cX1_placeOf 25 = .ok (.iaload, 1) := by decide +kernel
theorem dX1_placeOf_26 : decode cX1_placeOf 26 = .ok (.invokevirtual 89, 3) := by decide +kernel
theorem dX1_placeOf_29 : decode cX1_placeOf 29 = .ok (.ifCond .eq 16, 3) := by decide +kernel
theorem dX1_placeOf_32 : decode cX1_placeOf 32 = .ok (.aload_n 0, 1) := by decide +kernel
theorem dX1_placeOf_33 : decode cX1_placeOf 33 = .ok (.iload_n 3, 1) := by decide +kernel
theorem dX1_placeOf_34 : decode cX1_placeOf 34 = .ok (.iload_n 1, 1) := by decide +kernel
theorem dX1_placeOf_35 : decode cX1_placeOf 35 = .ok (.invokevirtual 92, 3) := by decide +kernel
theorem dX1_placeOf_38 : decode cX1_placeOf 38 = .ok (.ifCond .eq 7, 3) := by decide +kernel
theorem dX1_placeOf_41 : decode cX1_placeOf 41 = .ok (.iconst 1, 1) := by decide +kernel
theorem dX1_placeOf_42 : decode cX1_placeOf 42 = .ok (.goto 4, 3) := by decide +kernel
theorem dX1_placeOf_45 : decode cX1_placeOf 45 = .ok (.iconst 0, 1) := by decide +kernel
theorem dX1_placeOf_46 : decode cX1_placeOf 46 = .ok (.iadd, 1) := by decide +kernel
theorem dX1_placeOf_47 : decode cX1_placeOf 47 = .ok (.istore_n 2, 1) := by decide +kernel
theorem dX1_placeOf_48 : decode cX1_placeOf 48 = .ok (.iinc 3 1, 3) := by decide +kernel
theorem dX1_placeOf_51 : decode cX1_placeOf 51 = .ok (.goto (-47), 3) := by decide +kernel
theorem dX1_placeOf_54 : decode cX1_placeOf 54 = .ok (.iload_n 2, 1) := by decide +kernel
theorem dX1_placeOf_55 : decode cX1_placeOf 55 = .ok (.ireturn, 1) := by decide +kernel
set_option maxRecDepth 20000 in
theorem ggX1_goes_X1_has : GoodIn wsX1_goes wsX1_has := goodIn_r _ [13] (by decide +kernel) (by decide +kernel)
set_option maxRecDepth 20000 in
theorem gX1_goes_X1_has : GoodIn wsX1_goes (va_wsS RX1 68 yX1_has wsX1_has) := goodIn_app (goodIn_of _ (by decide +kernel)) ggX1_goes_X1_has
theorem dX1_goes_0 : decode cX1_goes 0 = .ok (.aload_n 0, 1) := by decide +kernel
theorem dX1_goes_1 : decode cX1_goes 1 = .ok (.getfield 34, 3) := by decide +kernel
theorem dX1_goes_4 : decode cX1_goes 4 = .ok (.iload_n 1, 1) := by decide +kernel
theorem dX1_goes_5 : decode cX1_goes 5 = .ok (.iaload, 1) := by decide +kernel
theorem dX1_goes_6 : decode cX1_goes 6 = .ok (.istore_n 2, 1) := by decide +kernel
theorem dX1_goes_7 : decode cX1_goes 7 = .ok (.aload_n 0, 1) := by decide +kernel
theorem dX1_goes_8 : decode cX1_goes 8 = .ok (.getfield 25, 3) := by decide +kernel
theorem dX1_goes_11 : decode cX1_goes 11 = .ok (.iload_n 1, 1) := by decide +kernel
theorem dX1_goes_12 : decode cX1_goes 12 = .ok (.iaload, 1) := by decide +kernel
theorem dX1_goes_13 : decode cX1_goes 13 = .ok (.iconst 4, 1) := by decide +kernel
theorem dX1_goes_14 : decode cX1_goes 14 = .ok (.irem, 1) := by decide +kernel
theorem dX1_goes_15 : decode cX1_goes 15 = .ok (.istore_n 3, 1) := by decide +kernel
theorem dX1_goes_16 : decode cX1_goes 16 = .ok (.aload_n 0, 1) := by decide +kernel
theorem dX1_goes_17 : decode cX1_goes 17 = .ok (.getfield 7, 3) := by decide +kernel
theorem dX1_goes_20 : decode cX1_goes 20 = .ok (.iconst 4, 1) := by decide +kernel
theorem dX1_goes_21 : decode cX1_goes 21 = .ok (.iload_n 2, 1) := by decide +kernel
theorem dX1_goes_22 : decode cX1_goes 22 = .ok (.imul, 1) := by decide +kernel
theorem dX1_goes_23 : decode cX1_goes 23 = .ok (.iload_n 3, 1) := by decide +kernel
theorem dX1_goes_24 : decode cX1_goes 24 = .ok (.iadd, 1) := by decide +kernel
theorem dX1_goes_25 : decode cX1_goes 25 = .ok (.iaload, 1) := by decide +kernel
theorem dX1_goes_26 : decode cX1_goes 26 = .ok (.istore 4, 2) := by decide +kernel
theorem dX1_goes_28 : decode cX1_goes 28 = .ok (.iload_n 2, 1) := by decide +kernel
theorem dX1_goes_29 : decode cX1_goes 29 = .ok (.iload_n 3, 1) := by decide +kernel
theorem dX1_goes_30 : decode cX1_goes 30 = .ok (.if_icmp .ne 22, 3) := by decide +kernel
theorem dX1_goes_33 : decode cX1_goes 33 = .ok (.aload_n 0, 1) := by decide +kernel
theorem dX1_goes_34 : decode cX1_goes 34 = .ok (.getfield 31, 3) := by decide +kernel
theorem dX1_goes_37 : decode cX1_goes 37 = .ok (.iload_n 1, 1) := by decide +kernel
theorem dX1_goes_38 : decode cX1_goes 38 = .ok (.iconst 1, 1) := by decide +kernel
theorem dX1_goes_39 : decode cX1_goes 39 = .ok (.iastore, 1) := by decide +kernel
theorem dX1_goes_40 : decode cX1_goes 40 = .ok (.aload_n 0, 1) := by decide +kernel
theorem dX1_goes_41 : decode cX1_goes 41 = .ok (.getfield 40, 3) := by decide +kernel
theorem dX1_goes_44 : decode cX1_goes 44 = .ok (.iload_n 1, 1) := by decide +kernel
theorem dX1_goes_45 : decode cX1_goes 45 = .ok (.aload_n 0, 1) := by decide +kernel
theorem dX1_goes_46 : decode cX1_goes 46 = .ok (.getfield 95, 3) := by decide +kernel
theorem dX1_goes_49 : decode cX1_goes 49 = .ok (.iastore, 1) := by decide +kernel
theorem dX1_goes_50 : decode cX1_goes 50 = .ok (.iconst 1, 1) := by decide +kernel
theorem dX1_goes_51 : decode cX1_goes 51 = .ok (.ireturn, 1) := by decide +kernel
theorem dX1_goes_52 : decode cX1_goes 52 = .ok (.aload_n 0, 1) := by decide +kernel
theorem dX1_goes_53 : decode cX1_goes 53 = .ok (.getfield 37, 3) := by decide +kernel
theorem dX1_goes_56 : decode cX1_goes 56 = .ok (.iload_n 1, 1) := by decide +kernel
theorem dX1_goes_57 : decode cX1_goes 57 = .ok (.iaload, 1) := by decide +kernel
theorem dX1_goes_58 : decode cX1_goes 58 = .ok (.iload 4, 2) := by decide +kernel
theorem dX1_goes_60 : decode cX1_goes 60 = .ok (.invokestatic 68, 3) := by decide +kernel
theorem dX1_goes_63 : decode cX1_goes 63 = .ok (.ifCond .eq 28, 3) := by decide +kernel
theorem dX1_goes_66 : decode cX1_goes 66 = .ok (.aload_n 0, 1) := by decide +kernel
theorem dX1_goes_67 : decode cX1_goes 67 = .ok (.getfield 31, 3) := by decide +kernel
theorem dX1_goes_70 : decode cX1_goes 70 = .ok (.iload_n 1, 1) := by decide +kernel
theorem dX1_goes_71 : decode cX1_goes 71 = .ok (.iconst 4, 1) := by decide +kernel
theorem dX1_goes_72 : decode cX1_goes 72 = .ok (.iastore, 1) := by decide +kernel
theorem dX1_goes_73 : decode cX1_goes 73 = .ok (.aload_n 0, 1) := by decide +kernel
theorem dX1_goes_74 : decode cX1_goes 74 = .ok (.getfield 16, 3) := by decide +kernel
theorem dX1_goes_77 : decode cX1_goes 77 = .ok (.iload_n 2, 1) := by decide +kernel
theorem dX1_goes_78 : decode cX1_goes 78 = .ok (.dup2, 1) := by decide +kernel
theorem dX1_goes_79 : decode cX1_goes 79 = .ok (.iaload, 1) := by decide +kernel
theorem dX1_goes_80 : decode cX1_goes 80 = .ok (.aload_n 0, 1) := by decide +kernel
theorem dX1_goes_81 : decode cX1_goes 81 = .ok (.getfield 28, 3) := by decide +kernel
theorem dX1_goes_84 : decode cX1_goes 84 = .ok (.iload_n 1, 1) := by decide +kernel
theorem dX1_goes_85 : decode cX1_goes 85 = .ok (.iaload, 1) := by decide +kernel
theorem dX1_goes_86 : decode cX1_goes 86 = .ok (.iadd, 1) := by decide +kernel
theorem dX1_goes_87 : decode cX1_goes 87 = .ok (.iastore, 1) := by decide +kernel
theorem dX1_goes_88 : decode cX1_goes 88 = .ok (.goto 24, 3) := by decide +kernel
theorem dX1_goes_91 : decode cX1_goes 91 = .ok (.aload_n 0, 1) := by decide +kernel
theorem dX1_goes_92 : decode cX1_goes 92 = .ok (.getfield 34, 3) := by decide +kernel
theorem dX1_goes_95 : decode cX1_goes 95 = .ok (.iload_n 1, 1) := by decide +kernel
theorem dX1_goes_96 : decode cX1_goes 96 = .ok (.iload 4, 2) := by decide +kernel
theorem dX1_goes_98 : decode cX1_goes 98 = .ok (.iastore, 1) := by decide +kernel
theorem dX1_goes_99 : decode cX1_goes 99 = .ok (.aload_n 0, 1) := by decide +kernel
theorem dX1_goes_100 : decode cX1_goes 100 = .ok (.getfield 37, 3) := by decide +kernel
theorem dX1_goes_103 : decode cX1_goes 103 = .ok (.iload_n 1, 1) := by decide +kernel
theorem dX1_goes_104 : decode cX1_goes 104 = .ok (.dup2, 1) := by decide +kernel
theorem dX1_goes_105 : decode cX1_goes 105 = .ok (.iaload, 1) := by decide +kernel
theorem dX1_goes_106 : decode cX1_goes 106 = .ok (.iconst 1, 1) := by decide +kernel
theorem dX1_goes_107 : decode cX1_goes 107 = .ok (.iload 4, 2) := by decide +kernel
theorem dX1_goes_109 : decode cX1_goes 109 = .ok (.ishl, 1) := by decide +kernel
theorem dX1_goes_110 : decode cX1_goes 110 = .ok (.ior, 1) := by decide +kernel
theorem dX1_goes_111 : decode cX1_goes 111 = .ok (.iastore, 1) := by decide +kernel
theorem dX1_goes_112 : decode cX1_goes 112 = .ok (.iconst 0, 1) := by decide +kernel
theorem dX1_goes_113 : decode cX1_goes 113 = .ok (.ireturn, 1) := by decide +kernel
set_option maxRecDepth 20000 in
theorem ggX1_ticks_X1_placeOf : GoodIn wsX1_ticks wsX1_placeOf := goodIn_r _ [13, 2, 14, 15, 16, 17, 12, 18, 4, 19, 20, 21, 22, 8, 7, 23, 24, 25, 26, 27, 28, 29, 30, 31, 32, 33, 44, 45, 46, 47, 48, 49, 50, 51, 52, 53, 54, 55, 56, 57, 58, 59] (by decide +kernel) (by decide +kernel)
set_option maxRecDepth 20000 in
theorem gX1_ticks_X1_placeOf : GoodIn wsX1_ticks (wsV RX1 98 RX1 yX1_placeOf wsX1_placeOf) := goodIn_app (goodIn_of _ (by decide +kernel)) ggX1_ticks_X1_placeOf
set_option maxRecDepth 20000 in
theorem ggX1_ticks_X1_goes : GoodIn wsX1_ticks wsX1_goes := goodIn_r _ [37, 14, 27, 38, 4, 5, 1, 39, 40, 8, 41, 42, 12, 43, 44, 45, 46, 47, 48, 49, 50, 51, 52, 53, 54, 55, 56, 57, 58, 59] (by decide +kernel) (by decide +kernel)
set_option maxRecDepth 20000 in
theorem gX1_ticks_X1_goes : GoodIn wsX1_ticks (wsV RX1 101 RX1 yX1_goes wsX1_goes) := goodIn_app (goodIn_of _ (by decide +kernel)) ggX1_ticks_X1_goes
theorem dX1_ticks_0 : decode cX1_ticks 0 = .ok (.iconst 0, 1) := by decide +kernel
theorem dX1_ticks_1 : decode cX1_ticks 1 = .ok (.istore_n 1, 1) := by decide +kernel
theorem dX1_ticks_2 : decode cX1_ticks 2 = .ok (.aload_n 0, 1) := by decide +kernel
theorem dX1_ticks_3 : decode cX1_ticks 3 = .ok (.dup, 1) := by decide +kernel
theorem dX1_ticks_4 : decode cX1_ticks 4 = .ok (.getfield 95, 3) := by decide +kernel
theorem dX1_ticks_7 : decode cX1_ticks 7 = .ok (.iconst 1, 1) := by decide +kernel
theorem dX1_ticks_8 : decode cX1_ticks 8 = .ok (.iadd, 1) := by decide +kernel
theorem dX1_ticks_9 : decode cX1_ticks 9 = .ok (.putfield 95, 3) := by decide +kernel
theorem dX1_ticks_12 : decode cX1_ticks 12 = .ok (.iconst 0, 1) := by decide +kernel
theorem dX1_ticks_13 : decode cX1_ticks 13 = .ok (.istore_n 2, 1) := by decide +kernel
theorem dX1_ticks_14 : decode cX1_ticks 14 = .ok (.iload_n 2, 1) := by decide +kernel
theorem dX1_ticks_15 : decode cX1_ticks 15 = .ok (.aload_n 0, 1) := by decide +kernel
theorem dX1_ticks_16 : decode cX1_ticks 16 = .ok (.getfield 58, 3) := by decide +kernel
theorem dX1_ticks_19 : decode cX1_ticks 19 = .ok (.if_icmp .ge 38, 3) := by decide +kernel
theorem dX1_ticks_22 : decode cX1_ticks 22 = .ok (.aload_n 0, 1) := by decide +kernel
theorem dX1_ticks_23 : decode cX1_ticks 23 = .ok (.getfield 47, 3) := by decide +kernel
theorem dX1_ticks_26 : decode cX1_ticks 26 = .ok (.iload_n 2, 1) := by decide +kernel
theorem dX1_ticks_27 : decode cX1_ticks 27 = .ok (.aload_n 0, 1) := by decide +kernel
theorem dX1_ticks_28 : decode cX1_ticks 28 = .ok (.getfield 31, 3) := by decide +kernel
theorem dX1_ticks_31 : decode cX1_ticks 31 = .ok (.iload_n 2, 1) := by decide +kernel
theorem dX1_ticks_32 : decode cX1_ticks 32 = .ok (.iaload, 1) := by decide +kernel
theorem dX1_ticks_33 : decode cX1_ticks 33 = .ok (.ifCond .ne 16, 3) := by decide +kernel
theorem dX1_ticks_36 : decode cX1_ticks 36 = .ok (.aload_n 0, 1) := by decide +kernel
theorem dX1_ticks_37 : decode cX1_ticks 37 = .ok (.iload_n 2, 1) := by decide +kernel
theorem dX1_ticks_38 : decode cX1_ticks 38 = .ok (.invokevirtual 98, 3) := by decide +kernel
theorem dX1_ticks_41 : decode cX1_ticks 41 = .ok (.iconst 2, 1) := by decide +kernel
theorem dX1_ticks_42 : decode cX1_ticks 42 = .ok (.if_icmp .ge 7, 3) := by decide +kernel
theorem dX1_ticks_45 : decode cX1_ticks 45 = .ok (.iconst 1, 1) := by decide +kernel
theorem dX1_ticks_46 : decode cX1_ticks 46 = .ok (.goto 4, 3) := by decide +kernel
theorem dX1_ticks_49 : decode cX1_ticks 49 = .ok (.iconst 0, 1) := by decide +kernel
theorem dX1_ticks_50 : decode cX1_ticks 50 = .ok (.bastore, 1) := by decide +kernel
theorem dX1_ticks_51 : decode cX1_ticks 51 = .ok (.iinc 2 1, 3) := by decide +kernel
theorem dX1_ticks_54 : decode cX1_ticks 54 = .ok (.goto (-40), 3) := by decide +kernel
theorem dX1_ticks_57 : decode cX1_ticks 57 = .ok (.iconst 0, 1) := by decide +kernel
theorem dX1_ticks_58 : decode cX1_ticks 58 = .ok (.istore_n 2, 1) := by decide +kernel
theorem dX1_ticks_59 : decode cX1_ticks 59 = .ok (.iload_n 2, 1) := by decide +kernel
theorem dX1_ticks_60 : decode cX1_ticks 60 = .ok (.aload_n 0, 1) := by decide +kernel
theorem dX1_ticks_61 : decode cX1_ticks 61 = .ok (.getfield 58, 3) := by decide +kernel
theorem dX1_ticks_64 : decode cX1_ticks 64 = .ok (.if_icmp .ge 34, 3) := by decide +kernel
theorem dX1_ticks_67 : decode cX1_ticks 67 = .ok (.iload_n 1, 1) := by decide +kernel
theorem dX1_ticks_68 : decode cX1_ticks 68 = .ok (.aload_n 0, 1) := by decide +kernel
theorem dX1_ticks_69 : decode cX1_ticks 69 = .ok (.getfield 47, 3) := by decide +kernel
theorem dX1_ticks_72 : decode cX1_ticks 72 = .ok (.iload_n 2, 1) := by decide +kernel
theorem dX1_ticks_73 : decode cX1_ticks 73 = .ok (.baload, 1) := by decide +kernel
theorem dX1_ticks_74 : decode cX1_ticks 74 = .ok (.ifCond .eq 15, 3) := by decide +kernel
theorem dX1_ticks_77 : decode cX1_ticks 77 = .ok (.aload_n 0, 1) := by decide +kernel
theorem dX1_ticks_78 : decode cX1_ticks 78 = .ok (.iload_n 2, 1) := by decide +kernel
theorem dX1_ticks_79 : decode cX1_ticks 79 = .ok (.invokevirtual 101, 3) := by decide +kernel
theorem dX1_ticks_82 : decode cX1_ticks 82 = .ok (.ifCond .eq 7, 3) := by decide +kernel
theorem dX1_ticks_85 : decode cX1_ticks 85 = .ok (.iconst 1, 1) := by decide +kernel
theorem dX1_ticks_86 : decode cX1_ticks 86 = .ok (.goto 4, 3) := by decide +kernel
theorem dX1_ticks_89 : decode cX1_ticks 89 = .ok (.iconst 0, 1) := by decide +kernel
theorem dX1_ticks_90 : decode cX1_ticks 90 = .ok (.iadd, 1) := by decide +kernel
theorem dX1_ticks_91 : decode cX1_ticks 91 = .ok (.istore_n 1, 1) := by decide +kernel
theorem dX1_ticks_92 : decode cX1_ticks 92 = .ok (.iinc 2 1, 3) := by decide +kernel
theorem dX1_ticks_95 : decode cX1_ticks 95 = .ok (.goto (-36), 3) := by decide +kernel
theorem dX1_ticks_98 : decode cX1_ticks 98 = .ok (.iconst 0, 1) := by decide +kernel
theorem dX1_ticks_99 : decode cX1_ticks 99 = .ok (.istore_n 2, 1) := by decide +kernel
theorem dX1_ticks_100 : decode cX1_ticks 100 = .ok (.iload_n 2, 1) := by decide +kernel
theorem dX1_ticks_101 : decode cX1_ticks 101 = .ok (.aload_n 0, 1) := by decide +kernel
theorem dX1_ticks_102 : decode cX1_ticks 102 = .ok (.getfield 58, 3) := by decide +kernel
theorem dX1_ticks_105 : decode cX1_ticks 105 = .ok (.if_icmp .ge 62, 3) := by decide +kernel
theorem dX1_ticks_108 : decode cX1_ticks 108 = .ok (.aload_n 0, 1) := by decide +kernel
theorem dX1_ticks_109 : decode cX1_ticks 109 = .ok (.getfield 31, 3) := by decide +kernel
theorem dX1_ticks_112 : decode cX1_ticks 112 = .ok (.iload_n 2, 1) := by decide +kernel
theorem dX1_ticks_113 : decode cX1_ticks 113 = .ok (.iaload, 1) := by decide +kernel
theorem dX1_ticks_114 : decode cX1_ticks 114 = .ok (.iconst 1, 1) := by decide +kernel
theorem dX1_ticks_115 : decode cX1_ticks 115 = .ok (.if_icmp .ne 46, 3) := by decide +kernel
theorem dX1_ticks_118 : decode cX1_ticks 118 = .ok (.aload_n 0, 1) := by decide +kernel
theorem dX1_ticks_119 : decode cX1_ticks 119 = .ok (.getfield 95, 3) := by decide +kernel
theorem dX1_ticks_122 : decode cX1_ticks 122 = .ok (.aload_n 0, 1) := by decide +kernel
theorem dX1_ticks_123 : decode cX1_ticks 123 = .ok (.getfield 40, 3) := by decide +kernel
theorem dX1_ticks_126 : decode cX1_ticks 126 = .ok (.iload_n 2, 1) := by decide +kernel
theorem dX1_ticks_127 : decode cX1_ticks 127 = .ok (.iaload, 1) := by decide +kernel
theorem dX1_ticks_128 : decode cX1_ticks 128 = .ok (.isub, 1) := by decide +kernel
theorem dX1_ticks_129 : decode cX1_ticks 129 = .ok (.bipush 20, 2) := by decide +kernel
theorem dX1_ticks_131 : decode cX1_ticks 131 = .ok (.if_icmp .ne 30, 3) := by decide +kernel
theorem dX1_ticks_134 : decode cX1_ticks 134 = .ok (.aload_n 0, 1) := by decide +kernel
theorem dX1_ticks_135 : decode cX1_ticks 135 = .ok (.getfield 31, 3) := by decide +kernel
theorem dX1_ticks_138 : decode cX1_ticks 138 = .ok (.iload_n 2, 1) := by decide +kernel
theorem dX1_ticks_139 : decode cX1_ticks 139 = .ok (.iconst 5, 1) := by decide +kernel
theorem dX1_ticks_140 : decode cX1_ticks 140 = .ok (.iastore, 1) := by decide +kernel
theorem dX1_ticks_141 : decode cX1_ticks 141 = .ok (.aload_n 0, 1) := by decide +kernel
theorem dX1_ticks_142 : decode cX1_ticks 142 = .ok (.getfield 13, 3) := by decide +kernel
theorem dX1_ticks_145 : decode cX1_ticks 145 = .ok (.aload_n 0, 1) := by decide +kernel
theorem dX1_ticks_146 : decode cX1_ticks 146 = .ok (.getfield 22, 3) := by decide +kernel
theorem dX1_ticks_149 : decode cX1_ticks 149 = .ok (.iload_n 2, 1) := by decide +kernel
theorem dX1_ticks_150 : decode cX1_ticks 150 = .ok (.iaload, 1) := by decide +kernel
theorem dX1_ticks_151 : decode cX1_ticks 151 = .ok (.dup2, 1) := by decide +kernel
theorem dX1_ticks_152 : decode cX1_ticks 152 = .ok (.iaload, 1) := by decide +kernel
theorem dX1_ticks_153 : decode cX1_ticks 153 = .ok (.aload_n 0, 1) := by decide +kernel
theorem dX1_ticks_154 : decode cX1_ticks 154 = .ok (.getfield 28, 3) := by decide +kernel
theorem dX1_ticks_157 : decode cX1_ticks 157 = .ok (.iload_n 2, 1) := by decide +kernel
theorem dX1_ticks_158 : decode cX1_ticks 158 = .ok (.iaload, 1) := by decide +kernel
theorem dX1_ticks_159 : decode cX1_ticks 159 = .ok (.iadd, 1) := by decide +kernel
theorem dX1_ticks_160 : decode cX1_ticks 160 = .ok (.iastore, 1) := by decide +kernel
theorem dX1_ticks_161 : decode cX1_ticks 161 = .ok (.iinc 2 1, 3) := by decide +kernel
theorem dX1_ticks_164 : decode cX1_ticks 164 = .ok (.goto (-64), 3) := by decide +kernel
theorem dX1_ticks_167 : decode cX1_ticks 167 = .ok (.iload_n 1, 1) := by decide +kernel
theorem dX1_ticks_168 : decode cX1_ticks 168 = .ok (.ireturn, 1) := by decide +kernel
set_option maxRecDepth 20000 in
theorem ggX1_pass_X1_isIn : GoodIn wsX1_pass wsX1_isIn := goodIn_r _ [6] (by decide +kernel) (by decide +kernel)
set_option maxRecDepth 20000 in
theorem gX1_pass_X1_isIn : GoodIn wsX1_pass (va_wsS RX1 54 yX1_isIn wsX1_isIn) := goodIn_app (goodIn_of _ (by decide +kernel)) ggX1_pass_X1_isIn
set_option maxRecDepth 20000 in
theorem ggX1_pass_X1_can : GoodIn wsX1_pass wsX1_can := goodIn_r _ [10, 11, 57, 58, 59, 60, 61, 62, 63, 64, 65, 66, 67, 68, 69, 70, 71, 72] (by decide +kernel) (by decide +kernel)
set_option maxRecDepth 20000 in
theorem gX1_pass_X1_can : GoodIn wsX1_pass (wsV RX1 65 RX1 yX1_can wsX1_can) := goodIn_app (goodIn_of _ (by decide +kernel)) ggX1_pass_X1_can
set_option maxRecDepth 20000 in
theorem ggX1_pass_X1_ticks : GoodIn wsX1_pass wsX1_ticks := goodIn_r _ [15, 1, 16, 17, 18, 19, 20, 21, 22, 23, 24, 25, 5, 26, 27, 28, 29, 30, 31, 32, 33, 34, 35, 36, 37, 38, 39, 40, 41, 42, 43, 44, 45, 46, 47, 48, 49, 50, 51, 52, 53, 54, 55, 56, 57, 58, 59, 60, 61, 62, 63, 64, 65, 66, 67, 68, 69, 70, 71, 72] (by decide +kernel) (by decide +kernel)
set_option maxRecDepth 20000 in
theorem gX1_pass_X1_ticks : GoodIn wsX1_pass (wsV RX1 105 RX1 yX1_ticks wsX1_ticks) := goodIn_app (goodIn_of _ (by decide +kernel)) ggX1_pass_X1_ticks
theorem dX1_pass_0 : decode cX1_pass 0 = .ok (.aload_n 0, 1) := by decide +kernel
theorem dX1_pass_1 : decode cX1_pass 1 = .ok (.iload_n 1, 1) := by decide +kernel
theorem dX1_pass_2 : decode cX1_pass 2 = .ok (.iconst 1, 1) := by decide +kernel
theorem dX1_pass_3 : decode cX1_pass 3 = .ok (.bipush 50, 2) := by decide +kernel
theorem dX1_pass_5 : decode cX1_pass 5 = .ok (.invokestatic 54, 3) := by decide +kernel
theorem dX1_pass_8 : decode cX1_pass 8 = .ok (.ifCond .ne 7, 3) := by decide +kernel
theorem dX1_pass_11 : decode cX1_pass 11 = .ok (.iconst 1, 1) := by decide +kernel
theorem dX1_pass_12 : decode cX1_pass 12 = .ok (.goto 19, 3) := by decide +kernel
theorem dX1_pass_15 : decode cX1_pass 15 = .ok (.aload_n 0, 1) := by decide +kernel
theorem dX1_pass_16 : decode cX1_pass 16 = .ok (.getfield 95, 3) := by decide +kernel
theorem dX1_pass_19 : decode cX1_pass 19 = .ok (.iload_n 1, 1) := by decide +kernel
theorem dX1_pass_20 : decode cX1_pass 20 = .ok (.iadd, 1) := by decide +kernel
theorem dX1_pass_21 : decode cX1_pass 21 = .ok (.ldc 104, 2) := by decide +kernel
theorem dX1_pass_23 : decode cX1_pass 23 = .ok (.if_icmp .le 7, 3) := by decide +kernel
theorem dX1_pass_26 : decode cX1_pass 26 = .ok (.iconst 2, 1) := by decide +kernel
theorem dX1_pass_27 : decode cX1_pass 27 = .ok (.goto 4, 3) := by decide +kernel
theorem dX1_pass_30 : decode cX1_pass 30 = .ok (.iconst 0, 1) := by decide +kernel
theorem dX1_pass_31 : decode cX1_pass 31 = .ok (.invokevirtual 65, 3) := by decide +kernel
theorem dX1_pass_34 : decode cX1_pass 34 = .ok (.ifCond .ne 5, 3) := by decide +kernel
theorem dX1_pass_37 : decode cX1_pass 37 = .ok (.iconst 0, 1) := by decide +kernel
theorem dX1_pass_38 : decode cX1_pass 38 = .ok (.ireturn, 1) := by decide +kernel
theorem dX1_pass_39 : decode cX1_pass 39 = .ok (.iconst 0, 1) := by decide +kernel
theorem dX1_pass_40 : decode cX1_pass 40 = .ok (.istore_n 2, 1) := by decide +kernel
theorem dX1_pass_41 : decode cX1_pass 41 = .ok (.iconst 0, 1) := by decide +kernel
theorem dX1_pass_42 : decode cX1_pass 42 = .ok (.istore_n 3, 1) := by decide +kernel
theorem dX1_pass_43 : decode cX1_pass 43 = .ok (.iload_n 3, 1) := by decide +kernel
theorem dX1_pass_44 : decode cX1_pass 44 = .ok (.iload_n 1, 1) := by decide +kernel
theorem dX1_pass_45 : decode cX1_pass 45 = .ok (.if_icmp .ge 16, 3) := by decide +kernel
theorem dX1_pass_48 : decode cX1_pass 48 = .ok (.iload_n 2, 1) := by decide +kernel
theorem dX1_pass_49 : decode cX1_pass 49 = .ok (.aload_n 0, 1) := by decide +kernel
theorem dX1_pass_50 : decode cX1_pass 50 = .ok (.invokevirtual 105, 3) := by decide +kernel
theorem dX1_pass_53 : decode cX1_pass 53 = .ok (.iadd, 1) := by decide +kernel
theorem dX1_pass_54 : decode cX1_pass 54 = .ok (.istore_n 2, 1) := by decide +kernel
theorem dX1_pass_55 : decode cX1_pass 55 = .ok (.iinc 3 1, 3) := by decide +kernel
theorem dX1_pass_58 : decode cX1_pass 58 = .ok (.goto (-15), 3) := by decide +kernel
theorem dX1_pass_61 : decode cX1_pass 61 = .ok (.iload_n 2, 1) := by decide +kernel
theorem dX1_pass_62 : decode cX1_pass 62 = .ok (.ireturn, 1) := by decide +kernel
set_option maxRecDepth 20000 in
theorem ggX1_answer_X1_isLetter : GoodIn wsX1_answer wsX1_isLetter := goodIn_r _ [9, 10, 11, 12, 8, 13, 30, 31, 32, 33, 34, 35, 36, 37, 38, 39, 40, 41, 42, 43, 44, 45] (by decide +kernel) (by decide +kernel)
set_option maxRecDepth 20000 in
theorem gX1_answer_X1_isLetter : GoodIn wsX1_answer (wsV RX1 109 RX1 yX1_isLetter wsX1_isLetter) := goodIn_app (goodIn_of _ (by decide +kernel)) ggX1_answer_X1_isLetter
set_option maxRecDepth 20000 in
theorem ggX1_answer_X1_can : GoodIn wsX1_answer wsX1_can := goodIn_r _ [17, 18, 30, 31, 32, 33, 34, 35, 36, 37, 38, 39, 40, 41, 42, 43, 44, 45] (by decide +kernel) (by decide +kernel)
set_option maxRecDepth 20000 in
theorem gX1_answer_X1_can : GoodIn wsX1_answer (wsV RX1 65 RX1 yX1_can wsX1_can) := goodIn_app (goodIn_of _ (by decide +kernel)) ggX1_answer_X1_can
set_option maxRecDepth 20000 in
theorem ggX1_answer_X1_nameOf : GoodIn wsX1_answer wsX1_nameOf := goodIn_r _ [22, 10, 3, 1, 23, 24, 25, 26, 27, 8, 28, 29, 30, 31, 32, 33, 34, 35, 36, 37, 38, 39, 40, 41, 42, 43, 44, 45] (by decide +kernel) (by decide +kernel)
set_option maxRecDepth 20000 in
theorem gX1_answer_X1_nameOf : GoodIn wsX1_answer (wsV RX1 80 RX1 yX1_nameOf wsX1_nameOf) := goodIn_app (goodIn_of _ (by decide +kernel)) ggX1_answer_X1_nameOf
theorem dX1_answer_0 : decode cX1_answer 0 = .ok (.aload_n 0, 1) := by decide +kernel
theorem dX1_answer_1 : decode cX1_answer 1 = .ok (.aload_n 0, 1) := by decide +kernel
theorem dX1_answer_2 : decode cX1_answer 2 = .ok (.iload_n 1, 1) := by decide +kernel
theorem dX1_answer_3 : decode cX1_answer 3 = .ok (.invokevirtual 109, 3) := by decide +kernel
theorem dX1_answer_6 : decode cX1_answer 6 = .ok (.ifCond .ne 7, 3) := by decide +kernel
theorem dX1_answer_9 : decode cX1_answer 9 = .ok (.iconst 1, 1) := by decide +kernel
theorem dX1_answer_10 : decode cX1_answer 10 = .ok (.goto 18, 3) := by decide +kernel
theorem dX1_answer_13 : decode cX1_answer 13 = .ok (.aload_n 0, 1) := by decide +kernel
theorem dX1_answer_14 : decode cX1_answer 14 = .ok (.getfield 31, 3) := by decide +kernel
theorem dX1_answer_17 : decode cX1_answer 17 = .ok (.iload_n 1, 1) := by decide +kernel
theorem dX1_answer_18 : decode cX1_answer 18 = .ok (.iaload, 1) := by decide +kernel
theorem dX1_answer_19 : decode cX1_answer 19 = .ok (.iconst 1, 1) := by decide +kernel
theorem dX1_answer_20 : decode cX1_answer 20 = .ok (.if_icmp .ne 7, 3) := by decide +kernel
theorem dX1_answer_23 : decode cX1_answer 23 = .ok (.iconst 0, 1) := by decide +kernel
theorem dX1_answer_24 : decode cX1_answer 24 = .ok (.goto 4, 3) := by decide +kernel
theorem dX1_answer_27 : decode cX1_answer 27 = .ok (.iconst 2, 1) := by decide +kernel
theorem dX1_answer_28 : decode cX1_answer 28 = .ok (.invokevirtual 65, 3) := by decide +kernel
theorem dX1_answer_31 : decode cX1_answer 31 = .ok (.ifCond .ne 5, 3) := by decide +kernel
theorem dX1_answer_34 : decode cX1_answer 34 = .ok (.iconst 0, 1) := by decide +kernel
theorem dX1_answer_35 : decode cX1_answer 35 = .ok (.ireturn, 1) := by decide +kernel
theorem dX1_answer_36 : decode cX1_answer 36 = .ok (.aload_n 0, 1) := by decide +kernel
theorem dX1_answer_37 : decode cX1_answer 37 = .ok (.getfield 31, 3) := by decide +kernel
theorem dX1_answer_40 : decode cX1_answer 40 = .ok (.iload_n 1, 1) := by decide +kernel
theorem dX1_answer_41 : decode cX1_answer 41 = .ok (.iconst 2, 1) := by decide +kernel
theorem dX1_answer_42 : decode cX1_answer 42 = .ok (.iastore, 1) := by decide +kernel
theorem dX1_answer_43 : decode cX1_answer 43 = .ok (.aload_n 0, 1) := by decide +kernel
theorem dX1_answer_44 : decode cX1_answer 44 = .ok (.getfield 13, 3) := by decide +kernel
theorem dX1_answer_47 : decode cX1_answer 47 = .ok (.aload_n 0, 1) := by decide +kernel
theorem dX1_answer_48 : decode cX1_answer 48 = .ok (.getfield 22, 3) := by decide +kernel
theorem dX1_answer_51 : decode cX1_answer 51 = .ok (.iload_n 1, 1) := by decide +kernel
theorem dX1_answer_52 : decode cX1_answer 52 = .ok (.iaload, 1) := by decide +kernel
theorem dX1_answer_53 : decode cX1_answer 53 = .ok (.dup2, 1) := by decide +kernel
theorem dX1_answer_54 : decode cX1_answer 54 = .ok (.iaload, 1) := by decide +kernel
theorem dX1_answer_55 : decode cX1_answer 55 = .ok (.aload_n 0, 1) := by decide +kernel
theorem dX1_answer_56 : decode cX1_answer 56 = .ok (.getfield 28, 3) := by decide +kernel
theorem dX1_answer_59 : decode cX1_answer 59 = .ok (.iload_n 1, 1) := by decide +kernel
theorem dX1_answer_60 : decode cX1_answer 60 = .ok (.iaload, 1) := by decide +kernel
theorem dX1_answer_61 : decode cX1_answer 61 = .ok (.iadd, 1) := by decide +kernel
theorem dX1_answer_62 : decode cX1_answer 62 = .ok (.iastore, 1) := by decide +kernel
theorem dX1_answer_63 : decode cX1_answer 63 = .ok (.aload_n 0, 1) := by decide +kernel
theorem dX1_answer_64 : decode cX1_answer 64 = .ok (.aload_n 0, 1) := by decide +kernel
theorem dX1_answer_65 : decode cX1_answer 65 = .ok (.getfield 22, 3) := by decide +kernel
theorem dX1_answer_68 : decode cX1_answer 68 = .ok (.iload_n 1, 1) := by decide +kernel
theorem dX1_answer_69 : decode cX1_answer 69 = .ok (.iaload, 1) := by decide +kernel
theorem dX1_answer_70 : decode cX1_answer 70 = .ok (.invokevirtual 80, 3) := by decide +kernel
theorem dX1_answer_73 : decode cX1_answer 73 = .ok (.ireturn, 1) := by decide +kernel
theorem dX1_others_0 : decode cX1_others 0 = .ok (.iconst 0, 1) := by decide +kernel
theorem dX1_others_1 : decode cX1_others 1 = .ok (.istore_n 2, 1) := by decide +kernel
theorem dX1_others_2 : decode cX1_others 2 = .ok (.iconst 0, 1) := by decide +kernel
theorem dX1_others_3 : decode cX1_others 3 = .ok (.istore_n 3, 1) := by decide +kernel
theorem dX1_others_4 : decode cX1_others 4 = .ok (.iload_n 3, 1) := by decide +kernel
theorem dX1_others_5 : decode cX1_others 5 = .ok (.aload_n 0, 1) := by decide +kernel
theorem dX1_others_6 : decode cX1_others 6 = .ok (.getfield 58, 3) := by decide +kernel
theorem dX1_others_9 : decode cX1_others 9 = .ok (.if_icmp .ge 76, 3) := by decide +kernel
theorem dX1_others_12 : decode cX1_others 12 = .ok (.aload_n 0, 1) := by decide +kernel
theorem dX1_others_13 : decode cX1_others 13 = .ok (.getfield 22, 3) := by decide +kernel
theorem dX1_others_16 : decode cX1_others 16 = .ok (.iload_n 3, 1) := by decide +kernel
theorem dX1_others_17 : decode cX1_others 17 = .ok (.iaload, 1) := by decide +kernel
theorem dX1_others_18 : decode cX1_others 18 = .ok (.aload_n 0, 1) := by decide +kernel
theorem dX1_others_19 : decode cX1_others 19 = .ok (.getfield 22, 3) := by decide +kernel
theorem dX1_others_22 : decode cX1_others 22 = .ok (.iload_n 1, 1) := by decide +kernel
theorem dX1_others_23 : decode cX1_others 23 = .ok (.iaload, 1) := by decide +kernel
theorem dX1_others_24 : decode cX1_others 24 = .ok (.if_icmp .ne 32, 3) := by decide +kernel
theorem dX1_others_27 : decode cX1_others 27 = .ok (.aload_n 0, 1) := by decide +kernel
theorem dX1_others_28 : decode cX1_others 28 = .ok (.getfield 31, 3) := by decide +kernel
theorem dX1_others_31 : decode cX1_others 31 = .ok (.iload_n 3, 1) := by decide +kernel
theorem dX1_others_32 : decode cX1_others 32 = .ok (.iaload, 1) := by decide +kernel
theorem dX1_others_33 : decode cX1_others 33 = .ok (.iconst 2, 1) := by decide +kernel
theorem dX1_others_34 : decode cX1_others 34 = .ok (.if_icmp .ne 22, 3) := by decide +kernel
theorem dX1_others_37 : decode cX1_others 37 = .ok (.aload_n 0, 1) := by decide +kernel
theorem dX1_others_38 : decode cX1_others 38 = .ok (.getfield 25, 3) := by decide +kernel
theorem dX1_others_41 : decode cX1_others 41 = .ok (.iload_n 3, 1) := by decide +kernel
theorem dX1_others_42 : decode cX1_others 42 = .ok (.iaload, 1) := by decide +kernel
theorem dX1_others_43 : decode cX1_others 43 = .ok (.aload_n 0, 1) := by decide +kernel
theorem dX1_others_44 : decode cX1_others 44 = .ok (.getfield 25, 3) := by decide +kernel
theorem dX1_others_47 : decode cX1_others 47 = .ok (.iload_n 1, 1) := by decide +kernel
theorem dX1_others_48 : decode cX1_others 48 = .ok (.iaload, 1) := by decide +kernel
theorem dX1_others_49 : decode cX1_others 49 = .ok (.if_icmp .eq 7, 3) := by decide +kernel
theorem dX1_others_52 : decode cX1_others 52 = .ok (.iconst 1, 1) := by decide +kernel
theorem dX1_others_53 : decode cX1_others 53 = .ok (.goto 4, 3) := by decide +kernel
theorem dX1_others_56 : decode cX1_others 56 = .ok (.iconst 0, 1) := by decide +kernel
theorem dX1_others_57 : decode cX1_others 57 = .ok (.istore 4, 2) := by decide +kernel
theorem dX1_others_59 : decode cX1_others 59 = .ok (.iload_n 2, 1) := by decide +kernel
theorem dX1_others_60 : decode cX1_others 60 = .ok (.iload 4, 2) := by decide +kernel
theorem dX1_others_62 : decode cX1_others 62 = .ok (.ifCond .eq 14, 3) := by decide +kernel
theorem dX1_others_65 : decode cX1_others 65 = .ok (.iconst 1, 1) := by decide +kernel
theorem dX1_others_66 : decode cX1_others 66 = .ok (.aload_n 0, 1) := by decide +kernel
theorem dX1_others_67 : decode cX1_others 67 = .ok (.getfield 25, 3) := by decide +kernel
theorem dX1_others_70 : decode cX1_others 70 = .ok (.iload_n 3, 1) := by decide +kernel
theorem dX1_others_71 : decode cX1_others 71 = .ok (.iaload, 1) := by decide +kernel
theorem dX1_others_72 : decode cX1_others 72 = .ok (.ishl, 1) := by decide +kernel
theorem dX1_others_73 : decode cX1_others 73 = .ok (.goto 4, 3) := by decide +kernel
theorem dX1_others_76 : decode cX1_others 76 = .ok (.iconst 0, 1) := by decide +kernel
theorem dX1_others_77 : decode cX1_others 77 = .ok (.ior, 1) := by decide +kernel
theorem dX1_others_78 : decode cX1_others 78 = .ok (.istore_n 2, 1) := by decide +kernel
theorem dX1_others_79 : decode cX1_others 79 = .ok (.iinc 3 1, 3) := by decide +kernel
theorem dX1_others_82 : decode cX1_others 82 = .ok (.goto (-78), 3) := by decide +kernel
theorem dX1_others_85 : decode cX1_others 85 = .ok (.iload_n 2, 1) := by decide +kernel
theorem dX1_others_86 : decode cX1_others 86 = .ok (.ireturn, 1) := by decide +kernel
set_option maxRecDepth 20000 in
theorem ggX1_mark_X1_isLetter : GoodIn wsX1_mark wsX1_isLetter := goodIn_r _ [13, 14, 15, 16, 12, 17, 30, 31, 32, 33, 34, 35, 36, 37, 38, 39, 40, 41, 42, 43, 44, 45] (by decide +kernel) (by decide +kernel)
set_option maxRecDepth 20000 in
theorem gX1_mark_X1_isLetter : GoodIn wsX1_mark (wsV RX1 109 RX1 yX1_isLetter wsX1_isLetter) := goodIn_app (goodIn_of _ (by decide +kernel)) ggX1_mark_X1_isLetter
set_option maxRecDepth 20000 in
theorem ggX1_mark_X1_can : GoodIn wsX1_mark wsX1_can := goodIn_r _ [21, 22, 30, 31, 32, 33, 34, 35, 36, 37, 38, 39, 40, 41, 42, 43, 44, 45] (by decide +kernel) (by decide +kernel)
set_option maxRecDepth 20000 in
theorem gX1_mark_X1_can : GoodIn wsX1_mark (wsV RX1 65 RX1 yX1_can wsX1_can) := goodIn_app (goodIn_of _ (by decide +kernel)) ggX1_mark_X1_can
set_option maxRecDepth 20000 in
theorem ggX1_mark_X1_others : GoodIn wsX1_mark wsX1_others := goodIn_r _ [26, 14, 8, 1, 2, 30, 31, 32, 33, 34, 35, 36, 37, 38, 39, 40, 41, 42, 43, 44, 45] (by decide +kernel) (by decide +kernel)
set_option maxRecDepth 20000 in
theorem gX1_mark_X1_others : GoodIn wsX1_mark (wsV RX1 112 RX1 yX1_others wsX1_others) := goodIn_app (goodIn_of _ (by decide +kernel)) ggX1_mark_X1_others
set_option maxRecDepth 20000 in
theorem ggX1_mark_X1_has : GoodIn wsX1_mark wsX1_has := goodIn_r _ [29] (by decide +kernel) (by decide +kernel)
set_option maxRecDepth 20000 in
theorem gX1_mark_X1_has : GoodIn wsX1_mark (va_wsS RX1 68 yX1_has wsX1_has) := goodIn_app (goodIn_of _ (by decide +kernel)) ggX1_mark_X1_has
theorem dX1_mark_0 : decode cX1_mark 0 = .ok (.aload_n 0, 1) := by decide +kernel
theorem dX1_mark_1 : decode cX1_mark 1 = .ok (.aload_n 0, 1) := by decide +kernel
theorem dX1_mark_2 : decode cX1_mark 2 = .ok (.iload_n 1, 1) := by decide +kernel
theorem dX1_mark_3 : decode cX1_mark 3 = .ok (.invokevirtual 109, 3) := by decide +kernel
theorem dX1_mark_6 : decode cX1_mark 6 = .ok (.ifCond .ne 7, 3) := by decide +kernel
theorem dX1_mark_9 : decode cX1_mark 9 = .ok (.iconst 1, 1) := by decide +kernel
theorem dX1_mark_10 : decode cX1_mark 10 = .ok (.goto 18, 3) := by decide +kernel
theorem dX1_mark_13 : decode cX1_mark 13 = .ok (.aload_n 0, 1) := by decide +kernel
theorem dX1_mark_14 : decode cX1_mark 14 = .ok (.getfield 31, 3) := by decide +kernel
theorem dX1_mark_17 : decode cX1_mark 17 = .ok (.iload_n 1, 1) := by decide +kernel
theorem dX1_mark_18 : decode cX1_mark 18 = .ok (.iaload, 1) := by decide +kernel
theorem dX1_mark_19 : decode cX1_mark 19 = .ok (.iconst 1, 1) := by decide +kernel
theorem dX1_mark_20 : decode cX1_mark 20 = .ok (.if_icmp .ne 7, 3) := by decide +kernel
theorem dX1_mark_23 : decode cX1_mark 23 = .ok (.iconst 0, 1) := by decide +kernel
theorem dX1_mark_24 : decode cX1_mark 24 = .ok (.goto 4, 3) := by decide +kernel
theorem dX1_mark_27 : decode cX1_mark 27 = .ok (.iconst 2, 1) := by decide +kernel
theorem dX1_mark_28 : decode cX1_mark 28 = .ok (.invokevirtual 65, 3) := by decide +kernel
theorem dX1_mark_31 : decode cX1_mark 31 = .ok (.ifCond .ne 5, 3) := by decide +kernel
theorem dX1_mark_34 : decode cX1_mark 34 = .ok (.iconst 0, 1) := by decide +kernel
theorem dX1_mark_35 : decode cX1_mark 35 = .ok (.ireturn, 1) := by decide +kernel
theorem dX1_mark_36 : decode cX1_mark 36 = .ok (.aload_n 0, 1) := by decide +kernel
theorem dX1_mark_37 : decode cX1_mark 37 = .ok (.getfield 25, 3) := by decide +kernel
theorem dX1_mark_40 : decode cX1_mark 40 = .ok (.iload_n 1, 1) := by decide +kernel
theorem dX1_mark_41 : decode cX1_mark 41 = .ok (.iaload, 1) := by decide +kernel
theorem dX1_mark_42 : decode cX1_mark 42 = .ok (.istore_n 2, 1) := by decide +kernel
theorem dX1_mark_43 : decode cX1_mark 43 = .ok (.iconst 0, 1) := by decide +kernel
theorem dX1_mark_44 : decode cX1_mark 44 = .ok (.istore_n 3, 1) := by decide +kernel
theorem dX1_mark_45 : decode cX1_mark 45 = .ok (.iconst 0, 1) := by decide +kernel
theorem dX1_mark_46 : decode cX1_mark 46 = .ok (.istore 4, 2) := by decide +kernel
theorem dX1_mark_48 : decode cX1_mark 48 = .ok (.iload 4, 2) := by decide +kernel
theorem dX1_mark_50 : decode cX1_mark 50 = .ok (.bipush 8, 2) := by decide +kernel
theorem dX1_mark_52 : decode cX1_mark 52 = .ok (.if_icmp .ge 30, 3) := by decide +kernel
theorem dX1_mark_55 : decode cX1_mark 55 = .ok (.iload_n 3, 1) := by decide +kernel
theorem dX1_mark_56 : decode cX1_mark 56 = .ok (.aload_n 0, 1) := by decide +kernel
theorem dX1_mark_57 : decode cX1_mark 57 = .ok (.iload_n 1, 1) := by decide +kernel
theorem dX1_mark_58 : decode cX1_mark 58 = .ok (.invokevirtual 112, 3) := by decide +kernel
theorem dX1_mark_61 : decode cX1_mark 61 = .ok (.iload 4, 2) := by decide +kernel
theorem dX1_mark_63 : decode cX1_mark 63 = .ok (.invokestatic 68, 3) := by decide +kernel
theorem dX1_mark_66 : decode cX1_mark 66 = .ok (.ifCond .eq 7, 3) := by decide +kernel
theorem dX1_mark_69 : decode cX1_mark 69 = .ok (.iconst 1, 1) := by decide +kernel
theorem dX1_mark_70 : decode cX1_mark 70 = .ok (.goto 4, 3) := by decide +kernel
theorem dX1_mark_73 : decode cX1_mark 73 = .ok (.iconst 0, 1) := by decide +kernel
theorem dX1_mark_74 : decode cX1_mark 74 = .ok (.iadd, 1) := by decide +kernel
theorem dX1_mark_75 : decode cX1_mark 75 = .ok (.istore_n 3, 1) := by decide +kernel
theorem dX1_mark_76 : decode cX1_mark 76 = .ok (.iinc 4 1, 3) := by decide +kernel
theorem dX1_mark_79 : decode cX1_mark 79 = .ok (.goto (-31), 3) := by decide +kernel
theorem dX1_mark_82 : decode cX1_mark 82 = .ok (.aload_n 0, 1) := by decide +kernel
theorem dX1_mark_83 : decode cX1_mark 83 = .ok (.getfield 31, 3) := by decide +kernel
theorem dX1_mark_86 : decode cX1_mark 86 = .ok (.iload_n 1, 1) := by decide +kernel
theorem dX1_mark_87 : decode cX1_mark 87 = .ok (.iconst 3, 1) := by decide +kernel
theorem dX1_mark_88 : decode cX1_mark 88 = .ok (.iastore, 1) := by decide +kernel
theorem dX1_mark_89 : decode cX1_mark 89 = .ok (.aload_n 0, 1) := by decide +kernel
theorem dX1_mark_90 : decode cX1_mark 90 = .ok (.getfield 43, 3) := by decide +kernel
theorem dX1_mark_93 : decode cX1_mark 93 = .ok (.iload_n 1, 1) := by decide +kernel
theorem dX1_mark_94 : decode cX1_mark 94 = .ok (.iload_n 3, 1) := by decide +kernel
theorem dX1_mark_95 : decode cX1_mark 95 = .ok (.iconst 3, 1) := by decide +kernel
theorem dX1_mark_96 : decode cX1_mark 96 = .ok (.if_icmp .lt 7, 3) := by decide +kernel
theorem dX1_mark_99 : decode cX1_mark 99 = .ok (.iconst 1, 1) := by decide +kernel
theorem dX1_mark_100 : decode cX1_mark 100 = .ok (.goto 4, 3) := by decide +kernel
theorem dX1_mark_103 : decode cX1_mark 103 = .ok (.iconst 0, 1) := by decide +kernel
theorem dX1_mark_104 : decode cX1_mark 104 = .ok (.bastore, 1) := by decide +kernel
theorem dX1_mark_105 : decode cX1_mark 105 = .ok (.aload_n 0, 1) := by decide +kernel
theorem dX1_mark_106 : decode cX1_mark 106 = .ok (.getfield 16, 3) := by decide +kernel
theorem dX1_mark_109 : decode cX1_mark 109 = .ok (.iload_n 2, 1) := by decide +kernel
theorem dX1_mark_110 : decode cX1_mark 110 = .ok (.iconst 4, 1) := by decide +kernel
theorem dX1_mark_111 : decode cX1_mark 111 = .ok (.irem, 1) := by decide +kernel
theorem dX1_mark_112 : decode cX1_mark 112 = .ok (.dup2, 1) := by decide +kernel
theorem dX1_mark_113 : decode cX1_mark 113 = .ok (.iaload, 1) := by decide +kernel
theorem dX1_mark_114 : decode cX1_mark 114 = .ok (.aload_n 0, 1) := by decide +kernel
theorem dX1_mark_115 : decode cX1_mark 115 = .ok (.getfield 28, 3) := by decide +kernel
theorem dX1_mark_118 : decode cX1_mark 118 = .ok (.iload_n 1, 1) := by decide +kernel
theorem dX1_mark_119 : decode cX1_mark 119 = .ok (.iaload, 1) := by decide +kernel
theorem dX1_mark_120 : decode cX1_mark 120 = .ok (.iadd, 1) := by decide +kernel
theorem dX1_mark_121 : decode cX1_mark 121 = .ok (.iastore, 1) := by decide +kernel
theorem dX1_mark_122 : decode cX1_mark 122 = .ok (.iload_n 3, 1) := by decide +kernel
theorem dX1_mark_123 : decode cX1_mark 123 = .ok (.iconst 3, 1) := by decide +kernel
theorem dX1_mark_124 : decode cX1_mark 124 = .ok (.if_icmp .ge 7, 3) := by decide +kernel
theorem dX1_mark_127 : decode cX1_mark 127 = .ok (.iconst 0, 1) := by decide +kernel
theorem dX1_mark_128 : decode cX1_mark 128 = .ok (.goto 33, 3) := by decide +kernel
theorem dX1_mark_131 : decode cX1_mark 131 = .ok (.aload_n 0, 1) := by decide +kernel
theorem dX1_mark_132 : decode cX1_mark 132 = .ok (.getfield 13, 3) := by decide +kernel
theorem dX1_mark_135 : decode cX1_mark 135 = .ok (.iload_n 2, 1) := by decide +kernel
theorem dX1_mark_136 : decode cX1_mark 136 = .ok (.iaload, 1) := by decide +kernel
theorem dX1_mark_137 : decode cX1_mark 137 = .ok (.aload_n 0, 1) := by decide +kernel
theorem dX1_mark_138 : decode cX1_mark 138 = .ok (.getfield 28, 3) := by decide +kernel
theorem dX1_mark_141 : decode cX1_mark 141 = .ok (.iload_n 1, 1) := by decide +kernel
theorem dX1_mark_142 : decode cX1_mark 142 = .ok (.iaload, 1) := by decide +kernel
theorem dX1_mark_143 : decode cX1_mark 143 = .ok (.if_icmp .ge 12, 3) := by decide +kernel
theorem dX1_mark_146 : decode cX1_mark 146 = .ok (.aload_n 0, 1) := by decide +kernel
theorem dX1_mark_147 : decode cX1_mark 147 = .ok (.getfield 13, 3) := by decide +kernel
theorem dX1_mark_150 : decode cX1_mark 150 = .ok (.iload_n 2, 1) := by decide +kernel
theorem dX1_mark_151 : decode cX1_mark 151 = .ok (.iaload, 1) := by decide +kernel
theorem dX1_mark_152 : decode cX1_mark 152 = .ok (.goto 9, 3) := by decide +kernel
theorem dX1_mark_155 : decode cX1_mark 155 = .ok (.aload_n 0, 1) := by decide +kernel
theorem dX1_mark_156 : decode cX1_mark 156 = .ok (.getfield 28, 3) := by decide +kernel
theorem dX1_mark_159 : decode cX1_mark 159 = .ok (.iload_n 1, 1) := by decide +kernel
theorem dX1_mark_160 : decode cX1_mark 160 = .ok (.iaload, 1) := by decide +kernel
theorem dX1_mark_161 : decode cX1_mark 161 = .ok (.istore 4, 2) := by decide +kernel
theorem dX1_mark_163 : decode cX1_mark 163 = .ok (.aload_n 0, 1) := by decide +kernel
theorem dX1_mark_164 : decode cX1_mark 164 = .ok (.getfield 19, 3) := by decide +kernel
theorem dX1_mark_167 : decode cX1_mark 167 = .ok (.iload_n 2, 1) := by decide +kernel
theorem dX1_mark_168 : decode cX1_mark 168 = .ok (.dup2, 1) := by decide +kernel
theorem dX1_mark_169 : decode cX1_mark 169 = .ok (.iaload, 1) := by decide +kernel
theorem dX1_mark_170 : decode cX1_mark 170 = .ok (.iload_n 3, 1) := by decide +kernel
theorem dX1_mark_171 : decode cX1_mark 171 = .ok (.iconst 3, 1) := by decide +kernel
theorem dX1_mark_172 : decode cX1_mark 172 = .ok (.if_icmp .ge 7, 3) := by decide +kernel
theorem dX1_mark_175 : decode cX1_mark 175 = .ok (.iconst 0, 1) := by decide +kernel
theorem dX1_mark_176 : decode cX1_mark 176 = .ok (.goto 4, 3) := by decide +kernel
theorem dX1_mark_179 : decode cX1_mark 179 = .ok (.iconst 1, 1) := by decide +kernel
theorem dX1_mark_180 : decode cX1_mark 180 = .ok (.iadd, 1) := by decide +kernel
theorem dX1_mark_181 : decode cX1_mark 181 = .ok (.iastore, 1) := by decide +kernel
theorem dX1_mark_182 : decode cX1_mark 182 = .ok (.aload_n 0, 1) := by decide +kernel
theorem dX1_mark_183 : decode cX1_mark 183 = .ok (.getfield 13, 3) := by decide +kernel
theorem dX1_mark_186 : decode cX1_mark 186 = .ok (.iload_n 2, 1) := by decide +kernel
theorem dX1_mark_187 : decode cX1_mark 187 = .ok (.dup2, 1) := by decide +kernel
theorem dX1_mark_188 : decode cX1_mark 188 = .ok (.iaload, 1) := by decide +kernel
theorem dX1_mark_189 : decode cX1_mark 189 = .ok (.iload 4, 2) := by decide +kernel
theorem dX1_mark_191 : decode cX1_mark 191 = .ok (.isub, 1) := by decide +kernel
theorem dX1_mark_192 : decode cX1_mark 192 = .ok (.iastore, 1) := by decide +kernel
theorem dX1_mark_193 : decode cX1_mark 193 = .ok (.aload_n 0, 1) := by decide +kernel
theorem dX1_mark_194 : decode cX1_mark 194 = .ok (.getfield 13, 3) := by decide +kernel
theorem dX1_mark_197 : decode cX1_mark 197 = .ok (.aload_n 0, 1) := by decide +kernel
theorem dX1_mark_198 : decode cX1_mark 198 = .ok (.getfield 22, 3) := by decide +kernel
theorem dX1_mark_201 : decode cX1_mark 201 = .ok (.iload_n 1, 1) := by decide +kernel
theorem dX1_mark_202 : decode cX1_mark 202 = .ok (.iaload, 1) := by decide +kernel
theorem dX1_mark_203 : decode cX1_mark 203 = .ok (.dup2, 1) := by decide +kernel
theorem dX1_mark_204 : decode cX1_mark 204 = .ok (.iaload, 1) := by decide +kernel
theorem dX1_mark_205 : decode cX1_mark 205 = .ok (.iload 4, 2) := by decide +kernel
theorem dX1_mark_207 : decode cX1_mark 207 = .ok (.iadd, 1) := by decide +kernel
theorem dX1_mark_208 : decode cX1_mark 208 = .ok (.iastore, 1) := by decide +kernel
theorem dX1_mark_209 : decode cX1_mark 209 = .ok (.iload 4, 2) := by decide +kernel
theorem dX1_mark_211 : decode cX1_mark 211 = .ok (.ireturn, 1) := by decide +kernel
theorem dX1_letters_0 : decode cX1_letters 0 = .ok (.aload_n 0, 1) := by decide +kernel
theorem dX1_letters_1 : decode cX1_letters 1 = .ok (.iconst 0, 1) := by decide +kernel
theorem dX1_letters_2 : decode cX1_letters 2 = .ok (.putfield 50, 3) := by decide +kernel
theorem dX1_letters_5 : decode cX1_letters 5 = .ok (.aload_n 0, 1) := by decide +kernel
theorem dX1_letters_6 : decode cX1_letters 6 = .ok (.getfield 58, 3) := by decide +kernel
theorem dX1_letters_9 : decode cX1_letters 9 = .ok (.ireturn, 1) := by decide +kernel
theorem dX1_time_0 : decode cX1_time 0 = .ok (.aload_n 0, 1) := by decide +kernel
theorem dX1_time_1 : decode cX1_time 1 = .ok (.iconst 0, 1) := by decide +kernel
theorem dX1_time_2 : decode cX1_time 2 = .ok (.putfield 50, 3) := by decide +kernel
theorem dX1_time_5 : decode cX1_time 5 = .ok (.aload_n 0, 1) := by decide +kernel
theorem dX1_time_6 : decode cX1_time 6 = .ok (.getfield 95, 3) := by decide +kernel
theorem dX1_time_9 : decode cX1_time 9 = .ok (.ireturn, 1) := by decide +kernel
set_option maxRecDepth 20000 in
theorem ggX1_isAsked_X1_isLetter : GoodIn wsX1_isAsked wsX1_isLetter := goodIn_r _ [5, 6, 7, 8, 4, 9, 15, 16, 17, 18, 19, 20, 21, 22, 23, 24, 25, 26, 27, 28, 29, 30] (by decide +kernel) (by decide +kernel)
set_option maxRecDepth 20000 in
theorem gX1_isAsked_X1_isLetter : GoodIn wsX1_isAsked (wsV RX1 109 RX1 yX1_isLetter wsX1_isLetter) := goodIn_app (goodIn_of _ (by decide +kernel)) ggX1_isAsked_X1_isLetter
set_option maxRecDepth 20000 in
theorem ggX1_isAsked_X1_can : GoodIn wsX1_isAsked wsX1_can := goodIn_r _ [13, 14, 15, 16, 17, 18, 19, 20, 21, 22, 23, 24, 25, 26, 27, 28, 29, 30] (by decide +kernel) (by decide +kernel)
set_option maxRecDepth 20000 in
theorem gX1_isAsked_X1_can : GoodIn wsX1_isAsked (wsV RX1 65 RX1 yX1_can wsX1_can) := goodIn_app (goodIn_of _ (by decide +kernel)) ggX1_isAsked_X1_can
theorem dX1_isAsked_0 : decode cX1_isAsked 0 = .ok (.aload_n 0, 1) := by decide +kernel
theorem dX1_isAsked_1 : decode cX1_isAsked 1 = .ok (.aload_n 0, 1) := by decide +kernel
theorem dX1_isAsked_2 : decode cX1_isAsked 2 = .ok (.iload_n 1, 1) := by decide +kernel
theorem dX1_isAsked_3 : decode cX1_isAsked 3 = .ok (.invokevirtual 109, 3) := by decide +kernel
theorem dX1_isAsked_6 : decode cX1_isAsked 6 = .ok (.ifCond .eq 7, 3) := by decide +kernel
theorem dX1_isAsked_9 : decode cX1_isAsked 9 = .ok (.iconst 0, 1) := by decide +kernel
theorem dX1_isAsked_10 : decode cX1_isAsked 10 = .ok (.goto 4, 3) := by decide +kernel
theorem dX1_isAsked_13 : decode cX1_isAsked 13 = .ok (.iconst 1, 1) := by decide +kernel
theorem dX1_isAsked_14 : decode cX1_isAsked 14 = .ok (.invokevirtual 65, 3) := by decide +kernel
theorem dX1_isAsked_17 : decode cX1_isAsked 17 = .ok (.ireturn, 1) := by decide +kernel
set_option maxRecDepth 20000 in
theorem ggX1_stateOf_X1_isAsked : GoodIn wsX1_stateOf wsX1_isAsked := goodIn_r _ [6, 7, 8, 9, 5, 10, 11, 12, 13, 14, 15, 16, 17, 18, 19, 20, 21, 22, 23, 24, 25, 26, 27, 28, 29, 30, 31, 32, 33, 34, 35] (by decide +kernel) (by decide +kernel)
set_option maxRecDepth 20000 in
theorem gX1_stateOf_X1_isAsked : GoodIn wsX1_stateOf (wsV RX1 115 RX1 yX1_isAsked wsX1_isAsked) := goodIn_app (goodIn_of _ (by decide +kernel)) ggX1_stateOf_X1_isAsked
theorem dX1_stateOf_0 : decode cX1_stateOf 0 = .ok (.aload_n 0, 1) := by decide +kernel
theorem dX1_stateOf_1 : decode cX1_stateOf 1 = .ok (.iload_n 1, 1) := by decide +kernel
theorem dX1_stateOf_2 : decode cX1_stateOf 2 = .ok (.invokevirtual 115, 3) := by decide +kernel
theorem dX1_stateOf_5 : decode cX1_stateOf 5 = .ok (.ifCond .eq 12, 3) := by decide +kernel
theorem dX1_stateOf_8 : decode cX1_stateOf 8 = .ok (.aload_n 0, 1) := by decide +kernel
theorem dX1_stateOf_9 : decode cX1_stateOf 9 = .ok (.getfield 31, 3) := by decide +kernel
theorem dX1_stateOf_12 : decode cX1_stateOf 12 = .ok (.iload_n 1, 1) := by decide +kernel
theorem dX1_stateOf_13 : decode cX1_stateOf 13 = .ok (.iaload, 1) := by decide +kernel
theorem dX1_stateOf_14 : decode cX1_stateOf 14 = .ok (.goto 4, 3) := by decide +kernel
theorem dX1_stateOf_17 : decode cX1_stateOf 17 = .ok (.iconst 0, 1) := by decide +kernel
theorem dX1_stateOf_18 : decode cX1_stateOf 18 = .ok (.ireturn, 1) := by decide +kernel
set_option maxRecDepth 20000 in
theorem ggX1_relayOf_X1_isAsked : GoodIn wsX1_relayOf wsX1_isAsked := goodIn_r _ [7, 8, 9, 10, 6, 11, 12, 13, 14, 15, 16, 17, 18, 19, 20, 21, 22, 23, 24, 25, 26, 27, 28, 29, 30, 31, 32, 33, 34, 35, 36] (by decide +kernel) (by decide +kernel)
set_option maxRecDepth 20000 in
theorem gX1_relayOf_X1_isAsked : GoodIn wsX1_relayOf (wsV RX1 115 RX1 yX1_isAsked wsX1_isAsked) := goodIn_app (goodIn_of _ (by decide +kernel)) ggX1_relayOf_X1_isAsked
theorem dX1_relayOf_0 : decode cX1_relayOf 0 = .ok (.aload_n 0, 1) := by decide +kernel
theorem dX1_relayOf_1 : decode cX1_relayOf 1 = .ok (.iload_n 1, 1) := by decide +kernel
theorem dX1_relayOf_2 : decode cX1_relayOf 2 = .ok (.invokevirtual 115, 3) := by decide +kernel
theorem dX1_relayOf_5 : decode cX1_relayOf 5 = .ok (.ifCond .eq 25, 3) := by decide +kernel
theorem dX1_relayOf_8 : decode cX1_relayOf 8 = .ok (.aload_n 0, 1) := by decide +kernel
theorem dX1_relayOf_9 : decode cX1_relayOf 9 = .ok (.getfield 31, 3) := by decide +kernel
theorem dX1_relayOf_12 : decode cX1_relayOf 12 = .ok (.iload_n 1, 1) := by decide +kernel
theorem dX1_relayOf_13 : decode cX1_relayOf 13 = .ok (.iaload, 1) := by decide +kernel
theorem dX1_relayOf_14 : decode cX1_relayOf 14 = .ok (.ifCond .ne 12, 3) := by decide +kernel
theorem dX1_relayOf_17 : decode cX1_relayOf 17 = .ok (.aload_n 0, 1) := by decide +kernel
theorem dX1_relayOf_18 : decode cX1_relayOf 18 = .ok (.getfield 34, 3) := by decide +kernel
theorem dX1_relayOf_21 : decode cX1_relayOf 21 = .ok (.iload_n 1, 1) := by decide +kernel
theorem dX1_relayOf_22 : decode cX1_relayOf 22 = .ok (.iaload, 1) := by decide +kernel
theorem dX1_relayOf_23 : decode cX1_relayOf 23 = .ok (.goto 8, 3) := by decide +kernel
theorem dX1_relayOf_26 : decode cX1_relayOf 26 = .ok (.iconst (-1), 1) := by decide +kernel
theorem dX1_relayOf_27 : decode cX1_relayOf 27 = .ok (.goto 4, 3) := by decide +kernel
theorem dX1_relayOf_30 : decode cX1_relayOf 30 = .ok (.iconst 0, 1) := by decide +kernel
theorem dX1_relayOf_31 : decode cX1_relayOf 31 = .ok (.ireturn, 1) := by decide +kernel
set_option maxRecDepth 20000 in
theorem ggX1_marksOn_X1_isAsked : GoodIn wsX1_marksOn wsX1_isAsked := goodIn_r _ [6, 7, 8, 9, 5, 10, 11, 12, 13, 14, 15, 16, 17, 18, 19, 20, 21, 22, 23, 24, 25, 26, 27, 28, 29, 30, 31, 32, 33, 34, 35] (by decide +kernel) (by decide +kernel)
set_option maxRecDepth 20000 in
theorem gX1_marksOn_X1_isAsked : GoodIn wsX1_marksOn (wsV RX1 115 RX1 yX1_isAsked wsX1_isAsked) := goodIn_app (goodIn_of _ (by decide +kernel)) ggX1_marksOn_X1_isAsked
theorem dX1_marksOn_0 : decode cX1_marksOn 0 = .ok (.aload_n 0, 1) := by decide +kernel
theorem dX1_marksOn_1 : decode cX1_marksOn 1 = .ok (.iload_n 1, 1) := by decide +kernel
theorem dX1_marksOn_2 : decode cX1_marksOn 2 = .ok (.invokevirtual 115, 3) := by decide +kernel
theorem dX1_marksOn_5 : decode cX1_marksOn 5 = .ok (.ifCond .eq 12, 3) := by decide +kernel
theorem dX1_marksOn_8 : decode cX1_marksOn 8 = .ok (.aload_n 0, 1) := by decide +kernel
theorem dX1_marksOn_9 : decode cX1_marksOn 9 = .ok (.getfield 37, 3) := by decide +kernel
theorem dX1_marksOn_12 : decode cX1_marksOn 12 = .ok (.iload_n 1, 1) := by decide +kernel
theorem dX1_marksOn_13 : decode cX1_marksOn 13 = .ok (.iaload, 1) := by decide +kernel
theorem dX1_marksOn_14 : decode cX1_marksOn 14 = .ok (.goto 4, 3) := by decide +kernel
theorem dX1_marksOn_17 : decode cX1_marksOn 17 = .ok (.iconst 0, 1) := by decide +kernel
theorem dX1_marksOn_18 : decode cX1_marksOn 18 = .ok (.ireturn, 1) := by decide +kernel
set_option maxRecDepth 20000 in
theorem ggX1_lengthOf_X1_liesAt : GoodIn wsX1_lengthOf wsX1_liesAt := goodIn_r _ [6, 7, 8, 9, 10, 11, 12, 13, 14, 15, 16, 17, 18, 19, 20, 21, 22, 23, 24] (by decide +kernel) (by decide +kernel)
set_option maxRecDepth 20000 in
theorem gX1_lengthOf_X1_liesAt : GoodIn wsX1_lengthOf (wsV RX1 89 RX1 yX1_liesAt wsX1_liesAt) := goodIn_app (goodIn_of _ (by decide +kernel)) ggX1_lengthOf_X1_liesAt
theorem dX1_lengthOf_0 : decode cX1_lengthOf 0 = .ok (.iconst 0, 1) := by decide +kernel
theorem dX1_lengthOf_1 : decode cX1_lengthOf 1 = .ok (.istore_n 2, 1) := by decide +kernel
theorem dX1_lengthOf_2 : decode cX1_lengthOf 2 = .ok (.iconst 0, 1) := by decide +kernel
theorem dX1_lengthOf_3 : decode cX1_lengthOf 3 = .ok (.istore_n 3, 1) := by decide +kernel
theorem dX1_lengthOf_4 : decode cX1_lengthOf 4 = .ok (.iload_n 3, 1) := by decide +kernel
theorem dX1_lengthOf_5 : decode cX1_lengthOf 5 = .ok (.aload_n 0, 1) := by decide +kernel
theorem dX1_lengthOf_6 : decode cX1_lengthOf 6 = .ok (.getfield 58, 3) := by decide +kernel
theorem dX1_lengthOf_9 : decode cX1_lengthOf 9 = .ok (.if_icmp .ge 26, 3) := by decide +kernel
theorem dX1_lengthOf_12 : decode cX1_lengthOf 12 = .ok (.iload_n 2, 1) := by decide +kernel
theorem dX1_lengthOf_13 : decode cX1_lengthOf 13 = .ok (.aload_n 0, 1) := by decide +kernel
theorem dX1_lengthOf_14 : decode cX1_lengthOf 14 = .ok (.iload_n 3, 1) := by decide +kernel
theorem dX1_lengthOf_15 : decode cX1_lengthOf 15 = .ok (.iload_n 1, 1) := by decide +kernel
theorem dX1_lengthOf_16 : decode cX1_lengthOf 16 = .ok (.invokevirtual 89, 3) := by decide +kernel
theorem dX1_lengthOf_19 : decode cX1_lengthOf 19 = .ok (.ifCond .eq 7, 3) := by decide +kernel
theorem dX1_lengthOf_22 : decode cX1_lengthOf 22 = .ok (.iconst 1, 1) := by decide +kernel
theorem dX1_lengthOf_23 : decode cX1_lengthOf 23 = .ok (.goto 4, 3) := by decide +kernel
theorem dX1_lengthOf_26 : decode cX1_lengthOf 26 = .ok (.iconst 0, 1) := by decide +kernel
theorem dX1_lengthOf_27 : decode cX1_lengthOf 27 = .ok (.iadd, 1) := by decide +kernel
theorem dX1_lengthOf_28 : decode cX1_lengthOf 28 = .ok (.istore_n 2, 1) := by decide +kernel
theorem dX1_lengthOf_29 : decode cX1_lengthOf 29 = .ok (.iinc 3 1, 3) := by decide +kernel
theorem dX1_lengthOf_32 : decode cX1_lengthOf 32 = .ok (.goto (-28), 3) := by decide +kernel
theorem dX1_lengthOf_35 : decode cX1_lengthOf 35 = .ok (.iload_n 2, 1) := by decide +kernel
theorem dX1_lengthOf_36 : decode cX1_lengthOf 36 = .ok (.ireturn, 1) := by decide +kernel
set_option maxRecDepth 20000 in
theorem ggX1_queue_X1_isRelay : GoodIn wsX1_queue wsX1_isRelay := goodIn_r _ [4, 5, 6, 3, 7] (by decide +kernel) (by decide +kernel)
set_option maxRecDepth 20000 in
theorem gX1_queue_X1_isRelay : GoodIn wsX1_queue (va_wsS RX1 61 yX1_isRelay wsX1_isRelay) := goodIn_app (goodIn_of _ (by decide +kernel)) ggX1_queue_X1_isRelay
set_option maxRecDepth 20000 in
theorem ggX1_queue_X1_can : GoodIn wsX1_queue wsX1_can := goodIn_r _ [11, 12, 24, 25, 26, 27, 28, 29, 30, 31, 32, 33, 34, 35, 36, 37, 38, 39] (by decide +kernel) (by decide +kernel)
set_option maxRecDepth 20000 in
theorem gX1_queue_X1_can : GoodIn wsX1_queue (wsV RX1 65 RX1 yX1_can wsX1_can) := goodIn_app (goodIn_of _ (by decide +kernel)) ggX1_queue_X1_can
set_option maxRecDepth 20000 in
theorem ggX1_queue_X1_lengthOf : GoodIn wsX1_queue wsX1_lengthOf := goodIn_r _ [16, 17, 18, 19, 20, 3, 21, 22, 23, 24, 25, 26, 27, 28, 29, 30, 31, 32, 33, 34, 35, 36, 37, 38, 39] (by decide +kernel) (by decide +kernel)
set_option maxRecDepth 20000 in
theorem gX1_queue_X1_lengthOf : GoodIn wsX1_queue (wsV RX1 118 RX1 yX1_lengthOf wsX1_lengthOf) := goodIn_app (goodIn_of _ (by decide +kernel)) ggX1_queue_X1_lengthOf
theorem dX1_queue_0 : decode cX1_queue 0 = .ok (.aload_n 0, 1) := by decide +kernel
theorem dX1_queue_1 : decode cX1_queue 1 = .ok (.iload_n 1, 1) := by decide +kernel
theorem dX1_queue_2 : decode cX1_queue 2 = .ok (.invokestatic 61, 3) := by decide +kernel
theorem dX1_queue_5 : decode cX1_queue 5 = .ok (.ifCond .eq 7, 3) := by decide +kernel
theorem dX1_queue_8 : decode cX1_queue 8 = .ok (.iconst 0, 1) := by decide +kernel
theorem dX1_queue_9 : decode cX1_queue 9 = .ok (.goto 4, 3) := by decide +kernel
theorem dX1_queue_12 : decode cX1_queue 12 = .ok (.iconst 1, 1) := by decide +kernel
theorem dX1_queue_13 : decode cX1_queue 13 = .ok (.invokevirtual 65, 3) := by decide +kernel
theorem dX1_queue_16 : decode cX1_queue 16 = .ok (.ifCond .eq 11, 3) := by decide +kernel
theorem dX1_queue_19 : decode cX1_queue 19 = .ok (.aload_n 0, 1) := by decide +kernel
theorem dX1_queue_20 : decode cX1_queue 20 = .ok (.iload_n 1, 1) := by decide +kernel
theorem dX1_queue_21 : decode cX1_queue 21 = .ok (.invokevirtual 118, 3) := by decide +kernel
theorem dX1_queue_24 : decode cX1_queue 24 = .ok (.goto 4, 3) := by decide +kernel
theorem dX1_queue_27 : decode cX1_queue 27 = .ok (.iconst 0, 1) := by decide +kernel
theorem dX1_queue_28 : decode cX1_queue 28 = .ok (.ireturn, 1) := by decide +kernel
set_option maxRecDepth 20000 in
theorem ggX1_queueAt_X1_isRelay : GoodIn wsX1_queueAt wsX1_isRelay := goodIn_r _ [5, 6, 7, 4, 8] (by decide +kernel) (by decide +kernel)
set_option maxRecDepth 20000 in
theorem gX1_queueAt_X1_isRelay : GoodIn wsX1_queueAt (va_wsS RX1 61 yX1_isRelay wsX1_isRelay) := goodIn_app (goodIn_of _ (by decide +kernel)) ggX1_queueAt_X1_isRelay
set_option maxRecDepth 20000 in
theorem ggX1_queueAt_X1_lengthOf : GoodIn wsX1_queueAt wsX1_lengthOf := goodIn_r _ [12, 1, 13, 14, 15, 4, 16, 17, 18, 45, 46, 47, 48, 49, 50, 51, 52, 53, 54, 55, 56, 57, 58, 59, 60] (by decide +kernel) (by decide +kernel)
set_option maxRecDepth 20000 in
theorem gX1_queueAt_X1_lengthOf : GoodIn wsX1_queueAt (wsV RX1 118 RX1 yX1_lengthOf wsX1_lengthOf) := goodIn_app (goodIn_of _ (by decide +kernel)) ggX1_queueAt_X1_lengthOf
set_option maxRecDepth 20000 in
theorem ggX1_queueAt_X1_isIn : GoodIn wsX1_queueAt wsX1_isIn := goodIn_r _ [8] (by decide +kernel) (by decide +kernel)
set_option maxRecDepth 20000 in
theorem gX1_queueAt_X1_isIn : GoodIn wsX1_queueAt (va_wsS RX1 54 yX1_isIn wsX1_isIn) := goodIn_app (goodIn_of _ (by decide +kernel)) ggX1_queueAt_X1_isIn
set_option maxRecDepth 20000 in
theorem ggX1_queueAt_X1_can : GoodIn wsX1_queueAt wsX1_can := goodIn_r _ [22, 23, 45, 46, 47, 48, 49, 50, 51, 52, 53, 54, 55, 56, 57, 58, 59, 60] (by decide +kernel) (by decide +kernel)
set_option maxRecDepth 20000 in
theorem gX1_queueAt_X1_can : GoodIn wsX1_queueAt (wsV RX1 65 RX1 yX1_can wsX1_can) := goodIn_app (goodIn_of _ (by decide +kernel)) ggX1_queueAt_X1_can
set_option maxRecDepth 20000 in
theorem ggX1_queueAt_X1_liesAt : GoodIn wsX1_queueAt wsX1_liesAt := goodIn_r _ [16, 17, 18, 45, 46, 47, 48, 49, 50, 51, 52, 53, 54, 55, 56, 57, 58, 59, 60] (by decide +kernel) (by decide +kernel)
set_option maxRecDepth 20000 in
theorem gX1_queueAt_X1_liesAt : GoodIn wsX1_queueAt (wsV RX1 89 RX1 yX1_liesAt wsX1_liesAt) := goodIn_app (goodIn_of _ (by decide +kernel)) ggX1_queueAt_X1_liesAt
set_option maxRecDepth 20000 in
theorem ggX1_queueAt_X1_placeOf : GoodIn wsX1_queueAt wsX1_placeOf := goodIn_r _ [27, 1, 18, 13, 14, 15, 4, 16, 17, 28, 29, 30, 31, 32, 33, 34, 35, 36, 37, 38, 39, 40, 41, 42, 43, 44, 45, 46, 47, 48, 49, 50, 51, 52, 53, 54, 55, 56, 57, 58, 59, 60] (by decide +kernel) (by decide +kernel)
set_option maxRecDepth 20000 in
theorem gX1_queueAt_X1_placeOf : GoodIn wsX1_queueAt (wsV RX1 98 RX1 yX1_placeOf wsX1_placeOf) := goodIn_app (goodIn_of _ (by decide +kernel)) ggX1_queueAt_X1_placeOf
theorem dX1_queueAt_0 : decode cX1_queueAt 0 = .ok (.aload_n 0, 1) := by decide +kernel
theorem dX1_queueAt_1 : decode cX1_queueAt 1 = .ok (.iload_n 1, 1) := by decide +kernel
theorem dX1_queueAt_2 : decode cX1_queueAt 2 = .ok (.invokestatic 61, 3) := by decide +kernel
theorem dX1_queueAt_5 : decode cX1_queueAt 5 = .ok (.ifCond .eq 22, 3) := by decide +kernel
theorem dX1_queueAt_8 : decode cX1_queueAt 8 = .ok (.iload_n 2, 1) := by decide +kernel
theorem dX1_queueAt_9 : decode cX1_queueAt 9 = .ok (.iconst 0, 1) := by decide +kernel
theorem dX1_queueAt_10 : decode cX1_queueAt 10 = .ok (.aload_n 0, 1) := by decide +kernel
theorem dX1_queueAt_11 : decode cX1_queueAt 11 = .ok (.iload_n 1, 1) := by decide +kernel
theorem dX1_queueAt_12 : decode cX1_queueAt 12 = .ok (.invokevirtual 118, 3) := by decide +kernel
theorem dX1_queueAt_15 : decode cX1_queueAt 15 = .ok (.iconst 1, 1) := by decide +kernel
theorem dX1_queueAt_16 : decode cX1_queueAt 16 = .ok (.isub, 1) := by decide +kernel
theorem dX1_queueAt_17 : decode cX1_queueAt 17 = .ok (.invokestatic 54, 3) := by decide +kernel
theorem dX1_queueAt_20 : decode cX1_queueAt 20 = .ok (.ifCond .eq 7, 3) := by decide +kernel
theorem dX1_queueAt_23 : decode cX1_queueAt 23 = .ok (.iconst 0, 1) := by decide +kernel
theorem dX1_queueAt_24 : decode cX1_queueAt 24 = .ok (.goto 4, 3) := by decide +kernel
theorem dX1_queueAt_27 : decode cX1_queueAt 27 = .ok (.iconst 1, 1) := by decide +kernel
theorem dX1_queueAt_28 : decode cX1_queueAt 28 = .ok (.invokevirtual 65, 3) := by decide +kernel
theorem dX1_queueAt_31 : decode cX1_queueAt 31 = .ok (.ifCond .ne 5, 3) := by decide +kernel
theorem dX1_queueAt_34 : decode cX1_queueAt 34 = .ok (.iconst 0, 1) := by decide +kernel
theorem dX1_queueAt_35 : decode cX1_queueAt 35 = .ok (.ireturn, 1) := by decide +kernel
theorem dX1_queueAt_36 : decode cX1_queueAt 36 = .ok (.iconst (-1), 1) := by decide +kernel
theorem dX1_queueAt_37 : decode cX1_queueAt 37 = .ok (.istore_n 3, 1) := by decide +kernel
theorem dX1_queueAt_38 : decode cX1_queueAt 38 = .ok (.iconst 0, 1) := by decide +kernel
theorem dX1_queueAt_39 : decode cX1_queueAt 39 = .ok (.istore 4, 2) := by decide +kernel
theorem dX1_queueAt_41 : decode cX1_queueAt 41 = .ok (.iload 4, 2) := by decide +kernel
theorem dX1_queueAt_43 : decode cX1_queueAt 43 = .ok (.aload_n 0, 1) := by decide +kernel
theorem dX1_queueAt_44 : decode cX1_queueAt 44 = .ok (.getfield 58, 3) := by decide +kernel
theorem dX1_queueAt_47 : decode cX1_queueAt 47 = .ok (.if_icmp .ge 36, 3) := by decide +kernel
theorem dX1_queueAt_50 : decode cX1_queueAt 50 = .ok (.aload_n 0, 1) := by decide +kernel
theorem dX1_queueAt_51 : decode cX1_queueAt 51 = .ok (.iload 4, 2) := by decide +kernel
theorem dX1_queueAt_53 : decode cX1_queueAt 53 = .ok (.iload_n 1, 1) := by decide +kernel
theorem dX1_queueAt_54 : decode cX1_queueAt 54 = .ok (.invokevirtual 89, 3) := by decide +kernel
theorem dX1_queueAt_57 : decode cX1_queueAt 57 = .ok (.ifCond .eq 18, 3) := by decide +kernel
theorem dX1_queueAt_60 : decode cX1_queueAt 60 = .ok (.aload_n 0, 1) := by decide +kernel
theorem dX1_queueAt_61 : decode cX1_queueAt 61 = .ok (.iload 4, 2) := by decide +kernel
theorem dX1_queueAt_63 : decode cX1_queueAt 63 = .ok (.invokevirtual 98, 3) := by decide +kernel
theorem dX1_queueAt_66 : decode cX1_queueAt 66 = .ok (.iload_n 2, 1) := by decide +kernel
theorem dX1_queueAt_67 : decode cX1_queueAt 67 = .ok (.if_icmp .ne 8, 3) := by decide +kernel
theorem dX1_queueAt_70 : decode cX1_queueAt 70 = .ok (.iload 4, 2) := by decide +kernel
theorem dX1_queueAt_72 : decode cX1_queueAt 72 = .ok (.goto 4, 3) := by decide +kernel
theorem dX1_queueAt_75 : decode cX1_queueAt 75 = .ok (.iload_n 3, 1) := by decide +kernel
theorem dX1_queueAt_76 : decode cX1_queueAt 76 = .ok (.istore_n 3, 1) := by decide +kernel
theorem dX1_queueAt_77 : decode cX1_queueAt 77 = .ok (.iinc 4 1, 3) := by decide +kernel
theorem dX1_queueAt_80 : decode cX1_queueAt 80 = .ok (.goto (-39), 3) := by decide +kernel
theorem dX1_queueAt_83 : decode cX1_queueAt 83 = .ok (.iload_n 3, 1) := by decide +kernel
theorem dX1_queueAt_84 : decode cX1_queueAt 84 = .ok (.ireturn, 1) := by decide +kernel
set_option maxRecDepth 20000 in
theorem ggX1_isKnown_X1_isPerson : GoodIn wsX1_isKnown wsX1_isPerson := goodIn_r _ [4, 5, 6, 3, 7] (by decide +kernel) (by decide +kernel)
set_option maxRecDepth 20000 in
theorem gX1_isKnown_X1_isPerson : GoodIn wsX1_isKnown (va_wsS RX1 83 yX1_isPerson wsX1_isPerson) := goodIn_app (goodIn_of _ (by decide +kernel)) ggX1_isKnown_X1_isPerson
set_option maxRecDepth 20000 in
theorem ggX1_isKnown_X1_can : GoodIn wsX1_isKnown wsX1_can := goodIn_r _ [11, 12, 13, 14, 15, 16, 17, 18, 19, 20, 21, 22, 23, 24, 25, 26, 27, 28] (by decide +kernel) (by decide +kernel)
set_option maxRecDepth 20000 in
theorem gX1_isKnown_X1_can : GoodIn wsX1_isKnown (wsV RX1 65 RX1 yX1_can wsX1_can) := goodIn_app (goodIn_of _ (by decide +kernel)) ggX1_isKnown_X1_can
theorem dX1_isKnown_0 : decode cX1_isKnown 0 = .ok (.aload_n 0, 1) := by decide +kernel
theorem dX1_isKnown_1 : decode cX1_isKnown 1 = .ok (.iload_n 1, 1) := by decide +kernel
theorem dX1_isKnown_2 : decode cX1_isKnown 2 = .ok (.invokestatic 83, 3) := by decide +kernel
theorem dX1_isKnown_5 : decode cX1_isKnown 5 = .ok (.ifCond .eq 7, 3) := by decide +kernel
theorem dX1_isKnown_8 : decode cX1_isKnown 8 = .ok (.iconst 0, 1) := by decide +kernel
theorem dX1_isKnown_9 : decode cX1_isKnown 9 = .ok (.goto 4, 3) := by decide +kernel
theorem dX1_isKnown_12 : decode cX1_isKnown 12 = .ok (.iconst 1, 1) := by decide +kernel
theorem dX1_isKnown_13 : decode cX1_isKnown 13 = .ok (.invokevirtual 65, 3) := by decide +kernel
theorem dX1_isKnown_16 : decode cX1_isKnown 16 = .ok (.ireturn, 1) := by decide +kernel
set_option maxRecDepth 20000 in
theorem ggX1_coins_X1_isKnown : GoodIn wsX1_coins wsX1_isKnown := goodIn_r _ [6, 7, 8, 5, 9, 10, 11, 12, 13, 14, 15, 16, 17, 18, 19, 20, 21, 22, 23, 24, 25, 26, 27, 28, 29, 30, 31, 32, 33] (by decide +kernel) (by decide +kernel)
set_option maxRecDepth 20000 in
theorem gX1_coins_X1_isKnown : GoodIn wsX1_coins (wsV RX1 121 RX1 yX1_isKnown wsX1_isKnown) := goodIn_app (goodIn_of _ (by decide +kernel)) ggX1_coins_X1_isKnown
theorem dX1_coins_0 : decode cX1_coins 0 = .ok (.aload_n 0, 1) := by decide +kernel
theorem dX1_coins_1 : decode cX1_coins 1 = .ok (.iload_n 1, 1) := by decide +kernel
theorem dX1_coins_2 : decode cX1_coins 2 = .ok (.invokevirtual 121, 3) := by decide +kernel
theorem dX1_coins_5 : decode cX1_coins 5 = .ok (.ifCond .eq 12, 3) := by decide +kernel
theorem dX1_coins_8 : decode cX1_coins 8 = .ok (.aload_n 0, 1) := by decide +kernel
theorem dX1_coins_9 : decode cX1_coins 9 = .ok (.getfield 13, 3) := by decide +kernel
theorem dX1_coins_12 : decode cX1_coins 12 = .ok (.iload_n 1, 1) := by decide +kernel
theorem dX1_coins_13 : decode cX1_coins 13 = .ok (.iaload, 1) := by decide +kernel
theorem dX1_coins_14 : decode cX1_coins 14 = .ok (.goto 4, 3) := by decide +kernel
theorem dX1_coins_17 : decode cX1_coins 17 = .ok (.iconst 0, 1) := by decide +kernel
theorem dX1_coins_18 : decode cX1_coins 18 = .ok (.ireturn, 1) := by decide +kernel
set_option maxRecDepth 20000 in
theorem ggX1_pool_X1_isRelay : GoodIn wsX1_pool wsX1_isRelay := goodIn_r _ [5, 6, 7, 4, 8] (by decide +kernel) (by decide +kernel)
set_option maxRecDepth 20000 in
theorem gX1_pool_X1_isRelay : GoodIn wsX1_pool (va_wsS RX1 61 yX1_isRelay wsX1_isRelay) := goodIn_app (goodIn_of _ (by decide +kernel)) ggX1_pool_X1_isRelay
set_option maxRecDepth 20000 in
theorem ggX1_pool_X1_can : GoodIn wsX1_pool wsX1_can := goodIn_r _ [12, 13, 14, 15, 16, 17, 18, 19, 20, 21, 22, 23, 24, 25, 26, 27, 28, 29] (by decide +kernel) (by decide +kernel)
set_option maxRecDepth 20000 in
theorem gX1_pool_X1_can : GoodIn wsX1_pool (wsV RX1 65 RX1 yX1_can wsX1_can) := goodIn_app (goodIn_of _ (by decide +kernel)) ggX1_pool_X1_can
theorem dX1_pool_0 : decode cX1_pool 0 = .ok (.aload_n 0, 1) := by decide +kernel
theorem dX1_pool_1 : decode cX1_pool 1 = .ok (.iload_n 1, 1) := by decide +kernel
theorem dX1_pool_2 : decode cX1_pool 2 = .ok (.invokestatic 61, 3) := by decide +kernel
theorem dX1_pool_5 : decode cX1_pool 5 = .ok (.ifCond .eq 7, 3) := by decide +kernel
theorem dX1_pool_8 : decode cX1_pool 8 = .ok (.iconst 0, 1) := by decide +kernel
theorem dX1_pool_9 : decode cX1_pool 9 = .ok (.goto 4, 3) := by decide +kernel
theorem dX1_pool_12 : decode cX1_pool 12 = .ok (.iconst 1, 1) := by decide +kernel
theorem dX1_pool_13 : decode cX1_pool 13 = .ok (.invokevirtual 65, 3) := by decide +kernel
theorem dX1_pool_16 : decode cX1_pool 16 = .ok (.ifCond .eq 12, 3) := by decide +kernel
theorem dX1_pool_19 : decode cX1_pool 19 = .ok (.aload_n 0, 1) := by decide +kernel
theorem dX1_pool_20 : decode cX1_pool 20 = .ok (.getfield 16, 3) := by decide +kernel
theorem dX1_pool_23 : decode cX1_pool 23 = .ok (.iload_n 1, 1) := by decide +kernel
theorem dX1_pool_24 : decode cX1_pool 24 = .ok (.iaload, 1) := by decide +kernel
theorem dX1_pool_25 : decode cX1_pool 25 = .ok (.goto 4, 3) := by decide +kernel
theorem dX1_pool_28 : decode cX1_pool 28 = .ok (.iconst 0, 1) := by decide +kernel
theorem dX1_pool_29 : decode cX1_pool 29 = .ok (.ireturn, 1) := by decide +kernel
theorem dX1_escrow_0 : decode cX1_escrow 0 = .ok (.aload_n 0, 1) := by decide +kernel
theorem dX1_escrow_1 : decode cX1_escrow 1 = .ok (.iconst 0, 1) := by decide +kernel
theorem dX1_escrow_2 : decode cX1_escrow 2 = .ok (.putfield 50, 3) := by decide +kernel
theorem dX1_escrow_5 : decode cX1_escrow 5 = .ok (.iconst 0, 1) := by decide +kernel
theorem dX1_escrow_6 : decode cX1_escrow 6 = .ok (.istore_n 1, 1) := by decide +kernel
theorem dX1_escrow_7 : decode cX1_escrow 7 = .ok (.iconst 0, 1) := by decide +kernel
theorem dX1_escrow_8 : decode cX1_escrow 8 = .ok (.istore_n 2, 1) := by decide +kernel
theorem dX1_escrow_9 : decode cX1_escrow 9 = .ok (.iload_n 2, 1) := by decide +kernel
theorem dX1_escrow_10 : decode cX1_escrow 10 = .ok (.aload_n 0, 1) := by decide +kernel
theorem dX1_escrow_11 : decode cX1_escrow 11 = .ok (.getfield 58, 3) := by decide +kernel
theorem dX1_escrow_14 : decode cX1_escrow 14 = .ok (.if_icmp .ge 41, 3) := by decide +kernel
theorem dX1_escrow_17 : decode cX1_escrow 17 = .ok (.iload_n 1, 1) := by decide +kernel
theorem dX1_escrow_18 : decode cX1_escrow 18 = .ok (.aload_n 0, 1) := by decide +kernel
theorem dX1_escrow_19 : decode cX1_escrow 19 = .ok (.getfield 31, 3) := by decide +kernel
theorem dX1_escrow_22 : decode cX1_escrow 22 = .ok (.iload_n 2, 1) := by decide +kernel
theorem dX1_escrow_23 : decode cX1_escrow 23 = .ok (.iaload, 1) := by decide +kernel
theorem dX1_escrow_24 : decode cX1_escrow 24 = .ok (.ifCond .eq 13, 3) := by decide +kernel
theorem dX1_escrow_27 : decode cX1_escrow 27 = .ok (.aload_n 0, 1) := by decide +kernel
theorem dX1_escrow_28 : decode cX1_escrow 28 = .ok (.getfield 31, 3) := by decide +kernel
theorem dX1_escrow_31 : decode cX1_escrow 31 = .ok (.iload_n 2, 1) := by decide +kernel
theorem dX1_escrow_32 : decode cX1_escrow 32 = .ok (.iaload, 1) := by decide +kernel
theorem dX1_escrow_33 : decode cX1_escrow 33 = .ok (.iconst 1, 1) := by decide +kernel
theorem dX1_escrow_34 : decode cX1_escrow 34 = .ok (.if_icmp .ne 12, 3) := by decide +kernel
theorem dX1_escrow_37 : decode cX1_escrow 37 = .ok (.aload_n 0, 1) := by decide +kernel
theorem dX1_escrow_38 : decode cX1_escrow 38 = .ok (.getfield 28, 3) := by decide +kernel
theorem dX1_escrow_41 : decode cX1_escrow 41 = .ok (.iload_n 2, 1) := by decide +kernel
theorem dX1_escrow_42 : decode cX1_escrow 42 = .ok (.iaload, 1) := by decide +kernel
theorem dX1_escrow_43 : decode cX1_escrow 43 = .ok (.goto 4, 3) := by decide +kernel
theorem dX1_escrow_46 : decode cX1_escrow 46 = .ok (.iconst 0, 1) := by decide +kernel
theorem dX1_escrow_47 : decode cX1_escrow 47 = .ok (.iadd, 1) := by decide +kernel
theorem dX1_escrow_48 : decode cX1_escrow 48 = .ok (.istore_n 1, 1) := by decide +kernel
theorem dX1_escrow_49 : decode cX1_escrow 49 = .ok (.iinc 2 1, 3) := by decide +kernel
theorem dX1_escrow_52 : decode cX1_escrow 52 = .ok (.goto (-43), 3) := by decide +kernel
theorem dX1_escrow_55 : decode cX1_escrow 55 = .ok (.iload_n 1, 1) := by decide +kernel
theorem dX1_escrow_56 : decode cX1_escrow 56 = .ok (.ireturn, 1) := by decide +kernel
set_option maxRecDepth 20000 in
theorem ggX1_reputation_X1_isKnown : GoodIn wsX1_reputation wsX1_isKnown := goodIn_r _ [5, 6, 7, 4, 8, 9, 10, 11, 12, 13, 14, 15, 16, 31, 32, 33, 34, 35, 36, 37, 38, 39, 40, 41, 42, 43, 44, 45, 46] (by decide +kernel) (by decide +kernel)
set_option maxRecDepth 20000 in
theorem gX1_reputation_X1_isKnown : GoodIn wsX1_reputation (wsV RX1 121 RX1 yX1_isKnown wsX1_isKnown) := goodIn_app (goodIn_of _ (by decide +kernel)) ggX1_reputation_X1_isKnown
set_option maxRecDepth 20000 in
theorem ggX1_reputation_X1_nameOf : GoodIn wsX1_reputation wsX1_nameOf := goodIn_r _ [20, 21, 22, 23, 24, 25, 26, 27, 28, 4, 29, 30, 31, 32, 33, 34, 35, 36, 37, 38, 39, 40, 41, 42, 43, 44, 45, 46] (by decide +kernel) (by decide +kernel)
set_option maxRecDepth 20000 in
theorem gX1_reputation_X1_nameOf : GoodIn wsX1_reputation (wsV RX1 80 RX1 yX1_nameOf wsX1_nameOf) := goodIn_app (goodIn_of _ (by decide +kernel)) ggX1_reputation_X1_nameOf
theorem dX1_reputation_0 : decode cX1_reputation 0 = .ok (.aload_n 0, 1) := by decide +kernel
theorem dX1_reputation_1 : decode cX1_reputation 1 = .ok (.iload_n 1, 1) := by decide +kernel
theorem dX1_reputation_2 : decode cX1_reputation 2 = .ok (.invokevirtual 121, 3) := by decide +kernel
theorem dX1_reputation_5 : decode cX1_reputation 5 = .ok (.ifCond .eq 11, 3) := by decide +kernel
theorem dX1_reputation_8 : decode cX1_reputation 8 = .ok (.aload_n 0, 1) := by decide +kernel
theorem dX1_reputation_9 : decode cX1_reputation 9 = .ok (.iload_n 1, 1) := by decide +kernel
theorem dX1_reputation_10 : decode cX1_reputation 10 = .ok (.invokevirtual 80, 3) := by decide +kernel
theorem dX1_reputation_13 : decode cX1_reputation 13 = .ok (.goto 4, 3) := by decide +kernel
theorem dX1_reputation_16 : decode cX1_reputation 16 = .ok (.iconst 0, 1) := by decide +kernel
theorem dX1_reputation_17 : decode cX1_reputation 17 = .ok (.ireturn, 1) := by decide +kernel
set_option maxRecDepth 20000 in
theorem ggX1_reputationAtOnce_X1_isKnown : GoodIn wsX1_reputationAtOnce wsX1_isKnown := goodIn_r _ [5, 6, 7, 4, 8, 9, 10, 11, 12, 13, 14, 15, 16, 31, 32, 33, 34, 35, 36, 37, 38, 39, 40, 41, 42, 43, 44, 45, 46] (by decide +kernel) (by decide +kernel)
set_option maxRecDepth 20000 in
theorem gX1_reputationAtOnce_X1_isKnown : GoodIn wsX1_reputationAtOnce (wsV RX1 121 RX1 yX1_isKnown wsX1_isKnown) := goodIn_app (goodIn_of _ (by decide +kernel)) ggX1_reputationAtOnce_X1_isKnown
set_option maxRecDepth 20000 in
theorem ggX1_reputationAtOnce_X1_nameOf : GoodIn wsX1_reputationAtOnce wsX1_nameOf := goodIn_r _ [20, 21, 22, 23, 24, 25, 26, 27, 28, 4, 29, 30, 31, 32, 33, 34, 35, 36, 37, 38, 39, 40, 41, 42, 43, 44, 45, 46] (by decide +kernel) (by decide +kernel)
set_option maxRecDepth 20000 in
theorem gX1_reputationAtOnce_X1_nameOf : GoodIn wsX1_reputationAtOnce (wsV RX1 80 RX1 yX1_nameOf wsX1_nameOf) := goodIn_app (goodIn_of _ (by decide +kernel)) ggX1_reputationAtOnce_X1_nameOf
theorem dX1_reputationAtOnce_0 : decode cX1_reputationAtOnce 0 = .ok (.aload_n 0, 1) := by decide +kernel
theorem dX1_reputationAtOnce_1 : decode cX1_reputationAtOnce 1 = .ok (.iload_n 1, 1) := by decide +kernel
theorem dX1_reputationAtOnce_2 : decode cX1_reputationAtOnce 2 = .ok (.invokevirtual 121, 3) := by decide +kernel
theorem dX1_reputationAtOnce_5 : decode cX1_reputationAtOnce 5 = .ok (.ifCond .eq 11, 3) := by decide +kernel
theorem dX1_reputationAtOnce_8 : decode cX1_reputationAtOnce 8 = .ok (.aload_n 0, 1) := by decide +kernel
theorem dX1_reputationAtOnce_9 : decode cX1_reputationAtOnce 9 = .ok (.iload_n 1, 1) := by decide +kernel
theorem dX1_reputationAtOnce_10 : decode cX1_reputationAtOnce 10 = .ok (.invokevirtual 80, 3) := by decide +kernel
theorem dX1_reputationAtOnce_13 : decode cX1_reputationAtOnce 13 = .ok (.goto 4, 3) := by decide +kernel
theorem dX1_reputationAtOnce_16 : decode cX1_reputationAtOnce 16 = .ok (.iconst 0, 1) := by decide +kernel
theorem dX1_reputationAtOnce_17 : decode cX1_reputationAtOnce 17 = .ok (.ireturn, 1) := by decide +kernel
set_option maxRecDepth 20000 in
theorem ggX1_leastStake_X1_isKnown : GoodIn wsX1_leastStake wsX1_isKnown := goodIn_r _ [5, 6, 7, 4, 8, 9, 10, 11, 12, 13, 14, 15, 16, 35, 36, 37, 38, 39, 40, 41, 42, 43, 44, 45, 46, 47, 48, 49, 50] (by decide +kernel) (by decide +kernel)
set_option maxRecDepth 20000 in
theorem gX1_leastStake_X1_isKnown : GoodIn wsX1_leastStake (wsV RX1 121 RX1 yX1_isKnown wsX1_isKnown) := goodIn_app (goodIn_of _ (by decide +kernel)) ggX1_leastStake_X1_isKnown
set_option maxRecDepth 20000 in
theorem ggX1_leastStake_X1_least : GoodIn wsX1_leastStake wsX1_least := goodIn_r _ [20, 21, 22, 23, 4, 24, 25, 26, 27, 28, 29, 30, 31, 32, 33, 34, 35, 36, 37, 38, 39, 40, 41, 42, 43, 44, 45, 46, 47, 48, 49, 50] (by decide +kernel) (by decide +kernel)
set_option maxRecDepth 20000 in
theorem gX1_leastStake_X1_least : GoodIn wsX1_leastStake (wsV RX1 86 RX1 yX1_least wsX1_least) := goodIn_app (goodIn_of _ (by decide +kernel)) ggX1_leastStake_X1_least
theorem dX1_leastStake_0 : decode cX1_leastStake 0 = .ok (.aload_n 0, 1) := by decide +kernel
theorem dX1_leastStake_1 : decode cX1_leastStake 1 = .ok (.iload_n 1, 1) := by decide +kernel
theorem dX1_leastStake_2 : decode cX1_leastStake 2 = .ok (.invokevirtual 121, 3) := by decide +kernel
theorem dX1_leastStake_5 : decode cX1_leastStake 5 = .ok (.ifCond .eq 11, 3) := by decide +kernel
theorem dX1_leastStake_8 : decode cX1_leastStake 8 = .ok (.aload_n 0, 1) := by decide +kernel
theorem dX1_leastStake_9 : decode cX1_leastStake 9 = .ok (.iload_n 1, 1) := by decide +kernel
theorem dX1_leastStake_10 : decode cX1_leastStake 10 = .ok (.invokevirtual 86, 3) := by decide +kernel
theorem dX1_leastStake_13 : decode cX1_leastStake 13 = .ok (.goto 4, 3) := by decide +kernel
theorem dX1_leastStake_16 : decode cX1_leastStake 16 = .ok (.iconst 0, 1) := by decide +kernel
theorem dX1_leastStake_17 : decode cX1_leastStake 17 = .ok (.ireturn, 1) := by decide +kernel
set_option maxRecDepth 20000 in
theorem ggX1_falseMarks_X1_isKnown : GoodIn wsX1_falseMarks wsX1_isKnown := goodIn_r _ [6, 7, 8, 5, 9, 10, 11, 12, 13, 14, 15, 16, 17, 18, 19, 20, 21, 22, 23, 24, 25, 26, 27, 28, 29, 30, 31, 32, 33] (by decide +kernel) (by decide +kernel)
set_option maxRecDepth 20000 in
theorem gX1_falseMarks_X1_isKnown : GoodIn wsX1_falseMarks (wsV RX1 121 RX1 yX1_isKnown wsX1_isKnown) := goodIn_app (goodIn_of _ (by decide +kernel)) ggX1_falseMarks_X1_isKnown
theorem dX1_falseMarks_0 : decode cX1_falseMarks 0 = .ok (.aload_n 0, 1) := by decide +kernel
theorem dX1_falseMarks_1 : decode cX1_falseMarks 1 = .ok (.iload_n 1, 1) := by decide +kernel
theorem dX1_falseMarks_2 : decode cX1_falseMarks 2 = .ok (.invokevirtual 121, 3) := by decide +kernel
theorem dX1_falseMarks_5 : decode cX1_falseMarks 5 = .ok (.ifCond .eq 12, 3) := by decide +kernel
theorem dX1_falseMarks_8 : decode cX1_falseMarks 8 = .ok (.aload_n 0, 1) := by decide +kernel
theorem dX1_falseMarks_9 : decode cX1_falseMarks 9 = .ok (.getfield 19, 3) := by decide +kernel
theorem dX1_falseMarks_12 : decode cX1_falseMarks 12 = .ok (.iload_n 1, 1) := by decide +kernel
theorem dX1_falseMarks_13 : decode cX1_falseMarks 13 = .ok (.iaload, 1) := by decide +kernel
theorem dX1_falseMarks_14 : decode cX1_falseMarks 14 = .ok (.goto 4, 3) := by decide +kernel
theorem dX1_falseMarks_17 : decode cX1_falseMarks 17 = .ok (.iconst 0, 1) := by decide +kernel
theorem dX1_falseMarks_18 : decode cX1_falseMarks 18 = .ok (.ireturn, 1) := by decide +kernel
end
section
theorem dJ6_bitCount_0f7a4_0 : decode cJ6_bitCount_0f7a4 0 = .ok (.iload_n 0, 1) := by decide +kernel
theorem dJ6_bitCount_0f7a4_1 : decode cJ6_bitCount_0f7a4 1 = .ok (.iload_n 0, 1) := by decide +kernel
theorem dJ6_bitCount_0f7a4_2 : decode cJ6_bitCount_0f7a4 2 = .ok (.iconst 1, 1) := by decide +kernel
theorem dJ6_bitCount_0f7a4_3 : decode cJ6_bitCount_0f7a4 3 = .ok (.iushr, 1) := by decide +kernel
theorem dJ6_bitCount_0f7a4_4 : decode cJ6_bitCount_0f7a4 4 = .ok (.ldc_w 265, 3) := by decide +kernel
theorem dJ6_bitCount_0f7a4_7 : decode cJ6_bitCount_0f7a4 7 = .ok (.iand, 1) := by decide +kernel
theorem dJ6_bitCount_0f7a4_8 : decode cJ6_bitCount_0f7a4 8 = .ok (.isub, 1) := by decide +kernel
theorem dJ6_bitCount_0f7a4_9 : decode cJ6_bitCount_0f7a4 9 = .ok (.istore_n 0, 1) := by decide +kernel
theorem dJ6_bitCount_0f7a4_10 : decode cJ6_bitCount_0f7a4 10 = .ok (.iload_n 0, 1) := by decide +kernel
theorem dJ6_bitCount_0f7a4_11 : decode cJ6_bitCount_0f7a4 11 = .ok (.ldc_w 266, 3) := by decide +kernel
theorem dJ6_bitCount_0f7a4_14 : decode cJ6_bitCount_0f7a4 14 = .ok (.iand, 1) := by decide +kernel
theorem dJ6_bitCount_0f7a4_15 : decode cJ6_bitCount_0f7a4 15 = .ok (.iload_n 0, 1) := by decide +kernel
theorem dJ6_bitCount_0f7a4_16 : decode cJ6_bitCount_0f7a4 16 = .ok (.iconst 2, 1) := by decide +kernel
theorem dJ6_bitCount_0f7a4_17 : decode cJ6_bitCount_0f7a4 17 = .ok (.iushr, 1) := by decide +kernel
theorem dJ6_bitCount_0f7a4_18 : decode cJ6_bitCount_0f7a4 18 = .ok (.ldc_w 266, 3) := by decide +kernel
theorem dJ6_bitCount_0f7a4_21 : decode cJ6_bitCount_0f7a4 21 = .ok (.iand, 1) := by decide +kernel
theorem dJ6_bitCount_0f7a4_22 : decode cJ6_bitCount_0f7a4 22 = .ok (.iadd, 1) := by decide +kernel
theorem dJ6_bitCount_0f7a4_23 : decode cJ6_bitCount_0f7a4 23 = .ok (.istore_n 0, 1) := by decide +kernel
theorem dJ6_bitCount_0f7a4_24 : decode cJ6_bitCount_0f7a4 24 = .ok (.iload_n 0, 1) := by decide +kernel
theorem dJ6_bitCount_0f7a4_25 : decode cJ6_bitCount_0f7a4 25 = .ok (.iload_n 0, 1) := by decide +kernel
theorem dJ6_bitCount_0f7a4_26 : decode cJ6_bitCount_0f7a4 26 = .ok (.iconst 4, 1) := by decide +kernel
theorem dJ6_bitCount_0f7a4_27 : decode cJ6_bitCount_0f7a4 27 = .ok (.iushr, 1) := by decide +kernel
theorem dJ6_bitCount_0f7a4_28 : decode cJ6_bitCount_0f7a4 28 = .ok (.iadd, 1) := by decide +kernel
theorem dJ6_bitCount_0f7a4_29 : decode cJ6_bitCount_0f7a4 29 = .ok (.ldc_w 267, 3) := by decide +kernel
theorem dJ6_bitCount_0f7a4_32 : decode cJ6_bitCount_0f7a4 32 = .ok (.iand, 1) := by decide +kernel
theorem dJ6_bitCount_0f7a4_33 : decode cJ6_bitCount_0f7a4 33 = .ok (.istore_n 0, 1) := by decide +kernel
theorem dJ6_bitCount_0f7a4_34 : decode cJ6_bitCount_0f7a4 34 = .ok (.iload_n 0, 1) := by decide +kernel
theorem dJ6_bitCount_0f7a4_35 : decode cJ6_bitCount_0f7a4 35 = .ok (.iload_n 0, 1) := by decide +kernel
theorem dJ6_bitCount_0f7a4_36 : decode cJ6_bitCount_0f7a4 36 = .ok (.bipush 8, 2) := by decide +kernel
theorem dJ6_bitCount_0f7a4_38 : decode cJ6_bitCount_0f7a4 38 = .ok (.iushr, 1) := by decide +kernel
theorem dJ6_bitCount_0f7a4_39 : decode cJ6_bitCount_0f7a4 39 = .ok (.iadd, 1) := by decide +kernel
theorem dJ6_bitCount_0f7a4_40 : decode cJ6_bitCount_0f7a4 40 = .ok (.istore_n 0, 1) := by decide +kernel
theorem dJ6_bitCount_0f7a4_41 : decode cJ6_bitCount_0f7a4 41 = .ok (.iload_n 0, 1) := by decide +kernel
theorem dJ6_bitCount_0f7a4_42 : decode cJ6_bitCount_0f7a4 42 = .ok (.iload_n 0, 1) := by decide +kernel
theorem dJ6_bitCount_0f7a4_43 : decode cJ6_bitCount_0f7a4 43 = .ok (.bipush 16, 2) := by decide +kernel
theorem dJ6_bitCount_0f7a4_45 : decode cJ6_bitCount_0f7a4 45 = .ok (.iushr, 1) := by decide +kernel
theorem dJ6_bitCount_0f7a4_46 : decode cJ6_bitCount_0f7a4 46 = .ok (.iadd, 1) := by decide +kernel
theorem dJ6_bitCount_0f7a4_47 : decode cJ6_bitCount_0f7a4 47 = .ok (.istore_n 0, 1) := by decide +kernel
theorem dJ6_bitCount_0f7a4_48 : decode cJ6_bitCount_0f7a4 48 = .ok (.iload_n 0, 1) := by decide +kernel
theorem dJ6_bitCount_0f7a4_49 : decode cJ6_bitCount_0f7a4 49 = .ok (.bipush 63, 2) := by decide +kernel
theorem dJ6_bitCount_0f7a4_51 : decode cJ6_bitCount_0f7a4 51 = .ok (.iand, 1) := by decide +kernel
theorem dJ6_bitCount_0f7a4_52 : decode cJ6_bitCount_0f7a4 52 = .ok (.ireturn, 1) := by decide +kernel
theorem dJ9_max_7cf53_0 : decode cJ9_max_7cf53 0 = .ok (.iload_n 0, 1) := by decide +kernel
theorem dJ9_max_7cf53_1 : decode cJ9_max_7cf53 1 = .ok (.iload_n 1, 1) := by decide +kernel
theorem dJ9_max_7cf53_2 : decode cJ9_max_7cf53 2 = .ok (.if_icmp .lt 7, 3) := by decide +kernel
theorem dJ9_max_7cf53_5 : decode cJ9_max_7cf53 5 = .ok (.iload_n 0, 1) := by decide +kernel
theorem dJ9_max_7cf53_6 : decode cJ9_max_7cf53 6 = .ok (.goto 4, 3) := by decide +kernel
theorem dJ9_max_7cf53_9 : decode cJ9_max_7cf53 9 = .ok (.iload_n 1, 1) := by decide +kernel
theorem dJ9_max_7cf53_10 : decode cJ9_max_7cf53 10 = .ok (.ireturn, 1) := by decide +kernel
theorem dJ9_min_7cf53_0 : decode cJ9_min_7cf53 0 = .ok (.iload_n 0, 1) := by decide +kernel
theorem dJ9_min_7cf53_1 : decode cJ9_min_7cf53 1 = .ok (.iload_n 1, 1) := by decide +kernel
theorem dJ9_min_7cf53_2 : decode cJ9_min_7cf53 2 = .ok (.if_icmp .gt 7, 3) := by decide +kernel
theorem dJ9_min_7cf53_5 : decode cJ9_min_7cf53 5 = .ok (.iload_n 0, 1) := by decide +kernel
theorem dJ9_min_7cf53_6 : decode cJ9_min_7cf53 6 = .ok (.goto 4, 3) := by decide +kernel
theorem dJ9_min_7cf53_9 : decode cJ9_min_7cf53 9 = .ok (.iload_n 1, 1) := by decide +kernel
theorem dJ9_min_7cf53_10 : decode cJ9_min_7cf53 10 = .ok (.ireturn, 1) := by decide +kernel
set_option maxRecDepth 20000 in
theorem ggL_setRoute_X0_setRoute : GoodIn wsL_setRoute wsX0_setRoute := goodIn_ca (goodIn_ca (goodIn_r _ [7, 8, 9, 10, 11, 12, 13, 14, 6, 15, 16, 17, 18, 19, 20, 21, 22, 23, 24, 25, 26, 27, 28, 29, 30, 31] (by decide +kernel) (by decide +kernel)) (goodIn_sub (fun _ h => List.mem_cons_of_mem _ (List.mem_append_left _ (List.mem_append_right _ h))) (by decide +kernel))) (goodIn_sub (fun _ h => List.mem_cons_of_mem _ (List.mem_append_right _ h)) (by decide +kernel))
set_option maxRecDepth 20000 in
theorem gL_setRoute_X0_setRoute : GoodIn wsL_setRoute (wsV RL 7 RX0 yX0_setRoute wsX0_setRoute) := goodIn_app (goodIn_of _ (by decide +kernel)) ggL_setRoute_X0_setRoute
theorem dL_setRoute_0 : decode cL_setRoute 0 = .ok (.aload 4, 2) := by decide +kernel
theorem dL_setRoute_2 : decode cL_setRoute 2 = .ok (.iconst 0, 1) := by decide +kernel
theorem dL_setRoute_3 : decode cL_setRoute 3 = .ok (.aload_n 0, 1) := by decide +kernel
theorem dL_setRoute_4 : decode cL_setRoute 4 = .ok (.iload_n 1, 1) := by decide +kernel
theorem dL_setRoute_5 : decode cL_setRoute 5 = .ok (.iload_n 2, 1) := by decide +kernel
theorem dL_setRoute_6 : decode cL_setRoute 6 = .ok (.iload_n 3, 1) := by decide +kernel
theorem dL_setRoute_7 : decode cL_setRoute 7 = .ok (.invokevirtual 7, 3) := by decide +kernel
theorem dL_setRoute_10 : decode cL_setRoute 10 = .ok (.i2l, 1) := by decide +kernel
theorem dL_setRoute_11 : decode cL_setRoute 11 = .ok (.lastore, 1) := by decide +kernel
theorem dL_setRoute_12 : decode cL_setRoute 12 = .ok (.goto 11, 3) := by decide +kernel
theorem dL_setRoute_15 : decode cL_setRoute 15 = .ok (.astore 5, 2) := by decide +kernel
theorem dL_setRoute_17 : decode cL_setRoute 17 = .ok (.iconst 1, 1) := by decide +kernel
theorem dL_setRoute_18 : decode cL_setRoute 18 = .ok (.ireturn, 1) := by decide +kernel
theorem dL_setRoute_19 : decode cL_setRoute 19 = .ok (.astore 5, 2) := by decide +kernel
theorem dL_setRoute_21 : decode cL_setRoute 21 = .ok (.iconst 2, 1) := by decide +kernel
theorem dL_setRoute_22 : decode cL_setRoute 22 = .ok (.ireturn, 1) := by decide +kernel
theorem dL_setRoute_23 : decode cL_setRoute 23 = .ok (.iconst 0, 1) := by decide +kernel
theorem dL_setRoute_24 : decode cL_setRoute 24 = .ok (.ireturn, 1) := by decide +kernel
set_option maxRecDepth 20000 in
theorem ggL_steps_X0_steps : GoodIn wsL_steps wsX0_steps := goodIn_ca (goodIn_r _ [6, 7, 8, 9, 10, 5, 11, 12, 13, 14, 15, 16, 17, 18, 19, 20, 21, 22, 23, 24, 25, 26, 27, 28, 29, 30, 31, 32] (by decide +kernel) (by decide +kernel)) (goodIn_sub (fun _ h => List.mem_cons_of_mem _ (List.mem_append_right _ h)) (by decide +kernel))
set_option maxRecDepth 20000 in
theorem gL_steps_X0_steps : GoodIn wsL_steps (wsV RL 17 RX0 yX0_steps wsX0_steps) := goodIn_app (goodIn_of _ (by decide +kernel)) ggL_steps_X0_steps
theorem dL_steps_0 : decode cL_steps 0 = .ok (.aload_n 3, 1) := by decide +kernel
theorem dL_steps_1 : decode cL_steps 1 = .ok (.iconst 0, 1) := by decide +kernel
theorem dL_steps_2 : decode cL_steps 2 = .ok (.aload_n 0, 1) := by decide +kernel
theorem dL_steps_3 : decode cL_steps 3 = .ok (.iload_n 1, 1) := by decide +kernel
theorem dL_steps_4 : decode cL_steps 4 = .ok (.iload_n 2, 1) := by decide +kernel
theorem dL_steps_5 : decode cL_steps 5 = .ok (.invokevirtual 17, 3) := by decide +kernel
theorem dL_steps_8 : decode cL_steps 8 = .ok (.i2l, 1) := by decide +kernel
theorem dL_steps_9 : decode cL_steps 9 = .ok (.lastore, 1) := by decide +kernel
theorem dL_steps_10 : decode cL_steps 10 = .ok (.goto 7, 3) := by decide +kernel
theorem dL_steps_13 : decode cL_steps 13 = .ok (.astore 4, 2) := by decide +kernel
theorem dL_steps_15 : decode cL_steps 15 = .ok (.iconst 1, 1) := by decide +kernel
theorem dL_steps_16 : decode cL_steps 16 = .ok (.ireturn, 1) := by decide +kernel
theorem dL_steps_17 : decode cL_steps 17 = .ok (.iconst 0, 1) := by decide +kernel
theorem dL_steps_18 : decode cL_steps 18 = .ok (.ireturn, 1) := by decide +kernel
set_option maxRecDepth 20000 in
theorem ggL_send_X0_send : GoodIn wsL_send wsX0_send := goodIn_ca (goodIn_ca (goodIn_ca (goodIn_r _ [8, 9, 10, 11, 12, 13, 14, 15, 16, 17, 18, 19, 20, 21, 22, 7, 23, 24, 25, 26, 27, 28, 29, 30, 31, 32, 33, 34, 35, 36, 37, 38, 39, 40, 41, 42, 43, 44, 45, 46, 47, 48, 49, 50, 51, 52, 53, 54, 55, 56, 57, 58, 59, 60, 61, 62, 63, 64, 65, 66, 67, 68, 69, 70, 71, 72, 73, 74, 75, 76, 77, 78, 79, 80] (by decide +kernel) (by decide +kernel)) (goodIn_sub (fun _ h => List.mem_cons_of_mem _ (List.mem_append_left _ (List.mem_append_left _ (List.mem_append_right _ h)))) (by decide +kernel))) (goodIn_sub (fun _ h => List.mem_cons_of_mem _ (List.mem_append_left _ (List.mem_append_right _ h))) (by decide +kernel))) (goodIn_sub (fun _ h => List.mem_cons_of_mem _ (List.mem_append_right _ h)) (by decide +kernel))
set_option maxRecDepth 20000 in
theorem gL_send_X0_send : GoodIn wsL_send (wsV RL 21 RX0 yX0_send wsX0_send) := goodIn_app (goodIn_of _ (by decide +kernel)) ggL_send_X0_send
theorem dL_send_0 : decode cL_send 0 = .ok (.aload 4, 2) := by decide +kernel
theorem dL_send_2 : decode cL_send 2 = .ok (.iconst 0, 1) := by decide +kernel
theorem dL_send_3 : decode cL_send 3 = .ok (.aload_n 0, 1) := by decide +kernel
theorem dL_send_4 : decode cL_send 4 = .ok (.iload_n 1, 1) := by decide +kernel
theorem dL_send_5 : decode cL_send 5 = .ok (.iload_n 2, 1) := by decide +kernel
theorem dL_send_6 : decode cL_send 6 = .ok (.iload_n 3, 1) := by decide +kernel
theorem dL_send_7 : decode cL_send 7 = .ok (.invokevirtual 21, 3) := by decide +kernel
theorem dL_send_10 : decode cL_send 10 = .ok (.i2l, 1) := by decide +kernel
theorem dL_send_11 : decode cL_send 11 = .ok (.lastore, 1) := by decide +kernel
theorem dL_send_12 : decode cL_send 12 = .ok (.goto 15, 3) := by decide +kernel
theorem dL_send_15 : decode cL_send 15 = .ok (.astore 5, 2) := by decide +kernel
theorem dL_send_17 : decode cL_send 17 = .ok (.iconst 1, 1) := by decide +kernel
theorem dL_send_18 : decode cL_send 18 = .ok (.ireturn, 1) := by decide +kernel
theorem dL_send_19 : decode cL_send 19 = .ok (.astore 5, 2) := by decide +kernel
theorem dL_send_21 : decode cL_send 21 = .ok (.iconst 2, 1) := by decide +kernel
theorem dL_send_22 : decode cL_send 22 = .ok (.ireturn, 1) := by decide +kernel
theorem dL_send_23 : decode cL_send 23 = .ok (.astore 5, 2) := by decide +kernel
theorem dL_send_25 : decode cL_send 25 = .ok (.iconst 3, 1) := by decide +kernel
theorem dL_send_26 : decode cL_send 26 = .ok (.ireturn, 1) := by decide +kernel
theorem dL_send_27 : decode cL_send 27 = .ok (.iconst 0, 1) := by decide +kernel
theorem dL_send_28 : decode cL_send 28 = .ok (.ireturn, 1) := by decide +kernel
set_option maxRecDepth 20000 in
theorem ggL_pass_X0_pass : GoodIn wsL_pass wsX0_pass := goodIn_ca (goodIn_ca (goodIn_r _ [7, 8, 9, 10, 11, 12, 13, 14, 15, 16, 6, 17, 18, 19, 20, 21, 22, 23, 24, 25, 26, 27, 28, 29, 30, 31, 32, 33, 34, 35, 36, 37, 38, 39, 40, 41, 42, 43, 44, 45, 46, 47, 48, 49, 50, 51, 52, 53, 54, 55, 56, 57, 58, 59, 60, 61, 62, 63, 64, 65, 66, 67, 68, 69, 70, 71, 72, 73, 74, 75, 76, 77, 78, 79, 80, 81, 82, 83, 84, 85, 86, 87, 88, 89, 90, 91, 92, 93, 94, 95, 96, 97, 98, 99, 100, 101, 102, 103, 104, 105, 106, 107, 108, 109, 110, 111, 112, 113, 114, 115, 116, 117, 118, 119, 120] (by decide +kernel) (by decide +kernel)) (goodIn_sub (fun _ h => List.mem_cons_of_mem _ (List.mem_append_left _ (List.mem_append_right _ h))) (by decide +kernel))) (goodIn_sub (fun _ h => List.mem_cons_of_mem _ (List.mem_append_right _ h)) (by decide +kernel))
set_option maxRecDepth 20000 in
theorem gL_pass_X0_pass : GoodIn wsL_pass (wsV RL 26 RX0 yX0_pass wsX0_pass) := goodIn_app (goodIn_of _ (by decide +kernel)) ggL_pass_X0_pass
theorem dL_pass_0 : decode cL_pass 0 = .ok (.aload_n 2, 1) := by decide +kernel
theorem dL_pass_1 : decode cL_pass 1 = .ok (.iconst 0, 1) := by decide +kernel
theorem dL_pass_2 : decode cL_pass 2 = .ok (.aload_n 0, 1) := by decide +kernel
theorem dL_pass_3 : decode cL_pass 3 = .ok (.iload_n 1, 1) := by decide +kernel
theorem dL_pass_4 : decode cL_pass 4 = .ok (.invokevirtual 26, 3) := by decide +kernel
theorem dL_pass_7 : decode cL_pass 7 = .ok (.i2l, 1) := by decide +kernel
theorem dL_pass_8 : decode cL_pass 8 = .ok (.lastore, 1) := by decide +kernel
theorem dL_pass_9 : decode cL_pass 9 = .ok (.goto 9, 3) := by decide +kernel
theorem dL_pass_12 : decode cL_pass 12 = .ok (.astore_n 3, 1) := by decide +kernel
theorem dL_pass_13 : decode cL_pass 13 = .ok (.iconst 1, 1) := by decide +kernel
theorem dL_pass_14 : decode cL_pass 14 = .ok (.ireturn, 1) := by decide +kernel
theorem dL_pass_15 : decode cL_pass 15 = .ok (.astore_n 3, 1) := by decide +kernel
theorem dL_pass_16 : decode cL_pass 16 = .ok (.iconst 2, 1) := by decide +kernel
theorem dL_pass_17 : decode cL_pass 17 = .ok (.ireturn, 1) := by decide +kernel
theorem dL_pass_18 : decode cL_pass 18 = .ok (.iconst 0, 1) := by decide +kernel
theorem dL_pass_19 : decode cL_pass 19 = .ok (.ireturn, 1) := by decide +kernel
set_option maxRecDepth 20000 in
theorem ggL_answer_X0_answer : GoodIn wsL_answer wsX0_answer := goodIn_ca (goodIn_ca (goodIn_r _ [7, 8, 9, 10, 11, 12, 13, 14, 15, 16, 6, 17, 18, 19, 20, 21, 22, 23, 24, 25, 26, 27, 28, 29, 30, 31, 32, 33, 34, 35, 36, 37, 38, 39, 40, 41, 42, 43, 44, 45, 46, 47, 48, 49, 50, 51, 52, 53, 54, 55, 56, 57, 58, 59, 60, 61, 62] (by decide +kernel) (by decide +kernel)) (goodIn_sub (fun _ h => List.mem_cons_of_mem _ (List.mem_append_left _ (List.mem_append_right _ h))) (by decide +kernel))) (goodIn_sub (fun _ h => List.mem_cons_of_mem _ (List.mem_append_right _ h)) (by decide +kernel))
set_option maxRecDepth 20000 in
theorem gL_answer_X0_answer : GoodIn wsL_answer (wsV RL 30 RX0 yX0_answer wsX0_answer) := goodIn_app (goodIn_of _ (by decide +kernel)) ggL_answer_X0_answer
theorem dL_answer_0 : decode cL_answer 0 = .ok (.aload_n 2, 1) := by decide +kernel
theorem dL_answer_1 : decode cL_answer 1 = .ok (.iconst 0, 1) := by decide +kernel
theorem dL_answer_2 : decode cL_answer 2 = .ok (.aload_n 0, 1) := by decide +kernel
theorem dL_answer_3 : decode cL_answer 3 = .ok (.iload_n 1, 1) := by decide +kernel
theorem dL_answer_4 : decode cL_answer 4 = .ok (.invokevirtual 30, 3) := by decide +kernel
theorem dL_answer_7 : decode cL_answer 7 = .ok (.i2l, 1) := by decide +kernel
theorem dL_answer_8 : decode cL_answer 8 = .ok (.lastore, 1) := by decide +kernel
theorem dL_answer_9 : decode cL_answer 9 = .ok (.goto 9, 3) := by decide +kernel
theorem dL_answer_12 : decode cL_answer 12 = .ok (.astore_n 3, 1) := by decide +kernel
theorem dL_answer_13 : decode cL_answer 13 = .ok (.iconst 1, 1) := by decide +kernel
theorem dL_answer_14 : decode cL_answer 14 = .ok (.ireturn, 1) := by decide +kernel
theorem dL_answer_15 : decode cL_answer 15 = .ok (.astore_n 3, 1) := by decide +kernel
theorem dL_answer_16 : decode cL_answer 16 = .ok (.iconst 2, 1) := by decide +kernel
theorem dL_answer_17 : decode cL_answer 17 = .ok (.ireturn, 1) := by decide +kernel
theorem dL_answer_18 : decode cL_answer 18 = .ok (.iconst 0, 1) := by decide +kernel
theorem dL_answer_19 : decode cL_answer 19 = .ok (.ireturn, 1) := by decide +kernel
set_option maxRecDepth 20000 in
theorem ggL_mark_X0_mark : GoodIn wsL_mark wsX0_mark := goodIn_ca (goodIn_ca (goodIn_r _ [7, 8, 9, 10, 11, 12, 13, 14, 15, 16, 17, 18, 19, 6, 20, 21, 22, 23, 24, 25, 26, 27, 28, 29, 30, 31, 32, 33, 34, 35, 36, 37, 38, 39, 40, 41, 42, 43, 44, 45, 46, 47, 48, 49, 50, 51, 52, 53, 54, 55, 56, 57, 58, 59, 60, 61, 62, 63, 64, 65, 66, 67, 68, 69, 70, 71, 72] (by decide +kernel) (by decide +kernel)) (goodIn_sub (fun _ h => List.mem_cons_of_mem _ (List.mem_append_left _ (List.mem_append_right _ h))) (by decide +kernel))) (goodIn_sub (fun _ h => List.mem_cons_of_mem _ (List.mem_append_right _ h)) (by decide +kernel))
set_option maxRecDepth 20000 in
theorem gL_mark_X0_mark : GoodIn wsL_mark (wsV RL 33 RX0 yX0_mark wsX0_mark) := goodIn_app (goodIn_of _ (by decide +kernel)) ggL_mark_X0_mark
theorem dL_mark_0 : decode cL_mark 0 = .ok (.aload_n 2, 1) := by decide +kernel
theorem dL_mark_1 : decode cL_mark 1 = .ok (.iconst 0, 1) := by decide +kernel
theorem dL_mark_2 : decode cL_mark 2 = .ok (.aload_n 0, 1) := by decide +kernel
theorem dL_mark_3 : decode cL_mark 3 = .ok (.iload_n 1, 1) := by decide +kernel
theorem dL_mark_4 : decode cL_mark 4 = .ok (.invokevirtual 33, 3) := by decide +kernel
theorem dL_mark_7 : decode cL_mark 7 = .ok (.i2l, 1) := by decide +kernel
theorem dL_mark_8 : decode cL_mark 8 = .ok (.lastore, 1) := by decide +kernel
theorem dL_mark_9 : decode cL_mark 9 = .ok (.goto 9, 3) := by decide +kernel
theorem dL_mark_12 : decode cL_mark 12 = .ok (.astore_n 3, 1) := by decide +kernel
theorem dL_mark_13 : decode cL_mark 13 = .ok (.iconst 1, 1) := by decide +kernel
theorem dL_mark_14 : decode cL_mark 14 = .ok (.ireturn, 1) := by decide +kernel
theorem dL_mark_15 : decode cL_mark 15 = .ok (.astore_n 3, 1) := by decide +kernel
theorem dL_mark_16 : decode cL_mark 16 = .ok (.iconst 2, 1) := by decide +kernel
theorem dL_mark_17 : decode cL_mark 17 = .ok (.ireturn, 1) := by decide +kernel
theorem dL_mark_18 : decode cL_mark 18 = .ok (.iconst 0, 1) := by decide +kernel
theorem dL_mark_19 : decode cL_mark 19 = .ok (.ireturn, 1) := by decide +kernel
set_option maxRecDepth 20000 in
theorem ggL_stateOf_X0_stateOf : GoodIn wsL_stateOf wsX0_stateOf := goodIn_ca (goodIn_r _ [6, 7, 8, 9, 10, 11, 12, 5, 13, 14, 15, 16, 17, 18, 19, 20, 21, 22, 23, 24, 25, 26, 27, 28, 29, 30] (by decide +kernel) (by decide +kernel)) (goodIn_sub (fun _ h => List.mem_cons_of_mem _ (List.mem_append_right _ h)) (by decide +kernel))
set_option maxRecDepth 20000 in
theorem gL_stateOf_X0_stateOf : GoodIn wsL_stateOf (wsV RL 36 RX0 yX0_stateOf wsX0_stateOf) := goodIn_app (goodIn_of _ (by decide +kernel)) ggL_stateOf_X0_stateOf
theorem dL_stateOf_0 : decode cL_stateOf 0 = .ok (.aload_n 2, 1) := by decide +kernel
theorem dL_stateOf_1 : decode cL_stateOf 1 = .ok (.iconst 0, 1) := by decide +kernel
theorem dL_stateOf_2 : decode cL_stateOf 2 = .ok (.aload_n 0, 1) := by decide +kernel
theorem dL_stateOf_3 : decode cL_stateOf 3 = .ok (.iload_n 1, 1) := by decide +kernel
theorem dL_stateOf_4 : decode cL_stateOf 4 = .ok (.invokevirtual 36, 3) := by decide +kernel
theorem dL_stateOf_7 : decode cL_stateOf 7 = .ok (.i2l, 1) := by decide +kernel
theorem dL_stateOf_8 : decode cL_stateOf 8 = .ok (.lastore, 1) := by decide +kernel
theorem dL_stateOf_9 : decode cL_stateOf 9 = .ok (.goto 6, 3) := by decide +kernel
theorem dL_stateOf_12 : decode cL_stateOf 12 = .ok (.astore_n 3, 1) := by decide +kernel
theorem dL_stateOf_13 : decode cL_stateOf 13 = .ok (.iconst 1, 1) := by decide +kernel
theorem dL_stateOf_14 : decode cL_stateOf 14 = .ok (.ireturn, 1) := by decide +kernel
theorem dL_stateOf_15 : decode cL_stateOf 15 = .ok (.iconst 0, 1) := by decide +kernel
theorem dL_stateOf_16 : decode cL_stateOf 16 = .ok (.ireturn, 1) := by decide +kernel
set_option maxRecDepth 20000 in
theorem ggL_relayOf_X0_relayOf : GoodIn wsL_relayOf wsX0_relayOf := goodIn_ca (goodIn_r _ [6, 7, 8, 9, 10, 11, 12, 5, 13, 14, 15, 16, 17, 18, 19, 20, 21, 22, 23, 24, 25, 26, 27, 28, 29, 30] (by decide +kernel) (by decide +kernel)) (goodIn_sub (fun _ h => List.mem_cons_of_mem _ (List.mem_append_right _ h)) (by decide +kernel))
set_option maxRecDepth 20000 in
theorem gL_relayOf_X0_relayOf : GoodIn wsL_relayOf (wsV RL 39 RX0 yX0_relayOf wsX0_relayOf) := goodIn_app (goodIn_of _ (by decide +kernel)) ggL_relayOf_X0_relayOf
theorem dL_relayOf_0 : decode cL_relayOf 0 = .ok (.aload_n 2, 1) := by decide +kernel
theorem dL_relayOf_1 : decode cL_relayOf 1 = .ok (.iconst 0, 1) := by decide +kernel
theorem dL_relayOf_2 : decode cL_relayOf 2 = .ok (.aload_n 0, 1) := by decide +kernel
theorem dL_relayOf_3 : decode cL_relayOf 3 = .ok (.iload_n 1, 1) := by decide +kernel
theorem dL_relayOf_4 : decode cL_relayOf 4 = .ok (.invokevirtual 39, 3) := by decide +kernel
theorem dL_relayOf_7 : decode cL_relayOf 7 = .ok (.i2l, 1) := by decide +kernel
theorem dL_relayOf_8 : decode cL_relayOf 8 = .ok (.lastore, 1) := by decide +kernel
theorem dL_relayOf_9 : decode cL_relayOf 9 = .ok (.goto 6, 3) := by decide +kernel
theorem dL_relayOf_12 : decode cL_relayOf 12 = .ok (.astore_n 3, 1) := by decide +kernel
theorem dL_relayOf_13 : decode cL_relayOf 13 = .ok (.iconst 1, 1) := by decide +kernel
theorem dL_relayOf_14 : decode cL_relayOf 14 = .ok (.ireturn, 1) := by decide +kernel
theorem dL_relayOf_15 : decode cL_relayOf 15 = .ok (.iconst 0, 1) := by decide +kernel
theorem dL_relayOf_16 : decode cL_relayOf 16 = .ok (.ireturn, 1) := by decide +kernel
set_option maxRecDepth 20000 in
theorem ggL_marksOn_X0_marksOn : GoodIn wsL_marksOn wsX0_marksOn := goodIn_ca (goodIn_r _ [6, 7, 8, 9, 10, 11, 12, 5, 13, 14, 15, 16, 17, 18, 19, 20, 21, 22, 23, 24, 25, 26, 27, 28, 29, 30] (by decide +kernel) (by decide +kernel)) (goodIn_sub (fun _ h => List.mem_cons_of_mem _ (List.mem_append_right _ h)) (by decide +kernel))
set_option maxRecDepth 20000 in
theorem gL_marksOn_X0_marksOn : GoodIn wsL_marksOn (wsV RL 42 RX0 yX0_marksOn wsX0_marksOn) := goodIn_app (goodIn_of _ (by decide +kernel)) ggL_marksOn_X0_marksOn
theorem dL_marksOn_0 : decode cL_marksOn 0 = .ok (.aload_n 2, 1) := by decide +kernel
theorem dL_marksOn_1 : decode cL_marksOn 1 = .ok (.iconst 0, 1) := by decide +kernel
theorem dL_marksOn_2 : decode cL_marksOn 2 = .ok (.aload_n 0, 1) := by decide +kernel
theorem dL_marksOn_3 : decode cL_marksOn 3 = .ok (.iload_n 1, 1) := by decide +kernel
theorem dL_marksOn_4 : decode cL_marksOn 4 = .ok (.invokevirtual 42, 3) := by decide +kernel
theorem dL_marksOn_7 : decode cL_marksOn 7 = .ok (.i2l, 1) := by decide +kernel
theorem dL_marksOn_8 : decode cL_marksOn 8 = .ok (.lastore, 1) := by decide +kernel
theorem dL_marksOn_9 : decode cL_marksOn 9 = .ok (.goto 6, 3) := by decide +kernel
theorem dL_marksOn_12 : decode cL_marksOn 12 = .ok (.astore_n 3, 1) := by decide +kernel
theorem dL_marksOn_13 : decode cL_marksOn 13 = .ok (.iconst 1, 1) := by decide +kernel
theorem dL_marksOn_14 : decode cL_marksOn 14 = .ok (.ireturn, 1) := by decide +kernel
theorem dL_marksOn_15 : decode cL_marksOn 15 = .ok (.iconst 0, 1) := by decide +kernel
theorem dL_marksOn_16 : decode cL_marksOn 16 = .ok (.ireturn, 1) := by decide +kernel
set_option maxRecDepth 20000 in
theorem ggL_queue_X0_queue : GoodIn wsL_queue wsX0_queue := goodIn_ca (goodIn_r _ [6, 7, 8, 9, 10, 5, 11, 12, 13, 14, 15, 16, 17, 18, 19, 20, 21, 22, 23, 24, 25, 26, 27, 28, 29, 30, 31, 32, 33] (by decide +kernel) (by decide +kernel)) (goodIn_sub (fun _ h => List.mem_cons_of_mem _ (List.mem_append_right _ h)) (by decide +kernel))
set_option maxRecDepth 20000 in
theorem gL_queue_X0_queue : GoodIn wsL_queue (wsV RL 45 RX0 yX0_queue wsX0_queue) := goodIn_app (goodIn_of _ (by decide +kernel)) ggL_queue_X0_queue
theorem dL_queue_0 : decode cL_queue 0 = .ok (.aload_n 2, 1) := by decide +kernel
theorem dL_queue_1 : decode cL_queue 1 = .ok (.iconst 0, 1) := by decide +kernel
theorem dL_queue_2 : decode cL_queue 2 = .ok (.aload_n 0, 1) := by decide +kernel
theorem dL_queue_3 : decode cL_queue 3 = .ok (.iload_n 1, 1) := by decide +kernel
theorem dL_queue_4 : decode cL_queue 4 = .ok (.invokevirtual 45, 3) := by decide +kernel
theorem dL_queue_7 : decode cL_queue 7 = .ok (.i2l, 1) := by decide +kernel
theorem dL_queue_8 : decode cL_queue 8 = .ok (.lastore, 1) := by decide +kernel
theorem dL_queue_9 : decode cL_queue 9 = .ok (.goto 6, 3) := by decide +kernel
theorem dL_queue_12 : decode cL_queue 12 = .ok (.astore_n 3, 1) := by decide +kernel
theorem dL_queue_13 : decode cL_queue 13 = .ok (.iconst 1, 1) := by decide +kernel
theorem dL_queue_14 : decode cL_queue 14 = .ok (.ireturn, 1) := by decide +kernel
theorem dL_queue_15 : decode cL_queue 15 = .ok (.iconst 0, 1) := by decide +kernel
theorem dL_queue_16 : decode cL_queue 16 = .ok (.ireturn, 1) := by decide +kernel
set_option maxRecDepth 20000 in
theorem ggL_queueAt_X0_queueAt : GoodIn wsL_queueAt wsX0_queueAt := goodIn_ca (goodIn_r _ [6, 7, 8, 9, 10, 5, 11, 12, 13, 14, 15, 16, 17, 18, 19, 20, 21, 22, 23, 24, 25, 26, 27, 28, 29, 30, 31, 32, 33, 34, 35, 36, 37, 38, 39, 40, 41, 42, 43, 44, 45, 46, 47, 48, 49, 50, 51, 52, 53, 54, 55, 56, 57, 58, 59, 60, 61, 62, 63, 64, 65, 66, 67, 68, 69, 70, 71, 72, 73, 74, 75, 76] (by decide +kernel) (by decide +kernel)) (goodIn_sub (fun _ h => List.mem_cons_of_mem _ (List.mem_append_right _ h)) (by decide +kernel))
set_option maxRecDepth 20000 in
theorem gL_queueAt_X0_queueAt : GoodIn wsL_queueAt (wsV RL 48 RX0 yX0_queueAt wsX0_queueAt) := goodIn_app (goodIn_of _ (by decide +kernel)) ggL_queueAt_X0_queueAt
theorem dL_queueAt_0 : decode cL_queueAt 0 = .ok (.aload_n 3, 1) := by decide +kernel
theorem dL_queueAt_1 : decode cL_queueAt 1 = .ok (.iconst 0, 1) := by decide +kernel
theorem dL_queueAt_2 : decode cL_queueAt 2 = .ok (.aload_n 0, 1) := by decide +kernel
theorem dL_queueAt_3 : decode cL_queueAt 3 = .ok (.iload_n 1, 1) := by decide +kernel
theorem dL_queueAt_4 : decode cL_queueAt 4 = .ok (.iload_n 2, 1) := by decide +kernel
theorem dL_queueAt_5 : decode cL_queueAt 5 = .ok (.invokevirtual 48, 3) := by decide +kernel
theorem dL_queueAt_8 : decode cL_queueAt 8 = .ok (.i2l, 1) := by decide +kernel
theorem dL_queueAt_9 : decode cL_queueAt 9 = .ok (.lastore, 1) := by decide +kernel
theorem dL_queueAt_10 : decode cL_queueAt 10 = .ok (.goto 7, 3) := by decide +kernel
theorem dL_queueAt_13 : decode cL_queueAt 13 = .ok (.astore 4, 2) := by decide +kernel
theorem dL_queueAt_15 : decode cL_queueAt 15 = .ok (.iconst 1, 1) := by decide +kernel
theorem dL_queueAt_16 : decode cL_queueAt 16 = .ok (.ireturn, 1) := by decide +kernel
theorem dL_queueAt_17 : decode cL_queueAt 17 = .ok (.iconst 0, 1) := by decide +kernel
theorem dL_queueAt_18 : decode cL_queueAt 18 = .ok (.ireturn, 1) := by decide +kernel
set_option maxRecDepth 20000 in
theorem ggL_coins_X0_coins : GoodIn wsL_coins wsX0_coins := goodIn_ca (goodIn_r _ [6, 7, 8, 9, 10, 11, 5, 12, 13, 14, 15, 16, 17, 18, 19, 20, 21, 22, 23, 24, 25, 26, 27, 28] (by decide +kernel) (by decide +kernel)) (goodIn_sub (fun _ h => List.mem_cons_of_mem _ (List.mem_append_right _ h)) (by decide +kernel))
set_option maxRecDepth 20000 in
theorem gL_coins_X0_coins : GoodIn wsL_coins (wsV RL 51 RX0 yX0_coins wsX0_coins) := goodIn_app (goodIn_of _ (by decide +kernel)) ggL_coins_X0_coins
theorem dL_coins_0 : decode cL_coins 0 = .ok (.aload_n 2, 1) := by decide +kernel
theorem dL_coins_1 : decode cL_coins 1 = .ok (.iconst 0, 1) := by decide +kernel
theorem dL_coins_2 : decode cL_coins 2 = .ok (.aload_n 0, 1) := by decide +kernel
theorem dL_coins_3 : decode cL_coins 3 = .ok (.iload_n 1, 1) := by decide +kernel
theorem dL_coins_4 : decode cL_coins 4 = .ok (.invokevirtual 51, 3) := by decide +kernel
theorem dL_coins_7 : decode cL_coins 7 = .ok (.i2l, 1) := by decide +kernel
theorem dL_coins_8 : decode cL_coins 8 = .ok (.lastore, 1) := by decide +kernel
theorem dL_coins_9 : decode cL_coins 9 = .ok (.goto 6, 3) := by decide +kernel
theorem dL_coins_12 : decode cL_coins 12 = .ok (.astore_n 3, 1) := by decide +kernel
theorem dL_coins_13 : decode cL_coins 13 = .ok (.iconst 1, 1) := by decide +kernel
theorem dL_coins_14 : decode cL_coins 14 = .ok (.ireturn, 1) := by decide +kernel
theorem dL_coins_15 : decode cL_coins 15 = .ok (.iconst 0, 1) := by decide +kernel
theorem dL_coins_16 : decode cL_coins 16 = .ok (.ireturn, 1) := by decide +kernel
set_option maxRecDepth 20000 in
theorem ggL_pool_X0_pool : GoodIn wsL_pool wsX0_pool := goodIn_ca (goodIn_r _ [6, 7, 8, 9, 10, 11, 5, 12, 13, 14, 15, 16, 17, 18, 19, 20, 21, 22, 23, 24, 25, 26, 27, 28] (by decide +kernel) (by decide +kernel)) (goodIn_sub (fun _ h => List.mem_cons_of_mem _ (List.mem_append_right _ h)) (by decide +kernel))
set_option maxRecDepth 20000 in
theorem gL_pool_X0_pool : GoodIn wsL_pool (wsV RL 54 RX0 yX0_pool wsX0_pool) := goodIn_app (goodIn_of _ (by decide +kernel)) ggL_pool_X0_pool
theorem dL_pool_0 : decode cL_pool 0 = .ok (.aload_n 2, 1) := by decide +kernel
theorem dL_pool_1 : decode cL_pool 1 = .ok (.iconst 0, 1) := by decide +kernel
theorem dL_pool_2 : decode cL_pool 2 = .ok (.aload_n 0, 1) := by decide +kernel
theorem dL_pool_3 : decode cL_pool 3 = .ok (.iload_n 1, 1) := by decide +kernel
theorem dL_pool_4 : decode cL_pool 4 = .ok (.invokevirtual 54, 3) := by decide +kernel
theorem dL_pool_7 : decode cL_pool 7 = .ok (.i2l, 1) := by decide +kernel
theorem dL_pool_8 : decode cL_pool 8 = .ok (.lastore, 1) := by decide +kernel
theorem dL_pool_9 : decode cL_pool 9 = .ok (.goto 6, 3) := by decide +kernel
theorem dL_pool_12 : decode cL_pool 12 = .ok (.astore_n 3, 1) := by decide +kernel
theorem dL_pool_13 : decode cL_pool 13 = .ok (.iconst 1, 1) := by decide +kernel
theorem dL_pool_14 : decode cL_pool 14 = .ok (.ireturn, 1) := by decide +kernel
theorem dL_pool_15 : decode cL_pool 15 = .ok (.iconst 0, 1) := by decide +kernel
theorem dL_pool_16 : decode cL_pool 16 = .ok (.ireturn, 1) := by decide +kernel
set_option maxRecDepth 20000 in
theorem ggL_reputation_X0_reputation : GoodIn wsL_reputation wsX0_reputation := goodIn_ca (goodIn_r _ [6, 7, 8, 9, 10, 5, 11, 12, 13, 14, 15, 16, 17, 18, 19, 20, 21, 22, 23, 24, 25, 26, 27, 28, 29, 30, 31, 32, 33, 34, 35, 36, 37, 38, 39, 40, 41, 42, 43, 44, 45, 46, 47, 48, 49, 50, 51, 52, 53] (by decide +kernel) (by decide +kernel)) (goodIn_sub (fun _ h => List.mem_cons_of_mem _ (List.mem_append_right _ h)) (by decide +kernel))
set_option maxRecDepth 20000 in
theorem gL_reputation_X0_reputation : GoodIn wsL_reputation (wsV RL 57 RX0 yX0_reputation wsX0_reputation) := goodIn_app (goodIn_of _ (by decide +kernel)) ggL_reputation_X0_reputation
theorem dL_reputation_0 : decode cL_reputation 0 = .ok (.aload_n 2, 1) := by decide +kernel
theorem dL_reputation_1 : decode cL_reputation 1 = .ok (.iconst 0, 1) := by decide +kernel
theorem dL_reputation_2 : decode cL_reputation 2 = .ok (.aload_n 0, 1) := by decide +kernel
theorem dL_reputation_3 : decode cL_reputation 3 = .ok (.iload_n 1, 1) := by decide +kernel
theorem dL_reputation_4 : decode cL_reputation 4 = .ok (.invokevirtual 57, 3) := by decide +kernel
theorem dL_reputation_7 : decode cL_reputation 7 = .ok (.i2l, 1) := by decide +kernel
theorem dL_reputation_8 : decode cL_reputation 8 = .ok (.lastore, 1) := by decide +kernel
theorem dL_reputation_9 : decode cL_reputation 9 = .ok (.goto 6, 3) := by decide +kernel
theorem dL_reputation_12 : decode cL_reputation 12 = .ok (.astore_n 3, 1) := by decide +kernel
theorem dL_reputation_13 : decode cL_reputation 13 = .ok (.iconst 1, 1) := by decide +kernel
theorem dL_reputation_14 : decode cL_reputation 14 = .ok (.ireturn, 1) := by decide +kernel
theorem dL_reputation_15 : decode cL_reputation 15 = .ok (.iconst 0, 1) := by decide +kernel
theorem dL_reputation_16 : decode cL_reputation 16 = .ok (.ireturn, 1) := by decide +kernel
set_option maxRecDepth 20000 in
theorem ggL_reputationAtOnce_X0_reputationAtOnce : GoodIn wsL_reputationAtOnce wsX0_reputationAtOnce := goodIn_ca (goodIn_r _ [6, 7, 8, 9, 10, 11, 5, 12, 13, 14, 15, 16, 17, 18, 19, 20, 21, 22, 23, 24, 25, 26, 27, 28, 29, 30, 31, 32, 33, 34, 35, 36, 37, 38, 39, 40, 41, 42, 43, 44, 45, 46, 47, 48, 49, 50, 51, 52, 53, 54] (by decide +kernel) (by decide +kernel)) (goodIn_sub (fun _ h => List.mem_cons_of_mem _ (List.mem_append_right _ h)) (by decide +kernel))
set_option maxRecDepth 20000 in
theorem gL_reputationAtOnce_X0_reputationAtOnce : GoodIn wsL_reputationAtOnce (wsV RL 60 RX0 yX0_reputationAtOnce wsX0_reputationAtOnce) := goodIn_app (goodIn_of _ (by decide +kernel)) ggL_reputationAtOnce_X0_reputationAtOnce
theorem dL_reputationAtOnce_0 : decode cL_reputationAtOnce 0 = .ok (.aload_n 2, 1) := by decide +kernel
theorem dL_reputationAtOnce_1 : decode cL_reputationAtOnce 1 = .ok (.iconst 0, 1) := by decide +kernel
theorem dL_reputationAtOnce_2 : decode cL_reputationAtOnce 2 = .ok (.aload_n 0, 1) := by decide +kernel
theorem dL_reputationAtOnce_3 : decode cL_reputationAtOnce 3 = .ok (.iload_n 1, 1) := by decide +kernel
theorem dL_reputationAtOnce_4 : decode cL_reputationAtOnce 4 = .ok (.invokevirtual 60, 3) := by decide +kernel
theorem dL_reputationAtOnce_7 : decode cL_reputationAtOnce 7 = .ok (.i2l, 1) := by decide +kernel
theorem dL_reputationAtOnce_8 : decode cL_reputationAtOnce 8 = .ok (.lastore, 1) := by decide +kernel
theorem dL_reputationAtOnce_9 : decode cL_reputationAtOnce 9 = .ok (.goto 6, 3) := by decide +kernel
theorem dL_reputationAtOnce_12 : decode cL_reputationAtOnce 12 = .ok (.astore_n 3, 1) := by decide +kernel
theorem dL_reputationAtOnce_13 : decode cL_reputationAtOnce 13 = .ok (.iconst 1, 1) := by decide +kernel
theorem dL_reputationAtOnce_14 : decode cL_reputationAtOnce 14 = .ok (.ireturn, 1) := by decide +kernel
theorem dL_reputationAtOnce_15 : decode cL_reputationAtOnce 15 = .ok (.iconst 0, 1) := by decide +kernel
theorem dL_reputationAtOnce_16 : decode cL_reputationAtOnce 16 = .ok (.ireturn, 1) := by decide +kernel
set_option maxRecDepth 20000 in
theorem ggL_leastStake_X0_leastStake : GoodIn wsL_leastStake wsX0_leastStake := goodIn_ca (goodIn_r _ [6, 7, 8, 9, 10, 5, 11, 12, 13, 14, 15, 16, 17, 18, 19, 20, 21, 22, 23, 24, 25, 26, 27, 28, 29, 30, 31, 32, 33, 34, 35, 36, 37, 38, 39, 40, 41, 42, 43, 44, 45, 46, 47, 48, 49, 50, 51, 52, 53, 54, 55, 56, 57, 58, 59, 60] (by decide +kernel) (by decide +kernel)) (goodIn_sub (fun _ h => List.mem_cons_of_mem _ (List.mem_append_right _ h)) (by decide +kernel))
set_option maxRecDepth 20000 in
theorem gL_leastStake_X0_leastStake : GoodIn wsL_leastStake (wsV RL 63 RX0 yX0_leastStake wsX0_leastStake) := goodIn_app (goodIn_of _ (by decide +kernel)) ggL_leastStake_X0_leastStake
theorem dL_leastStake_0 : decode cL_leastStake 0 = .ok (.aload_n 2, 1) := by decide +kernel
theorem dL_leastStake_1 : decode cL_leastStake 1 = .ok (.iconst 0, 1) := by decide +kernel
theorem dL_leastStake_2 : decode cL_leastStake 2 = .ok (.aload_n 0, 1) := by decide +kernel
theorem dL_leastStake_3 : decode cL_leastStake 3 = .ok (.iload_n 1, 1) := by decide +kernel
theorem dL_leastStake_4 : decode cL_leastStake 4 = .ok (.invokevirtual 63, 3) := by decide +kernel
theorem dL_leastStake_7 : decode cL_leastStake 7 = .ok (.i2l, 1) := by decide +kernel
theorem dL_leastStake_8 : decode cL_leastStake 8 = .ok (.lastore, 1) := by decide +kernel
theorem dL_leastStake_9 : decode cL_leastStake 9 = .ok (.goto 6, 3) := by decide +kernel
theorem dL_leastStake_12 : decode cL_leastStake 12 = .ok (.astore_n 3, 1) := by decide +kernel
theorem dL_leastStake_13 : decode cL_leastStake 13 = .ok (.iconst 1, 1) := by decide +kernel
theorem dL_leastStake_14 : decode cL_leastStake 14 = .ok (.ireturn, 1) := by decide +kernel
theorem dL_leastStake_15 : decode cL_leastStake 15 = .ok (.iconst 0, 1) := by decide +kernel
theorem dL_leastStake_16 : decode cL_leastStake 16 = .ok (.ireturn, 1) := by decide +kernel
set_option maxRecDepth 20000 in
theorem ggL_falseMarks_X0_falseMarks : GoodIn wsL_falseMarks wsX0_falseMarks := goodIn_ca (goodIn_r _ [6, 7, 8, 9, 10, 11, 5, 12, 13, 14, 15, 16, 17, 18, 19, 20, 21, 22, 23, 24, 25, 26, 27, 28] (by decide +kernel) (by decide +kernel)) (goodIn_sub (fun _ h => List.mem_cons_of_mem _ (List.mem_append_right _ h)) (by decide +kernel))
set_option maxRecDepth 20000 in
theorem gL_falseMarks_X0_falseMarks : GoodIn wsL_falseMarks (wsV RL 66 RX0 yX0_falseMarks wsX0_falseMarks) := goodIn_app (goodIn_of _ (by decide +kernel)) ggL_falseMarks_X0_falseMarks
theorem dL_falseMarks_0 : decode cL_falseMarks 0 = .ok (.aload_n 2, 1) := by decide +kernel
theorem dL_falseMarks_1 : decode cL_falseMarks 1 = .ok (.iconst 0, 1) := by decide +kernel
theorem dL_falseMarks_2 : decode cL_falseMarks 2 = .ok (.aload_n 0, 1) := by decide +kernel
theorem dL_falseMarks_3 : decode cL_falseMarks 3 = .ok (.iload_n 1, 1) := by decide +kernel
theorem dL_falseMarks_4 : decode cL_falseMarks 4 = .ok (.invokevirtual 66, 3) := by decide +kernel
theorem dL_falseMarks_7 : decode cL_falseMarks 7 = .ok (.i2l, 1) := by decide +kernel
theorem dL_falseMarks_8 : decode cL_falseMarks 8 = .ok (.lastore, 1) := by decide +kernel
theorem dL_falseMarks_9 : decode cL_falseMarks 9 = .ok (.goto 6, 3) := by decide +kernel
theorem dL_falseMarks_12 : decode cL_falseMarks 12 = .ok (.astore_n 3, 1) := by decide +kernel
theorem dL_falseMarks_13 : decode cL_falseMarks 13 = .ok (.iconst 1, 1) := by decide +kernel
theorem dL_falseMarks_14 : decode cL_falseMarks 14 = .ok (.ireturn, 1) := by decide +kernel
theorem dL_falseMarks_15 : decode cL_falseMarks 15 = .ok (.iconst 0, 1) := by decide +kernel
theorem dL_falseMarks_16 : decode cL_falseMarks 16 = .ok (.ireturn, 1) := by decide +kernel
set_option maxRecDepth 20000 in
theorem ggL_law_X0_init : GoodIn wsL_law wsX0_init := goodIn_r _ [9, 10, 11, 12, 13, 14, 15, 16, 17, 18, 19, 20, 21, 22, 23, 24, 25, 26, 27, 28, 29, 30, 456, 457, 458, 459, 460, 461, 462, 463, 464, 465, 466, 467, 468, 469, 470, 471] (by decide +kernel) (by decide +kernel)
set_option maxRecDepth 20000 in
theorem gL_law_X0_init : GoodIn wsL_law (wsX0_init) := ggL_law_X0_init
set_option maxRecDepth 20000 in
theorem ggL_law_X1_init : GoodIn wsL_law wsX1_init := goodIn_r _ [33, 34, 11, 12, 13, 35, 36, 37, 38, 39, 40, 41, 42, 43, 44, 45, 21, 46, 47, 472, 473, 474, 475, 476, 477, 478, 479, 480, 481, 482, 483, 484, 485, 486, 487] (by decide +kernel) (by decide +kernel)
set_option maxRecDepth 20000 in
theorem gL_law_X1_init : GoodIn wsL_law (wsX1_init) := ggL_law_X1_init
set_option maxRecDepth 20000 in
theorem ggL_law_L_setRoute : GoodIn wsL_law wsL_setRoute := goodIn_ca (goodIn_ca (goodIn_r _ [51, 52, 53, 54, 55, 56, 2, 57, 58, 59, 60, 61, 26, 62, 63, 64, 456, 457, 458, 459, 460, 461, 462, 463, 464, 465, 466, 467, 468, 469, 470, 471] (by decide +kernel) (by decide +kernel)) (goodIn_sub (fun _ h => List.mem_append_left _ (List.mem_append_left _ (List.mem_append_right _ h))) (by decide +kernel))) (goodIn_sub (fun _ h => List.mem_append_left _ (List.mem_append_right _ h)) (by decide +kernel))
set_option maxRecDepth 20000 in
theorem gL_law_L_setRoute : GoodIn wsL_law (va_wsS RL 73 yL_setRoute wsL_setRoute) := goodIn_app (goodIn_of _ (by decide +kernel)) ggL_law_L_setRoute
set_option maxRecDepth 20000 in
theorem ggL_law_X1_setRoute : GoodIn wsL_law wsX1_setRoute := goodIn_r _ [68, 35, 69, 70, 5, 71, 72, 73, 74, 75, 76, 77, 78, 79, 472, 473, 474, 475, 476, 477, 478, 479, 480, 481, 482, 483, 484, 485, 486, 487] (by decide +kernel) (by decide +kernel)
set_option maxRecDepth 20000 in
theorem gL_law_X1_setRoute : GoodIn wsL_law (wsV RL 78 RX1 yX1_setRoute wsX1_setRoute) := goodIn_app (goodIn_of _ (by decide +kernel)) ggL_law_X1_setRoute
set_option maxRecDepth 20000 in
theorem ggL_law_X1_thrown : GoodIn wsL_law wsX1_thrown := goodIn_r _ [83, 79, 472, 473, 474, 475, 476, 477, 478, 479, 480, 481, 482, 483, 484, 485, 486, 487] (by decide +kernel) (by decide +kernel)
set_option maxRecDepth 20000 in
theorem gL_law_X1_thrown : GoodIn wsL_law (wsV RL 79 RX1 yX1_thrown wsX1_thrown) := goodIn_app (goodIn_of _ (by decide +kernel)) ggL_law_X1_thrown
set_option maxRecDepth 20000 in
theorem ggL_law_L_steps : GoodIn wsL_law wsL_steps := goodIn_ca (goodIn_r _ [86, 52, 87, 88, 89, 2, 90, 58, 59, 62, 63, 64, 91, 92, 93, 94, 26, 456, 457, 458, 459, 460, 461, 462, 463, 464, 465, 466, 467, 468, 469, 470, 471] (by decide +kernel) (by decide +kernel)) (goodIn_sub (fun _ h => List.mem_append_left _ (List.mem_append_left _ (List.mem_append_right _ h))) (by decide +kernel))
set_option maxRecDepth 20000 in
theorem gL_law_L_steps : GoodIn wsL_law (va_wsS RL 83 yL_steps wsL_steps) := goodIn_app (goodIn_of _ (by decide +kernel)) ggL_law_L_steps
set_option maxRecDepth 20000 in
theorem ggL_law_X1_steps : GoodIn wsL_law wsX1_steps := goodIn_r _ [98, 69, 70, 5, 71, 72, 73, 74, 75, 76, 77, 78, 79, 99, 100, 101, 102, 35, 103, 104, 105, 472, 473, 474, 475, 476, 477, 478, 479, 480, 481, 482, 483, 484, 485, 486, 487] (by decide +kernel) (by decide +kernel)
set_option maxRecDepth 20000 in
theorem gL_law_X1_steps : GoodIn wsL_law (wsV RL 86 RX1 yX1_steps wsX1_steps) := goodIn_app (goodIn_of _ (by decide +kernel)) ggL_law_X1_steps
set_option maxRecDepth 20000 in
theorem ggL_law_L_send : GoodIn wsL_law wsL_send := goodIn_ca (goodIn_ca (goodIn_ca (goodIn_r _ [108, 52, 53, 109, 110, 111, 112, 2, 113, 58, 59, 60, 61, 114, 115, 23, 27, 14, 15, 16, 17, 116, 117, 118, 119, 120, 121, 122, 123, 124, 125, 126, 127, 128, 129, 130, 131, 132, 133, 134, 135, 136, 137, 22, 138, 139, 140, 141, 142, 143, 144, 145, 24, 146, 147, 148, 149, 150, 151, 152, 18, 19, 153, 154, 155, 456, 457, 458, 459, 460, 461, 462, 463, 464, 465, 466, 467, 468, 469, 470, 471] (by decide +kernel) (by decide +kernel)) (goodIn_sub (fun _ h => List.mem_append_left _ (List.mem_append_left _ (List.mem_append_right _ h))) (by decide +kernel))) (goodIn_sub (fun _ h => List.mem_append_left _ (List.mem_append_right _ h)) (by decide +kernel))) (goodIn_sub (fun _ h => List.mem_append_right _ h) (by decide +kernel))
set_option maxRecDepth 20000 in
theorem gL_law_L_send : GoodIn wsL_law (va_wsS RL 87 yL_send wsL_send) := goodIn_app (goodIn_of _ (by decide +kernel)) ggL_law_L_send
set_option maxRecDepth 20000 in
theorem ggL_law_X1_send : GoodIn wsL_law wsX1_send := goodIn_r _ [159, 36, 160, 39, 40, 41, 43, 44, 161, 162, 5, 163, 72, 73, 74, 164, 165, 166, 167, 168, 169, 170, 171, 42, 46, 172, 173, 174, 175, 38, 75, 76, 77, 78, 79, 472, 473, 474, 475, 476, 477, 478, 479, 480, 481, 482, 483, 484, 485, 486, 487] (by decide +kernel) (by decide +kernel)
set_option maxRecDepth 20000 in
theorem gL_law_X1_send : GoodIn wsL_law (wsV RL 89 RX1 yX1_send wsX1_send) := goodIn_app (goodIn_of _ (by decide +kernel)) ggL_law_X1_send
set_option maxRecDepth 20000 in
theorem ggL_law_L_pass : GoodIn wsL_law wsL_pass := goodIn_ca (goodIn_ca (goodIn_r _ [178, 53, 109, 179, 180, 181, 2, 182, 60, 61, 114, 115, 28, 183, 184, 185, 186, 187, 188, 189, 190, 191, 27, 29, 18, 192, 193, 194, 195, 30, 14, 116, 117, 118, 134, 135, 136, 137, 17, 15, 22, 138, 139, 140, 141, 142, 143, 144, 145, 24, 127, 128, 125, 129, 196, 197, 198, 199, 200, 201, 202, 203, 16, 204, 205, 206, 207, 20, 19, 146, 147, 148, 208, 209, 210, 211, 91, 92, 93, 94, 26, 62, 63, 64, 153, 154, 155, 212, 213, 214, 215, 25, 149, 150, 151, 152, 216, 217, 218, 219, 220, 221, 222, 223, 23, 456, 457, 458, 459, 460, 461, 462, 463, 464, 465, 466, 467, 468, 469, 470, 471] (by decide +kernel) (by decide +kernel)) (goodIn_sub (fun _ h => List.mem_append_left _ (List.mem_append_right _ h)) (by decide +kernel))) (goodIn_sub (fun _ h => List.mem_append_right _ h) (by decide +kernel))
set_option maxRecDepth 20000 in
theorem gL_law_L_pass : GoodIn wsL_law (va_wsS RL 90 yL_pass wsL_pass) := goodIn_app (goodIn_of _ (by decide +kernel)) ggL_law_L_pass
set_option maxRecDepth 20000 in
theorem ggL_law_X1_pass : GoodIn wsL_law wsX1_pass := goodIn_r _ [227, 228, 229, 72, 73, 5, 74, 75, 76, 77, 78, 79, 230, 231, 232, 233, 160, 47, 42, 45, 36, 39, 41, 234, 235, 236, 237, 43, 238, 239, 240, 241, 242, 243, 244, 245, 168, 169, 170, 171, 40, 46, 172, 173, 174, 175, 38, 246, 247, 248, 249, 35, 44, 37, 103, 104, 105, 472, 473, 474, 475, 476, 477, 478, 479, 480, 481, 482, 483, 484, 485, 486, 487] (by decide +kernel) (by decide +kernel)
set_option maxRecDepth 20000 in
theorem gL_law_X1_pass : GoodIn wsL_law (wsV RL 93 RX1 yX1_pass wsX1_pass) := goodIn_app (goodIn_of _ (by decide +kernel)) ggL_law_X1_pass
set_option maxRecDepth 20000 in
theorem ggL_law_L_answer : GoodIn wsL_law wsL_answer := goodIn_ca (goodIn_ca (goodIn_r _ [252, 52, 109, 253, 254, 255, 2, 256, 58, 59, 114, 115, 17, 14, 138, 139, 140, 141, 27, 220, 221, 222, 223, 23, 16, 116, 117, 118, 130, 131, 132, 133, 134, 135, 136, 137, 15, 22, 142, 143, 144, 145, 24, 127, 128, 125, 129, 456, 457, 458, 459, 460, 461, 462, 463, 464, 465, 466, 467, 468, 469, 470, 471] (by decide +kernel) (by decide +kernel)) (goodIn_sub (fun _ h => List.mem_append_left _ (List.mem_append_left _ (List.mem_append_right _ h))) (by decide +kernel))) (goodIn_sub (fun _ h => List.mem_append_right _ h) (by decide +kernel))
set_option maxRecDepth 20000 in
theorem gL_law_L_answer : GoodIn wsL_law (va_wsS RL 94 yL_answer wsL_answer) := goodIn_app (goodIn_of _ (by decide +kernel)) ggL_law_L_answer
set_option maxRecDepth 20000 in
theorem ggL_law_X1_answer : GoodIn wsL_law wsX1_answer := goodIn_r _ [260, 42, 36, 39, 41, 261, 262, 263, 5, 264, 160, 72, 73, 74, 75, 76, 77, 78, 79, 168, 169, 170, 171, 40, 46, 172, 173, 174, 175, 38, 472, 473, 474, 475, 476, 477, 478, 479, 480, 481, 482, 483, 484, 485, 486, 487] (by decide +kernel) (by decide +kernel)
set_option maxRecDepth 20000 in
theorem gL_law_X1_answer : GoodIn wsL_law (wsV RL 96 RX1 yX1_answer wsX1_answer) := goodIn_app (goodIn_of _ (by decide +kernel)) ggL_law_X1_answer
set_option maxRecDepth 20000 in
theorem ggL_law_L_mark : GoodIn wsL_law wsL_mark := goodIn_ca (goodIn_ca (goodIn_r _ [267, 52, 109, 268, 269, 270, 2, 271, 58, 59, 114, 115, 17, 15, 14, 22, 16, 138, 139, 140, 141, 27, 146, 147, 148, 212, 213, 214, 215, 25, 62, 63, 64, 272, 273, 274, 275, 276, 277, 278, 279, 280, 281, 282, 283, 284, 285, 286, 23, 123, 124, 125, 126, 24, 116, 117, 118, 456, 457, 458, 459, 460, 461, 462, 463, 464, 465, 466, 467, 468, 469, 470, 471] (by decide +kernel) (by decide +kernel)) (goodIn_sub (fun _ h => List.mem_append_left _ (List.mem_append_left _ (List.mem_append_right _ h))) (by decide +kernel))) (goodIn_sub (fun _ h => List.mem_append_right _ h) (by decide +kernel))
set_option maxRecDepth 20000 in
theorem gL_law_L_mark : GoodIn wsL_law (va_wsS RL 97 yL_mark wsL_mark) := goodIn_app (goodIn_of _ (by decide +kernel)) ggL_law_L_mark
set_option maxRecDepth 20000 in
theorem ggL_law_X1_mark : GoodIn wsL_law wsX1_mark := goodIn_r _ [290, 42, 40, 46, 37, 41, 36, 38, 39, 261, 262, 263, 5, 264, 160, 72, 73, 74, 75, 76, 77, 78, 79, 291, 292, 293, 294, 103, 104, 105, 472, 473, 474, 475, 476, 477, 478, 479, 480, 481, 482, 483, 484, 485, 486, 487] (by decide +kernel) (by decide +kernel)
set_option maxRecDepth 20000 in
theorem gL_law_X1_mark : GoodIn wsL_law (wsV RL 99 RX1 yX1_mark wsX1_mark) := goodIn_app (goodIn_of _ (by decide +kernel)) ggL_law_X1_mark
set_option maxRecDepth 20000 in
theorem ggL_law_X0_letters : GoodIn wsL_law wsX0_letters := goodIn_r _ [298, 27, 456, 457, 458, 459, 460, 461, 462, 463, 464, 465, 466, 467, 468, 469, 470, 471] (by decide +kernel) (by decide +kernel)
set_option maxRecDepth 20000 in
theorem gL_law_X0_letters : GoodIn wsL_law (wsV RL 100 RX0 yX0_letters wsX0_letters) := goodIn_app (goodIn_of _ (by decide +kernel)) ggL_law_X0_letters
set_option maxRecDepth 20000 in
theorem ggL_law_X1_letters : GoodIn wsL_law wsX1_letters := goodIn_r _ [302, 79, 160, 472, 473, 474, 475, 476, 477, 478, 479, 480, 481, 482, 483, 484, 485, 486, 487] (by decide +kernel) (by decide +kernel)
set_option maxRecDepth 20000 in
theorem gL_law_X1_letters : GoodIn wsL_law (wsV RL 103 RX1 yX1_letters wsX1_letters) := goodIn_app (goodIn_of _ (by decide +kernel)) ggL_law_X1_letters
set_option maxRecDepth 20000 in
theorem ggL_law_X0_time : GoodIn wsL_law wsX0_time := goodIn_r _ [306, 28, 456, 457, 458, 459, 460, 461, 462, 463, 464, 465, 466, 467, 468, 469, 470, 471] (by decide +kernel) (by decide +kernel)
set_option maxRecDepth 20000 in
theorem gL_law_X0_time : GoodIn wsL_law (wsV RL 104 RX0 yX0_time wsX0_time) := goodIn_app (goodIn_of _ (by decide +kernel)) ggL_law_X0_time
set_option maxRecDepth 20000 in
theorem ggL_law_X1_time : GoodIn wsL_law wsX1_time := goodIn_r _ [310, 79, 228, 472, 473, 474, 475, 476, 477, 478, 479, 480, 481, 482, 483, 484, 485, 486, 487] (by decide +kernel) (by decide +kernel)
set_option maxRecDepth 20000 in
theorem gL_law_X1_time : GoodIn wsL_law (wsV RL 107 RX1 yX1_time wsX1_time) := goodIn_app (goodIn_of _ (by decide +kernel)) ggL_law_X1_time
set_option maxRecDepth 20000 in
theorem ggL_law_L_stateOf : GoodIn wsL_law wsL_stateOf := goodIn_ca (goodIn_r _ [313, 52, 314, 315, 316, 2, 317, 58, 59, 17, 138, 139, 140, 141, 27, 456, 457, 458, 459, 460, 461, 462, 463, 464, 465, 466, 467, 468, 469, 470, 471] (by decide +kernel) (by decide +kernel)) (goodIn_sub (fun _ h => List.mem_append_left _ (List.mem_append_left _ (List.mem_append_right _ h))) (by decide +kernel))
set_option maxRecDepth 20000 in
theorem gL_law_L_stateOf : GoodIn wsL_law (va_wsS RL 108 yL_stateOf wsL_stateOf) := goodIn_app (goodIn_of _ (by decide +kernel)) ggL_law_L_stateOf
set_option maxRecDepth 20000 in
theorem ggL_law_X1_stateOf : GoodIn wsL_law wsX1_stateOf := goodIn_r _ [321, 42, 322, 323, 324, 5, 325, 261, 262, 263, 264, 160, 72, 73, 74, 75, 76, 77, 78, 79, 472, 473, 474, 475, 476, 477, 478, 479, 480, 481, 482, 483, 484, 485, 486, 487] (by decide +kernel) (by decide +kernel)
set_option maxRecDepth 20000 in
theorem gL_law_X1_stateOf : GoodIn wsL_law (wsV RL 110 RX1 yX1_stateOf wsX1_stateOf) := goodIn_app (goodIn_of _ (by decide +kernel)) ggL_law_X1_stateOf
set_option maxRecDepth 20000 in
theorem ggL_law_L_relayOf : GoodIn wsL_law wsL_relayOf := goodIn_ca (goodIn_r _ [328, 52, 329, 330, 331, 2, 332, 58, 59, 18, 138, 139, 140, 141, 27, 456, 457, 458, 459, 460, 461, 462, 463, 464, 465, 466, 467, 468, 469, 470, 471] (by decide +kernel) (by decide +kernel)) (goodIn_sub (fun _ h => List.mem_append_left _ (List.mem_append_left _ (List.mem_append_right _ h))) (by decide +kernel))
set_option maxRecDepth 20000 in
theorem gL_law_L_relayOf : GoodIn wsL_law (va_wsS RL 111 yL_relayOf wsL_relayOf) := goodIn_app (goodIn_of _ (by decide +kernel)) ggL_law_L_relayOf
set_option maxRecDepth 20000 in
theorem ggL_law_X1_relayOf : GoodIn wsL_law wsX1_relayOf := goodIn_r _ [336, 42, 43, 322, 323, 324, 5, 325, 261, 262, 263, 264, 160, 72, 73, 74, 75, 76, 77, 78, 79, 472, 473, 474, 475, 476, 477, 478, 479, 480, 481, 482, 483, 484, 485, 486, 487] (by decide +kernel) (by decide +kernel)
set_option maxRecDepth 20000 in
theorem gL_law_X1_relayOf : GoodIn wsL_law (wsV RL 113 RX1 yX1_relayOf wsX1_relayOf) := goodIn_app (goodIn_of _ (by decide +kernel)) ggL_law_X1_relayOf
set_option maxRecDepth 20000 in
theorem ggL_law_L_marksOn : GoodIn wsL_law wsL_marksOn := goodIn_ca (goodIn_r _ [339, 52, 340, 341, 342, 2, 343, 58, 59, 19, 138, 139, 140, 141, 27, 456, 457, 458, 459, 460, 461, 462, 463, 464, 465, 466, 467, 468, 469, 470, 471] (by decide +kernel) (by decide +kernel)) (goodIn_sub (fun _ h => List.mem_append_left _ (List.mem_append_left _ (List.mem_append_right _ h))) (by decide +kernel))
set_option maxRecDepth 20000 in
theorem gL_law_L_marksOn : GoodIn wsL_law (va_wsS RL 114 yL_marksOn wsL_marksOn) := goodIn_app (goodIn_of _ (by decide +kernel)) ggL_law_L_marksOn
set_option maxRecDepth 20000 in
theorem ggL_law_X1_marksOn : GoodIn wsL_law wsX1_marksOn := goodIn_r _ [347, 44, 322, 323, 324, 5, 325, 261, 262, 263, 264, 160, 72, 73, 74, 75, 76, 77, 78, 79, 472, 473, 474, 475, 476, 477, 478, 479, 480, 481, 482, 483, 484, 485, 486, 487] (by decide +kernel) (by decide +kernel)
set_option maxRecDepth 20000 in
theorem gL_law_X1_marksOn : GoodIn wsL_law (wsV RL 116 RX1 yX1_marksOn wsX1_marksOn) := goodIn_app (goodIn_of _ (by decide +kernel)) ggL_law_X1_marksOn
set_option maxRecDepth 20000 in
theorem ggL_law_L_queue : GoodIn wsL_law wsL_queue := goodIn_ca (goodIn_r _ [350, 52, 351, 352, 353, 2, 354, 58, 59, 62, 63, 64, 355, 356, 357, 358, 27, 18, 456, 457, 458, 459, 460, 461, 462, 463, 464, 465, 466, 467, 468, 469, 470, 471] (by decide +kernel) (by decide +kernel)) (goodIn_sub (fun _ h => List.mem_append_left _ (List.mem_append_left _ (List.mem_append_right _ h))) (by decide +kernel))
set_option maxRecDepth 20000 in
theorem gL_law_L_queue : GoodIn wsL_law (va_wsS RL 117 yL_queue wsL_queue) := goodIn_app (goodIn_of _ (by decide +kernel)) ggL_law_L_queue
set_option maxRecDepth 20000 in
theorem ggL_law_X1_queue : GoodIn wsL_law wsX1_queue := goodIn_r _ [362, 69, 70, 5, 71, 72, 73, 74, 75, 76, 77, 78, 79, 363, 364, 365, 366, 160, 238, 239, 240, 241, 42, 43, 472, 473, 474, 475, 476, 477, 478, 479, 480, 481, 482, 483, 484, 485, 486, 487] (by decide +kernel) (by decide +kernel)
set_option maxRecDepth 20000 in
theorem gL_law_X1_queue : GoodIn wsL_law (wsV RL 119 RX1 yX1_queue wsX1_queue) := goodIn_app (goodIn_of _ (by decide +kernel)) ggL_law_X1_queue
set_option maxRecDepth 20000 in
theorem ggL_law_L_queueAt : GoodIn wsL_law wsL_queueAt := goodIn_ca (goodIn_r _ [369, 52, 370, 371, 372, 2, 373, 58, 59, 62, 63, 64, 355, 356, 357, 358, 27, 18, 188, 189, 190, 191, 29, 192, 193, 194, 195, 30, 14, 116, 117, 118, 134, 135, 136, 137, 17, 15, 22, 138, 139, 140, 141, 142, 143, 144, 145, 24, 127, 128, 125, 129, 196, 197, 198, 199, 200, 201, 202, 203, 16, 456, 457, 458, 459, 460, 461, 462, 463, 464, 465, 466, 467, 468, 469, 470, 471] (by decide +kernel) (by decide +kernel)) (goodIn_sub (fun _ h => List.mem_append_left _ (List.mem_append_left _ (List.mem_append_right _ h))) (by decide +kernel))
set_option maxRecDepth 20000 in
theorem gL_law_L_queueAt : GoodIn wsL_law (va_wsS RL 120 yL_queueAt wsL_queueAt) := goodIn_app (goodIn_of _ (by decide +kernel)) ggL_law_L_queueAt
set_option maxRecDepth 20000 in
theorem ggL_law_X1_queueAt : GoodIn wsL_law wsX1_queueAt := goodIn_r _ [377, 160, 69, 70, 5, 71, 72, 73, 74, 363, 364, 365, 366, 238, 239, 240, 241, 42, 43, 75, 76, 77, 78, 79, 234, 235, 236, 237, 242, 243, 244, 245, 41, 39, 168, 169, 170, 171, 40, 46, 172, 173, 174, 175, 38, 472, 473, 474, 475, 476, 477, 478, 479, 480, 481, 482, 483, 484, 485, 486, 487] (by decide +kernel) (by decide +kernel)
set_option maxRecDepth 20000 in
theorem gL_law_X1_queueAt : GoodIn wsL_law (wsV RL 122 RX1 yX1_queueAt wsX1_queueAt) := goodIn_app (goodIn_of _ (by decide +kernel)) ggL_law_X1_queueAt
set_option maxRecDepth 20000 in
theorem ggL_law_L_coins : GoodIn wsL_law wsL_coins := goodIn_ca (goodIn_r _ [380, 52, 381, 382, 383, 2, 384, 58, 59, 23, 116, 117, 118, 456, 457, 458, 459, 460, 461, 462, 463, 464, 465, 466, 467, 468, 469, 470, 471] (by decide +kernel) (by decide +kernel)) (goodIn_sub (fun _ h => List.mem_append_left _ (List.mem_append_left _ (List.mem_append_right _ h))) (by decide +kernel))
set_option maxRecDepth 20000 in
theorem gL_law_L_coins : GoodIn wsL_law (va_wsS RL 123 yL_coins wsL_coins) := goodIn_app (goodIn_of _ (by decide +kernel)) ggL_law_L_coins
set_option maxRecDepth 20000 in
theorem ggL_law_X1_coins : GoodIn wsL_law wsX1_coins := goodIn_r _ [388, 36, 389, 390, 391, 5, 392, 161, 162, 163, 72, 73, 74, 75, 76, 77, 78, 79, 472, 473, 474, 475, 476, 477, 478, 479, 480, 481, 482, 483, 484, 485, 486, 487] (by decide +kernel) (by decide +kernel)
set_option maxRecDepth 20000 in
theorem gL_law_X1_coins : GoodIn wsL_law (wsV RL 125 RX1 yX1_coins wsX1_coins) := goodIn_app (goodIn_of _ (by decide +kernel)) ggL_law_X1_coins
set_option maxRecDepth 20000 in
theorem ggL_law_L_pool : GoodIn wsL_law wsL_pool := goodIn_ca (goodIn_r _ [395, 52, 396, 397, 398, 2, 399, 58, 59, 25, 62, 63, 64, 456, 457, 458, 459, 460, 461, 462, 463, 464, 465, 466, 467, 468, 469, 470, 471] (by decide +kernel) (by decide +kernel)) (goodIn_sub (fun _ h => List.mem_append_left _ (List.mem_append_left _ (List.mem_append_right _ h))) (by decide +kernel))
set_option maxRecDepth 20000 in
theorem gL_law_L_pool : GoodIn wsL_law (va_wsS RL 126 yL_pool wsL_pool) := goodIn_app (goodIn_of _ (by decide +kernel)) ggL_law_L_pool
set_option maxRecDepth 20000 in
theorem ggL_law_X1_pool : GoodIn wsL_law wsX1_pool := goodIn_r _ [403, 37, 69, 70, 5, 71, 72, 73, 74, 75, 76, 77, 78, 79, 472, 473, 474, 475, 476, 477, 478, 479, 480, 481, 482, 483, 484, 485, 486, 487] (by decide +kernel) (by decide +kernel)
set_option maxRecDepth 20000 in
theorem gL_law_X1_pool : GoodIn wsL_law (wsV RL 128 RX1 yX1_pool wsX1_pool) := goodIn_app (goodIn_of _ (by decide +kernel)) ggL_law_X1_pool
set_option maxRecDepth 20000 in
theorem ggL_law_X0_escrow : GoodIn wsL_law wsX0_escrow := goodIn_r _ [407, 27, 17, 16, 456, 457, 458, 459, 460, 461, 462, 463, 464, 465, 466, 467, 468, 469, 470, 471] (by decide +kernel) (by decide +kernel)
set_option maxRecDepth 20000 in
theorem gL_law_X0_escrow : GoodIn wsL_law (wsV RL 129 RX0 yX0_escrow wsX0_escrow) := goodIn_app (goodIn_of _ (by decide +kernel)) ggL_law_X0_escrow
set_option maxRecDepth 20000 in
theorem ggL_law_X1_escrow : GoodIn wsL_law wsX1_escrow := goodIn_r _ [411, 79, 160, 42, 41, 472, 473, 474, 475, 476, 477, 478, 479, 480, 481, 482, 483, 484, 485, 486, 487] (by decide +kernel) (by decide +kernel)
set_option maxRecDepth 20000 in
theorem gL_law_X1_escrow : GoodIn wsL_law (wsV RL 132 RX1 yX1_escrow wsX1_escrow) := goodIn_app (goodIn_of _ (by decide +kernel)) ggL_law_X1_escrow
set_option maxRecDepth 20000 in
theorem ggL_law_L_reputation : GoodIn wsL_law wsL_reputation := goodIn_ca (goodIn_r _ [414, 52, 415, 416, 417, 2, 418, 58, 59, 116, 117, 118, 130, 131, 132, 133, 27, 14, 134, 135, 136, 137, 17, 15, 22, 138, 139, 140, 141, 142, 143, 144, 145, 24, 127, 128, 125, 129, 456, 457, 458, 459, 460, 461, 462, 463, 464, 465, 466, 467, 468, 469, 470, 471] (by decide +kernel) (by decide +kernel)) (goodIn_sub (fun _ h => List.mem_append_left _ (List.mem_append_left _ (List.mem_append_right _ h))) (by decide +kernel))
set_option maxRecDepth 20000 in
theorem gL_law_L_reputation : GoodIn wsL_law (va_wsS RL 133 yL_reputation wsL_reputation) := goodIn_app (goodIn_of _ (by decide +kernel)) ggL_law_L_reputation
set_option maxRecDepth 20000 in
theorem ggL_law_X1_reputation : GoodIn wsL_law wsX1_reputation := goodIn_r _ [422, 389, 390, 391, 5, 392, 161, 162, 163, 72, 73, 74, 75, 76, 77, 78, 79, 168, 169, 170, 171, 160, 39, 42, 40, 46, 172, 173, 174, 175, 38, 472, 473, 474, 475, 476, 477, 478, 479, 480, 481, 482, 483, 484, 485, 486, 487] (by decide +kernel) (by decide +kernel)
set_option maxRecDepth 20000 in
theorem gL_law_X1_reputation : GoodIn wsL_law (wsV RL 135 RX1 yX1_reputation wsX1_reputation) := goodIn_app (goodIn_of _ (by decide +kernel)) ggL_law_X1_reputation
set_option maxRecDepth 20000 in
theorem ggL_law_L_reputationAtOnce : GoodIn wsL_law wsL_reputationAtOnce := goodIn_ca (goodIn_r _ [425, 52, 426, 427, 428, 2, 429, 58, 59, 30, 116, 117, 118, 192, 193, 194, 195, 27, 14, 134, 135, 136, 137, 17, 15, 22, 138, 139, 140, 141, 142, 143, 144, 145, 24, 127, 128, 125, 129, 456, 457, 458, 459, 460, 461, 462, 463, 464, 465, 466, 467, 468, 469, 470, 471] (by decide +kernel) (by decide +kernel)) (goodIn_sub (fun _ h => List.mem_append_left _ (List.mem_append_left _ (List.mem_append_right _ h))) (by decide +kernel))
set_option maxRecDepth 20000 in
theorem gL_law_L_reputationAtOnce : GoodIn wsL_law (va_wsS RL 136 yL_reputationAtOnce wsL_reputationAtOnce) := goodIn_app (goodIn_of _ (by decide +kernel)) ggL_law_L_reputationAtOnce
set_option maxRecDepth 20000 in
theorem ggL_law_X1_reputationAtOnce : GoodIn wsL_law wsX1_reputationAtOnce := goodIn_r _ [433, 389, 390, 391, 5, 392, 161, 162, 163, 72, 73, 74, 75, 76, 77, 78, 79, 168, 169, 170, 171, 160, 39, 42, 40, 46, 172, 173, 174, 175, 38, 472, 473, 474, 475, 476, 477, 478, 479, 480, 481, 482, 483, 484, 485, 486, 487] (by decide +kernel) (by decide +kernel)
set_option maxRecDepth 20000 in
theorem gL_law_X1_reputationAtOnce : GoodIn wsL_law (wsV RL 138 RX1 yX1_reputationAtOnce wsX1_reputationAtOnce) := goodIn_app (goodIn_of _ (by decide +kernel)) ggL_law_X1_reputationAtOnce
set_option maxRecDepth 20000 in
theorem ggL_law_L_leastStake : GoodIn wsL_law wsL_leastStake := goodIn_ca (goodIn_r _ [436, 52, 437, 438, 439, 2, 440, 58, 59, 116, 117, 118, 119, 120, 121, 122, 123, 124, 125, 126, 127, 128, 129, 130, 131, 132, 133, 27, 14, 134, 135, 136, 137, 17, 15, 22, 138, 139, 140, 141, 142, 143, 144, 145, 24, 456, 457, 458, 459, 460, 461, 462, 463, 464, 465, 466, 467, 468, 469, 470, 471] (by decide +kernel) (by decide +kernel)) (goodIn_sub (fun _ h => List.mem_append_left _ (List.mem_append_left _ (List.mem_append_right _ h))) (by decide +kernel))
set_option maxRecDepth 20000 in
theorem gL_law_L_leastStake : GoodIn wsL_law (va_wsS RL 139 yL_leastStake wsL_leastStake) := goodIn_app (goodIn_of _ (by decide +kernel)) ggL_law_L_leastStake
set_option maxRecDepth 20000 in
theorem ggL_law_X1_leastStake : GoodIn wsL_law wsX1_leastStake := goodIn_r _ [444, 389, 390, 391, 5, 392, 161, 162, 163, 72, 73, 74, 75, 76, 77, 78, 79, 164, 165, 166, 167, 168, 169, 170, 171, 160, 39, 42, 40, 46, 172, 173, 174, 175, 38, 472, 473, 474, 475, 476, 477, 478, 479, 480, 481, 482, 483, 484, 485, 486, 487] (by decide +kernel) (by decide +kernel)
set_option maxRecDepth 20000 in
theorem gL_law_X1_leastStake : GoodIn wsL_law (wsV RL 141 RX1 yX1_leastStake wsX1_leastStake) := goodIn_app (goodIn_of _ (by decide +kernel)) ggL_law_X1_leastStake
set_option maxRecDepth 20000 in
theorem ggL_law_L_falseMarks : GoodIn wsL_law wsL_falseMarks := goodIn_ca (goodIn_r _ [447, 52, 448, 449, 450, 2, 451, 58, 59, 24, 116, 117, 118, 456, 457, 458, 459, 460, 461, 462, 463, 464, 465, 466, 467, 468, 469, 470, 471] (by decide +kernel) (by decide +kernel)) (goodIn_sub (fun _ h => List.mem_append_left _ (List.mem_append_left _ (List.mem_append_right _ h))) (by decide +kernel))
set_option maxRecDepth 20000 in
theorem gL_law_L_falseMarks : GoodIn wsL_law (va_wsS RL 142 yL_falseMarks wsL_falseMarks) := goodIn_app (goodIn_of _ (by decide +kernel)) ggL_law_L_falseMarks
set_option maxRecDepth 20000 in
theorem ggL_law_X1_falseMarks : GoodIn wsL_law wsX1_falseMarks := goodIn_r _ [455, 38, 389, 390, 391, 5, 392, 161, 162, 163, 72, 73, 74, 75, 76, 77, 78, 79, 472, 473, 474, 475, 476, 477, 478, 479, 480, 481, 482, 483, 484, 485, 486, 487] (by decide +kernel) (by decide +kernel)
set_option maxRecDepth 20000 in
theorem gL_law_X1_falseMarks : GoodIn wsL_law (wsV RL 144 RX1 yX1_falseMarks wsX1_falseMarks) := goodIn_app (goodIn_of _ (by decide +kernel)) ggL_law_X1_falseMarks
theorem dL_law_0 : decode cL_law 0 = .ok (.new 8, 3) := by decide +kernel
theorem dL_law_3 : decode cL_law 3 = .ok (.dup, 1) := by decide +kernel
theorem dL_law_4 : decode cL_law 4 = .ok (.invokespecial 69, 3) := by decide +kernel
theorem dL_law_7 : decode cL_law 7 = .ok (.astore_n 1, 1) := by decide +kernel
theorem dL_law_8 : decode cL_law 8 = .ok (.new 70, 3) := by decide +kernel
theorem dL_law_11 : decode cL_law 11 = .ok (.dup, 1) := by decide +kernel
theorem dL_law_12 : decode cL_law 12 = .ok (.invokespecial 72, 3) := by decide +kernel
theorem dL_law_15 : decode cL_law 15 = .ok (.astore_n 2, 1) := by decide +kernel
theorem dL_law_16 : decode cL_law 16 = .ok (.iconst 1, 1) := by decide +kernel
theorem dL_law_17 : decode cL_law 17 = .ok (.newarray .long, 2) := by decide +kernel
theorem dL_law_19 : decode cL_law 19 = .ok (.astore_n 3, 1) := by decide +kernel
theorem dL_law_20 : decode cL_law 20 = .ok (.iconst 0, 1) := by decide +kernel
theorem dL_law_21 : decode cL_law 21 = .ok (.istore 4, 2) := by decide +kernel
theorem dL_law_23 : decode cL_law 23 = .ok (.iload 4, 2) := by decide +kernel
theorem dL_law_25 : decode cL_law 25 = .ok (.aload_n 0, 1) := by decide +kernel
theorem dL_law_26 : decode cL_law 26 = .ok (.arraylength, 1) := by decide +kernel
theorem dL_law_27 : decode cL_law 27 = .ok (.iconst 4, 1) := by decide +kernel
theorem dL_law_28 : decode cL_law 28 = .ok (.isub, 1) := by decide +kernel
theorem dL_law_29 : decode cL_law 29 = .ok (.if_icmp .gt 1172, 3) := by decide +kernel
theorem dL_law_32 : decode cL_law 32 = .ok (.aload_n 0, 1) := by decide +kernel
theorem dL_law_33 : decode cL_law 33 = .ok (.iload 4, 2) := by decide +kernel
theorem dL_law_35 : decode cL_law 35 = .ok (.iaload, 1) := by decide +kernel
theorem dL_law_36 : decode cL_law 36 = .ok (.bipush 31, 2) := by decide +kernel
theorem dL_law_38 : decode cL_law 38 = .ok (.iand, 1) := by decide +kernel
theorem dL_law_39 : decode cL_law 39 = .ok (.tableswitch 1156 0 19 #[93, 173, 241, 321, 377, 433, 489, 502, 515, 571, 627, 683, 739, 807, 863, 919, 932, 988, 1044, 1100], 93) := by decide +kernel
theorem dL_law_132 : decode cL_law 132 = .ok (.aload_n 1, 1) := by decide +kernel
theorem dL_law_133 : decode cL_law 133 = .ok (.aload_n 0, 1) := by decide +kernel
theorem dL_law_134 : decode cL_law 134 = .ok (.iload 4, 2) := by decide +kernel
theorem dL_law_136 : decode cL_law 136 = .ok (.iconst 1, 1) := by decide +kernel
theorem dL_law_137 : decode cL_law 137 = .ok (.iadd, 1) := by decide +kernel
theorem dL_law_138 : decode cL_law 138 = .ok (.iaload, 1) := by decide +kernel
theorem dL_law_139 : decode cL_law 139 = .ok (.aload_n 0, 1) := by decide +kernel
theorem dL_law_140 : decode cL_law 140 = .ok (.iload 4, 2) := by decide +kernel
theorem dL_law_142 : decode cL_law 142 = .ok (.iconst 2, 1) := by decide +kernel
theorem dL_law_143 : decode cL_law 143 = .ok (.iadd, 1) := by decide +kernel
theorem dL_law_144 : decode cL_law 144 = .ok (.iaload, 1) := by decide +kernel
theorem dL_law_145 : decode cL_law 145 = .ok (.aload_n 0, 1) := by decide +kernel
theorem dL_law_146 : decode cL_law 146 = .ok (.iload 4, 2) := by decide +kernel
theorem dL_law_148 : decode cL_law 148 = .ok (.iconst 3, 1) := by decide +kernel
theorem dL_law_149 : decode cL_law 149 = .ok (.iadd, 1) := by decide +kernel
theorem dL_law_150 : decode cL_law 150 = .ok (.iaload, 1) := by decide +kernel
theorem dL_law_151 : decode cL_law 151 = .ok (.aload_n 3, 1) := by decide +kernel
theorem dL_law_152 : decode cL_law 152 = .ok (.invokestatic 73, 3) := by decide +kernel
theorem dL_law_155 : decode cL_law 155 = .ok (.istore 5, 2) := by decide +kernel
theorem dL_law_157 : decode cL_law 157 = .ok (.aload_n 2, 1) := by decide +kernel
theorem dL_law_158 : decode cL_law 158 = .ok (.aload_n 0, 1) := by decide +kernel
theorem dL_law_159 : decode cL_law 159 = .ok (.iload 4, 2) := by decide +kernel
theorem dL_law_161 : decode cL_law 161 = .ok (.iconst 1, 1) := by decide +kernel
theorem dL_law_162 : decode cL_law 162 = .ok (.iadd, 1) := by decide +kernel
theorem dL_law_163 : decode cL_law 163 = .ok (.iaload, 1) := by decide +kernel
theorem dL_law_164 : decode cL_law 164 = .ok (.aload_n 0, 1) := by decide +kernel
theorem dL_law_165 : decode cL_law 165 = .ok (.iload 4, 2) := by decide +kernel
theorem dL_law_167 : decode cL_law 167 = .ok (.iconst 2, 1) := by decide +kernel
theorem dL_law_168 : decode cL_law 168 = .ok (.iadd, 1) := by decide +kernel
theorem dL_law_169 : decode cL_law 169 = .ok (.iaload, 1) := by decide +kernel
theorem dL_law_170 : decode cL_law 170 = .ok (.aload_n 0, 1) := by decide +kernel
theorem dL_law_171 : decode cL_law 171 = .ok (.iload 4, 2) := by decide +kernel
theorem dL_law_173 : decode cL_law 173 = .ok (.iconst 3, 1) := by decide +kernel
theorem dL_law_174 : decode cL_law 174 = .ok (.iadd, 1) := by decide +kernel
theorem dL_law_175 : decode cL_law 175 = .ok (.iaload, 1) := by decide +kernel
theorem dL_law_176 : decode cL_law 176 = .ok (.invokevirtual 78, 3) := by decide +kernel
theorem dL_law_179 : decode cL_law 179 = .ok (.istore 6, 2) := by decide +kernel
theorem dL_law_181 : decode cL_law 181 = .ok (.aload_n 2, 1) := by decide +kernel
theorem dL_law_182 : decode cL_law 182 = .ok (.invokevirtual 79, 3) := by decide +kernel
theorem dL_law_185 : decode cL_law 185 = .ok (.iload 5, 2) := by decide +kernel
theorem dL_law_187 : decode cL_law 187 = .ok (.if_icmp .eq 5, 3) := by decide +kernel
theorem dL_law_190 : decode cL_law 190 = .ok (.iconst 0, 1) := by decide +kernel
theorem dL_law_191 : decode cL_law 191 = .ok (.ireturn, 1) := by decide +kernel
theorem dL_law_192 : decode cL_law 192 = .ok (.iload 5, 2) := by decide +kernel
theorem dL_law_194 : decode cL_law 194 = .ok (.ifCond .ne 15, 3) := by decide +kernel
theorem dL_law_197 : decode cL_law 197 = .ok (.aload_n 3, 1) := by decide +kernel
theorem dL_law_198 : decode cL_law 198 = .ok (.iconst 0, 1) := by decide +kernel
theorem dL_law_199 : decode cL_law 199 = .ok (.laload, 1) := by decide +kernel
theorem dL_law_200 : decode cL_law 200 = .ok (.iload 6, 2) := by decide +kernel
theorem dL_law_202 : decode cL_law 202 = .ok (.i2l, 1) := by decide +kernel
theorem dL_law_203 : decode cL_law 203 = .ok (.lcmp, 1) := by decide +kernel
theorem dL_law_204 : decode cL_law 204 = .ok (.ifCond .eq 5, 3) := by decide +kernel
theorem dL_law_207 : decode cL_law 207 = .ok (.iconst 0, 1) := by decide +kernel
theorem dL_law_208 : decode cL_law 208 = .ok (.ireturn, 1) := by decide +kernel
theorem dL_law_209 : decode cL_law 209 = .ok (.goto 986, 3) := by decide +kernel
theorem dL_law_212 : decode cL_law 212 = .ok (.aload_n 1, 1) := by decide +kernel
theorem dL_law_213 : decode cL_law 213 = .ok (.aload_n 0, 1) := by decide +kernel
theorem dL_law_214 : decode cL_law 214 = .ok (.iload 4, 2) := by decide +kernel
theorem dL_law_216 : decode cL_law 216 = .ok (.iconst 1, 1) := by decide +kernel
theorem dL_law_217 : decode cL_law 217 = .ok (.iadd, 1) := by decide +kernel
theorem dL_law_218 : decode cL_law 218 = .ok (.iaload, 1) := by decide +kernel
theorem dL_law_219 : decode cL_law 219 = .ok (.aload_n 0, 1) := by decide +kernel
theorem dL_law_220 : decode cL_law 220 = .ok (.iload 4, 2) := by decide +kernel
theorem dL_law_222 : decode cL_law 222 = .ok (.iconst 2, 1) := by decide +kernel
theorem dL_law_223 : decode cL_law 223 = .ok (.iadd, 1) := by decide +kernel
theorem dL_law_224 : decode cL_law 224 = .ok (.iaload, 1) := by decide +kernel
theorem dL_law_225 : decode cL_law 225 = .ok (.aload_n 3, 1) := by decide +kernel
theorem dL_law_226 : decode cL_law 226 = .ok (.invokestatic 83, 3) := by decide +kernel
theorem dL_law_229 : decode cL_law 229 = .ok (.istore 5, 2) := by decide +kernel
theorem dL_law_231 : decode cL_law 231 = .ok (.aload_n 2, 1) := by decide +kernel
theorem dL_law_232 : decode cL_law 232 = .ok (.aload_n 0, 1) := by decide +kernel
theorem dL_law_233 : decode cL_law 233 = .ok (.iload 4, 2) := by decide +kernel
theorem dL_law_235 : decode cL_law 235 = .ok (.iconst 1, 1) := by decide +kernel
theorem dL_law_236 : decode cL_law 236 = .ok (.iadd, 1) := by decide +kernel
theorem dL_law_237 : decode cL_law 237 = .ok (.iaload, 1) := by decide +kernel
theorem dL_law_238 : decode cL_law 238 = .ok (.aload_n 0, 1) := by decide +kernel
theorem dL_law_239 : decode cL_law 239 = .ok (.iload 4, 2) := by decide +kernel
theorem dL_law_241 : decode cL_law 241 = .ok (.iconst 2, 1) := by decide +kernel
theorem dL_law_242 : decode cL_law 242 = .ok (.iadd, 1) := by decide +kernel
theorem dL_law_243 : decode cL_law 243 = .ok (.iaload, 1) := by decide +kernel
theorem dL_law_244 : decode cL_law 244 = .ok (.invokevirtual 86, 3) := by decide +kernel
theorem dL_law_247 : decode cL_law 247 = .ok (.istore 6, 2) := by decide +kernel
theorem dL_law_249 : decode cL_law 249 = .ok (.aload_n 2, 1) := by decide +kernel
theorem dL_law_250 : decode cL_law 250 = .ok (.invokevirtual 79, 3) := by decide +kernel
theorem dL_law_253 : decode cL_law 253 = .ok (.iload 5, 2) := by decide +kernel
theorem dL_law_255 : decode cL_law 255 = .ok (.if_icmp .eq 5, 3) := by decide +kernel
theorem dL_law_258 : decode cL_law 258 = .ok (.iconst 0, 1) := by decide +kernel
theorem dL_law_259 : decode cL_law 259 = .ok (.ireturn, 1) := by decide +kernel
theorem dL_law_260 : decode cL_law 260 = .ok (.iload 5, 2) := by decide +kernel
theorem dL_law_262 : decode cL_law 262 = .ok (.ifCond .ne 15, 3) := by decide +kernel
theorem dL_law_265 : decode cL_law 265 = .ok (.aload_n 3, 1) := by decide +kernel
theorem dL_law_266 : decode cL_law 266 = .ok (.iconst 0, 1) := by decide +kernel
theorem dL_law_267 : decode cL_law 267 = .ok (.laload, 1) := by decide +kernel
theorem dL_law_268 : decode cL_law 268 = .ok (.iload 6, 2) := by decide +kernel
theorem dL_law_270 : decode cL_law 270 = .ok (.i2l, 1) := by decide +kernel
theorem dL_law_271 : decode cL_law 271 = .ok (.lcmp, 1) := by decide +kernel
theorem dL_law_272 : decode cL_law 272 = .ok (.ifCond .eq 5, 3) := by decide +kernel
theorem dL_law_275 : decode cL_law 275 = .ok (.iconst 0, 1) := by decide +kernel
theorem dL_law_276 : decode cL_law 276 = .ok (.ireturn, 1) := by decide +kernel
theorem dL_law_277 : decode cL_law 277 = .ok (.goto 918, 3) := by decide +kernel
theorem dL_law_280 : decode cL_law 280 = .ok (.aload_n 1, 1) := by decide +kernel
theorem dL_law_281 : decode cL_law 281 = .ok (.aload_n 0, 1) := by decide +kernel
theorem dL_law_282 : decode cL_law 282 = .ok (.iload 4, 2) := by decide +kernel
theorem dL_law_284 : decode cL_law 284 = .ok (.iconst 1, 1) := by decide +kernel
theorem dL_law_285 : decode cL_law 285 = .ok (.iadd, 1) := by decide +kernel
theorem dL_law_286 : decode cL_law 286 = .ok (.iaload, 1) := by decide +kernel
theorem dL_law_287 : decode cL_law 287 = .ok (.aload_n 0, 1) := by decide +kernel
theorem dL_law_288 : decode cL_law 288 = .ok (.iload 4, 2) := by decide +kernel
theorem dL_law_290 : decode cL_law 290 = .ok (.iconst 2, 1) := by decide +kernel
theorem dL_law_291 : decode cL_law 291 = .ok (.iadd, 1) := by decide +kernel
theorem dL_law_292 : decode cL_law 292 = .ok (.iaload, 1) := by decide +kernel
theorem dL_law_293 : decode cL_law 293 = .ok (.aload_n 0, 1) := by decide +kernel
theorem dL_law_294 : decode cL_law 294 = .ok (.iload 4, 2) := by decide +kernel
theorem dL_law_296 : decode cL_law 296 = .ok (.iconst 3, 1) := by decide +kernel
theorem dL_law_297 : decode cL_law 297 = .ok (.iadd, 1) := by decide +kernel
theorem dL_law_298 : decode cL_law 298 = .ok (.iaload, 1) := by decide +kernel
theorem dL_law_299 : decode cL_law 299 = .ok (.aload_n 3, 1) := by decide +kernel
theorem dL_law_300 : decode cL_law 300 = .ok (.invokestatic 87, 3) := by decide +kernel
theorem dL_law_303 : decode cL_law 303 = .ok (.istore 5, 2) := by decide +kernel
theorem dL_law_305 : decode cL_law 305 = .ok (.aload_n 2, 1) := by decide +kernel
theorem dL_law_306 : decode cL_law 306 = .ok (.aload_n 0, 1) := by decide +kernel
theorem dL_law_307 : decode cL_law 307 = .ok (.iload 4, 2) := by decide +kernel
theorem dL_law_309 : decode cL_law 309 = .ok (.iconst 1, 1) := by decide +kernel
theorem dL_law_310 : decode cL_law 310 = .ok (.iadd, 1) := by decide +kernel
theorem dL_law_311 : decode cL_law 311 = .ok (.iaload, 1) := by decide +kernel
theorem dL_law_312 : decode cL_law 312 = .ok (.aload_n 0, 1) := by decide +kernel
theorem dL_law_313 : decode cL_law 313 = .ok (.iload 4, 2) := by decide +kernel
theorem dL_law_315 : decode cL_law 315 = .ok (.iconst 2, 1) := by decide +kernel
theorem dL_law_316 : decode cL_law 316 = .ok (.iadd, 1) := by decide +kernel
theorem dL_law_317 : decode cL_law 317 = .ok (.iaload, 1) := by decide +kernel
theorem dL_law_318 : decode cL_law 318 = .ok (.aload_n 0, 1) := by decide +kernel
theorem dL_law_319 : decode cL_law 319 = .ok (.iload 4, 2) := by decide +kernel
theorem dL_law_321 : decode cL_law 321 = .ok (.iconst 3, 1) := by decide +kernel
theorem dL_law_322 : decode cL_law 322 = .ok (.iadd, 1) := by decide +kernel
theorem dL_law_323 : decode cL_law 323 = .ok (.iaload, 1) := by decide +kernel
theorem dL_law_324 : decode cL_law 324 = .ok (.invokevirtual 89, 3) := by decide +kernel
theorem dL_law_327 : decode cL_law 327 = .ok (.istore 6, 2) := by decide +kernel
theorem dL_law_329 : decode cL_law 329 = .ok (.aload_n 2, 1) := by decide +kernel
theorem dL_law_330 : decode cL_law 330 = .ok (.invokevirtual 79, 3) := by decide +kernel
theorem dL_law_333 : decode cL_law 333 = .ok (.iload 5, 2) := by decide +kernel
theorem dL_law_335 : decode cL_law 335 = .ok (.if_icmp .eq 5, 3) := by decide +kernel
theorem dL_law_338 : decode cL_law 338 = .ok (.iconst 0, 1) := by decide +kernel
theorem dL_law_339 : decode cL_law 339 = .ok (.ireturn, 1) := by decide +kernel
theorem dL_law_340 : decode cL_law 340 = .ok (.iload 5, 2) := by decide +kernel
theorem dL_law_342 : decode cL_law 342 = .ok (.ifCond .ne 15, 3) := by decide +kernel
theorem dL_law_345 : decode cL_law 345 = .ok (.aload_n 3, 1) := by decide +kernel
theorem dL_law_346 : decode cL_law 346 = .ok (.iconst 0, 1) := by decide +kernel
theorem dL_law_347 : decode cL_law 347 = .ok (.laload, 1) := by decide +kernel
theorem dL_law_348 : decode cL_law 348 = .ok (.iload 6, 2) := by decide +kernel
theorem dL_law_350 : decode cL_law 350 = .ok (.i2l, 1) := by decide +kernel
theorem dL_law_351 : decode cL_law 351 = .ok (.lcmp, 1) := by decide +kernel
theorem dL_law_352 : decode cL_law 352 = .ok (.ifCond .eq 5, 3) := by decide +kernel
theorem dL_law_355 : decode cL_law 355 = .ok (.iconst 0, 1) := by decide +kernel
theorem dL_law_356 : decode cL_law 356 = .ok (.ireturn, 1) := by decide +kernel
theorem dL_law_357 : decode cL_law 357 = .ok (.goto 838, 3) := by decide +kernel
theorem dL_law_360 : decode cL_law 360 = .ok (.aload_n 1, 1) := by decide +kernel
theorem dL_law_361 : decode cL_law 361 = .ok (.aload_n 0, 1) := by decide +kernel
theorem dL_law_362 : decode cL_law 362 = .ok (.iload 4, 2) := by decide +kernel
theorem dL_law_364 : decode cL_law 364 = .ok (.iconst 1, 1) := by decide +kernel
theorem dL_law_365 : decode cL_law 365 = .ok (.iadd, 1) := by decide +kernel
theorem dL_law_366 : decode cL_law 366 = .ok (.iaload, 1) := by decide +kernel
theorem dL_law_367 : decode cL_law 367 = .ok (.aload_n 3, 1) := by decide +kernel
theorem dL_law_368 : decode cL_law 368 = .ok (.invokestatic 90, 3) := by decide +kernel
theorem dL_law_371 : decode cL_law 371 = .ok (.istore 5, 2) := by decide +kernel
theorem dL_law_373 : decode cL_law 373 = .ok (.aload_n 2, 1) := by decide +kernel
theorem dL_law_374 : decode cL_law 374 = .ok (.aload_n 0, 1) := by decide +kernel
theorem dL_law_375 : decode cL_law 375 = .ok (.iload 4, 2) := by decide +kernel
theorem dL_law_377 : decode cL_law 377 = .ok (.iconst 1, 1) := by decide +kernel
theorem dL_law_378 : decode cL_law 378 = .ok (.iadd, 1) := by decide +kernel
theorem dL_law_379 : decode cL_law 379 = .ok (.iaload, 1) := by decide +kernel
theorem dL_law_380 : decode cL_law 380 = .ok (.invokevirtual 93, 3) := by decide +kernel
theorem dL_law_383 : decode cL_law 383 = .ok (.istore 6, 2) := by decide +kernel
theorem dL_law_385 : decode cL_law 385 = .ok (.aload_n 2, 1) := by decide +kernel
theorem dL_law_386 : decode cL_law 386 = .ok (.invokevirtual 79, 3) := by decide +kernel
theorem dL_law_389 : decode cL_law 389 = .ok (.iload 5, 2) := by decide +kernel
theorem dL_law_391 : decode cL_law 391 = .ok (.if_icmp .eq 5, 3) := by decide +kernel
theorem dL_law_394 : decode cL_law 394 = .ok (.iconst 0, 1) := by decide +kernel
theorem dL_law_395 : decode cL_law 395 = .ok (.ireturn, 1) := by decide +kernel
theorem dL_law_396 : decode cL_law 396 = .ok (.iload 5, 2) := by decide +kernel
theorem dL_law_398 : decode cL_law 398 = .ok (.ifCond .ne 15, 3) := by decide +kernel
theorem dL_law_401 : decode cL_law 401 = .ok (.aload_n 3, 1) := by decide +kernel
theorem dL_law_402 : decode cL_law 402 = .ok (.iconst 0, 1) := by decide +kernel
theorem dL_law_403 : decode cL_law 403 = .ok (.laload, 1) := by decide +kernel
theorem dL_law_404 : decode cL_law 404 = .ok (.iload 6, 2) := by decide +kernel
theorem dL_law_406 : decode cL_law 406 = .ok (.i2l, 1) := by decide +kernel
theorem dL_law_407 : decode cL_law 407 = .ok (.lcmp, 1) := by decide +kernel
theorem dL_law_408 : decode cL_law 408 = .ok (.ifCond .eq 5, 3) := by decide +kernel
theorem dL_law_411 : decode cL_law 411 = .ok (.iconst 0, 1) := by decide +kernel
theorem dL_law_412 : decode cL_law 412 = .ok (.ireturn, 1) := by decide +kernel
theorem dL_law_413 : decode cL_law 413 = .ok (.goto 782, 3) := by decide +kernel
theorem dL_law_416 : decode cL_law 416 = .ok (.aload_n 1, 1) := by decide +kernel
theorem dL_law_417 : decode cL_law 417 = .ok (.aload_n 0, 1) := by decide +kernel
theorem dL_law_418 : decode cL_law 418 = .ok (.iload 4, 2) := by decide +kernel
theorem dL_law_420 : decode cL_law 420 = .ok (.iconst 1, 1) := by decide +kernel
theorem dL_law_421 : decode cL_law 421 = .ok (.iadd, 1) := by decide +kernel
theorem dL_law_422 : decode cL_law 422 = .ok (.iaload, 1) := by decide +kernel
theorem dL_law_423 : decode cL_law 423 = .ok (.aload_n 3, 1) := by decide +kernel
theorem dL_law_424 : decode cL_law 424 = .ok (.invokestatic 94, 3) := by decide +kernel
theorem dL_law_427 : decode cL_law 427 = .ok (.istore 5, 2) := by decide +kernel
theorem dL_law_429 : decode cL_law 429 = .ok (.aload_n 2, 1) := by decide +kernel
theorem dL_law_430 : decode cL_law 430 = .ok (.aload_n 0, 1) := by decide +kernel
theorem dL_law_431 : decode cL_law 431 = .ok (.iload 4, 2) := by decide +kernel
theorem dL_law_433 : decode cL_law 433 = .ok (.iconst 1, 1) := by decide +kernel
theorem dL_law_434 : decode cL_law 434 = .ok (.iadd, 1) := by decide +kernel
theorem dL_law_435 : decode cL_law 435 = .ok (.iaload, 1) := by decide +kernel
theorem dL_law_436 : decode cL_law 436 = .ok (.invokevirtual 96, 3) := by decide +kernel
theorem dL_law_439 : decode cL_law 439 = .ok (.istore 6, 2) := by decide +kernel
theorem dL_law_441 : decode cL_law 441 = .ok (.aload_n 2, 1) := by decide +kernel
theorem dL_law_442 : decode cL_law 442 = .ok (.invokevirtual 79, 3) := by decide +kernel
theorem dL_law_445 : decode cL_law 445 = .ok (.iload 5, 2) := by decide +kernel
theorem dL_law_447 : decode cL_law 447 = .ok (.if_icmp .eq 5, 3) := by decide +kernel
theorem dL_law_450 : decode cL_law 450 = .ok (.iconst 0, 1) := by decide +kernel
theorem dL_law_451 : decode cL_law 451 = .ok (.ireturn, 1) := by decide +kernel
theorem dL_law_452 : decode cL_law 452 = .ok (.iload 5, 2) := by decide +kernel
theorem dL_law_454 : decode cL_law 454 = .ok (.ifCond .ne 15, 3) := by decide +kernel
theorem dL_law_457 : decode cL_law 457 = .ok (.aload_n 3, 1) := by decide +kernel
theorem dL_law_458 : decode cL_law 458 = .ok (.iconst 0, 1) := by decide +kernel
theorem dL_law_459 : decode cL_law 459 = .ok (.laload, 1) := by decide +kernel
theorem dL_law_460 : decode cL_law 460 = .ok (.iload 6, 2) := by decide +kernel
theorem dL_law_462 : decode cL_law 462 = .ok (.i2l, 1) := by decide +kernel
theorem dL_law_463 : decode cL_law 463 = .ok (.lcmp, 1) := by decide +kernel
theorem dL_law_464 : decode cL_law 464 = .ok (.ifCond .eq 5, 3) := by decide +kernel
theorem dL_law_467 : decode cL_law 467 = .ok (.iconst 0, 1) := by decide +kernel
theorem dL_law_468 : decode cL_law 468 = .ok (.ireturn, 1) := by decide +kernel
theorem dL_law_469 : decode cL_law 469 = .ok (.goto 726, 3) := by decide +kernel
theorem dL_law_472 : decode cL_law 472 = .ok (.aload_n 1, 1) := by decide +kernel
theorem dL_law_473 : decode cL_law 473 = .ok (.aload_n 0, 1) := by decide +kernel
theorem dL_law_474 : decode cL_law 474 = .ok (.iload 4, 2) := by decide +kernel
theorem dL_law_476 : decode cL_law 476 = .ok (.iconst 1, 1) := by decide +kernel
theorem dL_law_477 : decode cL_law 477 = .ok (.iadd, 1) := by decide +kernel
theorem dL_law_478 : decode cL_law 478 = .ok (.iaload, 1) := by decide +kernel
theorem dL_law_479 : decode cL_law 479 = .ok (.aload_n 3, 1) := by decide +kernel
theorem dL_law_480 : decode cL_law 480 = .ok (.invokestatic 97, 3) := by decide +kernel
theorem dL_law_483 : decode cL_law 483 = .ok (.istore 5, 2) := by decide +kernel
theorem dL_law_485 : decode cL_law 485 = .ok (.aload_n 2, 1) := by decide +kernel
theorem dL_law_486 : decode cL_law 486 = .ok (.aload_n 0, 1) := by decide +kernel
theorem dL_law_487 : decode cL_law 487 = .ok (.iload 4, 2) := by decide +kernel
theorem dL_law_489 : decode cL_law 489 = .ok (.iconst 1, 1) := by decide +kernel
theorem dL_law_490 : decode cL_law 490 = .ok (.iadd, 1) := by decide +kernel
theorem dL_law_491 : decode cL_law 491 = .ok (.iaload, 1) := by decide +kernel
theorem dL_law_492 : decode cL_law 492 = .ok (.invokevirtual 99, 3) := by decide +kernel
theorem dL_law_495 : decode cL_law 495 = .ok (.istore 6, 2) := by decide +kernel
theorem dL_law_497 : decode cL_law 497 = .ok (.aload_n 2, 1) := by decide +kernel
theorem dL_law_498 : decode cL_law 498 = .ok (.invokevirtual 79, 3) := by decide +kernel
theorem dL_law_501 : decode cL_law 501 = .ok (.iload 5, 2) := by decide +kernel
theorem dL_law_503 : decode cL_law 503 = .ok (.if_icmp .eq 5, 3) := by decide +kernel
theorem dL_law_506 : decode cL_law 506 = .ok (.iconst 0, 1) := by decide +kernel
theorem dL_law_507 : decode cL_law 507 = .ok (.ireturn, 1) := by decide +kernel
theorem dL_law_508 : decode cL_law 508 = .ok (.iload 5, 2) := by decide +kernel
theorem dL_law_510 : decode cL_law 510 = .ok (.ifCond .ne 15, 3) := by decide +kernel
theorem dL_law_513 : decode cL_law 513 = .ok (.aload_n 3, 1) := by decide +kernel
theorem dL_law_514 : decode cL_law 514 = .ok (.iconst 0, 1) := by decide +kernel
theorem dL_law_515 : decode cL_law 515 = .ok (.laload, 1) := by decide +kernel
theorem dL_law_516 : decode cL_law 516 = .ok (.iload 6, 2) := by decide +kernel
theorem dL_law_518 : decode cL_law 518 = .ok (.i2l, 1) := by decide +kernel
theorem dL_law_519 : decode cL_law 519 = .ok (.lcmp, 1) := by decide +kernel
theorem dL_law_520 : decode cL_law 520 = .ok (.ifCond .eq 5, 3) := by decide +kernel
theorem dL_law_523 : decode cL_law 523 = .ok (.iconst 0, 1) := by decide +kernel
theorem dL_law_524 : decode cL_law 524 = .ok (.ireturn, 1) := by decide +kernel
theorem dL_law_525 : decode cL_law 525 = .ok (.goto 670, 3) := by decide +kernel
theorem dL_law_528 : decode cL_law 528 = .ok (.aload_n 1, 1) := by decide +kernel
theorem dL_law_529 : decode cL_law 529 = .ok (.invokevirtual 100, 3) := by decide +kernel
theorem dL_law_532 : decode cL_law 532 = .ok (.aload_n 2, 1) := by decide +kernel
theorem dL_law_533 : decode cL_law 533 = .ok (.invokevirtual 103, 3) := by decide +kernel
theorem dL_law_536 : decode cL_law 536 = .ok (.if_icmp .eq 659, 3) := by decide +kernel
theorem dL_law_539 : decode cL_law 539 = .ok (.iconst 0, 1) := by decide +kernel
theorem dL_law_540 : decode cL_law 540 = .ok (.ireturn, 1) := by decide +kernel
theorem dL_law_541 : decode cL_law 541 = .ok (.aload_n 1, 1) := by decide +kernel
theorem dL_law_542 : decode cL_law 542 = .ok (.invokevirtual 104, 3) := by decide +kernel
theorem dL_law_545 : decode cL_law 545 = .ok (.aload_n 2, 1) := by decide +kernel
theorem dL_law_546 : decode cL_law 546 = .ok (.invokevirtual 107, 3) := by decide +kernel
theorem dL_law_549 : decode cL_law 549 = .ok (.if_icmp .eq 646, 3) := by decide +kernel
theorem dL_law_552 : decode cL_law 552 = .ok (.iconst 0, 1) := by decide +kernel
theorem dL_law_553 : decode cL_law 553 = .ok (.ireturn, 1) := by decide +kernel
theorem dL_law_554 : decode cL_law 554 = .ok (.aload_n 1, 1) := by decide +kernel
theorem dL_law_555 : decode cL_law 555 = .ok (.aload_n 0, 1) := by decide +kernel
theorem dL_law_556 : decode cL_law 556 = .ok (.iload 4, 2) := by decide +kernel
theorem dL_law_558 : decode cL_law 558 = .ok (.iconst 1, 1) := by decide +kernel
theorem dL_law_559 : decode cL_law 559 = .ok (.iadd, 1) := by decide +kernel
theorem dL_law_560 : decode cL_law 560 = .ok (.iaload, 1) := by decide +kernel
theorem dL_law_561 : decode cL_law 561 = .ok (.aload_n 3, 1) := by decide +kernel
theorem dL_law_562 : decode cL_law 562 = .ok (.invokestatic 108, 3) := by decide +kernel
theorem dL_law_565 : decode cL_law 565 = .ok (.istore 5, 2) := by decide +kernel
theorem dL_law_567 : decode cL_law 567 = .ok (.aload_n 2, 1) := by decide +kernel
theorem dL_law_568 : decode cL_law 568 = .ok (.aload_n 0, 1) := by decide +kernel
theorem dL_law_569 : decode cL_law 569 = .ok (.iload 4, 2) := by decide +kernel
theorem dL_law_571 : decode cL_law 571 = .ok (.iconst 1, 1) := by decide +kernel
theorem dL_law_572 : decode cL_law 572 = .ok (.iadd, 1) := by decide +kernel
theorem dL_law_573 : decode cL_law 573 = .ok (.iaload, 1) := by decide +kernel
theorem dL_law_574 : decode cL_law 574 = .ok (.invokevirtual 110, 3) := by decide +kernel
theorem dL_law_577 : decode cL_law 577 = .ok (.istore 6, 2) := by decide +kernel
theorem dL_law_579 : decode cL_law 579 = .ok (.aload_n 2, 1) := by decide +kernel
theorem dL_law_580 : decode cL_law 580 = .ok (.invokevirtual 79, 3) := by decide +kernel
theorem dL_law_583 : decode cL_law 583 = .ok (.iload 5, 2) := by decide +kernel
theorem dL_law_585 : decode cL_law 585 = .ok (.if_icmp .eq 5, 3) := by decide +kernel
theorem dL_law_588 : decode cL_law 588 = .ok (.iconst 0, 1) := by decide +kernel
theorem dL_law_589 : decode cL_law 589 = .ok (.ireturn, 1) := by decide +kernel
theorem dL_law_590 : decode cL_law 590 = .ok (.iload 5, 2) := by decide +kernel
theorem dL_law_592 : decode cL_law 592 = .ok (.ifCond .ne 15, 3) := by decide +kernel
theorem dL_law_595 : decode cL_law 595 = .ok (.aload_n 3, 1) := by decide +kernel
theorem dL_law_596 : decode cL_law 596 = .ok (.iconst 0, 1) := by decide +kernel
theorem dL_law_597 : decode cL_law 597 = .ok (.laload, 1) := by decide +kernel
theorem dL_law_598 : decode cL_law 598 = .ok (.iload 6, 2) := by decide +kernel
theorem dL_law_600 : decode cL_law 600 = .ok (.i2l, 1) := by decide +kernel
theorem dL_law_601 : decode cL_law 601 = .ok (.lcmp, 1) := by decide +kernel
theorem dL_law_602 : decode cL_law 602 = .ok (.ifCond .eq 5, 3) := by decide +kernel
theorem dL_law_605 : decode cL_law 605 = .ok (.iconst 0, 1) := by decide +kernel
theorem dL_law_606 : decode cL_law 606 = .ok (.ireturn, 1) := by decide +kernel
theorem dL_law_607 : decode cL_law 607 = .ok (.goto 588, 3) := by decide +kernel
theorem dL_law_610 : decode cL_law 610 = .ok (.aload_n 1, 1) := by decide +kernel
theorem dL_law_611 : decode cL_law 611 = .ok (.aload_n 0, 1) := by decide +kernel
theorem dL_law_612 : decode cL_law 612 = .ok (.iload 4, 2) := by decide +kernel
theorem dL_law_614 : decode cL_law 614 = .ok (.iconst 1, 1) := by decide +kernel
theorem dL_law_615 : decode cL_law 615 = .ok (.iadd, 1) := by decide +kernel
theorem dL_law_616 : decode cL_law 616 = .ok (.iaload, 1) := by decide +kernel
theorem dL_law_617 : decode cL_law 617 = .ok (.aload_n 3, 1) := by decide +kernel
theorem dL_law_618 : decode cL_law 618 = .ok (.invokestatic 111, 3) := by decide +kernel
theorem dL_law_621 : decode cL_law 621 = .ok (.istore 5, 2) := by decide +kernel
theorem dL_law_623 : decode cL_law 623 = .ok (.aload_n 2, 1) := by decide +kernel
theorem dL_law_624 : decode cL_law 624 = .ok (.aload_n 0, 1) := by decide +kernel
theorem dL_law_625 : decode cL_law 625 = .ok (.iload 4, 2) := by decide +kernel
theorem dL_law_627 : decode cL_law 627 = .ok (.iconst 1, 1) := by decide +kernel
theorem dL_law_628 : decode cL_law 628 = .ok (.iadd, 1) := by decide +kernel
theorem dL_law_629 : decode cL_law 629 = .ok (.iaload, 1) := by decide +kernel
theorem dL_law_630 : decode cL_law 630 = .ok (.invokevirtual 113, 3) := by decide +kernel
theorem dL_law_633 : decode cL_law 633 = .ok (.istore 6, 2) := by decide +kernel
theorem dL_law_635 : decode cL_law 635 = .ok (.aload_n 2, 1) := by decide +kernel
theorem dL_law_636 : decode cL_law 636 = .ok (.invokevirtual 79, 3) := by decide +kernel
theorem dL_law_639 : decode cL_law 639 = .ok (.iload 5, 2) := by decide +kernel
theorem dL_law_641 : decode cL_law 641 = .ok (.if_icmp .eq 5, 3) := by decide +kernel
theorem dL_law_644 : decode cL_law 644 = .ok (.iconst 0, 1) := by decide +kernel
theorem dL_law_645 : decode cL_law 645 = .ok (.ireturn, 1) := by decide +kernel
theorem dL_law_646 : decode cL_law 646 = .ok (.iload 5, 2) := by decide +kernel
theorem dL_law_648 : decode cL_law 648 = .ok (.ifCond .ne 15, 3) := by decide +kernel
theorem dL_law_651 : decode cL_law 651 = .ok (.aload_n 3, 1) := by decide +kernel
theorem dL_law_652 : decode cL_law 652 = .ok (.iconst 0, 1) := by decide +kernel
theorem dL_law_653 : decode cL_law 653 = .ok (.laload, 1) := by decide +kernel
theorem dL_law_654 : decode cL_law 654 = .ok (.iload 6, 2) := by decide +kernel
theorem dL_law_656 : decode cL_law 656 = .ok (.i2l, 1) := by decide +kernel
theorem dL_law_657 : decode cL_law 657 = .ok (.lcmp, 1) := by decide +kernel
theorem dL_law_658 : decode cL_law 658 = .ok (.ifCond .eq 5, 3) := by decide +kernel
theorem dL_law_661 : decode cL_law 661 = .ok (.iconst 0, 1) := by decide +kernel
theorem dL_law_662 : decode cL_law 662 = .ok (.ireturn, 1) := by decide +kernel
theorem dL_law_663 : decode cL_law 663 = .ok (.goto 532, 3) := by decide +kernel
theorem dL_law_666 : decode cL_law 666 = .ok (.aload_n 1, 1) := by decide +kernel
theorem dL_law_667 : decode cL_law 667 = .ok (.aload_n 0, 1) := by decide +kernel
theorem dL_law_668 : decode cL_law 668 = .ok (.iload 4, 2) := by decide +kernel
theorem dL_law_670 : decode cL_law 670 = .ok (.iconst 1, 1) := by decide +kernel
theorem dL_law_671 : decode cL_law 671 = .ok (.iadd, 1) := by decide +kernel
theorem dL_law_672 : decode cL_law 672 = .ok (.iaload, 1) := by decide +kernel
theorem dL_law_673 : decode cL_law 673 = .ok (.aload_n 3, 1) := by decide +kernel
theorem dL_law_674 : decode cL_law 674 = .ok (.invokestatic 114, 3) := by decide +kernel
theorem dL_law_677 : decode cL_law 677 = .ok (.istore 5, 2) := by decide +kernel
theorem dL_law_679 : decode cL_law 679 = .ok (.aload_n 2, 1) := by decide +kernel
theorem dL_law_680 : decode cL_law 680 = .ok (.aload_n 0, 1) := by decide +kernel
theorem dL_law_681 : decode cL_law 681 = .ok (.iload 4, 2) := by decide +kernel
theorem dL_law_683 : decode cL_law 683 = .ok (.iconst 1, 1) := by decide +kernel
theorem dL_law_684 : decode cL_law 684 = .ok (.iadd, 1) := by decide +kernel
theorem dL_law_685 : decode cL_law 685 = .ok (.iaload, 1) := by decide +kernel
theorem dL_law_686 : decode cL_law 686 = .ok (.invokevirtual 116, 3) := by decide +kernel
theorem dL_law_689 : decode cL_law 689 = .ok (.istore 6, 2) := by decide +kernel
theorem dL_law_691 : decode cL_law 691 = .ok (.aload_n 2, 1) := by decide +kernel
theorem dL_law_692 : decode cL_law 692 = .ok (.invokevirtual 79, 3) := by decide +kernel
theorem dL_law_695 : decode cL_law 695 = .ok (.iload 5, 2) := by decide +kernel
theorem dL_law_697 : decode cL_law 697 = .ok (.if_icmp .eq 5, 3) := by decide +kernel
theorem dL_law_700 : decode cL_law 700 = .ok (.iconst 0, 1) := by decide +kernel
theorem dL_law_701 : decode cL_law 701 = .ok (.ireturn, 1) := by decide +kernel
theorem dL_law_702 : decode cL_law 702 = .ok (.iload 5, 2) := by decide +kernel
theorem dL_law_704 : decode cL_law 704 = .ok (.ifCond .ne 15, 3) := by decide +kernel
theorem dL_law_707 : decode cL_law 707 = .ok (.aload_n 3, 1) := by decide +kernel
theorem dL_law_708 : decode cL_law 708 = .ok (.iconst 0, 1) := by decide +kernel
theorem dL_law_709 : decode cL_law 709 = .ok (.laload, 1) := by decide +kernel
theorem dL_law_710 : decode cL_law 710 = .ok (.iload 6, 2) := by decide +kernel
theorem dL_law_712 : decode cL_law 712 = .ok (.i2l, 1) := by decide +kernel
theorem dL_law_713 : decode cL_law 713 = .ok (.lcmp, 1) := by decide +kernel
theorem dL_law_714 : decode cL_law 714 = .ok (.ifCond .eq 5, 3) := by decide +kernel
theorem dL_law_717 : decode cL_law 717 = .ok (.iconst 0, 1) := by decide +kernel
theorem dL_law_718 : decode cL_law 718 = .ok (.ireturn, 1) := by decide +kernel
theorem dL_law_719 : decode cL_law 719 = .ok (.goto 476, 3) := by decide +kernel
theorem dL_law_722 : decode cL_law 722 = .ok (.aload_n 1, 1) := by decide +kernel
theorem dL_law_723 : decode cL_law 723 = .ok (.aload_n 0, 1) := by decide +kernel
theorem dL_law_724 : decode cL_law 724 = .ok (.iload 4, 2) := by decide +kernel
theorem dL_law_726 : decode cL_law 726 = .ok (.iconst 1, 1) := by decide +kernel
theorem dL_law_727 : decode cL_law 727 = .ok (.iadd, 1) := by decide +kernel
theorem dL_law_728 : decode cL_law 728 = .ok (.iaload, 1) := by decide +kernel
theorem dL_law_729 : decode cL_law 729 = .ok (.aload_n 3, 1) := by decide +kernel
theorem dL_law_730 : decode cL_law 730 = .ok (.invokestatic 117, 3) := by decide +kernel
theorem dL_law_733 : decode cL_law 733 = .ok (.istore 5, 2) := by decide +kernel
theorem dL_law_735 : decode cL_law 735 = .ok (.aload_n 2, 1) := by decide +kernel
theorem dL_law_736 : decode cL_law 736 = .ok (.aload_n 0, 1) := by decide +kernel
theorem dL_law_737 : decode cL_law 737 = .ok (.iload 4, 2) := by decide +kernel
theorem dL_law_739 : decode cL_law 739 = .ok (.iconst 1, 1) := by decide +kernel
theorem dL_law_740 : decode cL_law 740 = .ok (.iadd, 1) := by decide +kernel
theorem dL_law_741 : decode cL_law 741 = .ok (.iaload, 1) := by decide +kernel
theorem dL_law_742 : decode cL_law 742 = .ok (.invokevirtual 119, 3) := by decide +kernel
theorem dL_law_745 : decode cL_law 745 = .ok (.istore 6, 2) := by decide +kernel
theorem dL_law_747 : decode cL_law 747 = .ok (.aload_n 2, 1) := by decide +kernel
theorem dL_law_748 : decode cL_law 748 = .ok (.invokevirtual 79, 3) := by decide +kernel
theorem dL_law_751 : decode cL_law 751 = .ok (.iload 5, 2) := by decide +kernel
theorem dL_law_753 : decode cL_law 753 = .ok (.if_icmp .eq 5, 3) := by decide +kernel
theorem dL_law_756 : decode cL_law 756 = .ok (.iconst 0, 1) := by decide +kernel
theorem dL_law_757 : decode cL_law 757 = .ok (.ireturn, 1) := by decide +kernel
theorem dL_law_758 : decode cL_law 758 = .ok (.iload 5, 2) := by decide +kernel
theorem dL_law_760 : decode cL_law 760 = .ok (.ifCond .ne 15, 3) := by decide +kernel
theorem dL_law_763 : decode cL_law 763 = .ok (.aload_n 3, 1) := by decide +kernel
theorem dL_law_764 : decode cL_law 764 = .ok (.iconst 0, 1) := by decide +kernel
theorem dL_law_765 : decode cL_law 765 = .ok (.laload, 1) := by decide +kernel
theorem dL_law_766 : decode cL_law 766 = .ok (.iload 6, 2) := by decide +kernel
theorem dL_law_768 : decode cL_law 768 = .ok (.i2l, 1) := by decide +kernel
theorem dL_law_769 : decode cL_law 769 = .ok (.lcmp, 1) := by decide +kernel
theorem dL_law_770 : decode cL_law 770 = .ok (.ifCond .eq 5, 3) := by decide +kernel
theorem dL_law_773 : decode cL_law 773 = .ok (.iconst 0, 1) := by decide +kernel
theorem dL_law_774 : decode cL_law 774 = .ok (.ireturn, 1) := by decide +kernel
theorem dL_law_775 : decode cL_law 775 = .ok (.goto 420, 3) := by decide +kernel
theorem dL_law_778 : decode cL_law 778 = .ok (.aload_n 1, 1) := by decide +kernel
theorem dL_law_779 : decode cL_law 779 = .ok (.aload_n 0, 1) := by decide +kernel
theorem dL_law_780 : decode cL_law 780 = .ok (.iload 4, 2) := by decide +kernel
theorem dL_law_782 : decode cL_law 782 = .ok (.iconst 1, 1) := by decide +kernel
theorem dL_law_783 : decode cL_law 783 = .ok (.iadd, 1) := by decide +kernel
theorem dL_law_784 : decode cL_law 784 = .ok (.iaload, 1) := by decide +kernel
theorem dL_law_785 : decode cL_law 785 = .ok (.aload_n 0, 1) := by decide +kernel
theorem dL_law_786 : decode cL_law 786 = .ok (.iload 4, 2) := by decide +kernel
theorem dL_law_788 : decode cL_law 788 = .ok (.iconst 2, 1) := by decide +kernel
theorem dL_law_789 : decode cL_law 789 = .ok (.iadd, 1) := by decide +kernel
theorem dL_law_790 : decode cL_law 790 = .ok (.iaload, 1) := by decide +kernel
theorem dL_law_791 : decode cL_law 791 = .ok (.aload_n 3, 1) := by decide +kernel
theorem dL_law_792 : decode cL_law 792 = .ok (.invokestatic 120, 3) := by decide +kernel
theorem dL_law_795 : decode cL_law 795 = .ok (.istore 5, 2) := by decide +kernel
theorem dL_law_797 : decode cL_law 797 = .ok (.aload_n 2, 1) := by decide +kernel
theorem dL_law_798 : decode cL_law 798 = .ok (.aload_n 0, 1) := by decide +kernel
theorem dL_law_799 : decode cL_law 799 = .ok (.iload 4, 2) := by decide +kernel
theorem dL_law_801 : decode cL_law 801 = .ok (.iconst 1, 1) := by decide +kernel
theorem dL_law_802 : decode cL_law 802 = .ok (.iadd, 1) := by decide +kernel
theorem dL_law_803 : decode cL_law 803 = .ok (.iaload, 1) := by decide +kernel
theorem dL_law_804 : decode cL_law 804 = .ok (.aload_n 0, 1) := by decide +kernel
theorem dL_law_805 : decode cL_law 805 = .ok (.iload 4, 2) := by decide +kernel
theorem dL_law_807 : decode cL_law 807 = .ok (.iconst 2, 1) := by decide +kernel
theorem dL_law_808 : decode cL_law 808 = .ok (.iadd, 1) := by decide +kernel
theorem dL_law_809 : decode cL_law 809 = .ok (.iaload, 1) := by decide +kernel
theorem dL_law_810 : decode cL_law 810 = .ok (.invokevirtual 122, 3) := by decide +kernel
theorem dL_law_813 : decode cL_law 813 = .ok (.istore 6, 2) := by decide +kernel
theorem dL_law_815 : decode cL_law 815 = .ok (.aload_n 2, 1) := by decide +kernel
theorem dL_law_816 : decode cL_law 816 = .ok (.invokevirtual 79, 3) := by decide +kernel
theorem dL_law_819 : decode cL_law 819 = .ok (.iload 5, 2) := by decide +kernel
theorem dL_law_821 : decode cL_law 821 = .ok (.if_icmp .eq 5, 3) := by decide +kernel
theorem dL_law_824 : decode cL_law 824 = .ok (.iconst 0, 1) := by decide +kernel
theorem dL_law_825 : decode cL_law 825 = .ok (.ireturn, 1) := by decide +kernel
theorem dL_law_826 : decode cL_law 826 = .ok (.iload 5, 2) := by decide +kernel
theorem dL_law_828 : decode cL_law 828 = .ok (.ifCond .ne 15, 3) := by decide +kernel
theorem dL_law_831 : decode cL_law 831 = .ok (.aload_n 3, 1) := by decide +kernel
theorem dL_law_832 : decode cL_law 832 = .ok (.iconst 0, 1) := by decide +kernel
theorem dL_law_833 : decode cL_law 833 = .ok (.laload, 1) := by decide +kernel
theorem dL_law_834 : decode cL_law 834 = .ok (.iload 6, 2) := by decide +kernel
theorem dL_law_836 : decode cL_law 836 = .ok (.i2l, 1) := by decide +kernel
theorem dL_law_837 : decode cL_law 837 = .ok (.lcmp, 1) := by decide +kernel
theorem dL_law_838 : decode cL_law 838 = .ok (.ifCond .eq 5, 3) := by decide +kernel
theorem dL_law_841 : decode cL_law 841 = .ok (.iconst 0, 1) := by decide +kernel
theorem dL_law_842 : decode cL_law 842 = .ok (.ireturn, 1) := by decide +kernel
theorem dL_law_843 : decode cL_law 843 = .ok (.goto 352, 3) := by decide +kernel
theorem dL_law_846 : decode cL_law 846 = .ok (.aload_n 1, 1) := by decide +kernel
theorem dL_law_847 : decode cL_law 847 = .ok (.aload_n 0, 1) := by decide +kernel
theorem dL_law_848 : decode cL_law 848 = .ok (.iload 4, 2) := by decide +kernel
theorem dL_law_850 : decode cL_law 850 = .ok (.iconst 1, 1) := by decide +kernel
theorem dL_law_851 : decode cL_law 851 = .ok (.iadd, 1) := by decide +kernel
theorem dL_law_852 : decode cL_law 852 = .ok (.iaload, 1) := by decide +kernel
theorem dL_law_853 : decode cL_law 853 = .ok (.aload_n 3, 1) := by decide +kernel
theorem dL_law_854 : decode cL_law 854 = .ok (.invokestatic 123, 3) := by decide +kernel
theorem dL_law_857 : decode cL_law 857 = .ok (.istore 5, 2) := by decide +kernel
theorem dL_law_859 : decode cL_law 859 = .ok (.aload_n 2, 1) := by decide +kernel
theorem dL_law_860 : decode cL_law 860 = .ok (.aload_n 0, 1) := by decide +kernel
theorem dL_law_861 : decode cL_law 861 = .ok (.iload 4, 2) := by decide +kernel
theorem dL_law_863 : decode cL_law 863 = .ok (.iconst 1, 1) := by decide +kernel
theorem dL_law_864 : decode cL_law 864 = .ok (.iadd, 1) := by decide +kernel
theorem dL_law_865 : decode cL_law 865 = .ok (.iaload, 1) := by decide +kernel
theorem dL_law_866 : decode cL_law 866 = .ok (.invokevirtual 125, 3) := by decide +kernel
theorem dL_law_869 : decode cL_law 869 = .ok (.istore 6, 2) := by decide +kernel
theorem dL_law_871 : decode cL_law 871 = .ok (.aload_n 2, 1) := by decide +kernel
theorem dL_law_872 : decode cL_law 872 = .ok (.invokevirtual 79, 3) := by decide +kernel
theorem dL_law_875 : decode cL_law 875 = .ok (.iload 5, 2) := by decide +kernel
theorem dL_law_877 : decode cL_law 877 = .ok (.if_icmp .eq 5, 3) := by decide +kernel
theorem dL_law_880 : decode cL_law 880 = .ok (.iconst 0, 1) := by decide +kernel
theorem dL_law_881 : decode cL_law 881 = .ok (.ireturn, 1) := by decide +kernel
theorem dL_law_882 : decode cL_law 882 = .ok (.iload 5, 2) := by decide +kernel
theorem dL_law_884 : decode cL_law 884 = .ok (.ifCond .ne 15, 3) := by decide +kernel
theorem dL_law_887 : decode cL_law 887 = .ok (.aload_n 3, 1) := by decide +kernel
theorem dL_law_888 : decode cL_law 888 = .ok (.iconst 0, 1) := by decide +kernel
theorem dL_law_889 : decode cL_law 889 = .ok (.laload, 1) := by decide +kernel
theorem dL_law_890 : decode cL_law 890 = .ok (.iload 6, 2) := by decide +kernel
theorem dL_law_892 : decode cL_law 892 = .ok (.i2l, 1) := by decide +kernel
theorem dL_law_893 : decode cL_law 893 = .ok (.lcmp, 1) := by decide +kernel
theorem dL_law_894 : decode cL_law 894 = .ok (.ifCond .eq 5, 3) := by decide +kernel
theorem dL_law_897 : decode cL_law 897 = .ok (.iconst 0, 1) := by decide +kernel
theorem dL_law_898 : decode cL_law 898 = .ok (.ireturn, 1) := by decide +kernel
theorem dL_law_899 : decode cL_law 899 = .ok (.goto 296, 3) := by decide +kernel
theorem dL_law_902 : decode cL_law 902 = .ok (.aload_n 1, 1) := by decide +kernel
theorem dL_law_903 : decode cL_law 903 = .ok (.aload_n 0, 1) := by decide +kernel
theorem dL_law_904 : decode cL_law 904 = .ok (.iload 4, 2) := by decide +kernel
theorem dL_law_906 : decode cL_law 906 = .ok (.iconst 1, 1) := by decide +kernel
theorem dL_law_907 : decode cL_law 907 = .ok (.iadd, 1) := by decide +kernel
theorem dL_law_908 : decode cL_law 908 = .ok (.iaload, 1) := by decide +kernel
theorem dL_law_909 : decode cL_law 909 = .ok (.aload_n 3, 1) := by decide +kernel
theorem dL_law_910 : decode cL_law 910 = .ok (.invokestatic 126, 3) := by decide +kernel
theorem dL_law_913 : decode cL_law 913 = .ok (.istore 5, 2) := by decide +kernel
theorem dL_law_915 : decode cL_law 915 = .ok (.aload_n 2, 1) := by decide +kernel
theorem dL_law_916 : decode cL_law 916 = .ok (.aload_n 0, 1) := by decide +kernel
theorem dL_law_917 : decode cL_law 917 = .ok (.iload 4, 2) := by decide +kernel
theorem dL_law_919 : decode cL_law 919 = .ok (.iconst 1, 1) := by decide +kernel
theorem dL_law_920 : decode cL_law 920 = .ok (.iadd, 1) := by decide +kernel
theorem dL_law_921 : decode cL_law 921 = .ok (.iaload, 1) := by decide +kernel
theorem dL_law_922 : decode cL_law 922 = .ok (.invokevirtual 128, 3) := by decide +kernel
theorem dL_law_925 : decode cL_law 925 = .ok (.istore 6, 2) := by decide +kernel
theorem dL_law_927 : decode cL_law 927 = .ok (.aload_n 2, 1) := by decide +kernel
theorem dL_law_928 : decode cL_law 928 = .ok (.invokevirtual 79, 3) := by decide +kernel
theorem dL_law_931 : decode cL_law 931 = .ok (.iload 5, 2) := by decide +kernel
theorem dL_law_933 : decode cL_law 933 = .ok (.if_icmp .eq 5, 3) := by decide +kernel
theorem dL_law_936 : decode cL_law 936 = .ok (.iconst 0, 1) := by decide +kernel
theorem dL_law_937 : decode cL_law 937 = .ok (.ireturn, 1) := by decide +kernel
theorem dL_law_938 : decode cL_law 938 = .ok (.iload 5, 2) := by decide +kernel
theorem dL_law_940 : decode cL_law 940 = .ok (.ifCond .ne 15, 3) := by decide +kernel
theorem dL_law_943 : decode cL_law 943 = .ok (.aload_n 3, 1) := by decide +kernel
theorem dL_law_944 : decode cL_law 944 = .ok (.iconst 0, 1) := by decide +kernel
theorem dL_law_945 : decode cL_law 945 = .ok (.laload, 1) := by decide +kernel
theorem dL_law_946 : decode cL_law 946 = .ok (.iload 6, 2) := by decide +kernel
theorem dL_law_948 : decode cL_law 948 = .ok (.i2l, 1) := by decide +kernel
theorem dL_law_949 : decode cL_law 949 = .ok (.lcmp, 1) := by decide +kernel
theorem dL_law_950 : decode cL_law 950 = .ok (.ifCond .eq 5, 3) := by decide +kernel
theorem dL_law_953 : decode cL_law 953 = .ok (.iconst 0, 1) := by decide +kernel
theorem dL_law_954 : decode cL_law 954 = .ok (.ireturn, 1) := by decide +kernel
theorem dL_law_955 : decode cL_law 955 = .ok (.goto 240, 3) := by decide +kernel
theorem dL_law_958 : decode cL_law 958 = .ok (.aload_n 1, 1) := by decide +kernel
theorem dL_law_959 : decode cL_law 959 = .ok (.invokevirtual 129, 3) := by decide +kernel
theorem dL_law_962 : decode cL_law 962 = .ok (.aload_n 2, 1) := by decide +kernel
theorem dL_law_963 : decode cL_law 963 = .ok (.invokevirtual 132, 3) := by decide +kernel
theorem dL_law_966 : decode cL_law 966 = .ok (.if_icmp .eq 229, 3) := by decide +kernel
theorem dL_law_969 : decode cL_law 969 = .ok (.iconst 0, 1) := by decide +kernel
theorem dL_law_970 : decode cL_law 970 = .ok (.ireturn, 1) := by decide +kernel
theorem dL_law_971 : decode cL_law 971 = .ok (.aload_n 1, 1) := by decide +kernel
theorem dL_law_972 : decode cL_law 972 = .ok (.aload_n 0, 1) := by decide +kernel
theorem dL_law_973 : decode cL_law 973 = .ok (.iload 4, 2) := by decide +kernel
theorem dL_law_975 : decode cL_law 975 = .ok (.iconst 1, 1) := by decide +kernel
theorem dL_law_976 : decode cL_law 976 = .ok (.iadd, 1) := by decide +kernel
theorem dL_law_977 : decode cL_law 977 = .ok (.iaload, 1) := by decide +kernel
theorem dL_law_978 : decode cL_law 978 = .ok (.aload_n 3, 1) := by decide +kernel
theorem dL_law_979 : decode cL_law 979 = .ok (.invokestatic 133, 3) := by decide +kernel
theorem dL_law_982 : decode cL_law 982 = .ok (.istore 5, 2) := by decide +kernel
theorem dL_law_984 : decode cL_law 984 = .ok (.aload_n 2, 1) := by decide +kernel
theorem dL_law_985 : decode cL_law 985 = .ok (.aload_n 0, 1) := by decide +kernel
theorem dL_law_986 : decode cL_law 986 = .ok (.iload 4, 2) := by decide +kernel
theorem dL_law_988 : decode cL_law 988 = .ok (.iconst 1, 1) := by decide +kernel
theorem dL_law_989 : decode cL_law 989 = .ok (.iadd, 1) := by decide +kernel
theorem dL_law_990 : decode cL_law 990 = .ok (.iaload, 1) := by decide +kernel
theorem dL_law_991 : decode cL_law 991 = .ok (.invokevirtual 135, 3) := by decide +kernel
theorem dL_law_994 : decode cL_law 994 = .ok (.istore 6, 2) := by decide +kernel
theorem dL_law_996 : decode cL_law 996 = .ok (.aload_n 2, 1) := by decide +kernel
theorem dL_law_997 : decode cL_law 997 = .ok (.invokevirtual 79, 3) := by decide +kernel
theorem dL_law_1000 : decode cL_law 1000 = .ok (.iload 5, 2) := by decide +kernel
theorem dL_law_1002 : decode cL_law 1002 = .ok (.if_icmp .eq 5, 3) := by decide +kernel
theorem dL_law_1005 : decode cL_law 1005 = .ok (.iconst 0, 1) := by decide +kernel
theorem dL_law_1006 : decode cL_law 1006 = .ok (.ireturn, 1) := by decide +kernel
theorem dL_law_1007 : decode cL_law 1007 = .ok (.iload 5, 2) := by decide +kernel
theorem dL_law_1009 : decode cL_law 1009 = .ok (.ifCond .ne 15, 3) := by decide +kernel
theorem dL_law_1012 : decode cL_law 1012 = .ok (.aload_n 3, 1) := by decide +kernel
theorem dL_law_1013 : decode cL_law 1013 = .ok (.iconst 0, 1) := by decide +kernel
theorem dL_law_1014 : decode cL_law 1014 = .ok (.laload, 1) := by decide +kernel
theorem dL_law_1015 : decode cL_law 1015 = .ok (.iload 6, 2) := by decide +kernel
theorem dL_law_1017 : decode cL_law 1017 = .ok (.i2l, 1) := by decide +kernel
theorem dL_law_1018 : decode cL_law 1018 = .ok (.lcmp, 1) := by decide +kernel
theorem dL_law_1019 : decode cL_law 1019 = .ok (.ifCond .eq 5, 3) := by decide +kernel
theorem dL_law_1022 : decode cL_law 1022 = .ok (.iconst 0, 1) := by decide +kernel
theorem dL_law_1023 : decode cL_law 1023 = .ok (.ireturn, 1) := by decide +kernel
theorem dL_law_1024 : decode cL_law 1024 = .ok (.goto 171, 3) := by decide +kernel
theorem dL_law_1027 : decode cL_law 1027 = .ok (.aload_n 1, 1) := by decide +kernel
theorem dL_law_1028 : decode cL_law 1028 = .ok (.aload_n 0, 1) := by decide +kernel
theorem dL_law_1029 : decode cL_law 1029 = .ok (.iload 4, 2) := by decide +kernel
theorem dL_law_1031 : decode cL_law 1031 = .ok (.iconst 1, 1) := by decide +kernel
theorem dL_law_1032 : decode cL_law 1032 = .ok (.iadd, 1) := by decide +kernel
theorem dL_law_1033 : decode cL_law 1033 = .ok (.iaload, 1) := by decide +kernel
theorem dL_law_1034 : decode cL_law 1034 = .ok (.aload_n 3, 1) := by decide +kernel
theorem dL_law_1035 : decode cL_law 1035 = .ok (.invokestatic 136, 3) := by decide +kernel
theorem dL_law_1038 : decode cL_law 1038 = .ok (.istore 5, 2) := by decide +kernel
theorem dL_law_1040 : decode cL_law 1040 = .ok (.aload_n 2, 1) := by decide +kernel
theorem dL_law_1041 : decode cL_law 1041 = .ok (.aload_n 0, 1) := by decide +kernel
theorem dL_law_1042 : decode cL_law 1042 = .ok (.iload 4, 2) := by decide +kernel
theorem dL_law_1044 : decode cL_law 1044 = .ok (.iconst 1, 1) := by decide +kernel
theorem dL_law_1045 : decode cL_law 1045 = .ok (.iadd, 1) := by decide +kernel
theorem dL_law_1046 : decode cL_law 1046 = .ok (.iaload, 1) := by decide +kernel
theorem dL_law_1047 : decode cL_law 1047 = .ok (.invokevirtual 138, 3) := by decide +kernel
theorem dL_law_1050 : decode cL_law 1050 = .ok (.istore 6, 2) := by decide +kernel
theorem dL_law_1052 : decode cL_law 1052 = .ok (.aload_n 2, 1) := by decide +kernel
theorem dL_law_1053 : decode cL_law 1053 = .ok (.invokevirtual 79, 3) := by decide +kernel
theorem dL_law_1056 : decode cL_law 1056 = .ok (.iload 5, 2) := by decide +kernel
theorem dL_law_1058 : decode cL_law 1058 = .ok (.if_icmp .eq 5, 3) := by decide +kernel
theorem dL_law_1061 : decode cL_law 1061 = .ok (.iconst 0, 1) := by decide +kernel
theorem dL_law_1062 : decode cL_law 1062 = .ok (.ireturn, 1) := by decide +kernel
theorem dL_law_1063 : decode cL_law 1063 = .ok (.iload 5, 2) := by decide +kernel
theorem dL_law_1065 : decode cL_law 1065 = .ok (.ifCond .ne 15, 3) := by decide +kernel
theorem dL_law_1068 : decode cL_law 1068 = .ok (.aload_n 3, 1) := by decide +kernel
theorem dL_law_1069 : decode cL_law 1069 = .ok (.iconst 0, 1) := by decide +kernel
theorem dL_law_1070 : decode cL_law 1070 = .ok (.laload, 1) := by decide +kernel
theorem dL_law_1071 : decode cL_law 1071 = .ok (.iload 6, 2) := by decide +kernel
theorem dL_law_1073 : decode cL_law 1073 = .ok (.i2l, 1) := by decide +kernel
theorem dL_law_1074 : decode cL_law 1074 = .ok (.lcmp, 1) := by decide +kernel
theorem dL_law_1075 : decode cL_law 1075 = .ok (.ifCond .eq 5, 3) := by decide +kernel
theorem dL_law_1078 : decode cL_law 1078 = .ok (.iconst 0, 1) := by decide +kernel
theorem dL_law_1079 : decode cL_law 1079 = .ok (.ireturn, 1) := by decide +kernel
theorem dL_law_1080 : decode cL_law 1080 = .ok (.goto 115, 3) := by decide +kernel
theorem dL_law_1083 : decode cL_law 1083 = .ok (.aload_n 1, 1) := by decide +kernel
theorem dL_law_1084 : decode cL_law 1084 = .ok (.aload_n 0, 1) := by decide +kernel
theorem dL_law_1085 : decode cL_law 1085 = .ok (.iload 4, 2) := by decide +kernel
theorem dL_law_1087 : decode cL_law 1087 = .ok (.iconst 1, 1) := by decide +kernel
theorem dL_law_1088 : decode cL_law 1088 = .ok (.iadd, 1) := by decide +kernel
theorem dL_law_1089 : decode cL_law 1089 = .ok (.iaload, 1) := by decide +kernel
theorem dL_law_1090 : decode cL_law 1090 = .ok (.aload_n 3, 1) := by decide +kernel
theorem dL_law_1091 : decode cL_law 1091 = .ok (.invokestatic 139, 3) := by decide +kernel
theorem dL_law_1094 : decode cL_law 1094 = .ok (.istore 5, 2) := by decide +kernel
theorem dL_law_1096 : decode cL_law 1096 = .ok (.aload_n 2, 1) := by decide +kernel
theorem dL_law_1097 : decode cL_law 1097 = .ok (.aload_n 0, 1) := by decide +kernel
theorem dL_law_1098 : decode cL_law 1098 = .ok (.iload 4, 2) := by decide +kernel
theorem dL_law_1100 : decode cL_law 1100 = .ok (.iconst 1, 1) := by decide +kernel
theorem dL_law_1101 : decode cL_law 1101 = .ok (.iadd, 1) := by decide +kernel
theorem dL_law_1102 : decode cL_law 1102 = .ok (.iaload, 1) := by decide +kernel
theorem dL_law_1103 : decode cL_law 1103 = .ok (.invokevirtual 141, 3) := by decide +kernel
theorem dL_law_1106 : decode cL_law 1106 = .ok (.istore 6, 2) := by decide +kernel
theorem dL_law_1108 : decode cL_law 1108 = .ok (.aload_n 2, 1) := by decide +kernel
theorem dL_law_1109 : decode cL_law 1109 = .ok (.invokevirtual 79, 3) := by decide +kernel
theorem dL_law_1112 : decode cL_law 1112 = .ok (.iload 5, 2) := by decide +kernel
theorem dL_law_1114 : decode cL_law 1114 = .ok (.if_icmp .eq 5, 3) := by decide +kernel
theorem dL_law_1117 : decode cL_law 1117 = .ok (.iconst 0, 1) := by decide +kernel
theorem dL_law_1118 : decode cL_law 1118 = .ok (.ireturn, 1) := by decide +kernel
theorem dL_law_1119 : decode cL_law 1119 = .ok (.iload 5, 2) := by decide +kernel
theorem dL_law_1121 : decode cL_law 1121 = .ok (.ifCond .ne 15, 3) := by decide +kernel
theorem dL_law_1124 : decode cL_law 1124 = .ok (.aload_n 3, 1) := by decide +kernel
theorem dL_law_1125 : decode cL_law 1125 = .ok (.iconst 0, 1) := by decide +kernel
theorem dL_law_1126 : decode cL_law 1126 = .ok (.laload, 1) := by decide +kernel
theorem dL_law_1127 : decode cL_law 1127 = .ok (.iload 6, 2) := by decide +kernel
theorem dL_law_1129 : decode cL_law 1129 = .ok (.i2l, 1) := by decide +kernel
theorem dL_law_1130 : decode cL_law 1130 = .ok (.lcmp, 1) := by decide +kernel
theorem dL_law_1131 : decode cL_law 1131 = .ok (.ifCond .eq 5, 3) := by decide +kernel
theorem dL_law_1134 : decode cL_law 1134 = .ok (.iconst 0, 1) := by decide +kernel
theorem dL_law_1135 : decode cL_law 1135 = .ok (.ireturn, 1) := by decide +kernel
theorem dL_law_1136 : decode cL_law 1136 = .ok (.goto 59, 3) := by decide +kernel
theorem dL_law_1139 : decode cL_law 1139 = .ok (.aload_n 1, 1) := by decide +kernel
theorem dL_law_1140 : decode cL_law 1140 = .ok (.aload_n 0, 1) := by decide +kernel
theorem dL_law_1141 : decode cL_law 1141 = .ok (.iload 4, 2) := by decide +kernel
theorem dL_law_1143 : decode cL_law 1143 = .ok (.iconst 1, 1) := by decide +kernel
theorem dL_law_1144 : decode cL_law 1144 = .ok (.iadd, 1) := by decide +kernel
theorem dL_law_1145 : decode cL_law 1145 = .ok (.iaload, 1) := by decide +kernel
theorem dL_law_1146 : decode cL_law 1146 = .ok (.aload_n 3, 1) := by decide +kernel
theorem dL_law_1147 : decode cL_law 1147 = .ok (.invokestatic 142, 3) := by decide +kernel
theorem dL_law_1150 : decode cL_law 1150 = .ok (.istore 5, 2) := by decide +kernel
theorem dL_law_1152 : decode cL_law 1152 = .ok (.aload_n 2, 1) := by decide +kernel
theorem dL_law_1153 : decode cL_law 1153 = .ok (.aload_n 0, 1) := by decide +kernel
theorem dL_law_1154 : decode cL_law 1154 = .ok (.iload 4, 2) := by decide +kernel
theorem dL_law_1156 : decode cL_law 1156 = .ok (.iconst 1, 1) := by decide +kernel
theorem dL_law_1157 : decode cL_law 1157 = .ok (.iadd, 1) := by decide +kernel
theorem dL_law_1158 : decode cL_law 1158 = .ok (.iaload, 1) := by decide +kernel
theorem dL_law_1159 : decode cL_law 1159 = .ok (.invokevirtual 144, 3) := by decide +kernel
theorem dL_law_1162 : decode cL_law 1162 = .ok (.istore 6, 2) := by decide +kernel
theorem dL_law_1164 : decode cL_law 1164 = .ok (.aload_n 2, 1) := by decide +kernel
theorem dL_law_1165 : decode cL_law 1165 = .ok (.invokevirtual 79, 3) := by decide +kernel
theorem dL_law_1168 : decode cL_law 1168 = .ok (.iload 5, 2) := by decide +kernel
theorem dL_law_1170 : decode cL_law 1170 = .ok (.if_icmp .eq 5, 3) := by decide +kernel
theorem dL_law_1173 : decode cL_law 1173 = .ok (.iconst 0, 1) := by decide +kernel
theorem dL_law_1174 : decode cL_law 1174 = .ok (.ireturn, 1) := by decide +kernel
theorem dL_law_1175 : decode cL_law 1175 = .ok (.iload 5, 2) := by decide +kernel
theorem dL_law_1177 : decode cL_law 1177 = .ok (.ifCond .ne 15, 3) := by decide +kernel
theorem dL_law_1180 : decode cL_law 1180 = .ok (.aload_n 3, 1) := by decide +kernel
theorem dL_law_1181 : decode cL_law 1181 = .ok (.iconst 0, 1) := by decide +kernel
theorem dL_law_1182 : decode cL_law 1182 = .ok (.laload, 1) := by decide +kernel
theorem dL_law_1183 : decode cL_law 1183 = .ok (.iload 6, 2) := by decide +kernel
theorem dL_law_1185 : decode cL_law 1185 = .ok (.i2l, 1) := by decide +kernel
theorem dL_law_1186 : decode cL_law 1186 = .ok (.lcmp, 1) := by decide +kernel
theorem dL_law_1187 : decode cL_law 1187 = .ok (.ifCond .eq 5, 3) := by decide +kernel
theorem dL_law_1190 : decode cL_law 1190 = .ok (.iconst 0, 1) := by decide +kernel
theorem dL_law_1191 : decode cL_law 1191 = .ok (.ireturn, 1) := by decide +kernel
theorem dL_law_1192 : decode cL_law 1192 = .ok (.goto 3, 3) := by decide +kernel
theorem dL_law_1195 : decode cL_law 1195 = .ok (.iinc 4 4, 3) := by decide +kernel
theorem dL_law_1198 : decode cL_law 1198 = .ok (.goto (-1175), 3) := by decide +kernel
theorem dL_law_1201 : decode cL_law 1201 = .ok (.iconst 1, 1) := by decide +kernel
theorem dL_law_1202 : decode cL_law 1202 = .ok (.ireturn, 1) := by decide +kernel
abbrev vwCl : List vw_C := [(RX0, TX0, 16), (RX1, TX1, 16)]
end
section
/-! the judgement of a frame over a world of cells (xV), its rows, contracts (xI, xN, xT), calls -/
abbrev xS : Type := Nat → Nat → Int32
abbrev xC : Type := ClassId × ClassId × ClassId
abbrev xTy (c : xC) : List (ClassId × FieldType) := [(c.1, .int), (c.2.1, .boolean), (c.2.2, .long)]
/-- a frame's standing: program and room; start; code and goal; tables and what may be written -/
abbrev xX : Type := (Program × Launch × Env × Room) × (State × MethodId × Array Value × List Frame) × (Method × Code × (State → Prop)) × (va_G × xC × (Nat → Prop))
def xW (X : xX) (H : Heap) (locs : List Loc) (k n : Nat) (pc : Nat) (ls : Array Slot) (st : List Value) : Prop :=
  W X.1.1 X.1.2.1 X.1.2.2.1 X.1.2.2.2 X.2.1.1 X.2.1.2.1 X.2.1.2.2.1 X.2.1.2.2.2 X.2.2.1.1 X.2.2.1.2.1 H locs k n X.2.2.1.2.2 (F0 X.2.1.2.1 pc ls st)
def xV (X : xX) (nL k n : Nat) (ws : va_W) (pc : Nat) (lv : List (Nat × Value)) (st : List Value) : Prop :=
  ∀ (H : Heap) (locs : List Loc) (ls : Array Slot), va_P X.2.2.2.1 vwCl ws H → va_D X.2.2.2.2.2 ws → va_S X.2.2.2.2.2 X.2.1.1.heap H locs → lv_has ls nL lv → xW X H locs k n pc ls st
def xOK (l : Launch) (D : va_G) (cx : xC) (rm : Room) (X : xX) (cc : ByteArray) (nL : Nat) (own : String) (Ts : List Cond) : Prop :=
  X.1.1.tables.exec = Jvm.exec ∧ X.2.2.1.2.1.code = cc ∧ X.2.2.1.2.1.maxLocals = nL ∧ X.2.1.1.vm.findClass own = some X.2.1.2.1.cls ∧ (∀ w ∈ Ts, w.before X.2.1.2.2.1 X.2.1.1 = true) ∧ va_K D vwCl (xTy cx) X.2.1.1 ∧ (∀ q, X.2.1.1.heap.size ≤ q → X.2.2.2.2.2 q) ∧ X.1.2.1 = l ∧ X.2.2.2.1 = D ∧ X.2.2.2.2.1 = cx ∧ X.1.2.2.2 = rm
/-- locals: one set -/
def xset : List (Nat × Value) → Nat → Value → List (Nat × Value)
  | [], i, v => [(i, v)]
  | q :: l, i, v => if q.1 = i then (i, v) :: l else q :: xset l i v
def xchk : List (Nat × Value) → Bool
  | [] => true
  | q :: l => (q.2.category == 1) && !(l.any (fun r => r.1 == q.1)) && xchk l
theorem xchk_cat : ∀ {l : List (Nat × Value)}, xchk l = true → ∀ q ∈ l, q.2.category = 1
  | [], _, q, h => absurd h List.not_mem_nil
  | r :: l, hn, q, h => by
    simp only [xchk, Bool.and_eq_true, Bool.not_eq_true', beq_iff_eq] at hn
    rcases List.mem_cons.mp h with h | h
    · rw [h]; exact hn.1.1
    · exact xchk_cat hn.2 q h
theorem xset_mem {i : Nat} {v : Value} : ∀ {l : List (Nat × Value)}, xchk l = true → ∀ q ∈ xset l i v, q = (i, v) ∨ (q ∈ l ∧ q.1 ≠ i)
  | [], _, q, h => Or.inl (List.mem_singleton.mp h)
  | r :: l, hn, q, h => by
    simp only [xchk, Bool.and_eq_true, Bool.not_eq_true', beq_iff_eq] at hn
    obtain ⟨⟨hc, ha⟩, hn⟩ := hn
    have ha : ∀ z ∈ l, z.1 ≠ r.1 := fun z hz e => by
      have := List.any_eq_false.mp ha z hz
      simp [e] at this
    unfold xset at h
    split at h
    · rename_i hr
      rcases List.mem_cons.mp h with h | h
      · exact Or.inl h
      · exact Or.inr ⟨List.mem_cons_of_mem _ h, fun e => ha q h (e.trans hr.symm)⟩
    · rename_i hr
      rcases List.mem_cons.mp h with h | h
      · subst h
        exact Or.inr ⟨List.mem_cons_self, hr⟩
      · rcases xset_mem hn q h with h | ⟨h, h2⟩
        · exact Or.inl h
        · exact Or.inr ⟨List.mem_cons_of_mem _ h, h2⟩
/-- stored: the kit's list of what is held gives this one -/
theorem xset_has {ls : Array Slot} {nL i : Nat} {v : Value} {lv : List (Nat × Value)} (hc : xchk lv = true) (h : lv_has ls nL ((i, v) :: lv.filter (fun q => !(q.1 == i) && !(q.1 + 1 == i && q.2.category == 2)))) : lv_has ls nL (xset lv i v) := by
  refine ⟨h.1, h.2.1, fun q hq => h.2.2 q ?_⟩
  rcases xset_mem hc q hq with e | ⟨h1, h2⟩
  · rw [e]; exact List.mem_cons_self
  · refine List.mem_cons_of_mem _ (List.mem_filter.mpr ⟨h1, ?_⟩)
    simp [h2, xchk_cat hc q h1]
theorem xV_use {X : xX} {nL k n : Nat} {ws : va_W} {pc : Nat} {lv : List (Nat × Value)} {st : List Value} (h : xV X nL k n ws pc lv st) {H : Heap} {locs : List Loc} {ls : Array Slot} (hP : va_P X.2.2.2.1 vwCl ws H) (hD : va_D X.2.2.2.2.2 ws) (hS : va_S X.2.2.2.2.2 X.2.1.1.heap H locs) (hl : lv_has ls nL lv) : xW X H locs k n pc ls st := h H locs ls hP hD hS hl
section XROWS
variable {l : Launch} {D : va_G} {cx : xC} {rm : Room} {X : xX} {cc : ByteArray} {nL : Nat} {own : String} {Ts : List Cond} {k n pc : Nat} {ws : va_W} {lv : List (Nat × Value)} {st : List Value}
theorem x_iconst (h : xOK l D cx rm X cc nL own Ts) {z : Int} (d : decode cc pc = .ok (.iconst z, 1)) (kk : xV X nL k n ws (pc + 1) lv (.int (Int32.ofInt z) :: st)) : xV X nL k n ws pc lv (st) :=
  fun H locs ls hP hD hS hl => lv_iconst h.1 h.2.1 d rfl (kk H locs ls hP hD hS hl)
theorem x_bipush (h : xOK l D cx rm X cc nL own Ts) {z : Int} (d : decode cc pc = .ok (.bipush z, 2)) (kk : xV X nL k n ws (pc + 2) lv (.int ((Int8.ofInt z).toInt32) :: st)) : xV X nL k n ws pc lv (st) :=
  fun H locs ls hP hD hS hl => lv_bipush h.1 h.2.1 d rfl (kk H locs ls hP hD hS hl)
theorem x_iconstv (h : xOK l D cx rm X cc nL own Ts) {z : Int} (d : decode cc pc = .ok (.iconst z, 1)) (v : Int32) (hv : Int32.ofInt z = v) (kk : xV X nL k n ws (pc + 1) lv (.int v :: st)) : xV X nL k n ws pc lv (st) :=
  fun H locs ls hP hD hS hl => lv_iconst h.1 h.2.1 d hv (kk H locs ls hP hD hS hl)
theorem x_bipushv (h : xOK l D cx rm X cc nL own Ts) {z : Int} (d : decode cc pc = .ok (.bipush z, 2)) (v : Int32) (hv : (Int8.ofInt z).toInt32 = v) (kk : xV X nL k n ws (pc + 2) lv (.int v :: st)) : xV X nL k n ws pc lv (st) :=
  fun H locs ls hP hD hS hl => lv_bipush h.1 h.2.1 d hv (kk H locs ls hP hD hS hl)
theorem x_iload_n (h : xOK l D cx rm X cc nL own Ts) {q : Fin 4} {x : Int32} (d : decode cc pc = .ok (.iload_n q, 1)) (j : Nat) (hj : lv[j]? = some ((q : Nat), .int x)) (kk : xV X nL k n ws (pc + 1) lv (.int x :: st)) : xV X nL k n ws pc lv st :=
  fun H locs ls hP hD hS hl => lv_iload_n h.1 h.2.1 d rfl (lv_at hl j hj) (kk H locs ls hP hD hS hl)
theorem x_iload (h : xOK l D cx rm X cc nL own Ts) {q : Nat} {x : Int32} (d : decode cc pc = .ok (.iload q, 2)) (j : Nat) (hj : lv[j]? = some (q, .int x)) (kk : xV X nL k n ws (pc + 2) lv (.int x :: st)) : xV X nL k n ws pc lv st :=
  fun H locs ls hP hD hS hl => lv_iload h.1 h.2.1 d (lv_at hl j hj) (kk H locs ls hP hD hS hl)
theorem x_istore_n (h : xOK l D cx rm X cc nL own Ts) {q : Fin 4} {x : Int32} {lv' : List (Nat × Value)} (d : decode cc pc = .ok (.istore_n q, 1)) (i : Nat) (hi : (q : Nat) = i) (hn : i < nL) (hc : xchk lv = true) (hl' : xset lv i (.int x) = lv') (kk : xV X nL k n ws (pc + 1) lv' st) : xV X nL k n ws pc lv (.int x :: st) :=
  fun H locs ls hP hD hS hl => lv_istore_n h.1 h.2.1 d hi hl hn rfl (fun ls' hl2 => kk H locs ls' hP hD hS (hl' ▸ xset_has hc hl2))
theorem x_istore (h : xOK l D cx rm X cc nL own Ts) {q : Nat} {x : Int32} {lv' : List (Nat × Value)} (d : decode cc pc = .ok (.istore q, 2)) (hn : q < nL) (hc : xchk lv = true) (hl' : xset lv q (.int x) = lv') (kk : xV X nL k n ws (pc + 2) lv' st) : xV X nL k n ws pc lv (.int x :: st) :=
  fun H locs ls hP hD hS hl => lv_istore h.1 h.2.1 d hl hn rfl (fun ls' hl2 => kk H locs ls' hP hD hS (hl' ▸ xset_has hc hl2))
theorem x_aload_n (h : xOK l D cx rm X cc nL own Ts) {q : Fin 4} {x : Nat} (d : decode cc pc = .ok (.aload_n q, 1)) (j : Nat) (hj : lv[j]? = some ((q : Nat), .ref x)) (kk : xV X nL k n ws (pc + 1) lv (.ref x :: st)) : xV X nL k n ws pc lv st :=
  fun H locs ls hP hD hS hl => lv_aload_n h.1 h.2.1 d rfl (lv_at hl j hj) (kk H locs ls hP hD hS hl)
theorem x_aload (h : xOK l D cx rm X cc nL own Ts) {q : Nat} {x : Nat} (d : decode cc pc = .ok (.aload q, 2)) (j : Nat) (hj : lv[j]? = some (q, .ref x)) (kk : xV X nL k n ws (pc + 2) lv (.ref x :: st)) : xV X nL k n ws pc lv st :=
  fun H locs ls hP hD hS hl => lv_aload h.1 h.2.1 d (lv_at hl j hj) (kk H locs ls hP hD hS hl)
theorem x_astore_n (h : xOK l D cx rm X cc nL own Ts) {q : Fin 4} {x : Nat} {lv' : List (Nat × Value)} (d : decode cc pc = .ok (.astore_n q, 1)) (i : Nat) (hi : (q : Nat) = i) (hn : i < nL) (hc : xchk lv = true) (hl' : xset lv i (.ref x) = lv') (kk : xV X nL k n ws (pc + 1) lv' st) : xV X nL k n ws pc lv (.ref x :: st) :=
  fun H locs ls hP hD hS hl => lv_astore_n h.1 h.2.1 d hi hl hn rfl (fun ls' hl2 => kk H locs ls' hP hD hS (hl' ▸ xset_has hc hl2))
theorem x_astore (h : xOK l D cx rm X cc nL own Ts) {q : Nat} {x : Nat} {lv' : List (Nat × Value)} (d : decode cc pc = .ok (.astore q, 2)) (hn : q < nL) (hc : xchk lv = true) (hl' : xset lv q (.ref x) = lv') (kk : xV X nL k n ws (pc + 2) lv' st) : xV X nL k n ws pc lv (.ref x :: st) :=
  fun H locs ls hP hD hS hl => lv_astore h.1 h.2.1 d hl hn rfl (fun ls' hl2 => kk H locs ls' hP hD hS (hl' ▸ xset_has hc hl2))
theorem x_iinc (h : xOK l D cx rm X cc nL own Ts) {q : Nat} {z : Int} {x v : Int32} {lv' : List (Nat × Value)} (d : decode cc pc = .ok (.iinc q z, 3)) (j : Nat) (hj : lv[j]? = some (q, .int x)) (hv : x + Int32.ofInt z = v) (hn : q < nL) (hc : xchk lv = true) (hl' : xset lv q (.int v) = lv') (kk : xV X nL k n ws (pc + 3) lv' st) : xV X nL k n ws pc lv st :=
  fun H locs ls hP hD hS hl => lv_iinc h.1 h.2.1 d hl hj hv hn rfl (fun ls' hl2 => kk H locs ls' hP hD hS (hl' ▸ xset_has hc hl2))
theorem x_iadd (h : xOK l D cx rm X cc nL own Ts) {x y : Int32} (d : decode cc pc = .ok (.iadd, 1)) (kk : xV X nL k n ws (pc + 1) lv (.int (x + y) :: st)) : xV X nL k n ws pc lv (.int y :: .int x :: st) :=
  fun H locs ls hP hD hS hl => lv_iadd h.1 h.2.1 d (kk H locs ls hP hD hS hl)
theorem x_isub (h : xOK l D cx rm X cc nL own Ts) {x y : Int32} (d : decode cc pc = .ok (.isub, 1)) (kk : xV X nL k n ws (pc + 1) lv (.int (x - y) :: st)) : xV X nL k n ws pc lv (.int y :: .int x :: st) :=
  fun H locs ls hP hD hS hl => lv_isub h.1 h.2.1 d (kk H locs ls hP hD hS hl)
theorem x_imul (h : xOK l D cx rm X cc nL own Ts) {x y : Int32} (d : decode cc pc = .ok (.imul, 1)) (kk : xV X nL k n ws (pc + 1) lv (.int (x * y) :: st)) : xV X nL k n ws pc lv (.int y :: .int x :: st) :=
  fun H locs ls hP hD hS hl => lv_imul h.1 h.2.1 d (kk H locs ls hP hD hS hl)
theorem x_iand (h : xOK l D cx rm X cc nL own Ts) {x y : Int32} (d : decode cc pc = .ok (.iand, 1)) (kk : xV X nL k n ws (pc + 1) lv (.int (x &&& y) :: st)) : xV X nL k n ws pc lv (.int y :: .int x :: st) :=
  fun H locs ls hP hD hS hl => lv_iand h.1 h.2.1 d (kk H locs ls hP hD hS hl)
theorem x_ior (h : xOK l D cx rm X cc nL own Ts) {x y : Int32} (d : decode cc pc = .ok (.ior, 1)) (kk : xV X nL k n ws (pc + 1) lv (.int (x ||| y) :: st)) : xV X nL k n ws pc lv (.int y :: .int x :: st) :=
  fun H locs ls hP hD hS hl => lv_ior h.1 h.2.1 d (kk H locs ls hP hD hS hl)
theorem x_ishl (h : xOK l D cx rm X cc nL own Ts) {x y : Int32} (d : decode cc pc = .ok (.ishl, 1)) (kk : xV X nL k n ws (pc + 1) lv (.int (x <<< (y &&& 31)) :: st)) : xV X nL k n ws pc lv (.int y :: .int x :: st) :=
  fun H locs ls hP hD hS hl => lv_ishl h.1 h.2.1 d (kk H locs ls hP hD hS hl)
theorem x_ishr (h : xOK l D cx rm X cc nL own Ts) {x y : Int32} (d : decode cc pc = .ok (.ishr, 1)) (kk : xV X nL k n ws (pc + 1) lv (.int (x >>> (y &&& 31)) :: st)) : xV X nL k n ws pc lv (.int y :: .int x :: st) :=
  fun H locs ls hP hD hS hl => lv_ishr h.1 h.2.1 d (kk H locs ls hP hD hS hl)
theorem x_irem (h : xOK l D cx rm X cc nL own Ts) {x y : Int32} (d : decode cc pc = .ok (.irem, 1)) (hy : ¬ y = 0) (kk : xV X nL k n ws (pc + 1) lv (.int (x - x / y * y) :: st)) : xV X nL k n ws pc lv (.int y :: .int x :: st) :=
  fun H locs ls hP hD hS hl => lv_irem h.1 h.2.1 d hy (kk H locs ls hP hD hS hl)
theorem x_ineg (h : xOK l D cx rm X cc nL own Ts) {x : Int32} (d : decode cc pc = .ok (.ineg, 1)) (kk : xV X nL k n ws (pc + 1) lv (.int (-x) :: st)) : xV X nL k n ws pc lv (.int x :: st) :=
  fun H locs ls hP hD hS hl => lv_ineg h.1 h.2.1 d (kk H locs ls hP hD hS hl)
theorem x_iushr (h : xOK l D cx rm X cc nL own Ts) {x y : Int32} (d : decode cc pc = .ok (.iushr, 1)) (kk : xV X nL k n ws (pc + 1) lv (.int ((x.toUInt32 >>> (y.toUInt32 &&& Int32.toUInt32 31)).toInt32) :: st)) : xV X nL k n ws pc lv (.int y :: .int x :: st) :=
  fun H locs ls hP hD hS hl => lv_iushr h.1 h.2.1 d rfl (kk H locs ls hP hD hS hl)
theorem x_i2l (h : xOK l D cx rm X cc nL own Ts) {x : Int32} (d : decode cc pc = .ok (.i2l, 1)) (kk : xV X nL k n ws (pc + 1) lv (.long x.toInt64 :: st)) : xV X nL k n ws pc lv (.int x :: st) :=
  fun H locs ls hP hD hS hl => lv_i2l h.1 h.2.1 d rfl (kk H locs ls hP hD hS hl)
theorem x_lcmp (h : xOK l D cx rm X cc nL own Ts) {x y : Int64} (d : decode cc pc = .ok (.lcmp, 1)) (kk : xV X nL k n ws (pc + 1) lv (.int (lg_cmp x y) :: st)) : xV X nL k n ws pc lv (.long y :: .long x :: st) :=
  fun H locs ls hP hD hS hl => W.lcmp h.1 h.2.1 d (kk H locs ls hP hD hS hl)
theorem x_dup (h : xOK l D cx rm X cc nL own Ts) {va : Value} (d : decode cc pc = .ok (.dup, 1)) (hva : va.category = 1) (kk : xV X nL k n ws (pc + 1) lv (va :: va :: st)) : xV X nL k n ws pc lv (va :: st) :=
  fun H locs ls hP hD hS hl => lv_dup h.1 h.2.1 d hva (kk H locs ls hP hD hS hl)
theorem x_dup2 (h : xOK l D cx rm X cc nL own Ts) {va vb : Value} (d : decode cc pc = .ok (.dup2, 1)) (hva : va.category = 1) (hvb : vb.category = 1) (kk : xV X nL k n ws (pc + 1) lv (va :: vb :: va :: vb :: st)) : xV X nL k n ws pc lv (va :: vb :: st) :=
  fun H locs ls hP hD hS hl => lv_dup2_11 h.1 h.2.1 d hva hvb (kk H locs ls hP hD hS hl)
theorem x_pop (h : xOK l D cx rm X cc nL own Ts) {va : Value} (d : decode cc pc = .ok (.pop, 1)) (hva : va.category = 1) (kk : xV X nL k n ws (pc + 1) lv (st)) : xV X nL k n ws pc lv (va :: st) :=
  fun H locs ls hP hD hS hl => lv_pop h.1 h.2.1 d hva (kk H locs ls hP hD hS hl)
theorem x_goto (h : xOK l D cx rm X cc nL own Ts) {off : Int} (tgt : Nat) (d : decode cc pc = .ok (.goto off, 3)) (ht : (pc : Int) + off = (tgt : Int)) (kk : xV X nL k n ws tgt lv (st)) : xV X nL k n ws pc lv (st) :=
  fun H locs ls hP hD hS hl => lv_goto h.1 h.2.1 d ht (kk H locs ls hP hD hS hl)
theorem x_if_eq (h : xOK l D cx rm X cc nL own Ts) {x : Int32} {off : Int} (tgt : Nat) (d : decode cc pc = .ok (.ifCond .eq off, 3)) (ht : (pc : Int) + off = (tgt : Int)) (kt : x = 0 → xV X nL k n ws tgt lv st) (kf : ¬ x = 0 → xV X nL k n ws (pc + 3) lv st) : xV X nL k n ws pc lv (.int x :: st) :=
  fun H locs ls hP hD hS hl => lv_if_eq h.1 h.2.1 d ht (fun c => kt c H locs ls hP hD hS hl) (fun c => kf c H locs ls hP hD hS hl)
theorem x_if_ne (h : xOK l D cx rm X cc nL own Ts) {x : Int32} {off : Int} (tgt : Nat) (d : decode cc pc = .ok (.ifCond .ne off, 3)) (ht : (pc : Int) + off = (tgt : Int)) (kt : ¬ x = 0 → xV X nL k n ws tgt lv st) (kf : x = 0 → xV X nL k n ws (pc + 3) lv st) : xV X nL k n ws pc lv (.int x :: st) :=
  fun H locs ls hP hD hS hl => lv_if_ne h.1 h.2.1 d ht (fun c => kt c H locs ls hP hD hS hl) (fun c => kf c H locs ls hP hD hS hl)
theorem x_if_lt (h : xOK l D cx rm X cc nL own Ts) {x : Int32} {off : Int} (tgt : Nat) (d : decode cc pc = .ok (.ifCond .lt off, 3)) (ht : (pc : Int) + off = (tgt : Int)) (kt : x < 0 → xV X nL k n ws tgt lv st) (kf : ¬ x < 0 → xV X nL k n ws (pc + 3) lv st) : xV X nL k n ws pc lv (.int x :: st) :=
  fun H locs ls hP hD hS hl => lv_if_lt h.1 h.2.1 d ht (fun c => kt c H locs ls hP hD hS hl) (fun c => kf c H locs ls hP hD hS hl)
theorem x_if_ge (h : xOK l D cx rm X cc nL own Ts) {x : Int32} {off : Int} (tgt : Nat) (d : decode cc pc = .ok (.ifCond .ge off, 3)) (ht : (pc : Int) + off = (tgt : Int)) (kt : 0 ≤ x → xV X nL k n ws tgt lv st) (kf : ¬ 0 ≤ x → xV X nL k n ws (pc + 3) lv st) : xV X nL k n ws pc lv (.int x :: st) :=
  fun H locs ls hP hD hS hl => lv_if_ge h.1 h.2.1 d ht (fun c => kt c H locs ls hP hD hS hl) (fun c => kf c H locs ls hP hD hS hl)
theorem x_icmp_eq (h : xOK l D cx rm X cc nL own Ts) {x y : Int32} {off : Int} (tgt : Nat) (d : decode cc pc = .ok (.if_icmp .eq off, 3)) (ht : (pc : Int) + off = (tgt : Int)) (kt : x = y → xV X nL k n ws tgt lv st) (kf : ¬ x = y → xV X nL k n ws (pc + 3) lv st) : xV X nL k n ws pc lv (.int y :: .int x :: st) :=
  fun H locs ls hP hD hS hl => lv_icmp_eq h.1 h.2.1 d ht (fun c => kt c H locs ls hP hD hS hl) (fun c => kf c H locs ls hP hD hS hl)
theorem x_icmp_ne (h : xOK l D cx rm X cc nL own Ts) {x y : Int32} {off : Int} (tgt : Nat) (d : decode cc pc = .ok (.if_icmp .ne off, 3)) (ht : (pc : Int) + off = (tgt : Int)) (kt : ¬ x = y → xV X nL k n ws tgt lv st) (kf : x = y → xV X nL k n ws (pc + 3) lv st) : xV X nL k n ws pc lv (.int y :: .int x :: st) :=
  fun H locs ls hP hD hS hl => lv_icmp_ne h.1 h.2.1 d ht (fun c => kt c H locs ls hP hD hS hl) (fun c => kf c H locs ls hP hD hS hl)
theorem x_icmp_lt (h : xOK l D cx rm X cc nL own Ts) {x y : Int32} {off : Int} (tgt : Nat) (d : decode cc pc = .ok (.if_icmp .lt off, 3)) (ht : (pc : Int) + off = (tgt : Int)) (kt : x < y → xV X nL k n ws tgt lv st) (kf : ¬ x < y → xV X nL k n ws (pc + 3) lv st) : xV X nL k n ws pc lv (.int y :: .int x :: st) :=
  fun H locs ls hP hD hS hl => lv_icmp_lt h.1 h.2.1 d ht (fun c => kt c H locs ls hP hD hS hl) (fun c => kf c H locs ls hP hD hS hl)
theorem x_icmp_ge (h : xOK l D cx rm X cc nL own Ts) {x y : Int32} {off : Int} (tgt : Nat) (d : decode cc pc = .ok (.if_icmp .ge off, 3)) (ht : (pc : Int) + off = (tgt : Int)) (kt : y ≤ x → xV X nL k n ws tgt lv st) (kf : ¬ y ≤ x → xV X nL k n ws (pc + 3) lv st) : xV X nL k n ws pc lv (.int y :: .int x :: st) :=
  fun H locs ls hP hD hS hl => lv_icmp_ge h.1 h.2.1 d ht (fun c => kt c H locs ls hP hD hS hl) (fun c => kf c H locs ls hP hD hS hl)
theorem x_icmp_gt (h : xOK l D cx rm X cc nL own Ts) {x y : Int32} {off : Int} (tgt : Nat) (d : decode cc pc = .ok (.if_icmp .gt off, 3)) (ht : (pc : Int) + off = (tgt : Int)) (kt : y < x → xV X nL k n ws tgt lv st) (kf : ¬ y < x → xV X nL k n ws (pc + 3) lv st) : xV X nL k n ws pc lv (.int y :: .int x :: st) :=
  fun H locs ls hP hD hS hl => lv_icmp_gt h.1 h.2.1 d ht (fun c => kt c H locs ls hP hD hS hl) (fun c => kf c H locs ls hP hD hS hl)
theorem x_icmp_le (h : xOK l D cx rm X cc nL own Ts) {x y : Int32} {off : Int} (tgt : Nat) (d : decode cc pc = .ok (.if_icmp .le off, 3)) (ht : (pc : Int) + off = (tgt : Int)) (kt : x ≤ y → xV X nL k n ws tgt lv st) (kf : ¬ x ≤ y → xV X nL k n ws (pc + 3) lv st) : xV X nL k n ws pc lv (.int y :: .int x :: st) :=
  fun H locs ls hP hD hS hl => lv_icmp_le h.1 h.2.1 d ht (fun c => kt c H locs ls hP hD hS hl) (fun c => kf c H locs ls hP hD hS hl)
theorem x_ldc (h : xOK l D cx rm X cc nL own Ts) {index : Nat} {v : Int32} (d : decode cc pc = .ok (.ldc index, 2)) (hc : Jvm.Cond.constant own index v ∈ Ts) (kk : xV X nL k n ws (pc + 2) lv (.int v :: st)) : xV X nL k n ws pc lv st :=
  fun H locs ls hP hD hS hl => lv_ldc h.1 h.2.1 h.2.2.2.1 (h.2.2.2.2.1 _ hc) d (kk H locs ls hP hD hS hl)
theorem x_ldcw (h : xOK l D cx rm X cc nL own Ts) {index : Nat} {v : Int32} (d : decode cc pc = .ok (.ldc_w index, 3)) (hc : Jvm.Cond.constant own index v ∈ Ts) (kk : xV X nL k n ws (pc + 3) lv (.int v :: st)) : xV X nL k n ws pc lv st :=
  fun H locs ls hP hD hS hl => lv_ldcw h.1 h.2.1 h.2.2.2.1 (h.2.2.2.2.1 _ hc) d (kk H locs ls hP hD hS hl)
theorem x_lv {lv' : List (Nat × Value)} (ks : List Nat) (hl' : lv_pick lv ks = lv') (kk : xV X nL k n ws pc lv' st) : xV X nL k n ws pc lv st :=
  fun H locs ls hP hD hS hl => kk H locs ls hP hD hS (lv_sub hl ks hl')
theorem x_as {ws' : va_W} {lv' : List (Nat × Value)} (e1 : ws = ws') (e2 : lv = lv') (kk : xV X nL k n ws' pc lv' st) : xV X nL k n ws pc lv st := e1 ▸ e2 ▸ kk
theorem x_asr {ws' : va_W} {st' : List Value} (e1 : ws = ws') (e2 : st = st') (kk : xV X nL k n ws' pc lv st') : xV X nL k n ws pc lv st := e1 ▸ e2 ▸ kk
theorem x_eq {ws' : va_W} (e : ws = ws') (kk : xV X nL k n ws' pc lv st) : xV X nL k n ws pc lv st := e ▸ kk
theorem x_widen {k' n' : Nat} (hk : k ≤ k') (hn : n ≤ n') (kk : xV X nL k' n' ws pc lv st) : xV X nL k n ws pc lv st :=
  fun H locs ls hP hD hS hl => W.widen hk hn (kk H locs ls hP hD hS hl)
theorem x_get (h : xOK l D cx rm X cc nL own Ts) {index : Nat} {a ci : Nat} {fs : List Value} {C ref : String} {T : u_T} {N : Nat} {v : Value} (d : decode cc pc = .ok (.getfield index, 3)) (he : ws[0]? = some (a, .inr (ci, fs))) (hc : vwCl[ci]? = some (C, T, N)) (hin : ∀ w ∈ u_ws C T N, w ∈ Ts) (i : Nat) (hi : i < N) (hlink : Cond.fieldLink own index ref (T i).2.1 (T i).2.2.1 ∈ Ts) (href : (T i).1 = ref) (hv : fs[i]? = some v) (kk : xV X nL k n ws (pc + 3) lv (v :: st)) : xV X nL k n ws pc lv (.ref a :: st) := by
  intro H locs ls hP hD hS hl
  obtain ⟨hx, hb, hml, hown, hts, hK, hA, rfl, rfl, rfl, rfl⟩ := h
  exact va_get (D := X.2.2.2.1) (ci := ci) (v := v) (C := C) (T := T) (N := N) hx hb hts hin hown hK hP 0 he hc i hi (hts _ hlink) (fun _ h9 => by rw [← href]; exact h9) hv d (kk H locs ls hP hD hS hl)
theorem x_put (h : xOK l D cx rm X cc nL own Ts) {index : Nat} {a ci : Nat} {fs : List Value} {C ref : String} {T : u_T} {N : Nat} {x : Int32} {ws' : va_W} (d : decode cc pc = .ok (.putfield index, 3)) (he : ws[0]? = some (a, .inr (ci, fs))) (hc : vwCl[ci]? = some (C, T, N)) (hin : ∀ w ∈ u_ws C T N, w ∈ Ts) (ty0 : Nat → FieldType) (hty : ∀ k, k < N → parseFieldDescriptor (T k).2.2.1 = some (ty0 k)) (hnm : ∀ a, a < N → ∀ b, b < N → a ≠ b → (T a).2.1 ≠ (T b).2.1) (i : Nat) (hi : i < N) (hlink : Cond.fieldLink own index ref (T i).2.1 (T i).2.2.1 ∈ Ts) (href : (T i).1 = ref) (hfin : (T i).2.2.2 = false) (hd : ty0 i = .int) (hlen : i < fs.length) (hw' : ws.set 0 (a, .inr (ci, fs.set i (.int x))) = ws') (kk : xV X nL k n ws' (pc + 3) lv st) : xV X nL k n ws pc lv (.int x :: .ref a :: st) := by
  intro H locs ls hP hD hS hl
  obtain ⟨hx, hb, hml, hown, hts, hK, hA, rfl, rfl, rfl, rfl⟩ := h
  refine va_put (D := X.2.2.2.1) (ci := ci) (v := .int x) (ty := .int) (C := C) (T := T) (N := N) hx hb hts hin ty0 hty hnm hown hK hP hD hS 0 he hc i hi (hts _ hlink) (fun _ h9 => by rw [← href]; exact h9) hfin (by rw [hty i hi, hd]) rfl rfl hlen d (fun H1 locs1 hP1 hD1 hS1 => ?_)
  rw [hw'] at hP1 hD1
  exact kk H1 locs1 ls hP1 hD1 hS1 hl
theorem x_iald (h : xOK l D cx rm X cc nL own Ts) {a N : Nat} {f : Nat → Int32} {i : Int32} (d : decode cc pc = .ok (.iaload, 1)) (q0 : Nat) (ha : ws[q0]? = some (a, .inl (cx.1, N, .inl f))) (hin : vp_in i N) (kk : xV X nL k n ws (pc + 1) lv (.int (f i.toNatClampNeg) :: st)) : xV X nL k n ws pc lv (.int i :: .ref a :: st) := by
  intro H locs ls hP hD hS hl
  obtain ⟨hx, hb, hml, hown, hts, hK, hA, rfl, rfl, rfl, rfl⟩ := h
  exact va_iald hx hb hK hP q0 0 ha rfl hin d (kk H locs ls hP hD hS hl)
theorem x_zald (h : xOK l D cx rm X cc nL own Ts) {a N : Nat} {f : Nat → Int32} {i : Int32} (d : decode cc pc = .ok (.baload, 1)) (q0 : Nat) (ha : ws[q0]? = some (a, .inl (cx.2.1, N, .inl f))) (hin : vp_in i N) (kk : xV X nL k n ws (pc + 1) lv (.int (f i.toNatClampNeg) :: st)) : xV X nL k n ws pc lv (.int i :: .ref a :: st) := by
  intro H locs ls hP hD hS hl
  obtain ⟨hx, hb, hml, hown, hts, hK, hA, rfl, rfl, rfl, rfl⟩ := h
  exact va_zald hx hb hK hP q0 1 ha rfl hin d (kk H locs ls hP hD hS hl)
theorem x_lald (h : xOK l D cx rm X cc nL own Ts) {a N : Nat} {f : Nat → Int64} {i : Int32} (d : decode cc pc = .ok (.laload, 1)) (q0 : Nat) (ha : ws[q0]? = some (a, .inl (cx.2.2, N, .inr (.inl f)))) (hin : vp_in i N) (kk : xV X nL k n ws (pc + 1) lv (.long (f i.toNatClampNeg) :: st)) : xV X nL k n ws pc lv (.int i :: .ref a :: st) := by
  intro H locs ls hP hD hS hl
  obtain ⟨hx, hb, hml, hown, hts, hK, hA, rfl, rfl, rfl, rfl⟩ := h
  exact va_lald hx hb hK hP q0 2 ha rfl hin d (kk H locs ls hP hD hS hl)
theorem x_iast (h : xOK l D cx rm X cc nL own Ts) {a N : Nat} {f : Nat → Int32} {i x : Int32} {ws' : va_W} (d : decode cc pc = .ok (.iastore, 1)) (q0 : Nat) (ha : ws[q0]? = some (a, .inl (cx.1, N, .inl f))) (hin : vp_in i N) (hw' : ws.set q0 (a, .inl (cx.1, N, .inl (upd f i.toNatClampNeg x))) = ws') (kk : xV X nL k n ws' (pc + 1) lv st) : xV X nL k n ws pc lv (.int x :: .int i :: .ref a :: st) := by
  intro H locs ls hP hD hS hl
  obtain ⟨hx, hb, hml, hown, hts, hK, hA, rfl, rfl, rfl, rfl⟩ := h
  refine va_iast hx hb hK hP hD hS q0 0 ha rfl hin d (fun H1 locs1 hP1 hD1 hS1 => ?_)
  rw [hw'] at hP1 hD1
  exact kk H1 locs1 ls hP1 hD1 hS1 hl
theorem x_zast (h : xOK l D cx rm X cc nL own Ts) {a N : Nat} {f : Nat → Int32} {i x : Int32} {ws' : va_W} (d : decode cc pc = .ok (.bastore, 1)) (q0 : Nat) (ha : ws[q0]? = some (a, .inl (cx.2.1, N, .inl f))) (hin : vp_in i N) (hw' : ws.set q0 (a, .inl (cx.2.1, N, .inl (upd f i.toNatClampNeg (vp_nar .boolean x)))) = ws') (kk : xV X nL k n ws' (pc + 1) lv st) : xV X nL k n ws pc lv (.int x :: .int i :: .ref a :: st) := by
  intro H locs ls hP hD hS hl
  obtain ⟨hx, hb, hml, hown, hts, hK, hA, rfl, rfl, rfl, rfl⟩ := h
  refine va_zast hx hb hK hP hD hS q0 1 ha rfl hin d (fun H1 locs1 hP1 hD1 hS1 => ?_)
  rw [hw'] at hP1 hD1
  exact kk H1 locs1 ls hP1 hD1 hS1 hl
theorem x_last (h : xOK l D cx rm X cc nL own Ts) {a N : Nat} {f : Nat → Int64} {i : Int32} {x : Int64} {ws' : va_W} (d : decode cc pc = .ok (.lastore, 1)) (q0 : Nat) (ha : ws[q0]? = some (a, .inl (cx.2.2, N, .inr (.inl f)))) (hin : vp_in i N) (hw' : ws.set q0 (a, .inl (cx.2.2, N, .inr (.inl (vp_updL f i.toNatClampNeg x)))) = ws') (kk : xV X nL k n ws' (pc + 1) lv st) : xV X nL k n ws pc lv (.long x :: .int i :: .ref a :: st) := by
  intro H locs ls hP hD hS hl
  obtain ⟨hx, hb, hml, hown, hts, hK, hA, rfl, rfl, rfl, rfl⟩ := h
  refine va_last hx hb hK hP hD hS q0 2 ha rfl hin d (fun H1 locs1 hP1 hD1 hS1 => ?_)
  rw [hw'] at hP1 hD1
  exact kk H1 locs1 ls hP1 hD1 hS1 hl
theorem x_mmax (h : xOK l D cx rm X cc nL own Ts) {index : Nat} {x y : Int32} (d : decode cc pc = .ok (.invokestatic index, 3)) (hlink : Cond.methodLink own index Lib.Math.max.name ∈ Ts) (hstat : Cond.static Lib.Math.max.name ∈ Ts) (hini : Cond.initialized "java/lang/Math" ∈ Ts) (hcode : Cond.code Lib.Math.max.name Lib.Math.max.code 2 (some .int) ∈ Ts) (hR : 1 ≤ rm.frames ∧ (st.map fun v => v.category).sum + 13 ≤ rm.locals ∧ k ≤ rm.cells ∧ n ≤ rm.slots) (kk : xV X nL k n ws (pc + 3) lv (.int (if x < y then y else x) :: st)) : xV X nL k n ws pc lv (.int y :: .int x :: st) := by
  intro H locs ls hP hD hS hl
  obtain ⟨hx, hb, hml, hown, hts, hK, hA, rfl, rfl, rfl, rfl⟩ := h
  exact va_mmax hx hb (hml.trans hl.1.symm) hown (hts _ hlink) (hts _ hstat) (hts _ hini) (hts _ hcode) hR.1 hR.2.1 hR.2.2.1 hR.2.2.2 d (kk H locs ls hP hD hS hl)
theorem x_mmin (h : xOK l D cx rm X cc nL own Ts) {index : Nat} {x y : Int32} (d : decode cc pc = .ok (.invokestatic index, 3)) (hlink : Cond.methodLink own index Lib.Math.min.name ∈ Ts) (hstat : Cond.static Lib.Math.min.name ∈ Ts) (hini : Cond.initialized "java/lang/Math" ∈ Ts) (hcode : Cond.code Lib.Math.min.name Lib.Math.min.code 2 (some .int) ∈ Ts) (hR : 1 ≤ rm.frames ∧ (st.map fun v => v.category).sum + 13 ≤ rm.locals ∧ k ≤ rm.cells ∧ n ≤ rm.slots) (kk : xV X nL k n ws (pc + 3) lv (.int (if y < x then y else x) :: st)) : xV X nL k n ws pc lv (.int y :: .int x :: st) := by
  intro H locs ls hP hD hS hl
  obtain ⟨hx, hb, hml, hown, hts, hK, hA, rfl, rfl, rfl, rfl⟩ := h
  exact va_mmin hx hb (hml.trans hl.1.symm) hown (hts _ hlink) (hts _ hstat) (hts _ hini) (hts _ hcode) hR.1 hR.2.1 hR.2.2.1 hR.2.2.2 d (kk H locs ls hP hD hS hl)
end XROWS
end
section
/-! contracts over a world: xI (an int), xN (nothing); how a body proves one; how a call uses one -/
def xPre (D : va_G) (cx : xC) (W0 : va_W) (sz : Nat) : State → Prop := fun U => U.heap.size = sz ∧ va_P D vwCl W0 U.heap ∧ va_K D vwCl (xTy cx) U ∧ va_D (fun _ => True) W0
def xAt {S : Type} (D : va_G) (cx : xC) (A : Nat → Prop) (wf : S → va_W) : S → State → Prop := fun u t => va_P D vwCl (wf u) t.heap ∧ va_K D vwCl (xTy cx) t ∧ va_D A (wf u)
def xI {S : Type} (l : Launch) (y : MethodName) (wsC : List Cond) (rm : Room) (D : va_G) (cx : xC) (av : List Value) (W0 : va_W) (wf : S → va_W) (post : Int32 → S → Prop) : Prop :=
  ∀ sz : Nat, Met l y wsC rm (va_Pc av (xPre D cx W0 sz)) (va_Qi post (xAt D cx (va_A W0 sz) wf) (va_A W0 sz)) 0 0 (va_A W0 sz)
def xN {S : Type} (l : Launch) (y : MethodName) (wsC : List Cond) (rm : Room) (D : va_G) (cx : xC) (av : List Value) (W0 : va_W) (wf : S → va_W) (post : S → Prop) : Prop :=
  ∀ sz : Nat, Met l y wsC rm (va_Pc av (xPre D cx W0 sz)) (va_Qv post (xAt D cx (va_A W0 sz) wf) (va_A W0 sz)) 0 0 (va_A W0 sz)
theorem xPre_blind {D : va_G} {cx : xC} {W0 : va_W} {sz : Nat} {av : List Value} : FrameBlind (va_Pc av (xPre D cx W0 sz)) :=
  fun a U g mk q => ⟨q.1, q.2.1, q.2.2.1, va_K.moved (u := U) (U := U.calling g mk a) (Vm.Alike.refl U.vm) q.2.2.2.1, q.2.2.2.2⟩
theorem x_enterI {S : Type} {l : Launch} {y : MethodName} {wsC wsC' : List Cond} {rm : Room} {D : va_G} {cx : xC} {av : List Value} {W0 : va_W} {wf : S → va_W} {post : Int32 → S → Prop} {cc : ByteArray} {nL : Nat} {own : String} {ret : FieldType} (hy : plainName y.cls = true) (hw : wsC = .code y cc nL (some ret) :: wsC') (hcls : y.cls = own)
    (hret : ∀ v u, post v u → narrow ret (.int v) = .int v) (hlen : (lg_sl av).length ≤ nL)
    (body : ∀ X : xX, xOK l D cx rm X cc nL own wsC → (∀ (v : Int32) (u : S) (pc : Nat) (lv : List (Nat × Value)), post v u → decode cc pc = .ok (.ireturn, 1) → xV X nL 0 0 (wf u) pc lv [.int v]) → xV X nL 0 0 W0 0 (lv_args 0 av) []) : xI l y wsC rm D cx av W0 wf post := by
  intro sz
  refine Met.ofW (cc := cc) (maxL := nL) (ret := some ret) hy hw ?_
  intro p e s m args below meth c s₁ B hml hv
  obtain ⟨rfl, hsz, hP, hK, hD0⟩ := hv
  subst hsz
  have hx := B.exec
  have hb := B.bytes
  have hr := B.returns
  have hts := atoms_spec (ws := wsC) B.pre
  have hown : s.vm.findClass own = some m.cls := hcls ▸ findClass_of_methodNamed B.named
  have hlocks := B.notSynchronized
  have hD : va_D (va_A W0 s.heap.size) W0 := hD0.self
  have hl := lv_entry av (n := nL) hlen
  rw [lg_entry_eq]
  refine body ((p, l, e, (headSpec wsC rm).room), (s, m, av.toArray, below), (meth, c, MQ below (va_Qi post (xAt D cx (va_A W0 s.heap.size) wf) (va_A W0 s.heap.size)) av.toArray s 0 0 (va_A W0 s.heap.size)), (D, cx, va_A W0 s.heap.size)) ⟨hx, hb, hml, hown, hts, hK, fun q h => Or.inr h, rfl, rfl, rfl, rfl⟩ ?_ s.heap [] _ hP hD va_S.rf hl
  intro v u pc lv hp hd H locs ls hP hD hS hl
  exact W.zret hx hb hr (hret v u hp) (fun t ht hW => ⟨⟨v, u, rfl, hp, by rw [ht]; exact hP, va_K.moved hW.alike hK, hD⟩, hS.F ht⟩) hS.2.2 hd hlocks
theorem x_enterN {S : Type} {l : Launch} {y : MethodName} {wsC wsC' : List Cond} {rm : Room} {D : va_G} {cx : xC} {av : List Value} {W0 : va_W} {wf : S → va_W} {post : S → Prop} {cc : ByteArray} {nL : Nat} {own : String} (hy : plainName y.cls = true) (hw : wsC = .code y cc nL none :: wsC') (hcls : y.cls = own) (hlen : (lg_sl av).length ≤ nL)
    (body : ∀ X : xX, xOK l D cx rm X cc nL own wsC → (∀ (u : S) (pc : Nat) (lv : List (Nat × Value)), post u → decode cc pc = .ok (.return_, 1) → xV X nL 0 0 (wf u) pc lv []) → xV X nL 0 0 W0 0 (lv_args 0 av) []) : xN l y wsC rm D cx av W0 wf post := by
  intro sz
  refine Met.ofW (cc := cc) (maxL := nL) (ret := none) hy hw ?_
  intro p e s m args below meth c s₁ B hml hv
  obtain ⟨rfl, hsz, hP, hK, hD0⟩ := hv
  subst hsz
  have hx := B.exec
  have hb := B.bytes
  have hr := B.returns
  have hts := atoms_spec (ws := wsC) B.pre
  have hown : s.vm.findClass own = some m.cls := hcls ▸ findClass_of_methodNamed B.named
  have hlocks := B.notSynchronized
  have hD : va_D (va_A W0 s.heap.size) W0 := hD0.self
  have hl := lv_entry av (n := nL) hlen
  rw [lg_entry_eq]
  refine body ((p, l, e, (headSpec wsC rm).room), (s, m, av.toArray, below), (meth, c, MQ below (va_Qv post (xAt D cx (va_A W0 s.heap.size) wf) (va_A W0 s.heap.size)) av.toArray s 0 0 (va_A W0 s.heap.size)), (D, cx, va_A W0 s.heap.size)) ⟨hx, hb, hml, hown, hts, hK, fun q h => Or.inr h, rfl, rfl, rfl, rfl⟩ ?_ s.heap [] _ hP hD va_S.rf hl
  intro u pc lv hp hd H locs ls hP hD hS hl
  exact W.vret hx hb hr (fun t ht hW => ⟨⟨u, rfl, hp, by rw [ht]; exact hP, va_K.moved hW.alike hK, hD⟩, hS.F ht⟩) hS.2.2 hd hlocks
section XCALL
variable {l : Launch} {D : va_G} {cx : xC} {rm : Room} {X : xX} {cc : ByteArray} {nL : Nat} {own : String} {Ts : List Cond} {k n pc : Nat} {ws : va_W} {lv : List (Nat × Value)} {st : List Value}
/-- a method of the object whose world this is, called on it: the whole world goes along -/
theorem x_cvi {S : Type} (h : xOK l D cx rm X cc nL own Ts) {y : MethodName} {cc2 : ByteArray} {nL2 idx : Nat} {ret : FieldType} {wsC wsC' : List Cond} {rmC : Room} {As : List Value} {b ci : Nat} {fs : List Value} {C : String} {T : u_T} {N : Nat} {wf : S → va_W} {post : Int32 → S → Prop} {st0 : List Value} (d : decode cc pc = .ok (.invokevirtual idx, 3)) (na : Nat) (hna : As.length = na) (hM : xI l y wsC rmC D cx (.ref b :: As) ws wf post) (hg : GoodIn Ts (wsV own idx C y wsC)) (hw : wsC = .code y cc2 nL2 (some ret) :: wsC')
    (hd : y.cls = C ∧ y.cls ≠ "java/lang/invoke/MethodHandle" ∧ y.cls ≠ "java/lang/invoke/VarHandle" ∧ (parseMethodDescriptor y.desc).map (fun d => d.parameters.length) = some na) (hrm : rmC.cells = 0 ∧ rmC.slots = 0 ∧ rmC.frames + 1 ≤ rm.frames ∧ 8 + (nL2 + 11) + rmC.locals ≤ rm.locals ∧ k ≤ rm.cells ∧ n ≤ rm.slots)
    (he : ws[0]? = some (b, .inr (ci, fs))) (hc : vwCl[ci]? = some (C, T, N)) (hst : (st.map fun v => v.category).sum ≤ 8) (hs0 : st0 = As.reverse ++ .ref b :: st) (kk : ∀ (r : Int32) (u : S), post r u → xV X nL k n (wf u) (pc + 3) lv (.int r :: st)) : xV X nL k n ws pc lv st0 := by
  intro H locs ls hP hD hS hl
  obtain ⟨hx, hb, hml, hown, hts, hK, hA, rfl, rfl, rfl, rfl⟩ := h
  subst hs0
  subst hna
  have hF : ∀ q, va_A ws H.size q → X.2.2.2.2.2 q := fun q h => h.elim (fun ⟨k, e, h⟩ => hD.2 k (q, e) h) (fun h => hA q (Nat.le_trans hS.1 h))
  refine va_calli (va_runV (As := As) (rest := st) ⟨hx, hb, hml, hown, hts⟩ (hM H.size) (cwV As.length hts hg hw hrm.1 hrm.2.1 hd ⟨hrm.2.2.1, hrm.2.2.2.1⟩) ⟨xPre_blind, va_recv hK hP hc he, fun U hU hW => ⟨rfl, by rw [hU], by rw [hU]; exact hP, va_K.moved hW.alike hK, hD.weaken (fun _ _ _ _ => trivial)⟩⟩ rfl rfl hl.1 rfl (lv_room hst) d ⟨hrm.2.2.2.2.1, hrm.2.2.2.2.2⟩) hS (fun q _ h => hF q h) hF (fun r u t H1 locs1 ht hvm hw hB hz1 hk1 hS1 => ?_)
  obtain ⟨hP1, hK1, hD1⟩ := hB
  rw [ht] at hP1
  exact kk r u hw H1 locs1 ls hP1 (hD1.weaken (fun _ q _ h => hF q.1 h)) hS1 hl
theorem x_cvn {S : Type} (h : xOK l D cx rm X cc nL own Ts) {y : MethodName} {cc2 : ByteArray} {nL2 idx : Nat} {wsC wsC' : List Cond} {rmC : Room} {As : List Value} {b ci : Nat} {fs : List Value} {C : String} {T : u_T} {N : Nat} {wf : S → va_W} {post : S → Prop} {st0 : List Value} (d : decode cc pc = .ok (.invokevirtual idx, 3)) (na : Nat) (hna : As.length = na) (hM : xN l y wsC rmC D cx (.ref b :: As) ws wf post) (hg : GoodIn Ts (wsV own idx C y wsC)) (hw : wsC = .code y cc2 nL2 none :: wsC')
    (hd : y.cls = C ∧ y.cls ≠ "java/lang/invoke/MethodHandle" ∧ y.cls ≠ "java/lang/invoke/VarHandle" ∧ (parseMethodDescriptor y.desc).map (fun d => d.parameters.length) = some na) (hrm : rmC.cells = 0 ∧ rmC.slots = 0 ∧ rmC.frames + 1 ≤ rm.frames ∧ 8 + (nL2 + 11) + rmC.locals ≤ rm.locals ∧ k ≤ rm.cells ∧ n ≤ rm.slots)
    (he : ws[0]? = some (b, .inr (ci, fs))) (hc : vwCl[ci]? = some (C, T, N)) (hst : (st.map fun v => v.category).sum ≤ 8) (hs0 : st0 = As.reverse ++ .ref b :: st) (kk : ∀ (u : S), post u → xV X nL k n (wf u) (pc + 3) lv st) : xV X nL k n ws pc lv st0 := by
  intro H locs ls hP hD hS hl
  obtain ⟨hx, hb, hml, hown, hts, hK, hA, rfl, rfl, rfl, rfl⟩ := h
  subst hs0
  subst hna
  have hF : ∀ q, va_A ws H.size q → X.2.2.2.2.2 q := fun q h => h.elim (fun ⟨k, e, h⟩ => hD.2 k (q, e) h) (fun h => hA q (Nat.le_trans hS.1 h))
  refine va_callv (va_runV (As := As) (rest := st) ⟨hx, hb, hml, hown, hts⟩ (hM H.size) (cwV As.length hts hg hw hrm.1 hrm.2.1 hd ⟨hrm.2.2.1, hrm.2.2.2.1⟩) ⟨xPre_blind, va_recv hK hP hc he, fun U hU hW => ⟨rfl, by rw [hU], by rw [hU]; exact hP, va_K.moved hW.alike hK, hD.weaken (fun _ _ _ _ => trivial)⟩⟩ rfl rfl hl.1 rfl (lv_room hst) d ⟨hrm.2.2.2.2.1, hrm.2.2.2.2.2⟩) hS (fun q _ h => hF q h) hF (fun u t H1 locs1 ht hvm hw hB hz1 hk1 hS1 => ?_)
  obtain ⟨hP1, hK1, hD1⟩ := hB
  rw [ht] at hP1
  exact kk u hw H1 locs1 ls hP1 (hD1.weaken (fun _ q _ h => hF q.1 h)) hS1 hl
/-- a static method that needs no world -/
theorem x_csi {S : Type} (h : xOK l D cx rm X cc nL own Ts) {y : MethodName} {cc2 : ByteArray} {nL2 idx : Nat} {ret : FieldType} {wsC wsC' : List Cond} {rmC : Room} {As : List Value} {wf : S → va_W} {post : Int32 → S → Prop} {st0 : List Value} (d : decode cc pc = .ok (.invokestatic idx, 3)) (na : Nat) (hna : As.length = na) (hM : xI l y wsC rmC D cx As [] wf post) (hg : GoodIn Ts (va_wsS own idx y wsC)) (hw : wsC = .code y cc2 nL2 (some ret) :: wsC')
    (hd : y.cls ≠ "java/lang/invoke/MethodHandle" ∧ y.cls ≠ "java/lang/invoke/VarHandle" ∧ (parseMethodDescriptor y.desc).map (fun d => d.parameters.length) = some na) (hrm : rmC.cells = 0 ∧ rmC.slots = 0 ∧ rmC.frames + 1 ≤ rm.frames ∧ 8 + (nL2 + 11) + rmC.locals ≤ rm.locals ∧ k ≤ rm.cells ∧ n ≤ rm.slots)
    (hst : (st.map fun v => v.category).sum ≤ 8) (hs0 : st0 = As.reverse ++ st) (kk : ∀ (r : Int32) (u : S), post r u → xV X nL k n ws (pc + 3) lv (.int r :: st)) : xV X nL k n ws pc lv st0 := by
  intro H locs ls hP hD hS hl
  obtain ⟨hx, hb, hml, hown, hts, hK, hA, rfl, rfl, rfl, rfl⟩ := h
  subst hs0
  subst hna
  have hF : ∀ q, va_A [] H.size q → X.2.2.2.2.2 q := fun q h => h.elim (fun ⟨k, e, h⟩ => by simp at h) (fun h => hA q (Nat.le_trans hS.1 h))
  refine va_calli (va_runS (As := As) (rest := st) ⟨hx, hb, hml, hown, hts⟩ (hM H.size) (va_cwS As.length hts hg hw hrm.1 hrm.2.1 hd ⟨hrm.2.2.1, hrm.2.2.2.1⟩) ⟨xPre_blind, fun U hU hW => ⟨rfl, by rw [hU], fun k q h => by simp at h, va_K.moved hW.alike hK, ⟨fun i j p q h => by simp at h, fun k q h => by simp at h⟩⟩⟩ rfl rfl hl.1 rfl (lv_room hst) d ⟨hrm.2.2.2.2.1, hrm.2.2.2.2.2⟩) hS (fun q _ h => hF q h) hF (fun r u t H1 locs1 ht hvm hw hB hz1 hk1 hS1 => ?_)
  exact kk r u hw H1 locs1 ls (hP.kept (fun k q hk => hk1 q.1 (hP k q hk).lt (fun h => h.elim (fun ⟨k, e, h⟩ => by simp at h) (fun h => absurd (hP k q hk).lt (Nat.not_lt.mpr h))))) hD hS1 hl
end XCALL
end
section
/-! the worlds: of the class (wX) and of the reference (wM), as functions of addresses and of a state (field, place) -/
def xup (s : xS) (j i : Nat) (v : Int32) : xS := fun q => if q = j then upd (s j) i v else s q
theorem xup_s (s : xS) (j i : Nat) (v : Int32) : xup s j i v j = upd (s j) i v := if_pos rfl
theorem xup_n {s : xS} {j i q : Nat} {v : Int32} (h : q ≠ j) : xup s j i v q = s q := if_neg h
theorem xup_ss (s : xS) (j i : Nat) (v : Int32) : xup s j i v j i = v := by rw [xup_s]; exact if_pos rfl
theorem xup_sn {s : xS} {j i q : Nat} {v : Int32} (h : q ≠ i) : xup s j i v j q = s j q := by rw [xup_s]; exact if_neg h
abbrev xR (f lo : Nat) : Room := { frames := f, cells := 0, slots := 0, locals := lo }
def oX (h : Nat → Nat) (s : xS) : List Value := [.ref (h 1), .ref (h 2), .ref (h 3), .ref (h 4), .ref (h 5), .ref (h 6), .ref (h 7), .ref (h 8), .ref (h 9), .ref (h 10), .ref (h 11), .ref (h 12), .int (s 12 0), .int (s 13 0), .ref (h 15), .ref (h 16)]
def wX (c : xC) (h : Nat → Nat) (s : xS) : va_W := [(h 0, .inr (0, oX h s)), (h 1, .inl (c.1, 60, .inl (s 0))), (h 2, .inl (c.1, 60, .inl (s 1))), (h 3, .inl (c.1, 60, .inl (s 2))), (h 4, .inl (c.1, 60, .inl (s 3))), (h 5, .inl (c.1, 60, .inl (s 4))), (h 6, .inl (c.1, 60, .inl (s 5))), (h 7, .inl (c.1, 60, .inl (s 6))), (h 8, .inl (c.2.1, 60, .inl (s 7))), (h 9, .inl (c.1, 8, .inl (s 8))), (h 10, .inl (c.1, 8, .inl (s 9))), (h 11, .inl (c.1, 4, .inl (s 10))), (h 12, .inl (c.1, 16, .inl (s 11))), (h 15, .inl (c.1, 60, .inl (s 14))), (h 16, .inl (c.1, 8, .inl (s 15)))]
section XWX
variable {l : Launch} {D : va_G} {cx : xC} {rm : Room} {X : xX} {cc : ByteArray} {nL : Nat} {Ts : List Cond} {k n pc : Nat} {lv : List (Nat × Value)} {st : List Value} {h : Nat → Nat} {s : xS}
theorem gX0 (hX : xOK l D cx rm X cc nL RX0 Ts) (hin : ∀ w ∈ wsX00, w ∈ Ts) (hl : Cond.fieldLink RX0 9 RX0 "senders" "[I" ∈ Ts) (d : decode cc pc = .ok (.getfield 9, 3)) (kk : xV X nL k n (wX cx h s) (pc + 3) lv (.ref (h 1) :: st)) : xV X nL k n (wX cx h s) pc lv (.ref (h 0) :: st) :=
  x_get hX d rfl rfl hin 0 (by decide) hl rfl rfl kk
theorem lX0 (hX : xOK l D cx rm X cc nL RX0 Ts) {i : Int32} (d : decode cc pc = .ok (.iaload, 1)) (hi : vp_in i 60) {j : Nat} (e : i.toNatClampNeg = j) (kk : xV X nL k n (wX cx h s) (pc + 1) lv (.int (s 0 j) :: st)) : xV X nL k n (wX cx h s) pc lv (.int i :: .ref (h 1) :: st) :=
  x_iald hX d 1 rfl hi (e ▸ kk)
theorem sX0 (hX : xOK l D cx rm X cc nL RX0 Ts) {i v : Int32} (d : decode cc pc = .ok (.iastore, 1)) (hi : vp_in i 60) {j : Nat} (e : i.toNatClampNeg = j) (kk : xV X nL k n (wX cx h (xup s 0 j (v))) (pc + 1) lv st) : xV X nL k n (wX cx h s) pc lv (.int v :: .int i :: .ref (h 1) :: st) :=
  x_iast hX d 1 rfl hi rfl (e ▸ kk)
theorem gX1 (hX : xOK l D cx rm X cc nL RX0 Ts) (hin : ∀ w ∈ wsX00, w ∈ Ts) (hl : Cond.fieldLink RX0 13 RX0 "readers" "[I" ∈ Ts) (d : decode cc pc = .ok (.getfield 13, 3)) (kk : xV X nL k n (wX cx h s) (pc + 3) lv (.ref (h 2) :: st)) : xV X nL k n (wX cx h s) pc lv (.ref (h 0) :: st) :=
  x_get hX d rfl rfl hin 1 (by decide) hl rfl rfl kk
theorem lX1 (hX : xOK l D cx rm X cc nL RX0 Ts) {i : Int32} (d : decode cc pc = .ok (.iaload, 1)) (hi : vp_in i 60) {j : Nat} (e : i.toNatClampNeg = j) (kk : xV X nL k n (wX cx h s) (pc + 1) lv (.int (s 1 j) :: st)) : xV X nL k n (wX cx h s) pc lv (.int i :: .ref (h 2) :: st) :=
  x_iald hX d 2 rfl hi (e ▸ kk)
theorem sX1 (hX : xOK l D cx rm X cc nL RX0 Ts) {i v : Int32} (d : decode cc pc = .ok (.iastore, 1)) (hi : vp_in i 60) {j : Nat} (e : i.toNatClampNeg = j) (kk : xV X nL k n (wX cx h (xup s 1 j (v))) (pc + 1) lv st) : xV X nL k n (wX cx h s) pc lv (.int v :: .int i :: .ref (h 2) :: st) :=
  x_iast hX d 2 rfl hi rfl (e ▸ kk)
theorem gX2 (hX : xOK l D cx rm X cc nL RX0 Ts) (hin : ∀ w ∈ wsX00, w ∈ Ts) (hl : Cond.fieldLink RX0 16 RX0 "stakes" "[I" ∈ Ts) (d : decode cc pc = .ok (.getfield 16, 3)) (kk : xV X nL k n (wX cx h s) (pc + 3) lv (.ref (h 3) :: st)) : xV X nL k n (wX cx h s) pc lv (.ref (h 0) :: st) :=
  x_get hX d rfl rfl hin 2 (by decide) hl rfl rfl kk
theorem lX2 (hX : xOK l D cx rm X cc nL RX0 Ts) {i : Int32} (d : decode cc pc = .ok (.iaload, 1)) (hi : vp_in i 60) {j : Nat} (e : i.toNatClampNeg = j) (kk : xV X nL k n (wX cx h s) (pc + 1) lv (.int (s 2 j) :: st)) : xV X nL k n (wX cx h s) pc lv (.int i :: .ref (h 3) :: st) :=
  x_iald hX d 3 rfl hi (e ▸ kk)
theorem sX2 (hX : xOK l D cx rm X cc nL RX0 Ts) {i v : Int32} (d : decode cc pc = .ok (.iastore, 1)) (hi : vp_in i 60) {j : Nat} (e : i.toNatClampNeg = j) (kk : xV X nL k n (wX cx h (xup s 2 j (v))) (pc + 1) lv st) : xV X nL k n (wX cx h s) pc lv (.int v :: .int i :: .ref (h 3) :: st) :=
  x_iast hX d 3 rfl hi rfl (e ▸ kk)
theorem gX3 (hX : xOK l D cx rm X cc nL RX0 Ts) (hin : ∀ w ∈ wsX00, w ∈ Ts) (hl : Cond.fieldLink RX0 19 RX0 "states" "[I" ∈ Ts) (d : decode cc pc = .ok (.getfield 19, 3)) (kk : xV X nL k n (wX cx h s) (pc + 3) lv (.ref (h 4) :: st)) : xV X nL k n (wX cx h s) pc lv (.ref (h 0) :: st) :=
  x_get hX d rfl rfl hin 3 (by decide) hl rfl rfl kk
theorem lX3 (hX : xOK l D cx rm X cc nL RX0 Ts) {i : Int32} (d : decode cc pc = .ok (.iaload, 1)) (hi : vp_in i 60) {j : Nat} (e : i.toNatClampNeg = j) (kk : xV X nL k n (wX cx h s) (pc + 1) lv (.int (s 3 j) :: st)) : xV X nL k n (wX cx h s) pc lv (.int i :: .ref (h 4) :: st) :=
  x_iald hX d 4 rfl hi (e ▸ kk)
theorem sX3 (hX : xOK l D cx rm X cc nL RX0 Ts) {i v : Int32} (d : decode cc pc = .ok (.iastore, 1)) (hi : vp_in i 60) {j : Nat} (e : i.toNatClampNeg = j) (kk : xV X nL k n (wX cx h (xup s 3 j (v))) (pc + 1) lv st) : xV X nL k n (wX cx h s) pc lv (.int v :: .int i :: .ref (h 4) :: st) :=
  x_iast hX d 4 rfl hi rfl (e ▸ kk)
theorem gX4 (hX : xOK l D cx rm X cc nL RX0 Ts) (hin : ∀ w ∈ wsX00, w ∈ Ts) (hl : Cond.fieldLink RX0 22 RX0 "places" "[I" ∈ Ts) (d : decode cc pc = .ok (.getfield 22, 3)) (kk : xV X nL k n (wX cx h s) (pc + 3) lv (.ref (h 5) :: st)) : xV X nL k n (wX cx h s) pc lv (.ref (h 0) :: st) :=
  x_get hX d rfl rfl hin 4 (by decide) hl rfl rfl kk
theorem lX4 (hX : xOK l D cx rm X cc nL RX0 Ts) {i : Int32} (d : decode cc pc = .ok (.iaload, 1)) (hi : vp_in i 60) {j : Nat} (e : i.toNatClampNeg = j) (kk : xV X nL k n (wX cx h s) (pc + 1) lv (.int (s 4 j) :: st)) : xV X nL k n (wX cx h s) pc lv (.int i :: .ref (h 5) :: st) :=
  x_iald hX d 5 rfl hi (e ▸ kk)
theorem sX4 (hX : xOK l D cx rm X cc nL RX0 Ts) {i v : Int32} (d : decode cc pc = .ok (.iastore, 1)) (hi : vp_in i 60) {j : Nat} (e : i.toNatClampNeg = j) (kk : xV X nL k n (wX cx h (xup s 4 j (v))) (pc + 1) lv st) : xV X nL k n (wX cx h s) pc lv (.int v :: .int i :: .ref (h 5) :: st) :=
  x_iast hX d 5 rfl hi rfl (e ▸ kk)
theorem gX5 (hX : xOK l D cx rm X cc nL RX0 Ts) (hin : ∀ w ∈ wsX00, w ∈ Ts) (hl : Cond.fieldLink RX0 25 RX0 "relaysSeen" "[I" ∈ Ts) (d : decode cc pc = .ok (.getfield 25, 3)) (kk : xV X nL k n (wX cx h s) (pc + 3) lv (.ref (h 6) :: st)) : xV X nL k n (wX cx h s) pc lv (.ref (h 0) :: st) :=
  x_get hX d rfl rfl hin 5 (by decide) hl rfl rfl kk
theorem lX5 (hX : xOK l D cx rm X cc nL RX0 Ts) {i : Int32} (d : decode cc pc = .ok (.iaload, 1)) (hi : vp_in i 60) {j : Nat} (e : i.toNatClampNeg = j) (kk : xV X nL k n (wX cx h s) (pc + 1) lv (.int (s 5 j) :: st)) : xV X nL k n (wX cx h s) pc lv (.int i :: .ref (h 6) :: st) :=
  x_iald hX d 6 rfl hi (e ▸ kk)
theorem sX5 (hX : xOK l D cx rm X cc nL RX0 Ts) {i v : Int32} (d : decode cc pc = .ok (.iastore, 1)) (hi : vp_in i 60) {j : Nat} (e : i.toNatClampNeg = j) (kk : xV X nL k n (wX cx h (xup s 5 j (v))) (pc + 1) lv st) : xV X nL k n (wX cx h s) pc lv (.int v :: .int i :: .ref (h 6) :: st) :=
  x_iast hX d 6 rfl hi rfl (e ▸ kk)
theorem gX6 (hX : xOK l D cx rm X cc nL RX0 Ts) (hin : ∀ w ∈ wsX00, w ∈ Ts) (hl : Cond.fieldLink RX0 28 RX0 "deliveryTimes" "[I" ∈ Ts) (d : decode cc pc = .ok (.getfield 28, 3)) (kk : xV X nL k n (wX cx h s) (pc + 3) lv (.ref (h 7) :: st)) : xV X nL k n (wX cx h s) pc lv (.ref (h 0) :: st) :=
  x_get hX d rfl rfl hin 6 (by decide) hl rfl rfl kk
theorem lX6 (hX : xOK l D cx rm X cc nL RX0 Ts) {i : Int32} (d : decode cc pc = .ok (.iaload, 1)) (hi : vp_in i 60) {j : Nat} (e : i.toNatClampNeg = j) (kk : xV X nL k n (wX cx h s) (pc + 1) lv (.int (s 6 j) :: st)) : xV X nL k n (wX cx h s) pc lv (.int i :: .ref (h 7) :: st) :=
  x_iald hX d 7 rfl hi (e ▸ kk)
theorem sX6 (hX : xOK l D cx rm X cc nL RX0 Ts) {i v : Int32} (d : decode cc pc = .ok (.iastore, 1)) (hi : vp_in i 60) {j : Nat} (e : i.toNatClampNeg = j) (kk : xV X nL k n (wX cx h (xup s 6 j (v))) (pc + 1) lv st) : xV X nL k n (wX cx h s) pc lv (.int v :: .int i :: .ref (h 7) :: st) :=
  x_iast hX d 7 rfl hi rfl (e ▸ kk)
theorem gX7 (hX : xOK l D cx rm X cc nL RX0 Ts) (hin : ∀ w ∈ wsX00, w ∈ Ts) (hl : Cond.fieldLink RX0 31 RX0 "falselyMarked" "[Z" ∈ Ts) (d : decode cc pc = .ok (.getfield 31, 3)) (kk : xV X nL k n (wX cx h s) (pc + 3) lv (.ref (h 8) :: st)) : xV X nL k n (wX cx h s) pc lv (.ref (h 0) :: st) :=
  x_get hX d rfl rfl hin 7 (by decide) hl rfl rfl kk
theorem lX7 (hX : xOK l D cx rm X cc nL RX0 Ts) {i : Int32} (d : decode cc pc = .ok (.baload, 1)) (hi : vp_in i 60) {j : Nat} (e : i.toNatClampNeg = j) (kk : xV X nL k n (wX cx h s) (pc + 1) lv (.int (s 7 j) :: st)) : xV X nL k n (wX cx h s) pc lv (.int i :: .ref (h 8) :: st) :=
  x_zald hX d 8 rfl hi (e ▸ kk)
theorem sX7 (hX : xOK l D cx rm X cc nL RX0 Ts) {i v : Int32} (d : decode cc pc = .ok (.bastore, 1)) (hi : vp_in i 60) {j : Nat} (e : i.toNatClampNeg = j) (kk : xV X nL k n (wX cx h (xup s 7 j (vp_nar .boolean v))) (pc + 1) lv st) : xV X nL k n (wX cx h s) pc lv (.int v :: .int i :: .ref (h 8) :: st) :=
  x_zast hX d 8 rfl hi rfl (e ▸ kk)
theorem gX8 (hX : xOK l D cx rm X cc nL RX0 Ts) (hin : ∀ w ∈ wsX00, w ∈ Ts) (hl : Cond.fieldLink RX0 35 RX0 "purses" "[I" ∈ Ts) (d : decode cc pc = .ok (.getfield 35, 3)) (kk : xV X nL k n (wX cx h s) (pc + 3) lv (.ref (h 9) :: st)) : xV X nL k n (wX cx h s) pc lv (.ref (h 0) :: st) :=
  x_get hX d rfl rfl hin 8 (by decide) hl rfl rfl kk
theorem lX8 (hX : xOK l D cx rm X cc nL RX0 Ts) {i : Int32} (d : decode cc pc = .ok (.iaload, 1)) (hi : vp_in i 8) {j : Nat} (e : i.toNatClampNeg = j) (kk : xV X nL k n (wX cx h s) (pc + 1) lv (.int (s 8 j) :: st)) : xV X nL k n (wX cx h s) pc lv (.int i :: .ref (h 9) :: st) :=
  x_iald hX d 9 rfl hi (e ▸ kk)
theorem sX8 (hX : xOK l D cx rm X cc nL RX0 Ts) {i v : Int32} (d : decode cc pc = .ok (.iastore, 1)) (hi : vp_in i 8) {j : Nat} (e : i.toNatClampNeg = j) (kk : xV X nL k n (wX cx h (xup s 8 j (v))) (pc + 1) lv st) : xV X nL k n (wX cx h s) pc lv (.int v :: .int i :: .ref (h 9) :: st) :=
  x_iast hX d 9 rfl hi rfl (e ▸ kk)
theorem gX9 (hX : xOK l D cx rm X cc nL RX0 Ts) (hin : ∀ w ∈ wsX00, w ∈ Ts) (hl : Cond.fieldLink RX0 38 RX0 "falseMarkCounts" "[I" ∈ Ts) (d : decode cc pc = .ok (.getfield 38, 3)) (kk : xV X nL k n (wX cx h s) (pc + 3) lv (.ref (h 10) :: st)) : xV X nL k n (wX cx h s) pc lv (.ref (h 0) :: st) :=
  x_get hX d rfl rfl hin 9 (by decide) hl rfl rfl kk
theorem lX9 (hX : xOK l D cx rm X cc nL RX0 Ts) {i : Int32} (d : decode cc pc = .ok (.iaload, 1)) (hi : vp_in i 8) {j : Nat} (e : i.toNatClampNeg = j) (kk : xV X nL k n (wX cx h s) (pc + 1) lv (.int (s 9 j) :: st)) : xV X nL k n (wX cx h s) pc lv (.int i :: .ref (h 10) :: st) :=
  x_iald hX d 10 rfl hi (e ▸ kk)
theorem sX9 (hX : xOK l D cx rm X cc nL RX0 Ts) {i v : Int32} (d : decode cc pc = .ok (.iastore, 1)) (hi : vp_in i 8) {j : Nat} (e : i.toNatClampNeg = j) (kk : xV X nL k n (wX cx h (xup s 9 j (v))) (pc + 1) lv st) : xV X nL k n (wX cx h s) pc lv (.int v :: .int i :: .ref (h 10) :: st) :=
  x_iast hX d 10 rfl hi rfl (e ▸ kk)
theorem gX10 (hX : xOK l D cx rm X cc nL RX0 Ts) (hin : ∀ w ∈ wsX00, w ∈ Ts) (hl : Cond.fieldLink RX0 41 RX0 "pools" "[I" ∈ Ts) (d : decode cc pc = .ok (.getfield 41, 3)) (kk : xV X nL k n (wX cx h s) (pc + 3) lv (.ref (h 11) :: st)) : xV X nL k n (wX cx h s) pc lv (.ref (h 0) :: st) :=
  x_get hX d rfl rfl hin 10 (by decide) hl rfl rfl kk
theorem lX10 (hX : xOK l D cx rm X cc nL RX0 Ts) {i : Int32} (d : decode cc pc = .ok (.iaload, 1)) (hi : vp_in i 4) {j : Nat} (e : i.toNatClampNeg = j) (kk : xV X nL k n (wX cx h s) (pc + 1) lv (.int (s 10 j) :: st)) : xV X nL k n (wX cx h s) pc lv (.int i :: .ref (h 11) :: st) :=
  x_iald hX d 11 rfl hi (e ▸ kk)
theorem sX10 (hX : xOK l D cx rm X cc nL RX0 Ts) {i v : Int32} (d : decode cc pc = .ok (.iastore, 1)) (hi : vp_in i 4) {j : Nat} (e : i.toNatClampNeg = j) (kk : xV X nL k n (wX cx h (xup s 10 j (v))) (pc + 1) lv st) : xV X nL k n (wX cx h s) pc lv (.int v :: .int i :: .ref (h 11) :: st) :=
  x_iast hX d 11 rfl hi rfl (e ▸ kk)
theorem gX11 (hX : xOK l D cx rm X cc nL RX0 Ts) (hin : ∀ w ∈ wsX00, w ∈ Ts) (hl : Cond.fieldLink RX0 44 RX0 "routes" "[I" ∈ Ts) (d : decode cc pc = .ok (.getfield 44, 3)) (kk : xV X nL k n (wX cx h s) (pc + 3) lv (.ref (h 12) :: st)) : xV X nL k n (wX cx h s) pc lv (.ref (h 0) :: st) :=
  x_get hX d rfl rfl hin 11 (by decide) hl rfl rfl kk
theorem lX11 (hX : xOK l D cx rm X cc nL RX0 Ts) {i : Int32} (d : decode cc pc = .ok (.iaload, 1)) (hi : vp_in i 16) {j : Nat} (e : i.toNatClampNeg = j) (kk : xV X nL k n (wX cx h s) (pc + 1) lv (.int (s 11 j) :: st)) : xV X nL k n (wX cx h s) pc lv (.int i :: .ref (h 12) :: st) :=
  x_iald hX d 12 rfl hi (e ▸ kk)
theorem sX11 (hX : xOK l D cx rm X cc nL RX0 Ts) {i v : Int32} (d : decode cc pc = .ok (.iastore, 1)) (hi : vp_in i 16) {j : Nat} (e : i.toNatClampNeg = j) (kk : xV X nL k n (wX cx h (xup s 11 j (v))) (pc + 1) lv st) : xV X nL k n (wX cx h s) pc lv (.int v :: .int i :: .ref (h 12) :: st) :=
  x_iast hX d 12 rfl hi rfl (e ▸ kk)
theorem gX12 (hX : xOK l D cx rm X cc nL RX0 Ts) (hin : ∀ w ∈ wsX00, w ∈ Ts) (hl : Cond.fieldLink RX0 47 RX0 "letterCount" "I" ∈ Ts) (d : decode cc pc = .ok (.getfield 47, 3)) (kk : xV X nL k n (wX cx h s) (pc + 3) lv (.int (s 12 0) :: st)) : xV X nL k n (wX cx h s) pc lv (.ref (h 0) :: st) :=
  x_get hX d rfl rfl hin 12 (by decide) hl rfl rfl kk
theorem pX12 (hX : xOK l D cx rm X cc nL RX0 Ts) (hin : ∀ w ∈ wsX00, w ∈ Ts) (hl : Cond.fieldLink RX0 47 RX0 "letterCount" "I" ∈ Ts) {v : Int32} (d : decode cc pc = .ok (.putfield 47, 3)) (kk : xV X nL k n (wX cx h (xup s 12 0 v)) (pc + 3) lv st) : xV X nL k n (wX cx h s) pc lv (.int v :: .ref (h 0) :: st) :=
  x_put hX d rfl rfl hin tyX0 tyX0_ok nmX0 12 (by decide) hl rfl rfl rfl (Nat.le_of_ble_eq_true rfl) rfl kk
theorem gX13 (hX : xOK l D cx rm X cc nL RX0 Ts) (hin : ∀ w ∈ wsX00, w ∈ Ts) (hl : Cond.fieldLink RX0 51 RX0 "now" "I" ∈ Ts) (d : decode cc pc = .ok (.getfield 51, 3)) (kk : xV X nL k n (wX cx h s) (pc + 3) lv (.int (s 13 0) :: st)) : xV X nL k n (wX cx h s) pc lv (.ref (h 0) :: st) :=
  x_get hX d rfl rfl hin 13 (by decide) hl rfl rfl kk
theorem pX13 (hX : xOK l D cx rm X cc nL RX0 Ts) (hin : ∀ w ∈ wsX00, w ∈ Ts) (hl : Cond.fieldLink RX0 51 RX0 "now" "I" ∈ Ts) {v : Int32} (d : decode cc pc = .ok (.putfield 51, 3)) (kk : xV X nL k n (wX cx h (xup s 13 0 v)) (pc + 3) lv st) : xV X nL k n (wX cx h s) pc lv (.int v :: .ref (h 0) :: st) :=
  x_put hX d rfl rfl hin tyX0 tyX0_ok nmX0 13 (by decide) hl rfl rfl rfl (Nat.le_of_ble_eq_true rfl) rfl kk
theorem gX14 (hX : xOK l D cx rm X cc nL RX0 Ts) (hin : ∀ w ∈ wsX00, w ∈ Ts) (hl : Cond.fieldLink RX0 54 RX0 "waitingAt" "[I" ∈ Ts) (d : decode cc pc = .ok (.getfield 54, 3)) (kk : xV X nL k n (wX cx h s) (pc + 3) lv (.ref (h 15) :: st)) : xV X nL k n (wX cx h s) pc lv (.ref (h 0) :: st) :=
  x_get hX d rfl rfl hin 14 (by decide) hl rfl rfl kk
theorem lX14 (hX : xOK l D cx rm X cc nL RX0 Ts) {i : Int32} (d : decode cc pc = .ok (.iaload, 1)) (hi : vp_in i 60) {j : Nat} (e : i.toNatClampNeg = j) (kk : xV X nL k n (wX cx h s) (pc + 1) lv (.int (s 14 j) :: st)) : xV X nL k n (wX cx h s) pc lv (.int i :: .ref (h 15) :: st) :=
  x_iald hX d 13 rfl hi (e ▸ kk)
theorem sX14 (hX : xOK l D cx rm X cc nL RX0 Ts) {i v : Int32} (d : decode cc pc = .ok (.iastore, 1)) (hi : vp_in i 60) {j : Nat} (e : i.toNatClampNeg = j) (kk : xV X nL k n (wX cx h (xup s 14 j (v))) (pc + 1) lv st) : xV X nL k n (wX cx h s) pc lv (.int v :: .int i :: .ref (h 15) :: st) :=
  x_iast hX d 13 rfl hi rfl (e ▸ kk)
theorem gX15 (hX : xOK l D cx rm X cc nL RX0 Ts) (hin : ∀ w ∈ wsX00, w ∈ Ts) (hl : Cond.fieldLink RX0 57 RX0 "reputations" "[I" ∈ Ts) (d : decode cc pc = .ok (.getfield 57, 3)) (kk : xV X nL k n (wX cx h s) (pc + 3) lv (.ref (h 16) :: st)) : xV X nL k n (wX cx h s) pc lv (.ref (h 0) :: st) :=
  x_get hX d rfl rfl hin 15 (by decide) hl rfl rfl kk
theorem lX15 (hX : xOK l D cx rm X cc nL RX0 Ts) {i : Int32} (d : decode cc pc = .ok (.iaload, 1)) (hi : vp_in i 8) {j : Nat} (e : i.toNatClampNeg = j) (kk : xV X nL k n (wX cx h s) (pc + 1) lv (.int (s 15 j) :: st)) : xV X nL k n (wX cx h s) pc lv (.int i :: .ref (h 16) :: st) :=
  x_iald hX d 14 rfl hi (e ▸ kk)
theorem sX15 (hX : xOK l D cx rm X cc nL RX0 Ts) {i v : Int32} (d : decode cc pc = .ok (.iastore, 1)) (hi : vp_in i 8) {j : Nat} (e : i.toNatClampNeg = j) (kk : xV X nL k n (wX cx h (xup s 15 j (v))) (pc + 1) lv st) : xV X nL k n (wX cx h s) pc lv (.int v :: .int i :: .ref (h 16) :: st) :=
  x_iast hX d 14 rfl hi rfl (e ▸ kk)
end XWX
def oM (h : Nat → Nat) (s : xS) : List Value := [.int (s 0 0), .ref (h 2), .ref (h 3), .ref (h 4), .ref (h 5), .int (s 5 0), .ref (h 7), .ref (h 8), .ref (h 9), .ref (h 10), .ref (h 11), .ref (h 12), .ref (h 13), .ref (h 14), .ref (h 15), .int (s 15 0)]
def wM (c : xC) (h : Nat → Nat) (s : xS) : va_W := [(h 0, .inr (1, oM h s)), (h 2, .inl (c.1, 16, .inl (s 1))), (h 3, .inl (c.1, 8, .inl (s 2))), (h 4, .inl (c.1, 4, .inl (s 3))), (h 5, .inl (c.1, 8, .inl (s 4))), (h 7, .inl (c.1, 60, .inl (s 6))), (h 8, .inl (c.1, 60, .inl (s 7))), (h 9, .inl (c.1, 60, .inl (s 8))), (h 10, .inl (c.1, 60, .inl (s 9))), (h 11, .inl (c.1, 60, .inl (s 10))), (h 12, .inl (c.1, 60, .inl (s 11))), (h 13, .inl (c.1, 60, .inl (s 12))), (h 14, .inl (c.2.1, 60, .inl (s 13))), (h 15, .inl (c.2.1, 60, .inl (s 14)))]
section XWM
variable {l : Launch} {D : va_G} {cx : xC} {rm : Room} {X : xX} {cc : ByteArray} {nL : Nat} {Ts : List Cond} {k n pc : Nat} {lv : List (Nat × Value)} {st : List Value} {h : Nat → Nat} {s : xS}
theorem gM0 (hX : xOK l D cx rm X cc nL RX1 Ts) (hin : ∀ w ∈ wsX10, w ∈ Ts) (hl : Cond.fieldLink RX1 95 RX1 "time" "I" ∈ Ts) (d : decode cc pc = .ok (.getfield 95, 3)) (kk : xV X nL k n (wM cx h s) (pc + 3) lv (.int (s 0 0) :: st)) : xV X nL k n (wM cx h s) pc lv (.ref (h 0) :: st) :=
  x_get hX d rfl rfl hin 0 (by decide) hl rfl rfl kk
theorem pM0 (hX : xOK l D cx rm X cc nL RX1 Ts) (hin : ∀ w ∈ wsX10, w ∈ Ts) (hl : Cond.fieldLink RX1 95 RX1 "time" "I" ∈ Ts) {v : Int32} (d : decode cc pc = .ok (.putfield 95, 3)) (kk : xV X nL k n (wM cx h (xup s 0 0 v)) (pc + 3) lv st) : xV X nL k n (wM cx h s) pc lv (.int v :: .ref (h 0) :: st) :=
  x_put hX d rfl rfl hin tyX1 tyX1_ok nmX1 0 (by decide) hl rfl rfl rfl (Nat.le_of_ble_eq_true rfl) rfl kk
theorem gM1 (hX : xOK l D cx rm X cc nL RX1 Ts) (hin : ∀ w ∈ wsX10, w ∈ Ts) (hl : Cond.fieldLink RX1 7 RX1 "routes" "[I" ∈ Ts) (d : decode cc pc = .ok (.getfield 7, 3)) (kk : xV X nL k n (wM cx h s) (pc + 3) lv (.ref (h 2) :: st)) : xV X nL k n (wM cx h s) pc lv (.ref (h 0) :: st) :=
  x_get hX d rfl rfl hin 1 (by decide) hl rfl rfl kk
theorem lM1 (hX : xOK l D cx rm X cc nL RX1 Ts) {i : Int32} (d : decode cc pc = .ok (.iaload, 1)) (hi : vp_in i 16) {j : Nat} (e : i.toNatClampNeg = j) (kk : xV X nL k n (wM cx h s) (pc + 1) lv (.int (s 1 j) :: st)) : xV X nL k n (wM cx h s) pc lv (.int i :: .ref (h 2) :: st) :=
  x_iald hX d 1 rfl hi (e ▸ kk)
theorem sM1 (hX : xOK l D cx rm X cc nL RX1 Ts) {i v : Int32} (d : decode cc pc = .ok (.iastore, 1)) (hi : vp_in i 16) {j : Nat} (e : i.toNatClampNeg = j) (kk : xV X nL k n (wM cx h (xup s 1 j (v))) (pc + 1) lv st) : xV X nL k n (wM cx h s) pc lv (.int v :: .int i :: .ref (h 2) :: st) :=
  x_iast hX d 1 rfl hi rfl (e ▸ kk)
theorem gM2 (hX : xOK l D cx rm X cc nL RX1 Ts) (hin : ∀ w ∈ wsX10, w ∈ Ts) (hl : Cond.fieldLink RX1 13 RX1 "coins" "[I" ∈ Ts) (d : decode cc pc = .ok (.getfield 13, 3)) (kk : xV X nL k n (wM cx h s) (pc + 3) lv (.ref (h 3) :: st)) : xV X nL k n (wM cx h s) pc lv (.ref (h 0) :: st) :=
  x_get hX d rfl rfl hin 2 (by decide) hl rfl rfl kk
theorem lM2 (hX : xOK l D cx rm X cc nL RX1 Ts) {i : Int32} (d : decode cc pc = .ok (.iaload, 1)) (hi : vp_in i 8) {j : Nat} (e : i.toNatClampNeg = j) (kk : xV X nL k n (wM cx h s) (pc + 1) lv (.int (s 2 j) :: st)) : xV X nL k n (wM cx h s) pc lv (.int i :: .ref (h 3) :: st) :=
  x_iald hX d 2 rfl hi (e ▸ kk)
theorem sM2 (hX : xOK l D cx rm X cc nL RX1 Ts) {i v : Int32} (d : decode cc pc = .ok (.iastore, 1)) (hi : vp_in i 8) {j : Nat} (e : i.toNatClampNeg = j) (kk : xV X nL k n (wM cx h (xup s 2 j (v))) (pc + 1) lv st) : xV X nL k n (wM cx h s) pc lv (.int v :: .int i :: .ref (h 3) :: st) :=
  x_iast hX d 2 rfl hi rfl (e ▸ kk)
theorem gM3 (hX : xOK l D cx rm X cc nL RX1 Ts) (hin : ∀ w ∈ wsX10, w ∈ Ts) (hl : Cond.fieldLink RX1 16 RX1 "pools" "[I" ∈ Ts) (d : decode cc pc = .ok (.getfield 16, 3)) (kk : xV X nL k n (wM cx h s) (pc + 3) lv (.ref (h 4) :: st)) : xV X nL k n (wM cx h s) pc lv (.ref (h 0) :: st) :=
  x_get hX d rfl rfl hin 3 (by decide) hl rfl rfl kk
theorem lM3 (hX : xOK l D cx rm X cc nL RX1 Ts) {i : Int32} (d : decode cc pc = .ok (.iaload, 1)) (hi : vp_in i 4) {j : Nat} (e : i.toNatClampNeg = j) (kk : xV X nL k n (wM cx h s) (pc + 1) lv (.int (s 3 j) :: st)) : xV X nL k n (wM cx h s) pc lv (.int i :: .ref (h 4) :: st) :=
  x_iald hX d 3 rfl hi (e ▸ kk)
theorem sM3 (hX : xOK l D cx rm X cc nL RX1 Ts) {i v : Int32} (d : decode cc pc = .ok (.iastore, 1)) (hi : vp_in i 4) {j : Nat} (e : i.toNatClampNeg = j) (kk : xV X nL k n (wM cx h (xup s 3 j (v))) (pc + 1) lv st) : xV X nL k n (wM cx h s) pc lv (.int v :: .int i :: .ref (h 4) :: st) :=
  x_iast hX d 3 rfl hi rfl (e ▸ kk)
theorem gM4 (hX : xOK l D cx rm X cc nL RX1 Ts) (hin : ∀ w ∈ wsX10, w ∈ Ts) (hl : Cond.fieldLink RX1 19 RX1 "falsely" "[I" ∈ Ts) (d : decode cc pc = .ok (.getfield 19, 3)) (kk : xV X nL k n (wM cx h s) (pc + 3) lv (.ref (h 5) :: st)) : xV X nL k n (wM cx h s) pc lv (.ref (h 0) :: st) :=
  x_get hX d rfl rfl hin 4 (by decide) hl rfl rfl kk
theorem lM4 (hX : xOK l D cx rm X cc nL RX1 Ts) {i : Int32} (d : decode cc pc = .ok (.iaload, 1)) (hi : vp_in i 8) {j : Nat} (e : i.toNatClampNeg = j) (kk : xV X nL k n (wM cx h s) (pc + 1) lv (.int (s 4 j) :: st)) : xV X nL k n (wM cx h s) pc lv (.int i :: .ref (h 5) :: st) :=
  x_iald hX d 4 rfl hi (e ▸ kk)
theorem sM4 (hX : xOK l D cx rm X cc nL RX1 Ts) {i v : Int32} (d : decode cc pc = .ok (.iastore, 1)) (hi : vp_in i 8) {j : Nat} (e : i.toNatClampNeg = j) (kk : xV X nL k n (wM cx h (xup s 4 j (v))) (pc + 1) lv st) : xV X nL k n (wM cx h s) pc lv (.int v :: .int i :: .ref (h 5) :: st) :=
  x_iast hX d 4 rfl hi rfl (e ▸ kk)
theorem gM5 (hX : xOK l D cx rm X cc nL RX1 Ts) (hin : ∀ w ∈ wsX10, w ∈ Ts) (hl : Cond.fieldLink RX1 58 RX1 "letters" "I" ∈ Ts) (d : decode cc pc = .ok (.getfield 58, 3)) (kk : xV X nL k n (wM cx h s) (pc + 3) lv (.int (s 5 0) :: st)) : xV X nL k n (wM cx h s) pc lv (.ref (h 0) :: st) :=
  x_get hX d rfl rfl hin 5 (by decide) hl rfl rfl kk
theorem pM5 (hX : xOK l D cx rm X cc nL RX1 Ts) (hin : ∀ w ∈ wsX10, w ∈ Ts) (hl : Cond.fieldLink RX1 58 RX1 "letters" "I" ∈ Ts) {v : Int32} (d : decode cc pc = .ok (.putfield 58, 3)) (kk : xV X nL k n (wM cx h (xup s 5 0 v)) (pc + 3) lv st) : xV X nL k n (wM cx h s) pc lv (.int v :: .ref (h 0) :: st) :=
  x_put hX d rfl rfl hin tyX1 tyX1_ok nmX1 5 (by decide) hl rfl rfl rfl (Nat.le_of_ble_eq_true rfl) rfl kk
theorem gM6 (hX : xOK l D cx rm X cc nL RX1 Ts) (hin : ∀ w ∈ wsX10, w ∈ Ts) (hl : Cond.fieldLink RX1 22 RX1 "sender" "[I" ∈ Ts) (d : decode cc pc = .ok (.getfield 22, 3)) (kk : xV X nL k n (wM cx h s) (pc + 3) lv (.ref (h 7) :: st)) : xV X nL k n (wM cx h s) pc lv (.ref (h 0) :: st) :=
  x_get hX d rfl rfl hin 6 (by decide) hl rfl rfl kk
theorem lM6 (hX : xOK l D cx rm X cc nL RX1 Ts) {i : Int32} (d : decode cc pc = .ok (.iaload, 1)) (hi : vp_in i 60) {j : Nat} (e : i.toNatClampNeg = j) (kk : xV X nL k n (wM cx h s) (pc + 1) lv (.int (s 6 j) :: st)) : xV X nL k n (wM cx h s) pc lv (.int i :: .ref (h 7) :: st) :=
  x_iald hX d 5 rfl hi (e ▸ kk)
theorem sM6 (hX : xOK l D cx rm X cc nL RX1 Ts) {i v : Int32} (d : decode cc pc = .ok (.iastore, 1)) (hi : vp_in i 60) {j : Nat} (e : i.toNatClampNeg = j) (kk : xV X nL k n (wM cx h (xup s 6 j (v))) (pc + 1) lv st) : xV X nL k n (wM cx h s) pc lv (.int v :: .int i :: .ref (h 7) :: st) :=
  x_iast hX d 5 rfl hi rfl (e ▸ kk)
theorem gM7 (hX : xOK l D cx rm X cc nL RX1 Ts) (hin : ∀ w ∈ wsX10, w ∈ Ts) (hl : Cond.fieldLink RX1 25 RX1 "reader" "[I" ∈ Ts) (d : decode cc pc = .ok (.getfield 25, 3)) (kk : xV X nL k n (wM cx h s) (pc + 3) lv (.ref (h 8) :: st)) : xV X nL k n (wM cx h s) pc lv (.ref (h 0) :: st) :=
  x_get hX d rfl rfl hin 7 (by decide) hl rfl rfl kk
theorem lM7 (hX : xOK l D cx rm X cc nL RX1 Ts) {i : Int32} (d : decode cc pc = .ok (.iaload, 1)) (hi : vp_in i 60) {j : Nat} (e : i.toNatClampNeg = j) (kk : xV X nL k n (wM cx h s) (pc + 1) lv (.int (s 7 j) :: st)) : xV X nL k n (wM cx h s) pc lv (.int i :: .ref (h 8) :: st) :=
  x_iald hX d 6 rfl hi (e ▸ kk)
theorem sM7 (hX : xOK l D cx rm X cc nL RX1 Ts) {i v : Int32} (d : decode cc pc = .ok (.iastore, 1)) (hi : vp_in i 60) {j : Nat} (e : i.toNatClampNeg = j) (kk : xV X nL k n (wM cx h (xup s 7 j (v))) (pc + 1) lv st) : xV X nL k n (wM cx h s) pc lv (.int v :: .int i :: .ref (h 8) :: st) :=
  x_iast hX d 6 rfl hi rfl (e ▸ kk)
theorem gM8 (hX : xOK l D cx rm X cc nL RX1 Ts) (hin : ∀ w ∈ wsX10, w ∈ Ts) (hl : Cond.fieldLink RX1 28 RX1 "stake" "[I" ∈ Ts) (d : decode cc pc = .ok (.getfield 28, 3)) (kk : xV X nL k n (wM cx h s) (pc + 3) lv (.ref (h 9) :: st)) : xV X nL k n (wM cx h s) pc lv (.ref (h 0) :: st) :=
  x_get hX d rfl rfl hin 8 (by decide) hl rfl rfl kk
theorem lM8 (hX : xOK l D cx rm X cc nL RX1 Ts) {i : Int32} (d : decode cc pc = .ok (.iaload, 1)) (hi : vp_in i 60) {j : Nat} (e : i.toNatClampNeg = j) (kk : xV X nL k n (wM cx h s) (pc + 1) lv (.int (s 8 j) :: st)) : xV X nL k n (wM cx h s) pc lv (.int i :: .ref (h 9) :: st) :=
  x_iald hX d 7 rfl hi (e ▸ kk)
theorem sM8 (hX : xOK l D cx rm X cc nL RX1 Ts) {i v : Int32} (d : decode cc pc = .ok (.iastore, 1)) (hi : vp_in i 60) {j : Nat} (e : i.toNatClampNeg = j) (kk : xV X nL k n (wM cx h (xup s 8 j (v))) (pc + 1) lv st) : xV X nL k n (wM cx h s) pc lv (.int v :: .int i :: .ref (h 9) :: st) :=
  x_iast hX d 7 rfl hi rfl (e ▸ kk)
theorem gM9 (hX : xOK l D cx rm X cc nL RX1 Ts) (hin : ∀ w ∈ wsX10, w ∈ Ts) (hl : Cond.fieldLink RX1 31 RX1 "state" "[I" ∈ Ts) (d : decode cc pc = .ok (.getfield 31, 3)) (kk : xV X nL k n (wM cx h s) (pc + 3) lv (.ref (h 10) :: st)) : xV X nL k n (wM cx h s) pc lv (.ref (h 0) :: st) :=
  x_get hX d rfl rfl hin 9 (by decide) hl rfl rfl kk
theorem lM9 (hX : xOK l D cx rm X cc nL RX1 Ts) {i : Int32} (d : decode cc pc = .ok (.iaload, 1)) (hi : vp_in i 60) {j : Nat} (e : i.toNatClampNeg = j) (kk : xV X nL k n (wM cx h s) (pc + 1) lv (.int (s 9 j) :: st)) : xV X nL k n (wM cx h s) pc lv (.int i :: .ref (h 10) :: st) :=
  x_iald hX d 8 rfl hi (e ▸ kk)
theorem sM9 (hX : xOK l D cx rm X cc nL RX1 Ts) {i v : Int32} (d : decode cc pc = .ok (.iastore, 1)) (hi : vp_in i 60) {j : Nat} (e : i.toNatClampNeg = j) (kk : xV X nL k n (wM cx h (xup s 9 j (v))) (pc + 1) lv st) : xV X nL k n (wM cx h s) pc lv (.int v :: .int i :: .ref (h 10) :: st) :=
  x_iast hX d 8 rfl hi rfl (e ▸ kk)
theorem gM10 (hX : xOK l D cx rm X cc nL RX1 Ts) (hin : ∀ w ∈ wsX10, w ∈ Ts) (hl : Cond.fieldLink RX1 34 RX1 "relay" "[I" ∈ Ts) (d : decode cc pc = .ok (.getfield 34, 3)) (kk : xV X nL k n (wM cx h s) (pc + 3) lv (.ref (h 11) :: st)) : xV X nL k n (wM cx h s) pc lv (.ref (h 0) :: st) :=
  x_get hX d rfl rfl hin 10 (by decide) hl rfl rfl kk
theorem lM10 (hX : xOK l D cx rm X cc nL RX1 Ts) {i : Int32} (d : decode cc pc = .ok (.iaload, 1)) (hi : vp_in i 60) {j : Nat} (e : i.toNatClampNeg = j) (kk : xV X nL k n (wM cx h s) (pc + 1) lv (.int (s 10 j) :: st)) : xV X nL k n (wM cx h s) pc lv (.int i :: .ref (h 11) :: st) :=
  x_iald hX d 9 rfl hi (e ▸ kk)
theorem sM10 (hX : xOK l D cx rm X cc nL RX1 Ts) {i v : Int32} (d : decode cc pc = .ok (.iastore, 1)) (hi : vp_in i 60) {j : Nat} (e : i.toNatClampNeg = j) (kk : xV X nL k n (wM cx h (xup s 10 j (v))) (pc + 1) lv st) : xV X nL k n (wM cx h s) pc lv (.int v :: .int i :: .ref (h 11) :: st) :=
  x_iast hX d 9 rfl hi rfl (e ▸ kk)
theorem gM11 (hX : xOK l D cx rm X cc nL RX1 Ts) (hin : ∀ w ∈ wsX10, w ∈ Ts) (hl : Cond.fieldLink RX1 37 RX1 "marks" "[I" ∈ Ts) (d : decode cc pc = .ok (.getfield 37, 3)) (kk : xV X nL k n (wM cx h s) (pc + 3) lv (.ref (h 12) :: st)) : xV X nL k n (wM cx h s) pc lv (.ref (h 0) :: st) :=
  x_get hX d rfl rfl hin 11 (by decide) hl rfl rfl kk
theorem lM11 (hX : xOK l D cx rm X cc nL RX1 Ts) {i : Int32} (d : decode cc pc = .ok (.iaload, 1)) (hi : vp_in i 60) {j : Nat} (e : i.toNatClampNeg = j) (kk : xV X nL k n (wM cx h s) (pc + 1) lv (.int (s 11 j) :: st)) : xV X nL k n (wM cx h s) pc lv (.int i :: .ref (h 12) :: st) :=
  x_iald hX d 10 rfl hi (e ▸ kk)
theorem sM11 (hX : xOK l D cx rm X cc nL RX1 Ts) {i v : Int32} (d : decode cc pc = .ok (.iastore, 1)) (hi : vp_in i 60) {j : Nat} (e : i.toNatClampNeg = j) (kk : xV X nL k n (wM cx h (xup s 11 j (v))) (pc + 1) lv st) : xV X nL k n (wM cx h s) pc lv (.int v :: .int i :: .ref (h 12) :: st) :=
  x_iast hX d 10 rfl hi rfl (e ▸ kk)
theorem gM12 (hX : xOK l D cx rm X cc nL RX1 Ts) (hin : ∀ w ∈ wsX10, w ∈ Ts) (hl : Cond.fieldLink RX1 40 RX1 "came" "[I" ∈ Ts) (d : decode cc pc = .ok (.getfield 40, 3)) (kk : xV X nL k n (wM cx h s) (pc + 3) lv (.ref (h 13) :: st)) : xV X nL k n (wM cx h s) pc lv (.ref (h 0) :: st) :=
  x_get hX d rfl rfl hin 12 (by decide) hl rfl rfl kk
theorem lM12 (hX : xOK l D cx rm X cc nL RX1 Ts) {i : Int32} (d : decode cc pc = .ok (.iaload, 1)) (hi : vp_in i 60) {j : Nat} (e : i.toNatClampNeg = j) (kk : xV X nL k n (wM cx h s) (pc + 1) lv (.int (s 12 j) :: st)) : xV X nL k n (wM cx h s) pc lv (.int i :: .ref (h 13) :: st) :=
  x_iald hX d 11 rfl hi (e ▸ kk)
theorem sM12 (hX : xOK l D cx rm X cc nL RX1 Ts) {i v : Int32} (d : decode cc pc = .ok (.iastore, 1)) (hi : vp_in i 60) {j : Nat} (e : i.toNatClampNeg = j) (kk : xV X nL k n (wM cx h (xup s 12 j (v))) (pc + 1) lv st) : xV X nL k n (wM cx h s) pc lv (.int v :: .int i :: .ref (h 13) :: st) :=
  x_iast hX d 11 rfl hi rfl (e ▸ kk)
theorem gM13 (hX : xOK l D cx rm X cc nL RX1 Ts) (hin : ∀ w ∈ wsX10, w ∈ Ts) (hl : Cond.fieldLink RX1 43 RX1 "isFalse" "[Z" ∈ Ts) (d : decode cc pc = .ok (.getfield 43, 3)) (kk : xV X nL k n (wM cx h s) (pc + 3) lv (.ref (h 14) :: st)) : xV X nL k n (wM cx h s) pc lv (.ref (h 0) :: st) :=
  x_get hX d rfl rfl hin 13 (by decide) hl rfl rfl kk
theorem lM13 (hX : xOK l D cx rm X cc nL RX1 Ts) {i : Int32} (d : decode cc pc = .ok (.baload, 1)) (hi : vp_in i 60) {j : Nat} (e : i.toNatClampNeg = j) (kk : xV X nL k n (wM cx h s) (pc + 1) lv (.int (s 13 j) :: st)) : xV X nL k n (wM cx h s) pc lv (.int i :: .ref (h 14) :: st) :=
  x_zald hX d 12 rfl hi (e ▸ kk)
theorem sM13 (hX : xOK l D cx rm X cc nL RX1 Ts) {i v : Int32} (d : decode cc pc = .ok (.bastore, 1)) (hi : vp_in i 60) {j : Nat} (e : i.toNatClampNeg = j) (kk : xV X nL k n (wM cx h (xup s 13 j (vp_nar .boolean v))) (pc + 1) lv st) : xV X nL k n (wM cx h s) pc lv (.int v :: .int i :: .ref (h 14) :: st) :=
  x_zast hX d 12 rfl hi rfl (e ▸ kk)
theorem gM14 (hX : xOK l D cx rm X cc nL RX1 Ts) (hin : ∀ w ∈ wsX10, w ∈ Ts) (hl : Cond.fieldLink RX1 47 RX1 "moves" "[Z" ∈ Ts) (d : decode cc pc = .ok (.getfield 47, 3)) (kk : xV X nL k n (wM cx h s) (pc + 3) lv (.ref (h 15) :: st)) : xV X nL k n (wM cx h s) pc lv (.ref (h 0) :: st) :=
  x_get hX d rfl rfl hin 14 (by decide) hl rfl rfl kk
theorem lM14 (hX : xOK l D cx rm X cc nL RX1 Ts) {i : Int32} (d : decode cc pc = .ok (.baload, 1)) (hi : vp_in i 60) {j : Nat} (e : i.toNatClampNeg = j) (kk : xV X nL k n (wM cx h s) (pc + 1) lv (.int (s 14 j) :: st)) : xV X nL k n (wM cx h s) pc lv (.int i :: .ref (h 15) :: st) :=
  x_zald hX d 13 rfl hi (e ▸ kk)
theorem sM14 (hX : xOK l D cx rm X cc nL RX1 Ts) {i v : Int32} (d : decode cc pc = .ok (.bastore, 1)) (hi : vp_in i 60) {j : Nat} (e : i.toNatClampNeg = j) (kk : xV X nL k n (wM cx h (xup s 14 j (vp_nar .boolean v))) (pc + 1) lv st) : xV X nL k n (wM cx h s) pc lv (.int v :: .int i :: .ref (h 15) :: st) :=
  x_zast hX d 13 rfl hi rfl (e ▸ kk)
theorem gM15 (hX : xOK l D cx rm X cc nL RX1 Ts) (hin : ∀ w ∈ wsX10, w ∈ Ts) (hl : Cond.fieldLink RX1 50 RX1 "thrown" "I" ∈ Ts) (d : decode cc pc = .ok (.getfield 50, 3)) (kk : xV X nL k n (wM cx h s) (pc + 3) lv (.int (s 15 0) :: st)) : xV X nL k n (wM cx h s) pc lv (.ref (h 0) :: st) :=
  x_get hX d rfl rfl hin 15 (by decide) hl rfl rfl kk
theorem pM15 (hX : xOK l D cx rm X cc nL RX1 Ts) (hin : ∀ w ∈ wsX10, w ∈ Ts) (hl : Cond.fieldLink RX1 50 RX1 "thrown" "I" ∈ Ts) {v : Int32} (d : decode cc pc = .ok (.putfield 50, 3)) (kk : xV X nL k n (wM cx h (xup s 15 0 v)) (pc + 3) lv st) : xV X nL k n (wM cx h s) pc lv (.int v :: .ref (h 0) :: st) :=
  x_put hX d rfl rfl hin tyX1 tyX1_ok nmX1 15 (by decide) hl rfl rfl rfl (Nat.le_of_ble_eq_true rfl) rfl kk
end XWM
end
section
/-! what the class's methods answer, and what they make of a state (fields: 0 senders 1 readers 2 stakes 3 states 4 places 5 relaysSeen 6 deliveryTimes 7 falselyMarked 8 purses 9 falseMarkCounts 10 pools 11 routes 12 letterCount 13 now 14 waitingAt 15 reputations) -/
theorem xb_f {P : Prop} [Decidable P] : (if P then (1 : Int32) else 0) = 0 ↔ ¬ P := by by_cases h : P <;> simp [h]
theorem xb_t {P : Prop} [Decidable P] : ¬ (if P then (1 : Int32) else 0) = 0 ↔ P := by by_cases h : P <;> simp [h]
abbrev P8 (v : Int32) : Prop := 0 ≤ v ∧ v < 8
abbrev P4 (v : Int32) : Prop := 0 ≤ v ∧ v < 4
abbrev PL (s : xS) (v : Int32) : Prop := 0 ≤ v ∧ v < s 12 0
def okX (s : xS) (n : Nat) : Prop := n ≤ 60 ∧ s 12 0 = nI n
theorem i32_le {a b : Int32} : a ≤ b ↔ a.toInt ≤ b.toInt := Int32.le_iff_toInt_le
theorem i32_lt {a b : Int32} : a < b ↔ a.toInt < b.toInt := Int32.lt_iff_toInt_lt
theorem bnd_if (v u : Int32) : (if v < 0 then (0 : Int32) else if u ≤ v then 0 else 1) = if 0 ≤ v ∧ v < u then 1 else 0 := by
  have z : (0 : Int32).toInt = 0 := rfl
  by_cases h1 : v < 0 <;> by_cases h2 : u ≤ v <;> simp only [i32_le, i32_lt, z] at h1 h2 ⊢ <;> (split <;> split <;> first | rfl | (exfalso; omega) | (split <;> first | rfl | (exfalso; omega)))
theorem P8_in {v : Int32} (h : P8 v) : vp_in v 8 := by
  have h1 := i32_le.mp h.1
  have h2 := i32_lt.mp h.2
  rw [vp_in_iff]
  exact ⟨h1, h2⟩
theorem P4_in {v : Int32} (h : P4 v) : vp_in v 4 := by
  have h1 := i32_le.mp h.1
  have h2 := i32_lt.mp h.2
  rw [vp_in_iff]
  exact ⟨h1, h2⟩
theorem P4_in16 {r t : Int32} (h : P4 r) (h2 : P4 t) : vp_in (r * 4 + t) 16 := by
  obtain ⟨a, ha, rfl⟩ := vp_in_of (P4_in h) (by decide)
  obtain ⟨b, hb, rfl⟩ := vp_in_of (P4_in h2) (by decide)
  rw [show (4 : Int32) = nI 4 from rfl, pk_mul, nI_add]
  exact vp_in_nI (by omega) (by decide)
theorem PL_in {s : xS} {n : Nat} {v : Int32} (hN : okX s n) (h : PL s v) : vp_in v 60 := by
  have h1 := i32_le.mp h.1
  have h2 := i32_lt.mp h.2
  have h3 := hN.1
  rw [hN.2, nI_toInt (by omega)] at h2
  rw [vp_in_iff]
  exact ⟨h1, by omega⟩
theorem PL_nI {s : xS} {n k : Nat} (hN : okX s n) (h : k < n) : PL s (nI k) := by
  have h3 := hN.1
  refine ⟨nI_pos' (by omega), ?_⟩
  rw [hN.2]
  exact nI_lt h (by omega)
theorem okX_in {s : xS} {n k : Nat} (hN : okX s n) (h : k < n) : vp_in (nI k) 60 := vp_in_nI (by have := hN.1; omega) (by decide)
theorem nI_i1 (k : Nat) : nI k + Int32.ofInt 1 = nI (k + 1) := nI_1 k
theorem lp_no {b : Int32} {N k : Nat} (hb : b = nI N) (hN : N < 2 ^ 31) (hk : k < N) : ¬ b ≤ nI k := by rw [hb]; exact nI_ge hk hN
theorem lp_yes {b : Int32} {N k : Nat} (hb : b = nI N) (hN : N < 2 ^ 31) (hk : k = N) : b ≤ nI k := by rw [hb, hk]; exact nI_le (Nat.le_refl _) hN
theorem okX.lt {s : xS} {n : Nat} (h : okX s n) : n < 2 ^ 31 := by have := h.1; omega
/-- an address of a place -/
abbrev ix (v : Int32) : Nat := v.toNatClampNeg
def fHome (v : Int32) : Int32 := v - v / 4 * 4
def fMark (v : Int32) : Int32 := 1 <<< (v &&& 31)
def fNext (s : xS) (r t : Int32) : Int32 := if P4 r ∧ P4 t then s 11 (ix (r * 4 + t)) else t
def fWeight (s : xS) (v : Int32) : Int32 := if P8 v then (if 5 - s 9 (ix v) < 1 then 1 else 5 - s 9 (ix v)) else 1
def fOpinion (s : xS) (v : Int32) : Int32 :=
  if PL s v then (if s 3 (ix v) = 2 then 2 * fWeight s (s 1 (ix v)) else if s 3 (ix v) = 3 ∧ s 7 (ix v) = 0 then -3 * fWeight s (s 1 (ix v)) else 0) else 0
def fRep (s : xS) (p : Int32) : Nat → Int32
  | 0 => 0
  | k + 1 => if s 0 k = p then fRep s p k + fOpinion s (nI k) else fRep s p k
def fLeast (s : xS) (n : Nat) (p : Int32) : Int32 := if 0 < (if 10 - fRep s p n < 20 then 10 - fRep s p n else 20) then (if 10 - fRep s p n < 20 then 10 - fRep s p n else 20) else 0
theorem okX.up {s : xS} {n j i : Nat} {v : Int32} (h : okX s n) (hj : j ≠ 12) : okX (xup s j i v) n := ⟨h.1, by rw [xup_n (Ne.symm hj)]; exact h.2⟩
/-- the working row of reputations: emptied up to k; filled by the letters below k -/
def fZero (s : xS) : Nat → xS
  | 0 => s
  | k + 1 => xup (fZero s k) 15 k 0
theorem okX.zero {s : xS} {n : Nat} (h : okX s n) : ∀ k, okX (fZero s k) n
  | 0 => h
  | k + 1 => (h.zero k).up (by decide)
def fFill (t : xS) : Nat → xS
  | 0 => t
  | k + 1 => if P8 ((fFill t k) 0 k) then xup (fFill t k) 15 (ix ((fFill t k) 0 k)) ((fFill t k) 15 (ix ((fFill t k) 0 k)) + fOpinion (fFill t k) (nI k)) else fFill t k
theorem okX.fill {s : xS} {n : Nat} (h : okX s n) : ∀ k, okX (fFill s k) n
  | 0 => h
  | k + 1 => by
    unfold fFill
    split
    · exact (h.fill k).up (by decide)
    · exact h.fill k
def fAll (s : xS) (n : Nat) : xS := fFill (fZero s 8) n
theorem okX.all {s : xS} {n : Nat} (h : okX s n) : okX (fAll s n) n := (h.zero 8).fill n
def fWait (s : xS) : Nat → xS
  | 0 => s
  | k + 1 => xup (fWait s k) 14 k ((fWait s k) 4 k)
theorem okX.wait {s : xS} {n : Nat} (h : okX s n) : ∀ k, okX (fWait s k) n
  | 0 => h
  | k + 1 => (h.wait k).up (by decide)
def fBegin (s : xS) (n : Nat) : xS := fAll (fWait s n) n
theorem okX.begin {s : xS} {n : Nat} (h : okX s n) : okX (fBegin s n) n := (h.wait n).all
def fRank (s : xS) (v : Int32) : Int32 := if PL s v ∧ P8 (s 0 (ix v)) then s 2 (ix v) + s 15 (ix (s 0 (ix v))) else 0
/-- the first of the greatest rank among the letters below k that wait at r -/
def fBest (s : xS) (r : Int32) : Nat → Int32
  | 0 => -1
  | k + 1 => if s 14 k = r then (if fBest s r k = -1 then nI k else if fRank s (nI k) ≤ fRank s (fBest s r k) then fBest s r k else nI k) else fBest s r k
def fTake (s : xS) (n : Nat) (r : Int32) : xS := if PL s (fBest s r n) then xup s 14 (ix (fBest s r n)) (-1) else s
theorem okX.take {s : xS} {n m : Nat} {r : Int32} (h : okX s n) : okX (fTake s m r) n := by
  unfold fTake
  split
  · exact h.up (by decide)
  · exact h
def fLen (s : xS) (r : Int32) : Nat → Int32
  | 0 => 0
  | k + 1 => if s 4 k = r then fLen s r k + 1 else fLen s r k
def fEscrow (s : xS) : Nat → Int32
  | 0 => 0
  | k + 1 => if s 3 k = 0 then fEscrow s k + s 2 k else if s 3 k = 1 then fEscrow s k + s 2 k else fEscrow s k
def fWho (s : xS) (p q : Int32) : Nat → Int32
  | 0 => 0
  | k + 1 => if s 3 k = 2 then (if s 0 k = p then (if s 1 k = q then fWho s p q k else fWho s p q k ||| 1 <<< (s 1 k &&& 31)) else fWho s p q k) else fWho s p q k
/-- Integer.bitCount, as the JDK counts -/
def us (x y : Int32) : Int32 := (x.toUInt32 >>> (y.toUInt32 &&& Int32.toUInt32 31)).toInt32
def fB1 (i : Int32) : Int32 := i - (us i 1 &&& 1431655765)
def fB2 (i : Int32) : Int32 := (i &&& 858993459) + (us i 2 &&& 858993459)
def fB3 (i : Int32) : Int32 := (i + us i 4) &&& 252645135
def fB4 (i : Int32) : Int32 := i + us i 8
def fB5 (i : Int32) : Int32 := i + us i 16
def fBits (i : Int32) : Int32 := fB5 (fB4 (fB3 (fB2 (fB1 i)))) &&& 63
def fLay (s : xS) (v r : Int32) : xS := if PL s v then xup (xup s 4 (ix v) r) 5 (ix v) ((xup s 4 (ix v) r) 5 (ix v) ||| fMark r) else s
theorem okX.lay {s : xS} {n : Nat} {v r : Int32} (h : okX s n) : okX (fLay s v r) n := by
  unfold fLay
  split
  · exact (h.up (by decide)).up (by decide)
  · exact h
def fLeave (s : xS) (v t : Int32) : xS := if PL s v then xup (xup s 4 (ix v) (-1)) 3 (ix v) t else s
theorem okX.leave {s : xS} {n : Nat} {v t : Int32} (h : okX s n) : okX (fLeave s v t) n := by
  unfold fLeave
  split
  · exact (h.up (by decide)).up (by decide)
  · exact h
def fPool (s : xS) (v r : Int32) : xS := if PL s v ∧ P4 r then xup s 10 (ix r) (s 10 (ix r) + s 2 (ix v)) else s
theorem okX.pool {s : xS} {n : Nat} {v r : Int32} (h : okX s n) : okX (fPool s v r) n := by
  unfold fPool
  split
  · exact h.up (by decide)
  · exact h
def fGive (s : xS) (v : Int32) : xS := if PL s v ∧ P8 (s 0 (ix v)) then xup s 8 (ix (s 0 (ix v))) (s 8 (ix (s 0 (ix v))) + s 2 (ix v)) else s
theorem okX.give {s : xS} {n : Nat} {v : Int32} (h : okX s n) : okX (fGive s v) n := by
  unfold fGive
  split
  · exact h.up (by decide)
  · exact h
def fMove (s : xS) (v r : Int32) : xS :=
  if PL s v then
    (if r = fHome (s 1 (ix v)) then xup (fLeave s v 1) 6 (ix v) ((fLeave s v 1) 13 0)
     else if s 5 (ix v) &&& fMark (fNext s r (fHome (s 1 (ix v)))) = 0 then fLay s v (fNext s r (fHome (s 1 (ix v)))) else fPool (fLeave s v 4) v r)
  else s
def fMoveN (s : xS) (v r : Int32) : Int32 := if PL s v ∧ r = fHome (s 1 (ix v)) then 1 else 0
theorem okX.move {s : xS} {n : Nat} {v r : Int32} (h : okX s n) : okX (fMove s v r) n := by
  unfold fMove
  split
  · split
    · exact h.leave.up (by decide)
    · split
      · exact h.lay
      · exact h.leave.pool
  · exact h
def fExp (s : xS) : Nat → xS
  | 0 => s
  | k + 1 => if (fExp s k) 3 k = 1 then (if (fExp s k) 13 0 - (fExp s k) 6 k < 20 then fExp s k else fGive (xup (fExp s k) 3 k 5) (nI k)) else fExp s k
theorem okX.exp {s : xS} {n : Nat} (h : okX s n) : ∀ k, okX (fExp s k) n
  | 0 => h
  | k + 1 => by
    unfold fExp
    split
    · split
      · exact h.exp k
      · exact ((h.exp k).up (by decide)).give
    · exact h.exp k
def fPayV (s : xS) (p t : Int32) : Int32 := if s 8 (ix p) < t then s 8 (ix p) else t
def fPay (s : xS) (p q t : Int32) : xS :=
  if P8 p ∧ P8 q then
    xup (xup (xup s 9 (ix p) (s 9 (ix p) + 1)) 8 (ix p) ((xup s 9 (ix p) (s 9 (ix p) + 1)) 8 (ix p) - fPayV s p t)) 8 (ix q) ((xup (xup s 9 (ix p) (s 9 (ix p) + 1)) 8 (ix p) ((xup s 9 (ix p) (s 9 (ix p) + 1)) 8 (ix p) - fPayV s p t)) 8 (ix q) + fPayV s p t)
  else s
def fPayN (s : xS) (p q t : Int32) : Int32 := if P8 p ∧ P8 q then fPayV s p t else 0
theorem okX.pay {s : xS} {n : Nat} {p q t : Int32} (h : okX s n) : okX (fPay s p q t) n := by
  unfold fPay
  split
  · exact ((h.up (by decide)).up (by decide)).up (by decide)
  · exact h
def fStep (s : xS) (n : Nat) (r : Int32) : xS := fMove (fTake s n r) (fBest s r n) r
def fStepN (s : xS) (n : Nat) (r : Int32) : Int32 := fMoveN (fTake s n r) (fBest s r n) r
def fTwo (s : xS) (n : Nat) (r : Int32) : Nat → xS
  | 0 => s
  | k + 1 => fStep (fTwo s n r k) n r
def fTwoN (s : xS) (n : Nat) (r c : Int32) : Nat → Int32
  | 0 => c
  | k + 1 => fTwoN s n r c k + fStepN (fTwo s n r k) n r
theorem okX.two {s : xS} {n : Nat} {r : Int32} (h : okX s n) : ∀ k, okX (fTwo s n r k) n
  | 0 => h
  | k + 1 => (h.two k).take.move
def fFour (s : xS) (n : Nat) : Nat → xS
  | 0 => s
  | k + 1 => fTwo (fFour s n k) n (nI k) 2
def fFourN (s : xS) (n : Nat) : Nat → Int32
  | 0 => 0
  | k + 1 => fTwoN (fFour s n k) n (nI k) (fFourN s n k) 2
theorem okX.four {s : xS} {n : Nat} (h : okX s n) : ∀ k, okX (fFour s n k) n
  | 0 => h
  | k + 1 => (h.four k).two 2
def fTick0 (s : xS) (n : Nat) : xS := fBegin (xup s 13 0 (s 13 0 + 1)) n
def fTick (s : xS) (n : Nat) : xS := fExp (fFour (fTick0 s n) n 4) n
def fTickN (s : xS) (n : Nat) : Int32 := fFourN (fTick0 s n) n 4
theorem okX.tick0 {s : xS} {n : Nat} (h : okX s n) : okX (fTick0 s n) n := (h.up (by decide)).begin
theorem okX.tick {s : xS} {n : Nat} (h : okX s n) : okX (fTick s n) n := (h.tick0.four 4).exp n
def fTicks (s : xS) (n : Nat) : Nat → xS
  | 0 => s
  | k + 1 => fTick (fTicks s n k) n
def fTicksN (s : xS) (n : Nat) : Nat → Int32
  | 0 => 0
  | k + 1 => fTicksN s n k + fTickN (fTicks s n k) n
theorem okX.ticks {s : xS} {n : Nat} (h : okX s n) : ∀ k, okX (fTicks s n k) n
  | 0 => h
  | k + 1 => (h.ticks k).tick
def fTakes (s : xS) (n : Nat) (r : Int32) : Nat → xS
  | 0 => s
  | k + 1 => fTake (fTakes s n r k) n r
theorem okX.takes {s : xS} {n : Nat} {r : Int32} (h : okX s n) : ∀ k, okX (fTakes s n r k) n
  | 0 => h
  | k + 1 => (h.takes k).take
end
section
/-! methods that throw (xT), the law's own methods that catch (xL), calls of both; a world between two others -/
def xIOB : String := "java/lang/IndexOutOfBoundsException"
def xIAE : String := "java/lang/IllegalArgumentException"
def xISE : String := "java/lang/IllegalStateException"
abbrev xNm : List String := ["java/lang/RuntimeException", "java/lang/Exception"]
def xStrs : List (Nat × String) := [(66, "there is no such relay"), (73, "a route leads to another relay, by another relay"), (83, "there is no such person"), (85, "the reader is another person, a stake is 0 to 20"), (93, "the stake is too low, the coins are too few, or there are 60 letters"), (103, "ticks are 1 to 50"), (106, "the time would be above 100000"), (115, "there is no such letter"), (117, "the letter is not DELIVERED"), (139, "there is no such relay or no such place in its queue")]
def xExs : List String := ["java/lang/IndexOutOfBoundsException", "java/lang/IllegalArgumentException", "java/lang/IllegalStateException"]
abbrev xDm (Y : String) : Cond := .declares ⟨Y, "<init>", "(Ljava/lang/String;)V"⟩
def xDs : List String := ["java/lang/RuntimeException", "java/lang/Exception", "java/lang/Throwable"]
abbrev xBad (E : String) : List Cond := [Cond.castable E E, xDm "java/lang/RuntimeException", xDm "java/lang/Exception", xDm "java/lang/Throwable"]
/-- what a throw and a catch need of the heap and the tables -/
def xTh (A : Nat → Prop) (U : State) (H : Heap) : Prop :=
  vx_Zq Bundle.tN "UNASSIGNED_STACK" Bundle.steD A U H ∧ vx_Zq Bundle.tN "SUPPRESSED_SENTINEL" Bundle.listD A U H ∧ (∀ q ∈ xStrs, ∃ sa, vk_R RX0 q.1 q.2 sa U) ∧ (∀ E ∈ xExs, va_Nw (.castable E E) U) ∧ (∀ E ∈ xExs, ∀ F ∈ xExs, E ≠ F → va_Nc E F U) ∧ (∀ Y ∈ xDs, va_Nw (xDm Y) U)
theorem xTh.to {A B : Nat → Prop} {s U : State} {H : Heap} {locs : List Loc} (h : xTh A s s.heap) (hS : va_S A s.heap H locs) (hAB : ∀ q, B q → A q) (hU : U.heap = H) (hW : s.WarmedH U.vm) : xTh B U U.heap := by
  obtain ⟨h1, h2, h3, h4, h5, h6⟩ := h
  have hk : ∀ a : Nat, a < s.heap.size → ¬ A a → U.heap[a]? = s.heap[a]? := fun a ha hn => by rw [hU]; exact hS.2.1 a ha hn
  exact ⟨((h1.moved hW.alike).kept hk).narrow hAB, ((h2.moved hW.alike).kept hk).narrow hAB, fun q hq => (h3 q hq).elim (fun sa h => ⟨sa, h.warm hW⟩), fun E hE => (h4 E hE).warmC hW, fun E hE F hF hne => (h5 E hE F hF hne).moved hW.alike, fun Y hY => (h6 Y hY).warmD hW⟩
theorem xTh.calling {A : Nat → Prop} {U : State} {g : JFrame} {mk : MethodId} {a : Array Value} (h : xTh A U U.heap) : xTh A (U.calling g mk a) (U.calling g mk a).heap := by
  obtain ⟨h1, h2, h3, h4, h5, h6⟩ := h
  have hv : U.vm.Alike (U.calling g mk a).vm := Vm.Alike.refl U.vm
  exact ⟨h1.moved hv, h2.moved hv, fun q hq => (h3 q hq).elim (fun sa h => ⟨sa, vk_R.same rfl h⟩), fun E hE => va_Nw.same rfl (rfl : U.vm = (U.calling g mk a).vm) (h4 E hE), fun E hE F hF hne => (h5 E hE F hF hne).moved hv, fun Y hY => va_Nw.same rfl (rfl : U.vm = (U.calling g mk a).vm) (h6 Y hY)⟩
abbrev xRT (f lo : Nat) : Room := { frames := f, cells := 1, slots := 6, locals := lo }
def xPreT (D : va_G) (cx : xC) (W0 : va_W) (sz : Nat) : State → Prop := fun U => xPre D cx W0 sz U ∧ xTh (va_A W0 sz) U U.heap
theorem xPreT_blind {D : va_G} {cx : xC} {W0 : va_W} {sz : Nat} {av : List Value} : FrameBlind (va_Pc av (xPreT D cx W0 sz)) :=
  fun a U g mk q => ⟨q.1, (xPre_blind a U g mk ⟨q.1, q.2.1⟩).2, q.2.2.calling⟩
/-- an int, or a throw of a class of which px holds, the world as it was -/
def xT {S : Type} (l : Launch) (y : MethodName) (wsC : List Cond) (rm : Room) (D : va_G) (cx : xC) (av : List Value) (W0 : va_W) (wf : S → va_W) (post : Int32 → S → Prop) (px : String → Prop) : Prop :=
  ∀ sz : Nat, vx_Met l y wsC rm (va_Pc av (xPreT D cx W0 sz)) (va_Qi post (xAt D cx (va_A W0 sz) wf) (va_A W0 sz)) (vx_X (fun _ : Unit => True) (fun E _ t => px E ∧ va_P D vwCl W0 t.heap ∧ va_K D vwCl (xTy cx) t ∧ va_D (va_A W0 sz) W0) (va_A W0 sz)) 1 6 (va_A W0 sz)
theorem x_enterT {S : Type} {l : Launch} {y : MethodName} {wsC wsC' : List Cond} {rm : Room} {D : va_G} {cx : xC} {av : List Value} {W0 : va_W} {wf : S → va_W} {post : Int32 → S → Prop} {px : String → Prop} {cc : ByteArray} {nL : Nat} (hfl : l.stackTraces = false) (hy : plainName y.cls = true) (hw : wsC = .code y cc nL (some .int) :: wsC') (hcls : y.cls = RX0) (hlen : (lg_sl av).length ≤ nL) (hrm : 5 < rm.frames ∧ 82 ≤ rm.locals ∧ rm.cells = 1 ∧ rm.slots = 6)
    (body : ∀ X : xX, xOK l D cx rm X cc nL RX0 wsC → (∀ (v : Int32) (u : S) (pc : Nat) (lv : List (Nat × Value)), post v u → decode cc pc = .ok (.ireturn, 1) → xV X nL 0 0 (wf u) pc lv [.int v]) →
      (∀ (pc ik is ic : Nat) (cls text : String) (lv : List (Nat × Value)), px cls → Bundle.fit cls = true → cls ∈ xExs → (is, text) ∈ xStrs → Cond.classLink RX0 ik cls ∈ wsC → Cond.initialized cls ∈ wsC → (∀ w ∈ (vx_atS RX0 ic cls xNm).filter goodWord, w ∈ wsC) → (∀ w ∈ (vx_atS RX0 ic cls xNm).filter (fun w => !goodWord w), w ∈ xBad cls) → (∀ w ∈ Cond.classLink RX0 ik cls :: Cond.initialized cls :: vx_atS RX0 ic cls xNm, vx_ot w = true) →
        decode cc pc = .ok (.new ik, 3) → decode cc (pc + 3) = .ok (.dup, 1) → decode cc (pc + 4) = .ok (.ldc is, 2) → decode cc (pc + 6) = .ok (.invokespecial ic, 3) → decode cc (pc + 9) = .ok (.athrow, 1) → xV X nL 0 0 W0 pc lv []) → xV X nL 0 0 W0 0 (lv_args 0 av) []) : xT l y wsC rm D cx av W0 wf post px := by
  intro sz
  refine vx_ofW (cc := cc) (maxL := nL) (ret := some .int) hy hw ?_
  intro p e s m args below meth c s₁ B hml htab hv
  obtain ⟨rfl, ⟨hsz, hP, hK, hD0⟩, hTh⟩ := hv
  subst hsz
  have hx := B.exec
  have hb := B.bytes
  have hr := B.returns
  have hts := atoms_spec (ws := wsC) B.pre
  have hown : s.vm.findClass RX0 = some m.cls := hcls ▸ findClass_of_methodNamed B.named
  have hlocks := B.notSynchronized
  have hD : va_D (va_A W0 s.heap.size) W0 := hD0.self
  have hl := lv_entry av (n := nL) hlen
  rw [lg_entry_eq]
  refine body ((p, l, e, (headSpec wsC rm).room), (s, m, av.toArray, below), (meth, c, _), (D, cx, va_A W0 s.heap.size)) ⟨hx, hb, hml, hown, hts, hK, fun q h => Or.inr h, rfl, rfl, rfl, rfl⟩ ?_ ?_ s.heap [] _ hP hD va_S.rf hl
  · intro v u pc lv hp hd H locs ls hP hD hS hl
    exact W.widen (k := 1) (n := 6) (Nat.zero_le _) (Nat.zero_le _) (vx_ret (W.zret hx hb hr rfl (fun t ht hW => ⟨⟨v, u, rfl, hp, by rw [ht]; exact hP, va_K.moved hW.alike hK, hD⟩, hS.F ht⟩) hS.2.2 hd hlocks))
  · intro pc ik is ic cls text lv hpx hfit hex hstr hk hini hg hb2 hot d0 d3 d4 d6 d9 H locs ls hP2 hD2 hS2 hl2
    obtain ⟨h1, h2, h3, h4, h5, h6⟩ := hTh
    obtain ⟨sa, hsa⟩ := h3 _ hstr
    refine vx_throwS (names := xNm) (sa := sa) (A := va_A W0 s.heap.size) hx hb hfl hown hfit (by decide +kernel) (hts _ hk) (hts _ hini) hsa (vx_hat (fun w hw => hts w (hg w hw)) hb2 (vx_c (va_Nw.use rfl (h4 cls hex)) (vx_c (va_Nw.use rfl (h6 _ (by decide))) (vx_c (va_Nw.use rfl (h6 _ (by decide))) (vx_c (va_Nw.use rfl (h6 _ (by decide))) vx_n))))) hot h1 h2 hS2 (hl2.1.trans hml.symm) d0 d3 d4 d6 d9 (fun x hx => (htab x hx).elim) ?_ ?_ ?_ ?_ hlocks (fun t hvm hz hk => ?_) hS2.2.2 (Nat.le_refl 1) (Nat.le_refl 6)
    · exact hrm.1
    · show 0 + (13 * (2 + 1) + 43) ≤ rm.locals
      exact hrm.2.1
    · show 0 + 1 ≤ rm.cells
      rw [hrm.2.2.1]; exact Nat.le_refl 1
    · show 0 + 6 ≤ rm.slots
      rw [hrm.2.2.2]; exact Nat.le_refl 6
    · exact ⟨(), trivial, ⟨hpx, hP2.kept (fun k q hq => hk q.1 (hP2 k q hq).lt), va_K.moved hvm hK, hD2⟩, Nat.le_trans hS2.1 hz, fun q h1 h2 => (hk q (Nat.lt_of_lt_of_le h1 hS2.1)).trans (hS2.2.1 q h1 h2)⟩
/-- a frame over which q, of class E, has been thrown -/
def xVX (X : xX) (nL k n : Nat) (ws : va_W) (pc : Nat) (lv : List (Nat × Value)) (st : List Value) (E : String) : Prop :=
  ∀ (H : Heap) (locs : List Loc) (ls : Array Slot) (q : Addr) (ce : Cell), va_P X.2.2.2.1 vwCl ws H → va_D X.2.2.2.2.2 ws → va_S X.2.2.2.2.2 X.2.1.1.heap H locs → lv_has ls nL lv → H[q]? = some ce → ce.vm = .none → X.2.1.1.vm.findClass E = some ce.cls →
    vx_W X.1.1 X.1.2.1 X.1.2.2.1 X.1.2.2.2 X.2.1.1 X.2.1.2.1 X.2.1.2.2.1 X.2.1.2.2.2 X.2.2.1.1 X.2.2.1.2.1 H locs k n X.2.2.1.2.2 (F0 X.2.1.2.1 pc ls st) q
/-- a world between two: the cut and the join of a call -/
theorem xw_cut {D : va_G} {cl : List vw_C} {A : Nat → Prop} {w1 wc w2 : va_W} {H : Heap} (hP : va_P D cl (w1 ++ (wc ++ w2)) H) (hD : va_D A (w1 ++ (wc ++ w2))) :
    (va_P D cl w1 H ∧ va_P D cl wc H ∧ va_P D cl w2 H) ∧ (va_D A w1 ∧ va_D A wc ∧ va_D A w2) ∧ (∀ (k : Nat) (q : Nat × va_E), w1[k]? = some q → ¬ va_A wc H.size q.1) ∧ (∀ (k : Nat) (q : Nat × va_E), w2[k]? = some q → ¬ va_A wc H.size q.1) ∧ (∀ (i j : Nat) (p q : Nat × va_E), w1[i]? = some p → w2[j]? = some q → p.1 ≠ q.1) := by
  have g1 : ∀ {k : Nat} {q : Nat × va_E}, w1[k]? = some q → (w1 ++ (wc ++ w2))[k]? = some q ∧ k < w1.length := fun {k q} h => by
    have hl := (List.getElem?_eq_some_iff.mp h).1
    exact ⟨by rw [List.getElem?_append_left hl]; exact h, hl⟩
  have gc : ∀ {k : Nat} {q : Nat × va_E}, wc[k]? = some q → (w1 ++ (wc ++ w2))[w1.length + k]? = some q ∧ k < wc.length := fun {k q} h => by
    have hl := (List.getElem?_eq_some_iff.mp h).1
    refine ⟨?_, hl⟩
    rw [List.getElem?_append_right (by omega), Nat.add_sub_cancel_left, List.getElem?_append_left hl]
    exact h
  have g2 : ∀ {k : Nat} {q : Nat × va_E}, w2[k]? = some q → (w1 ++ (wc ++ w2))[w1.length + (wc.length + k)]? = some q := fun {k q} h => by
    rw [List.getElem?_append_right (by omega), Nat.add_sub_cancel_left, List.getElem?_append_right (by omega), Nat.add_sub_cancel_left]
    exact h
  refine ⟨⟨fun k q h => hP _ q (g1 h).1, fun k q h => hP _ q (gc h).1, fun k q h => hP _ q (g2 h)⟩, ⟨⟨fun i j p q hi hj e => hD.1 i j p q (g1 hi).1 (g1 hj).1 e, fun k q h => hD.2 _ q (g1 h).1⟩, ⟨fun i j p q hi hj e => ?_, fun k q h => hD.2 _ q (gc h).1⟩, ⟨fun i j p q hi hj e => ?_, fun k q h => hD.2 _ q (g2 h)⟩⟩, fun k q h => ?_, fun k q h => ?_, fun i j p q hi hj e => ?_⟩
  · have := hD.1 _ _ p q (gc hi).1 (gc hj).1 e
    omega
  · have := hD.1 _ _ p q (g2 hi) (g2 hj) e
    omega
  · rintro (⟨j, e, h2⟩ | h2)
    · have := hD.1 _ _ q (q.1, e) (g1 h).1 (gc h2).1 rfl
      have := (g1 h).2
      omega
    · have := (hP _ q (g1 h).1).lt
      omega
  · rintro (⟨j, e, h2⟩ | h2)
    · have := hD.1 _ _ q (q.1, e) (g2 h) (gc h2).1 rfl
      have := (gc h2).2
      omega
    · have := (hP _ q (g2 h)).lt
      omega
  · have := hD.1 _ _ p q (g1 hi).1 (g2 hj) e
    have := (g1 hi).2
    omega
theorem xw_join {D : va_G} {cl : List vw_C} {A : Nat → Prop} {w1 wc w2 wn : va_W} {H H1 : Heap} (hP : va_P D cl (w1 ++ (wc ++ w2)) H) (hD : va_D A (w1 ++ (wc ++ w2))) (hk : ∀ q : Nat, q < H.size → ¬ va_A wc H.size q → H1[q]? = H[q]?) (hF : ∀ q, va_A wc H.size q → A q) (hPn : va_P D cl wn H1) (hDn : va_D (va_A wc H.size) wn) : va_P D cl (w1 ++ (wn ++ w2)) H1 ∧ va_D A (w1 ++ (wn ++ w2)) := by
  obtain ⟨⟨p1, pc, p2⟩, ⟨d1, dc, d2⟩, n1, n2, n12⟩ := xw_cut hP hD
  refine ⟨va_P.app (p1.kept (fun k q h => hk q.1 (p1 k q h).lt (n1 k q h))) (va_P.app hPn (p2.kept (fun k q h => hk q.1 (p2 k q h).lt (n2 k q h)))), va_D.app d1 (va_D.app (hDn.weaken (fun k q _ h => hF q.1 h)) d2 (fun i j p q hi hj e => n2 j q hj (e ▸ hDn.2 i p hi))) (fun i j p q hi hj e => ?_)⟩
  rcases Nat.lt_or_ge j wn.length with hl | hl
  · rw [List.getElem?_append_left hl] at hj
    exact n1 i p hi (e ▸ hDn.2 j q hj)
  · rw [List.getElem?_append_right hl] at hj
    exact n12 i _ p q hi hj e
theorem xw_free {D : va_G} {cl : List vw_C} {A : Nat → Prop} {w1 wc w2 : va_W} {H0 H : Heap} {locs : List Loc} (hD : va_D A (w1 ++ (wc ++ w2))) (hP : va_P D cl (w1 ++ (wc ++ w2)) H) (hS : va_S A H0 H locs) (hA : ∀ q, H0.size ≤ q → A q) : ∀ q, va_A wc H.size q → A q := by
  obtain ⟨-, ⟨-, dc, -⟩, -⟩ := xw_cut hP hD
  intro q h
  exact h.elim (fun ⟨k, e, h⟩ => dc.2 k (q, e) h) (fun h => hA q (Nat.le_trans hS.1 h))
section XTHROW
variable {l : Launch} {D : va_G} {cx : xC} {rm : Room} {X : xX} {cc : ByteArray} {nL : Nat} {own : String} {Ts : List Cond} {k n pc : Nat} {ws : va_W} {lv : List (Nat × Value)} {st : List Value}
/-- a method of an object whose world lies between w1 and w2 -/
theorem x_bvi {S : Type} (w1 w2 : va_W) {wc : va_W} {wf' : S → va_W} (h : xOK l D cx rm X cc nL own Ts) {y : MethodName} {cc2 : ByteArray} {nL2 idx : Nat} {ret : FieldType} {wsC wsC' : List Cond} {rmC : Room} {As : List Value} {b ci : Nat} {fs : List Value} {C : String} {T : u_T} {N : Nat} {wf : S → va_W} {post : Int32 → S → Prop} {st0 : List Value} (d : decode cc pc = .ok (.invokevirtual idx, 3)) (na : Nat) (hna : As.length = na) (hM : xI l y wsC rmC D cx (.ref b :: As) wc wf post) (hws : ws = w1 ++ (wc ++ w2)) (hwf : ∀ u, w1 ++ (wf u ++ w2) = wf' u) (hg : GoodIn Ts (wsV own idx C y wsC)) (hw : wsC = .code y cc2 nL2 (some ret) :: wsC')
    (hd : y.cls = C ∧ y.cls ≠ "java/lang/invoke/MethodHandle" ∧ y.cls ≠ "java/lang/invoke/VarHandle" ∧ (parseMethodDescriptor y.desc).map (fun d => d.parameters.length) = some na) (hrm : rmC.cells = 0 ∧ rmC.slots = 0 ∧ rmC.frames + 1 ≤ rm.frames ∧ 8 + (nL2 + 11) + rmC.locals ≤ rm.locals ∧ k ≤ rm.cells ∧ n ≤ rm.slots)
    (he : wc[0]? = some (b, .inr (ci, fs))) (hc : vwCl[ci]? = some (C, T, N)) (hst : (st.map fun v => v.category).sum ≤ 8) (hs0 : st0 = As.reverse ++ .ref b :: st) (kk : ∀ (r : Int32) (u : S), post r u → xV X nL k n (wf' u) (pc + 3) lv (.int r :: st)) : xV X nL k n ws pc lv st0 := by
  intro H locs ls hP hD hS hl
  obtain ⟨hx, hb, hml, hown, hts, hK, hA, rfl, rfl, rfl, rfl⟩ := h
  subst hs0
  subst hna
  subst hws
  have hF := xw_free hD hP hS hA
  obtain ⟨⟨p1, pc1, p2⟩, ⟨d1, dc, d2⟩, -⟩ := xw_cut hP hD
  refine va_calli (va_runV (As := As) (rest := st) ⟨hx, hb, hml, hown, hts⟩ (hM H.size) (cwV As.length hts hg hw hrm.1 hrm.2.1 hd ⟨hrm.2.2.1, hrm.2.2.2.1⟩) ⟨xPre_blind, va_recv hK pc1 hc he, fun U hU hW => ⟨rfl, by rw [hU], by rw [hU]; exact pc1, va_K.moved hW.alike hK, dc.weaken (fun _ _ _ _ => trivial)⟩⟩ rfl rfl hl.1 rfl (lv_room hst) d ⟨hrm.2.2.2.2.1, hrm.2.2.2.2.2⟩) hS (fun q _ h => hF q h) hF (fun r u t H1 locs1 ht hvm hw hB hz1 hk1 hS1 => ?_)
  obtain ⟨hP1, hK1, hD1⟩ := hB
  rw [ht] at hP1
  obtain ⟨q1, q2⟩ := xw_join hP hD hk1 hF hP1 hD1
  rw [hwf] at q1 q2
  exact kk r u hw H1 locs1 ls q1 q2 hS1 hl
/-- a method that may throw, of an object whose world lies between w1 and w2 -/
theorem x_bvt {S : Type} (w1 w2 : va_W) {wc : va_W} {wf' : S → va_W} (h : xOK l D cx rm X cc nL own Ts) (hTh : xTh X.2.2.2.2.2 X.2.1.1 X.2.1.1.heap) {y : MethodName} {cc2 : ByteArray} {nL2 idx : Nat} {ret : FieldType} {wsC wsC' : List Cond} {rmC : Room} {As : List Value} {b ci : Nat} {fs : List Value} {C : String} {T : u_T} {N : Nat} {wf : S → va_W} {post : Int32 → S → Prop} {px : String → Prop} {st0 : List Value} (d : decode cc pc = .ok (.invokevirtual idx, 3)) (na : Nat) (hna : As.length = na) (hM : xT l y wsC rmC D cx (.ref b :: As) wc wf post px) (hws : ws = w1 ++ (wc ++ w2)) (hwf : ∀ u, w1 ++ (wf u ++ w2) = wf' u) (hg : GoodIn Ts (wsV own idx C y wsC)) (hw : wsC = .code y cc2 nL2 (some ret) :: wsC')
    (hd : y.cls = C ∧ y.cls ≠ "java/lang/invoke/MethodHandle" ∧ y.cls ≠ "java/lang/invoke/VarHandle" ∧ (parseMethodDescriptor y.desc).map (fun d => d.parameters.length) = some na) (hrm : rmC.cells = 1 ∧ rmC.slots = 6 ∧ rmC.frames + 1 ≤ rm.frames ∧ 8 + (nL2 + 11) + rmC.locals ≤ rm.locals ∧ k + 1 ≤ rm.cells ∧ n + 6 ≤ rm.slots)
    (he : wc[0]? = some (b, .inr (ci, fs))) (hc : vwCl[ci]? = some (C, T, N)) (hst : (st.map fun v => v.category).sum ≤ 8) (hs0 : st0 = As.reverse ++ .ref b :: st) (kx : ∀ E, px E → xVX X nL (k + 1) (n + 6) ws pc lv st E) (kk : ∀ (r : Int32) (u : S), post r u → xV X nL (k + 1) (n + 6) (wf' u) (pc + 3) lv (.int r :: st)) : xV X nL k n ws pc lv st0 := by
  intro H locs ls hP hD hS hl
  obtain ⟨hx, hb, hml, hown, hts, hK, hA, rfl, rfl, rfl, rfl⟩ := h
  subst hs0
  subst hna
  subst hws
  have hF := xw_free hD hP hS hA
  obtain ⟨⟨p1, pc1, p2⟩, ⟨d1, dc, d2⟩, -⟩ := xw_cut hP hD
  refine vx_calli (vx_runV (As := As) (rest := st) ⟨hx, hb, hml, hown, hts⟩ (hM H.size) (cwV As.length hts hg hw hrm.1 hrm.2.1 hd ⟨hrm.2.2.1, hrm.2.2.2.1⟩) ⟨xPreT_blind, va_recv hK pc1 hc he, fun U hU hW => ⟨rfl, ⟨by rw [hU], by rw [hU]; exact pc1, va_K.moved hW.alike hK, dc.weaken (fun _ _ _ _ => trivial)⟩, hTh.to hS hF hU hW⟩⟩ rfl rfl hl.1 rfl (lv_room hst) d ⟨hrm.2.2.2.2.1, hrm.2.2.2.2.2⟩) hS (fun q _ h => hF q h) hF (fun q _ h => hF q h) (fun E ce q u t H1 locs1 ht hvm _ hB hz1 hk1 hS1 hce hcv hcl => ?_) (fun r u t H1 locs1 ht hvm hw hB hz1 hk1 hS1 => ?_)
  · obtain ⟨hpx, hP1, hK1, hD1⟩ := hB
    rw [ht] at hP1
    obtain ⟨q1, q2⟩ := xw_join hP hD hk1 hF hP1 hD1
    exact kx E hpx H1 locs1 ls q ce q1 q2 hS1 hl hce hcv hcl
  · obtain ⟨hP1, hK1, hD1⟩ := hB
    rw [ht] at hP1
    obtain ⟨q1, q2⟩ := xw_join hP hD hk1 hF hP1 hD1
    rw [hwf] at q1 q2
    exact kk r u hw H1 locs1 ls q1 q2 hS1 hl
/-- caught by a row of the method's table -/
theorem x_catch (h : xOK l D cx rm X cc nL own Ts) (hTh : xTh X.2.2.2.2.2 X.2.1.1 X.2.1.1.heap) {hh : List (Nat × Nat × Nat × Nat)} (htab : X.2.2.1.2.1.exceptionTable.toList = tableOf hh) {E : String} (hE : E ∈ xExs) (pre : List ExceptionTableEntry) (x : ExceptionTableEntry) (suf : List ExceptionTableEntry) (hsplit : tableOf hh = pre ++ x :: suf)
    (hpass : ∀ z ∈ pre, z.catchType ≠ 0 ∧ ∃ nm : String, Cond.classLink own z.catchType nm ∈ Ts ∧ nm ∈ xExs ∧ E ≠ nm) (hx : covers x pc = true) (h0 : x.catchType ≠ 0) (hlink : Cond.classLink own x.catchType E ∈ Ts)
    (kk : ∀ q, xV X nL k n ws x.handlerPc lv [.ref q]) : xVX X nL k n ws pc lv st E := by
  intro H locs ls q ce hP hD hS hl hce hcv hcl
  obtain ⟨hx0, hb, hml, hown, hts, hK, hA, rfl, rfl, rfl, rfl⟩ := h
  obtain ⟨h1, h2, h3, h4, h5, h6⟩ := hTh
  exact vx_catch hown pre x suf (htab.trans hsplit) (fun z hz => Or.inr ⟨(hpass z hz).1, (hpass z hz).2.elim (fun nm h => ⟨nm, hts _ h.1, h5 E hE nm h.2.1 h.2.2⟩)⟩) hx h0 (hts _ hlink) (va_Nw.use rfl (h4 E hE)) hce hcv hcl (kk q H locs ls hP hD hS hl)
end XTHROW
/-- a method of the law's own, that catches what it calls: it returns -/
def xL {S : Type} (l : Launch) (y : MethodName) (wsC : List Cond) (rm : Room) (D : va_G) (cx : xC) (av : List Value) (W0 : va_W) (wf : S → va_W) (post : Int32 → S → Prop) : Prop :=
  ∀ sz : Nat, vx_Met l y wsC rm (va_Pc av (xPreT D cx W0 sz)) (va_Qi post (xAt D cx (va_A W0 sz) wf) (va_A W0 sz)) (vx_X (fun _ : Unit => False) (fun _ _ _ => True) (va_A W0 sz)) 1 6 (va_A W0 sz)
theorem x_enterL {S : Type} {l : Launch} {y : MethodName} {wsC wsC' : List Cond} {rm : Room} {D : va_G} {cx : xC} {av : List Value} {W0 : va_W} {wf : S → va_W} {post : Int32 → S → Prop} {cc : ByteArray} {nL : Nat} {own : String} {hh : List (Nat × Nat × Nat × Nat)} (hy : plainName y.cls = true) (hw : wsC = .codeWith y cc nL (some .int) hh :: wsC') (hcls : y.cls = own) (hlen : (lg_sl av).length ≤ nL)
    (body : ∀ X : xX, xOK l D cx rm X cc nL own wsC → xTh X.2.2.2.2.2 X.2.1.1 X.2.1.1.heap → X.2.2.1.2.1.exceptionTable.toList = tableOf hh → (∀ (v : Int32) (u : S) (pc : Nat) (lv : List (Nat × Value)), post v u → decode cc pc = .ok (.ireturn, 1) → xV X nL 1 6 (wf u) pc lv [.int v]) → xV X nL 0 0 W0 0 (lv_args 0 av) []) : xL l y wsC rm D cx av W0 wf post := by
  intro sz
  refine vx_ofWH (cc := cc) (maxL := nL) (ret := some .int) (hh := hh) hy hw ?_
  intro p e s m args below meth c s₁ B hml hv
  obtain ⟨rfl, ⟨hsz, hP, hK, hD0⟩, hTh⟩ := hv
  subst hsz
  have hx := B.exec
  have hb := B.bytes
  have hr := B.returns
  have hts := atoms_spec (ws := wsC) B.pre
  have hown : s.vm.findClass own = some m.cls := hcls ▸ findClass_of_methodNamed B.named
  have hlocks := B.notSynchronized
  have hD : va_D (va_A W0 s.heap.size) W0 := hD0.self
  have hl := lv_entry av (n := nL) hlen
  have htab := vx_table (x := y) B (hts _ (by rw [hw]; exact List.mem_cons_self))
  rw [lg_entry_eq]
  refine body ((p, l, e, (headSpec wsC rm).room), (s, m, av.toArray, below), (meth, c, _), (D, cx, va_A W0 s.heap.size)) ⟨hx, hb, hml, hown, hts, hK, fun q h => Or.inr h, rfl, rfl, rfl, rfl⟩ hTh htab ?_ s.heap [] _ hP hD va_S.rf hl
  intro v u pc lv hp hd H locs ls hP hD hS hl
  exact vx_ret (W.zret hx hb hr rfl (fun t ht hW => ⟨⟨v, u, rfl, hp, by rw [ht]; exact hP, va_K.moved hW.alike hK, hD⟩, hS.F ht⟩) hS.2.2 hd hlocks)
section XLAW
variable {l : Launch} {D : va_G} {cx : xC} {rm : Room} {X : xX} {cc : ByteArray} {nL : Nat} {own : String} {Ts : List Cond} {k n pc : Nat} {ws : va_W} {lv : List (Nat × Value)} {st : List Value}
theorem x_bsl {S : Type} (w1 w2 : va_W) {wc : va_W} {wf' : S → va_W} (h : xOK l D cx rm X cc nL own Ts) (hTh : xTh X.2.2.2.2.2 X.2.1.1 X.2.1.1.heap) {y : MethodName} {cc2 : ByteArray} {nL2 idx : Nat} {ret : FieldType} {hh : List (Nat × Nat × Nat × Nat)} {wsC wsC' : List Cond} {rmC : Room} {As : List Value} {wf : S → va_W} {post : Int32 → S → Prop} {st0 : List Value} (d : decode cc pc = .ok (.invokestatic idx, 3)) (na : Nat) (hna : As.length = na) (hM : xL l y wsC rmC D cx As wc wf post) (hws : ws = w1 ++ (wc ++ w2)) (hwf : ∀ u, w1 ++ (wf u ++ w2) = wf' u) (hg : GoodIn Ts (va_wsS own idx y wsC)) (hw : wsC = .codeWith y cc2 nL2 (some ret) hh :: wsC')
    (hd : y.cls ≠ "java/lang/invoke/MethodHandle" ∧ y.cls ≠ "java/lang/invoke/VarHandle" ∧ (parseMethodDescriptor y.desc).map (fun d => d.parameters.length) = some na) (hrm : rmC.cells = 1 ∧ rmC.slots = 6 ∧ rmC.frames + 1 ≤ rm.frames ∧ 8 + (nL2 + 11) + rmC.locals ≤ rm.locals ∧ k + 1 ≤ rm.cells ∧ n + 6 ≤ rm.slots)
    (hst : (st.map fun v => v.category).sum ≤ 8) (hs0 : st0 = As.reverse ++ st) (kk : ∀ (r : Int32) (u : S), post r u → xV X nL (k + 1) (n + 6) (wf' u) (pc + 3) lv (.int r :: st)) : xV X nL k n ws pc lv st0 := by
  intro H locs ls hP hD hS hl
  obtain ⟨hx, hb, hml, hown, hts, hK, hA, rfl, rfl, rfl, rfl⟩ := h
  subst hs0
  subst hna
  subst hws
  have hF := xw_free hD hP hS hA
  obtain ⟨⟨p1, pc1, p2⟩, ⟨d1, dc, d2⟩, -⟩ := xw_cut hP hD
  refine vx_calli (vx_runSX (As := As) (rest := st) (hh := hh) ⟨hx, hb, hml, hown, hts⟩ (hM H.size) (vx_cwSW As.length hts hg hw hrm.1 hrm.2.1 hd ⟨hrm.2.2.1, hrm.2.2.2.1⟩) ⟨xPreT_blind, fun U hU hW => ⟨rfl, ⟨by rw [hU], by rw [hU]; exact pc1, va_K.moved hW.alike hK, dc.weaken (fun _ _ _ _ => trivial)⟩, hTh.to hS hF hU hW⟩⟩ rfl rfl hl.1 rfl (lv_room hst) d ⟨hrm.2.2.2.2.1, hrm.2.2.2.2.2⟩) hS (fun q _ h => hF q h) hF (fun q _ h => hF q h) (fun E ce q u t H1 locs1 ht hvm hu hB hz1 hk1 hS1 hce hcv hcl => hu.elim) (fun r u t H1 locs1 ht hvm hw hB hz1 hk1 hS1 => ?_)
  obtain ⟨hP1, hK1, hD1⟩ := hB
  rw [ht] at hP1
  obtain ⟨q1, q2⟩ := xw_join hP hD hk1 hF hP1 hD1
  rw [hwf] at q1 q2
  exact kk r u hw H1 locs1 ls q1 q2 hS1 hl
end XLAW
end
section
/-! the class's public methods: k.. which exception (0: none), v.. the answer, s.. the state behind it -/
def kRoute (a b c : Int32) : Int32 := if P4 a then (if P4 b then (if P4 c then (if b = a then 2 else if c = a then 2 else 0) else 1) else 1) else 1
def vRoute (s : xS) (a b : Int32) : Int32 := s 11 (ix (a * 4 + b))
def sRoute (s : xS) (a b c : Int32) : xS := xup s 11 (ix (a * 4 + b)) c
def kTwo4 (a b : Int32) : Int32 := if P4 a then (if P4 b then 0 else 1) else 1
def fAt (s : xS) (a t : Int32) : Nat → Int32
  | 0 => a
  | k + 1 => fNext s (fAt s a t k) t
def fSteps (s : xS) (a t : Int32) : Nat → Nat → Int32
  | 0, _ => -1
  | m + 1, k => if fAt s a t k = t then nI k else fSteps s a t m (k + 1)
def kSend (s : xS) (n : Nat) (a b c : Int32) : Int32 :=
  if P8 a then (if P8 b then (if a = b then 2 else if c < 0 then 2 else if c ≤ 20 then (if c < fLeast s n a then 3 else if s 8 (ix a) < c then 3 else if s 12 0 < 60 then 0 else 3) else 2) else 1) else 1
def sSend1 (s : xS) (a b c : Int32) : xS := xup (xup (xup (xup (xup s 12 0 (s 12 0 + 1)) 0 (ix (s 12 0)) a) 1 (ix (s 12 0)) b) 2 (ix (s 12 0)) c) 3 (ix (s 12 0)) 0
def sSend (s : xS) (a b c : Int32) : xS := fLay (xup (sSend1 s a b c) 8 (ix a) ((sSend1 s a b c) 8 (ix a) - c)) (s 12 0) (fHome a)
def kPass (s : xS) (a : Int32) : Int32 := if a < 1 then 1 else if a ≤ 50 then (if s 13 0 ≤ 100000 - a then 0 else 2) else 1
def kDel (s : xS) (a : Int32) : Int32 := if PL s a then (if s 3 (ix a) = 1 then 0 else 2) else 1
def sAns (s : xS) (a : Int32) : xS := fGive (xup s 3 (ix a) 2) a
def sMark1 (s : xS) (a : Int32) : xS := fPool (xup s 3 (ix a) 3) a (fHome ((xup s 3 (ix a) 3) 1 (ix a)))
def nMark (s : xS) (n : Nat) (a : Int32) : Int32 := fBits (fWho (sMark1 s a) ((sMark1 s a) 0 (ix a)) ((sMark1 s a) 1 (ix a)) n)
def sMark2 (s : xS) (a : Int32) : xS := xup (sMark1 s a) 7 (ix a) (vp_nar .boolean 1)
def sMark (s : xS) (n : Nat) (a : Int32) : xS := if 3 ≤ nMark s n a then fPay (sMark2 s a) ((sMark2 s a) 1 (ix a)) ((sMark2 s a) 0 (ix a)) ((sMark2 s a) 2 (ix a)) else sMark1 s a
def vMark (s : xS) (n : Nat) (a : Int32) : Int32 := if 3 ≤ nMark s n a then fPayN (sMark2 s a) ((sMark2 s a) 1 (ix a)) ((sMark2 s a) 0 (ix a)) ((sMark2 s a) 2 (ix a)) else 0
theorem okX.mark1 {s : xS} {n : Nat} {a : Int32} (h : okX s n) : okX (sMark1 s a) n := (h.up (by decide)).pool
theorem okX.mark2 {s : xS} {n : Nat} {a : Int32} (h : okX s n) : okX (sMark2 s a) n := h.mark1.up (by decide)
def kLet (s : xS) (a : Int32) : Int32 := if PL s a then 0 else 1
def k4 (a : Int32) : Int32 := if P4 a then 0 else 1
def k8 (a : Int32) : Int32 := if P8 a then 0 else 1
def kAt (s : xS) (n : Nat) (a b : Int32) : Int32 := if P4 a then (if b < 0 then 1 else if b < fLen s a n then 0 else 1) else 1
def xPx (es : List (String × Int32)) (K : Int32) : String → Prop := fun E => ∃ c, (E, c) ∈ es ∧ K = c
theorem tb_IOB : ∀ w ∈ (vx_atS RX0 68 "java/lang/IndexOutOfBoundsException" xNm).filter (fun w => !goodWord w), w ∈ xBad "java/lang/IndexOutOfBoundsException" := by decide +kernel
theorem tb_IAE : ∀ w ∈ (vx_atS RX0 75 "java/lang/IllegalArgumentException" xNm).filter (fun w => !goodWord w), w ∈ xBad "java/lang/IllegalArgumentException" := by decide +kernel
theorem tb_ISE : ∀ w ∈ (vx_atS RX0 95 "java/lang/IllegalStateException" xNm).filter (fun w => !goodWord w), w ∈ xBad "java/lang/IllegalStateException" := by decide +kernel
theorem to_IOB : ∀ w ∈ Cond.classLink RX0 64 "java/lang/IndexOutOfBoundsException" :: Cond.initialized "java/lang/IndexOutOfBoundsException" :: vx_atS RX0 68 "java/lang/IndexOutOfBoundsException" xNm, vx_ot w = true := by decide +kernel
theorem to_IAE : ∀ w ∈ Cond.classLink RX0 71 "java/lang/IllegalArgumentException" :: Cond.initialized "java/lang/IllegalArgumentException" :: vx_atS RX0 75 "java/lang/IllegalArgumentException" xNm, vx_ot w = true := by decide +kernel
theorem to_ISE : ∀ w ∈ Cond.classLink RX0 91 "java/lang/IllegalStateException" :: Cond.initialized "java/lang/IllegalStateException" :: vx_atS RX0 95 "java/lang/IllegalStateException" xNm, vx_ot w = true := by decide +kernel
theorem ix_nI {a : Int32} (h : ¬ a < 0) : a = nI (ix a) ∧ ix a < 2 ^ 31 := by
  obtain ⟨j, hj, rfl⟩ := nI_of h
  rw [show ix (nI j) = j from nI_clamp hj]
  exact ⟨rfl, hj⟩
theorem lt1_lt0 {a : Int32} (h : ¬ a < 1) : ¬ a < 0 := by
  rw [i32_lt] at h ⊢
  have : (1 : Int32).toInt = 1 := rfl
  have : (0 : Int32).toInt = 0 := rfl
  omega
theorem okX.new {s : xS} {n : Nat} (h : okX s n) (c : s 12 0 < 60) : vp_in (s 12 0) 60 ∧ okX (xup s 12 0 (s 12 0 + 1)) (n + 1) ∧ n < 60 := by
  have h1 := h.1
  rw [h.2, i32_lt, nI_toInt (by omega)] at c
  have h60 : (60 : Int32).toInt = 60 := rfl
  rw [h60] at c
  have hn : n < 60 := by omega
  refine ⟨by rw [h.2]; exact vp_in_nI hn (by decide), ⟨by omega, ?_⟩, hn⟩
  rw [xup_ss, h.2]
  exact nI_1 n
theorem okX.send1 {s : xS} {n : Nat} {a b c : Int32} (h : okX s n) (hc : s 12 0 < 60) : okX (sSend1 s a b c) (n + 1) := ((((h.new hc).2.1.up (by decide)).up (by decide)).up (by decide)).up (by decide)
end
section
/-! the reference's methods (fields: 0 time 1 routes 2 coins 3 pools 4 falsely 5 letters 6 sender 7 reader 8 stake 9 state 10 relay 11 marks 12 came 13 isFalse 14 moves 15 thrown) -/
abbrev PM (u : xS) (v : Int32) : Prop := 0 ≤ v ∧ v < u 5 0
def okM (u : xS) (n : Nat) : Prop := n ≤ 60 ∧ u 5 0 = nI n ∧ (∀ k, k < n → P8 (u 6 k) ∧ P8 (u 7 k) ∧ P4 (u 10 k)) ∧ (∀ j, j < 16 → P4 (u 1 j))
theorem okM.lt {u : xS} {n : Nat} (h : okM u n) : n < 2 ^ 31 := by have := h.1; omega
theorem okM.up {u : xS} {n j i : Nat} {v : Int32} (h : okM u n) (hj : (j != 1 && j != 5 && j != 6 && j != 7 && j != 10) = true) : okM (xup u j i v) n := by
  simp only [Bool.and_eq_true, bne_iff_ne] at hj
  obtain ⟨⟨⟨⟨h1, h5⟩, h6⟩, h7⟩, h10⟩ := hj
  obtain ⟨a, b, c, d⟩ := h
  refine ⟨a, by rw [xup_n (Ne.symm h5)]; exact b, fun k hk => ?_, fun q hq => by rw [xup_n (Ne.symm h1)]; exact d q hq⟩
  rw [xup_n (Ne.symm h6), xup_n (Ne.symm h7), xup_n (Ne.symm h10)]
  exact c k hk
theorem okM.up10 {u : xS} {n i : Nat} {v : Int32} (h : okM u n) (hv : P4 v) : okM (xup u 10 i v) n := by
  obtain ⟨a, b, c, d⟩ := h
  refine ⟨a, b, fun k hk => ⟨(c k hk).1, (c k hk).2.1, ?_⟩, d⟩
  by_cases e : k = i
  · rw [e, xup_ss]; exact hv
  · rw [xup_sn e]; exact (c k hk).2.2
theorem okM_in {u : xS} {n k : Nat} (h : okM u n) (hk : k < n) : vp_in (nI k) 60 := vp_in_nI (by have := h.1; omega) (by decide)
theorem PM_in {u : xS} {n : Nat} {v : Int32} (h : okM u n) (hv : PM u v) : vp_in v 60 := by
  have h1 := i32_le.mp hv.1
  have h2 := i32_lt.mp hv.2
  have h3 := h.1
  rw [h.2.1, nI_toInt (by omega)] at h2
  rw [vp_in_iff]
  exact ⟨h1, by omega⟩
theorem PM_ix {u : xS} {n : Nat} {v : Int32} (h : okM u n) (hv : PM u v) : ix v < n ∧ v = nI (ix v) := by
  obtain ⟨j, hj, rfl⟩ := vp_in_of (PM_in h hv) (by decide)
  have h2 := i32_lt.mp hv.2
  have h3 := h.1
  rw [h.2.1, nI_toInt (by omega), nI_toInt (by omega)] at h2
  rw [show ix (nI j) = j from nI_clamp (by omega)]
  exact ⟨by omega, rfl⟩
theorem P8_7 {v : Int32} : (0 ≤ v ∧ v ≤ 7) = P8 v := by
  have h7 : (7 : Int32).toInt = 7 := rfl
  have h8 : (8 : Int32).toInt = 8 := rfl
  simp only [P8, i32_le, i32_lt, h7, h8]
  exact propext ⟨fun h => ⟨h.1, by omega⟩, fun h => ⟨h.1, by omega⟩⟩
theorem P4_3 {v : Int32} : (0 ≤ v ∧ v ≤ 3) = P4 v := by
  have h7 : (3 : Int32).toInt = 3 := rfl
  have h8 : (4 : Int32).toInt = 4 := rfl
  simp only [P4, i32_le, i32_lt, h7, h8]
  exact propext ⟨fun h => ⟨h.1, by omega⟩, fun h => ⟨h.1, by omega⟩⟩
theorem le_pred {n : Nat} {v : Int32} (hn : n < 2 ^ 31) : v ≤ nI n - 1 ↔ v < nI n := by
  cases n with
  | zero =>
    rw [nI_0]
    have : ((0 : Int32) - 1).toInt = -1 := rfl
    have : (0 : Int32).toInt = 0 := rfl
    rw [i32_le, i32_lt]
    omega
  | succ n =>
    rw [nI_pred, i32_le, i32_lt, nI_toInt hn, nI_toInt (by omega)]
    omega
theorem PM_1 {u : xS} {n : Nat} {v : Int32} (h : okM u n) : (0 ≤ v ∧ v ≤ u 5 0 - 1) = PM u v := by
  simp only [PM, h.2.1]
  rw [le_pred h.lt]
theorem P4_in16m {r t : Int32} (h : P4 r) (h2 : P4 t) : vp_in (4 * r + t) 16 := by
  rw [Int32.mul_comm]; exact P4_in16 h h2
/-- a remainder by 4 of a person -/
theorem P8_home {v : Int32} (h : P8 v) : P4 (v - v / 4 * 4) := by
  obtain ⟨j, hj, rfl⟩ := vp_in_of (P8_in h) (by decide)
  have : ∀ j, j < 8 → P4 (nI j - nI j / 4 * 4) := by decide +kernel
  exact this j hj
abbrev gIn (v a b : Int32) : Prop := a ≤ v ∧ v ≤ b
abbrev gHas (x k : Int32) : Prop := (x >>> (k &&& 31)) &&& 1 = 1
def gWeight (u : xS) (p : Int32) : Int32 := if u 4 (ix p) ≤ 4 then 5 - u 4 (ix p) else 1
def gA (u : xS) (p : Int32) (k : Nat) : Int32 := if u 6 k = p then (if u 9 k = 2 then 2 * gWeight u (u 7 k) else 0) else 0
def gB (u : xS) (p : Int32) (k : Nat) : Int32 := if u 6 k = p then (if u 9 k = 3 then (if u 13 k = 0 then 3 * gWeight u (u 7 k) else 0) else 0) else 0
def gName (u : xS) (p : Int32) : Nat → Int32
  | 0 => 0
  | k + 1 => gName u p k + gA u p k - gB u p k
def gLeast (u : xS) (n : Nat) (p : Int32) : Int32 := if 0 ≤ 10 - gName u p n then (if 10 - gName u p n ≤ 20 then 10 - gName u p n else 20) else 0
def gRank (u : xS) (n : Nat) (a : Int32) : Int32 := u 8 (ix a) + gName u (u 6 (ix a)) n
abbrev gAhead (u : xS) (n : Nat) (a b : Int32) : Prop := gRank u n b < gRank u n a ∨ (gRank u n a = gRank u n b ∧ a < b)
abbrev gLies (u : xS) (a r : Int32) : Prop := u 9 (ix a) = 0 ∧ u 10 (ix a) = r
def gPlace (u : xS) (n : Nat) (a : Int32) : Nat → Int32
  | 0 => 0
  | k + 1 => gPlace u n a k + (if nI k = a then 0 else if gLies u (nI k) (u 10 (ix a)) then (if gAhead u n (nI k) a then 1 else 0) else 0)
/-- the relay that is next for a letter -/
def gHome (u : xS) (a : Int32) : Int32 := u 7 (ix a) - u 7 (ix a) / 4 * 4
def gNext (u : xS) (a : Int32) : Int32 := u 1 (ix (4 * u 10 (ix a) + gHome u a))
def gGo (u : xS) (a : Int32) : xS :=
  if u 10 (ix a) = gHome u a then xup (xup u 9 (ix a) 1) 12 (ix a) (u 0 0)
  else if gHas (u 11 (ix a)) (gNext u a) then xup (xup u 9 (ix a) 4) 3 (ix (u 10 (ix a))) (u 3 (ix (u 10 (ix a))) + u 8 (ix a))
  else xup (xup u 10 (ix a) (gNext u a)) 11 (ix a) (u 11 (ix a) ||| 1 <<< (gNext u a &&& 31))
theorem okM.go {u : xS} {n : Nat} {a : Int32} (h : okM u n) (ha : ix a < n) : okM (gGo u a) n := by
  unfold gGo
  split
  · exact (h.up rfl).up rfl
  · split
    · exact (h.up rfl).up rfl
    · refine (h.up10 ?_).up rfl
      have hc := h.2.2.1 _ ha
      have hh : P4 (gHome u a) := P8_home hc.2.1
      have hi := P4_in16m hc.2.2 hh
      exact h.2.2.2 _ (Nat.not_le.mp fun q => hi (Or.inr q))
def gMv (u : xS) (n : Nat) : Nat → xS
  | 0 => u
  | k + 1 => if (gMv u n k) 9 k = 0 then (if 2 ≤ gPlace (gMv u n k) n (nI k) n then xup (gMv u n k) 14 k (vp_nar .boolean 0) else xup (gMv u n k) 14 k (vp_nar .boolean 1)) else xup (gMv u n k) 14 k (vp_nar .boolean 0)
theorem okM.mv {u : xS} {n : Nat} (h : okM u n) : ∀ k, okM (gMv u n k) n
  | 0 => h
  | k + 1 => by
    unfold gMv
    split
    · split
      · exact (h.mv k).up rfl
      · exact (h.mv k).up rfl
    · exact (h.mv k).up rfl
def gGos (u : xS) : Nat → xS
  | 0 => u
  | k + 1 => if (gGos u k) 14 k = 0 then gGos u k else gGo (gGos u k) (nI k)
def gGosN (u : xS) : Nat → Int32
  | 0 => 0
  | k + 1 => if (gGos u k) 14 k = 0 then gGosN u k + 0 else if (gGos u k) 10 (ix (nI k)) = gHome (gGos u k) (nI k) then gGosN u k + 1 else gGosN u k + 0
theorem ix_n {k : Nat} (h : k < 2 ^ 31) : ix (nI k) = k := nI_clamp h
theorem okM.gos {u : xS} {n : Nat} (h : okM u n) : ∀ k, k ≤ n → okM (gGos u k) n
  | 0, _ => h
  | k + 1, hk => by
    unfold gGos
    split
    · exact h.gos k (by omega)
    · exact (h.gos k (by omega)).go (by rw [ix_n (by have := h.1; omega)]; omega)
def gExp (u : xS) : Nat → xS
  | 0 => u
  | k + 1 => if (gExp u k) 9 k = 1 then (if (gExp u k) 0 0 - (gExp u k) 12 k = 20 then xup (xup (gExp u k) 9 k 5) 2 (ix ((gExp u k) 6 k)) ((gExp u k) 2 (ix ((gExp u k) 6 k)) + (gExp u k) 8 k) else gExp u k) else gExp u k
theorem okM.exp {u : xS} {n : Nat} (h : okM u n) : ∀ k, okM (gExp u k) n
  | 0 => h
  | k + 1 => by
    unfold gExp
    split
    · split
      · exact ((h.exp k).up rfl).up rfl
      · exact h.exp k
    · exact h.exp k
def gTick0 (u : xS) (n : Nat) : xS := gMv (xup u 0 0 (u 0 0 + 1)) n n
def gTick (u : xS) (n : Nat) : xS := gExp (gGos (gTick0 u n) n) n
def gTickN (u : xS) (n : Nat) : Int32 := gGosN (gTick0 u n) n
theorem okM.tick0 {u : xS} {n : Nat} (h : okM u n) : okM (gTick0 u n) n := (h.up rfl).mv n
theorem okM.tick {u : xS} {n : Nat} (h : okM u n) : okM (gTick u n) n := (h.tick0.gos n (Nat.le_refl n)).exp n
def gTicks (u : xS) (n : Nat) : Nat → xS
  | 0 => u
  | k + 1 => gTick (gTicks u n k) n
def gTicksN (u : xS) (n : Nat) : Nat → Int32
  | 0 => 0
  | k + 1 => gTicksN u n k + gTickN (gTicks u n k) n
theorem okM.ticks {u : xS} {n : Nat} (h : okM u n) : ∀ k, okM (gTicks u n k) n
  | 0 => h
  | k + 1 => (h.ticks k).tick
/-- who else has answered letters of the sender of a: a set -/
def gWho (u : xS) (a : Int32) : Nat → Int32
  | 0 => 0
  | k + 1 => if u 6 k = u 6 (ix a) then (if u 9 k = 2 then (if u 7 k = u 7 (ix a) then gWho u a k ||| 0 else gWho u a k ||| 1 <<< (u 7 k &&& 31)) else gWho u a k ||| 0) else gWho u a k ||| 0
def gCnt (u : xS) (n : Nat) (a : Int32) : Nat → Int32
  | 0 => 0
  | k + 1 => gCnt u n a k + (if gHas (gWho u a n) (nI k) then 1 else 0)
def gLen (u : xS) (r : Int32) : Nat → Int32
  | 0 => 0
  | k + 1 => gLen u r k + (if gLies u (nI k) r then 1 else 0)
def gFind (u : xS) (n : Nat) (r p : Int32) : Nat → Int32
  | 0 => -1
  | k + 1 => if gLies u (nI k) r then (if gPlace u n (nI k) n = p then nI k else gFind u n r p k) else gFind u n r p k
def gEsc (u : xS) : Nat → Int32
  | 0 => 0
  | k + 1 => if u 9 k = 0 then gEsc u k + u 8 k else if u 9 k = 1 then gEsc u k + u 8 k else gEsc u k + 0
/-- the way by the routes: at a relay, the marks, the steps; m more steps at most -/
def gWay (u : xS) (t : Int32) : Nat → Int32 → Int32 → Int32 → Int32
  | 0, _, _, _ => 0
  | m + 1, a, w, c => if a = t then c else if gHas w (u 1 (ix (4 * a + t))) then -1 else gWay u t m (u 1 (ix (4 * a + t))) (w ||| 1 <<< (u 1 (ix (4 * a + t)) &&& 31)) (c + 1)
theorem z10 : ((1 : Int32) = 0) = False := by decide
theorem z20 : ((2 : Int32) = 0) = False := by decide
theorem z30 : ((3 : Int32) = 0) = False := by decide
theorem z00 : ((0 : Int32) = 0) = True := by decide
end
section
/-! the reference's public methods: q.. the state behind it, w.. the answer -/
def qRoute (u : xS) (a b c : Int32) : xS := if kRoute a b c = 0 then xup (xup u 15 0 0) 1 (ix (4 * a + b)) c else xup u 15 0 (kRoute a b c)
def wRoute (u : xS) (a b c : Int32) : Int32 := if kRoute a b c = 0 then (xup u 15 0 0) 1 (ix (4 * a + b)) else 0
def wSteps (u : xS) (a b : Int32) : Int32 := if kTwo4 a b = 0 then gWay (xup u 15 0 0) b 4 a (1 <<< (a &&& 31)) 0 else 0
def jSend (u : xS) (n : Nat) (a b c : Int32) : Int32 :=
  if P8 a then (if P8 b then (if a = b then 2 else if gIn c 0 20 then (if c < gLeast u n a then 3 else if u 2 (ix a) < c then 3 else if 60 ≤ u 5 0 then 3 else 0) else 2) else 1) else 1
def q1 (u : xS) (a : Int32) : xS := xup u 6 (ix (u 5 0)) a
def q2 (u : xS) (b : Int32) : xS := xup u 7 (ix (u 5 0)) b
def q3 (u : xS) (c : Int32) : xS := xup u 8 (ix (u 5 0)) c
def q4 (u : xS) (a : Int32) : xS := xup u 10 (ix (u 5 0)) (a - a / 4 * 4)
def q5 (u : xS) (a : Int32) : xS := xup u 11 (ix (u 5 0)) (1 <<< ((a - a / 4 * 4) &&& 31))
def q6 (u : xS) (a c : Int32) : xS := xup u 2 (ix a) (u 2 (ix a) - c)
def q7 (u : xS) : xS := xup u 5 0 (u 5 0 + 1)
def qSend0 (u : xS) (a b c : Int32) : xS := q7 (q6 (q5 (q4 (q3 (q2 (q1 (xup u 15 0 0) a) b) c) a) a) a c)
def qSend (u : xS) (n : Nat) (a b c : Int32) : xS := if jSend u n a b c = 0 then qSend0 u a b c else xup u 15 0 (jSend u n a b c)
def wSend (u : xS) (n : Nat) (a b c : Int32) : Int32 := if jSend u n a b c = 0 then (qSend0 u a b c) 5 0 - 1 else 0
def jPass (u : xS) (a : Int32) : Int32 := if gIn a 1 50 then (if u 0 0 + a ≤ 100000 then 0 else 2) else 1
def qPass (u : xS) (n : Nat) (a : Int32) : xS := if jPass u a = 0 then gTicks (xup u 15 0 0) n (ix a) else xup u 15 0 (jPass u a)
def wPass (u : xS) (n : Nat) (a : Int32) : Int32 := if jPass u a = 0 then gTicksN (xup u 15 0 0) n (ix a) else 0
def jDel (u : xS) (a : Int32) : Int32 := if PM u a then (if u 9 (ix a) = 1 then 0 else 2) else 1
def qAns0 (u : xS) (a : Int32) : xS := xup (xup u 9 (ix a) 2) 2 (ix ((xup u 9 (ix a) 2) 6 (ix a))) ((xup u 9 (ix a) 2) 2 (ix ((xup u 9 (ix a) 2) 6 (ix a))) + (xup u 9 (ix a) 2) 8 (ix a))
def qAns (u : xS) (a : Int32) : xS := if jDel u a = 0 then qAns0 (xup u 15 0 0) a else xup u 15 0 (jDel u a)
def wAns (u : xS) (n : Nat) (a : Int32) : Int32 := if jDel u a = 0 then gName (qAns0 (xup u 15 0 0) a) ((qAns0 (xup u 15 0 0) a) 6 (ix a)) n else 0
def qMk1 (u : xS) (a : Int32) (f : Int32) : xS := xup (xup u 9 (ix a) 3) 13 (ix a) (vp_nar .boolean f)
def qMk2 (u : xS) (a w : Int32) : xS := xup u 3 (ix (w - w / 4 * 4)) (u 3 (ix (w - w / 4 * 4)) + u 8 (ix a))
def qMk3 (u : xS) (w f : Int32) : xS := xup u 4 (ix w) (u 4 (ix w) + f)
def qMk4 (u : xS) (w p : Int32) : xS := xup u 2 (ix w) (u 2 (ix w) - p)
def qMk5 (u : xS) (a p : Int32) : xS := xup u 2 (ix (u 6 (ix a))) (u 2 (ix (u 6 (ix a))) + p)
def qMk (u : xS) (a f p : Int32) : xS := qMk5 (qMk4 (qMk3 (qMk2 (qMk1 u a f) a (u 7 (ix a))) (u 7 (ix a)) f) (u 7 (ix a)) p) a p
def nMk (u : xS) (n : Nat) (a : Int32) : Int32 := gCnt u n a 8
def pMk (u : xS) (a : Int32) : Int32 := if u 8 (ix a) ≤ u 2 (ix (u 7 (ix a))) then u 8 (ix a) else u 2 (ix (u 7 (ix a)))
def qMark0 (u : xS) (n : Nat) (a : Int32) : xS := if nMk u n a < 3 then qMk u a 0 0 else qMk u a 1 (pMk u a)
def qMark (u : xS) (n : Nat) (a : Int32) : xS := if jDel u a = 0 then qMark0 (xup u 15 0 0) n a else xup u 15 0 (jDel u a)
def wMark (u : xS) (n : Nat) (a : Int32) : Int32 := if jDel u a = 0 then (if nMk (xup u 15 0 0) n a < 3 then 0 else pMk (xup u 15 0 0) a) else 0
def jLet (u : xS) (a : Int32) : Int32 := if PM u a then 0 else 1
def jAt (u : xS) (n : Nat) (a b : Int32) : Int32 := if P4 a then (if gIn b 0 (gLen u a n - 1) then 0 else 1) else 1
def w9 (u : xS) (a : Int32) : Int32 := if PM u a then (xup u 15 0 (jLet u a)) 9 (ix a) else 0
def w10 (u : xS) (a : Int32) : Int32 := if PM u a then (if (xup u 15 0 (jLet u a)) 9 (ix a) = 0 then (xup u 15 0 (jLet u a)) 10 (ix a) else -1) else 0
def w11 (u : xS) (a : Int32) : Int32 := if PM u a then (xup u 15 0 (jLet u a)) 11 (ix a) else 0
theorem okM.new {u : xS} {n : Nat} (h : okM u n) (c : ¬ 60 ≤ u 5 0) : vp_in (u 5 0) 60 ∧ n < 60 ∧ ix (u 5 0) = n := by
  have h1 := h.1
  have h60 : (60 : Int32).toInt = 60 := rfl
  rw [h.2.1, i32_le, nI_toInt (by omega), h60] at c
  have hn : n < 60 := by omega
  rw [h.2.1, show ix (nI n) = n from nI_clamp (by omega)]
  exact ⟨vp_in_nI hn (by decide), hn, rfl⟩
theorem okM.ans {u : xS} {n : Nat} {a : Int32} (h : okM u n) : okM (qAns0 u a) n := (h.up rfl).up rfl
/-- unmarked relays of a set of four -/
def zN (j : Nat) : Nat := (if j % 2 = 1 then 0 else 1) + (if j / 2 % 2 = 1 then 0 else 1) + (if j / 4 % 2 = 1 then 0 else 1) + (if j / 8 % 2 = 1 then 0 else 1)
theorem way_step : ∀ j, j < 16 → ∀ q, q < 4 → ¬ gHas (nI j) (nI q) → ∃ i, i < 16 ∧ nI j ||| 1 <<< (nI q &&& 31) = nI i ∧ zN i < zN j := by
  have h : ∀ j, j < 16 → ∀ q, q < 4 → ¬ gHas (nI j) (nI q) → (j ||| 2 ^ q) < 16 ∧ nI j ||| 1 <<< (nI q &&& 31) = nI (j ||| 2 ^ q) ∧ zN (j ||| 2 ^ q) < zN j := by decide +kernel
  exact fun j hj q hq hn => ⟨_, h j hj q hq hn⟩
theorem way_init : ∀ q, q < 4 → ∃ i, i < 16 ∧ 1 <<< (nI q &&& 31) = nI i ∧ zN i ≤ 3 := by
  have h : ∀ q, q < 4 → (2 ^ q) < 16 ∧ (1 : Int32) <<< (nI q &&& 31) = nI (2 ^ q) ∧ zN (2 ^ q) ≤ 3 := by decide +kernel
  exact fun q hq => ⟨_, h q hq⟩
end
section
/-! constructors: rows of new arrays, final fields, Object.<init>; the first states -/
/-- the first c places of a field: k % 4; 100 -/
def sR (s : xS) (f c : Nat) : xS := fun q => if q = f then (fun j => if j < c then nI (j % 4) else s f j) else s q
def sP (s : xS) (f c : Nat) : xS := fun q => if q = f then (fun j => if j < c then 100 else s f j) else s q
theorem sR_0 (s : xS) (f : Nat) : sR s f 0 = s := by
  funext q j
  unfold sR
  split
  · rename_i h; subst h; simp
  · rfl
theorem sP_0 (s : xS) (f : Nat) : sP s f 0 = s := by
  funext q j
  unfold sP
  split
  · rename_i h; subst h; simp
  · rfl
theorem sR_1 (s : xS) (f c : Nat) : xup (sR s f c) f c (nI (c % 4)) = sR s f (c + 1) := by
  funext q j
  by_cases h : q = f
  · subst h
    rw [xup_s]
    unfold upd
    by_cases hj : j = c
    · subst hj; simp [sR]
    · rw [if_neg hj]
      simp only [sR, if_true]
      by_cases h1 : j < c
      · rw [if_pos h1, if_pos (by omega)]
      · rw [if_neg h1, if_neg (by omega)]
  · rw [xup_n h]
    simp [sR, h]
theorem sP_1 (s : xS) (f c : Nat) : xup (sP s f c) f c 100 = sP s f (c + 1) := by
  funext q j
  by_cases h : q = f
  · subst h
    rw [xup_s]
    unfold upd
    by_cases hj : j = c
    · subst hj; simp [sP]
    · rw [if_neg hj]
      simp only [sP, if_true]
      by_cases h1 : j < c
      · rw [if_pos h1, if_pos (by omega)]
      · rw [if_neg h1, if_neg (by omega)]
  · rw [xup_n h]
    simp [sP, h]
def s0 : xS := fun _ _ => 0
/-- the new class; the new reference -/
def zX0 : xS := sR (sP s0 8 8) 11 16
def zM0 : xS := sP (sR s0 1 16) 2 8
section XNEW
variable {l : Launch} {D : va_G} {cx : xC} {rm : Room} {X : xX} {cc : ByteArray} {nL : Nat} {own : String} {Ts : List Cond} {k n pc : Nat} {ws : va_W} {lv : List (Nat × Value)} {st : List Value}
theorem x_newi (h : xOK l D cx rm X cc nL own Ts) (hc : Cond.arrayClass .int ∈ Ts) {N : Nat} {v : Int32} {ws' : Nat → va_W} (d : decode cc pc = .ok (.newarray .int, 2)) (hv : ¬ v < 0 ∧ v.toNatClampNeg = N ∧ N ≤ 1000) (hR : k + 1 ≤ rm.cells ∧ n + N ≤ rm.slots) (hw : ∀ q, ws ++ [(q, .inl (cx.1, N, .inl (s0 0)))] = ws' q) (kk : ∀ q, xV X nL (k + 1) (n + N) (ws' q) (pc + 2) lv (.ref q :: st)) : xV X nL k n ws pc lv (.int v :: st) := by
  intro H locs ls hP hD hS hl
  obtain ⟨hx, hb, hml, hown, hts, hK, hA, rfl, rfl, rfl, rfl⟩ := h
  refine va_newa (atype := .int) hx hb (hts _ hc) rfl hK hP hD hS hA (a0 := (N, .inl (s0 0))) (fun _ => rfl) hv.1 hv.2.1 (by have := hv.2.2; show N * 4 ≤ _; omega) hR.1 hR.2 d (fun q cA H1 hK1 hP1 hD1 hS1 => ?_)
  have e1 := (hK1.2 3 (cA, .int) rfl).2
  have e2 := (hK1.2 0 (X.2.2.2.2.1.1, .int) rfl).2
  have e : cA = X.2.2.2.2.1.1 := Option.some.inj (Eq.trans (Eq.symm e1) e2)
  subst e
  rw [hw] at hP1 hD1
  exact kk q H1 locs ls hP1 hD1 hS1 hl
theorem x_newz (h : xOK l D cx rm X cc nL own Ts) (hc : Cond.arrayClass .boolean ∈ Ts) {N : Nat} {v : Int32} {ws' : Nat → va_W} (d : decode cc pc = .ok (.newarray .boolean, 2)) (hv : ¬ v < 0 ∧ v.toNatClampNeg = N ∧ N ≤ 1000) (hR : k + 1 ≤ rm.cells ∧ n + N ≤ rm.slots) (hw : ∀ q, ws ++ [(q, .inl (cx.2.1, N, .inl (s0 0)))] = ws' q) (kk : ∀ q, xV X nL (k + 1) (n + N) (ws' q) (pc + 2) lv (.ref q :: st)) : xV X nL k n ws pc lv (.int v :: st) := by
  intro H locs ls hP hD hS hl
  obtain ⟨hx, hb, hml, hown, hts, hK, hA, rfl, rfl, rfl, rfl⟩ := h
  refine va_newa (atype := .boolean) hx hb (hts _ hc) rfl hK hP hD hS hA (a0 := (N, .inl (s0 0))) (fun _ => rfl) hv.1 hv.2.1 (by have := hv.2.2; show N * 1 ≤ _; omega) hR.1 hR.2 d (fun q cA H1 hK1 hP1 hD1 hS1 => ?_)
  have e1 := (hK1.2 3 (cA, .boolean) rfl).2
  have e2 := (hK1.2 1 (X.2.2.2.2.1.2.1, .boolean) rfl).2
  have e : cA = X.2.2.2.2.1.2.1 := Option.some.inj (Eq.trans (Eq.symm e1) e2)
  subst e
  rw [hw] at hP1 hD1
  exact kk q H1 locs ls hP1 hD1 hS1 hl
theorem x_newl (h : xOK l D cx rm X cc nL own Ts) (hc : Cond.arrayClass .long ∈ Ts) {N : Nat} {v : Int32} {ws' : Nat → va_W} (d : decode cc pc = .ok (.newarray .long, 2)) (hv : ¬ v < 0 ∧ v.toNatClampNeg = N ∧ N ≤ 1000) (hR : k + 1 ≤ rm.cells ∧ n + N ≤ rm.slots) (hw : ∀ q, ws ++ [(q, .inl (cx.2.2, N, .inr (.inl (fun _ => 0))))] = ws' q) (kk : ∀ q, xV X nL (k + 1) (n + N) (ws' q) (pc + 2) lv (.ref q :: st)) : xV X nL k n ws pc lv (.int v :: st) := by
  intro H locs ls hP hD hS hl
  obtain ⟨hx, hb, hml, hown, hts, hK, hA, rfl, rfl, rfl, rfl⟩ := h
  refine va_newa (atype := .long) hx hb (hts _ hc) rfl hK hP hD hS hA (a0 := (N, .inr (.inl (fun _ => 0)))) (fun _ => rfl) hv.1 hv.2.1 (by have := hv.2.2; show N * 8 ≤ _; omega) hR.1 hR.2 d (fun q cA H1 hK1 hP1 hD1 hS1 => ?_)
  have e1 := (hK1.2 3 (cA, .long) rfl).2
  have e2 := (hK1.2 2 (X.2.2.2.2.1.2.2, .long) rfl).2
  have e : cA = X.2.2.2.2.1.2.2 := Option.some.inj (Eq.trans (Eq.symm e1) e2)
  subst e
  rw [hw] at hP1 hD1
  exact kk q H1 locs ls hP1 hD1 hS1 hl
theorem x_putr (h : xOK l D cx rm X cc nL own Ts) (hname : X.2.2.1.1.name = "<init>") {index : Nat} {a ci q : Nat} {fs : List Value} {C ref : String} {T : u_T} {N : Nat} {ws' : va_W} (d : decode cc pc = .ok (.putfield index, 3)) (he : ws[0]? = some (a, .inr (ci, fs))) (hc : vwCl[ci]? = some (C, T, N)) (hin : ∀ w ∈ u_ws C T N, w ∈ Ts) (ty0 : Nat → FieldType) (hty : ∀ k, k < N → parseFieldDescriptor (T k).2.2.1 = some (ty0 k)) (hnm : ∀ a, a < N → ∀ b, b < N → a ≠ b → (T a).2.1 ≠ (T b).2.1) (i : Nat) (hi : i < N) (hlink : Cond.fieldLink own index ref (T i).2.1 (T i).2.2.1 ∈ Ts) (href : (T i).1 = ref) (hfin : (T i).2.2.2 = true) (hown2 : (T i).1 = own) (et : FieldType) (hd : ty0 i = .array et) (hlen : i < fs.length) (hw' : ws.set 0 (a, .inr (ci, fs.set i (.ref q))) = ws') (kk : xV X nL k n ws' (pc + 3) lv st) : xV X nL k n ws pc lv (.ref q :: .ref a :: st) := by
  intro H locs ls hP hD hS hl
  obtain ⟨hx, hb, hml, hown, hts, hK, hA, rfl, rfl, rfl, rfl⟩ := h
  refine va_putF (D := X.2.2.2.1) (ci := ci) (v := .ref q) (ty := .array et) (C := C) (T := T) (N := N) hx hb hts hin ty0 hty hnm hown hK hP hD hS 0 he hc i hi (hts _ hlink) (fun _ h9 => by rw [← href]; exact h9) hfin hname hown2 (by rw [hty i hi, hd]) rfl rfl hlen d (fun H1 locs1 hP1 hD1 hS1 => ?_)
  rw [hw'] at hP1 hD1
  exact kk H1 locs1 ls hP1 hD1 hS1 hl
theorem x_obj (h : xOK l D cx rm X cc nL own Ts) {idx a : Nat} (d : decode cc pc = .ok (.invokespecial idx, 3)) (h1 : Cond.methodLink own idx objectInit ∈ Ts) (h2 : Cond.instanceMethod objectInit ∈ Ts) (h3 : Cond.code objectInit ⟨#[0xb1]⟩ 1 none ∈ Ts) (hR : 1 ≤ rm.frames ∧ (st.map fun v => v.category).sum + 12 ≤ rm.locals) (kk : xV X nL k n ws (pc + 3) lv st) : xV X nL k n ws pc lv (.ref a :: st) := by
  intro H locs ls hP hD hS hl
  obtain ⟨hx, hb, hml, hown, hts, hK, hA, rfl, rfl, rfl, rfl⟩ := h
  refine W.objInit hx hb hown (hts _ h1) (hts _ h2) (hts _ h3) rfl (by rw [hml]; exact hl.1) rfl d hR.1 (by have := hR.2; show 2 * 0 + _ + 12 ≤ _; omega) ?_
  exact kk H locs ls hP hD hS hl
end XNEW
def xCt {S : Type} (l : Launch) (y : MethodName) (wsC : List Cond) (rm : Room) (D : va_G) (cx : xC) (av : List Value) (W0 : va_W) (wf : S → va_W) (post : S → Prop) : Prop :=
  ∀ sz : Nat, Met l y wsC rm (va_Pc av (xPre D cx W0 sz)) (va_Qv post (xAt D cx (va_A W0 sz) wf) (va_A W0 sz)) rm.cells rm.slots (va_A W0 sz)
theorem x_enterC {S : Type} {l : Launch} {y : MethodName} {wsC wsC' : List Cond} {rm : Room} {D : va_G} {cx : xC} {av : List Value} {W0 : va_W} {wf : S → va_W} {post : S → Prop} {cc : ByteArray} {nL : Nat} {own : String} (hy : plainName y.cls = true) (hw : wsC = .code y cc nL none :: wsC') (hcls : y.cls = own) (hn : y.name = "<init>") (hlen : (lg_sl av).length ≤ nL)
    (body : ∀ X : xX, xOK l D cx rm X cc nL own wsC → X.2.2.1.1.name = "<init>" → (∀ (u : S) (pc : Nat) (lv : List (Nat × Value)), post u → decode cc pc = .ok (.return_, 1) → xV X nL rm.cells rm.slots (wf u) pc lv []) → xV X nL 0 0 W0 0 (lv_args 0 av) []) : xCt l y wsC rm D cx av W0 wf post := by
  intro sz
  refine Met.ofW (cc := cc) (maxL := nL) (ret := none) hy hw ?_
  intro p e s m args below meth c s₁ B hml hv
  obtain ⟨rfl, hsz, hP, hK, hD0⟩ := hv
  subst hsz
  have hx := B.exec
  have hb := B.bytes
  have hr := B.returns
  have hts := atoms_spec (ws := wsC) B.pre
  have hown : s.vm.findClass own = some m.cls := hcls ▸ findClass_of_methodNamed B.named
  have hlocks := B.notSynchronized
  have hin : meth.name = "<init>" := (name_of_methodNamed B.named B.method).1.trans hn
  have hD : va_D (va_A W0 s.heap.size) W0 := hD0.self
  have hl := lv_entry av (n := nL) hlen
  rw [lg_entry_eq]
  refine body ((p, l, e, (headSpec wsC rm).room), (s, m, av.toArray, below), (meth, c, MQ below (va_Qv post (xAt D cx (va_A W0 s.heap.size) wf) (va_A W0 s.heap.size)) av.toArray s rm.cells rm.slots (va_A W0 s.heap.size)), (D, cx, va_A W0 s.heap.size)) ⟨hx, hb, hml, hown, hts, hK, fun q h => Or.inr h, rfl, rfl, rfl, rfl⟩ hin ?_ s.heap [] _ hP hD va_S.rf hl
  intro u pc lv hp hd H locs ls hP hD hS hl
  exact W.vret hx hb hr (fun t ht hW => ⟨⟨u, rfl, hp, by rw [ht]; exact hP, va_K.moved hW.alike hK, hD⟩, hS.F ht⟩) hS.2.2 hd hlocks
end
section
/-! the class's states beside the reference's: what they share; weights, reputations, least stakes -/
def RelG (bnd : Nat → Nat) (s u : xS) (n c : Nat) : Prop :=
  okX s n ∧ okM u n ∧ c ≤ 512 ∧
  (s 0 = u 6 ∧ s 1 = u 7 ∧ s 2 = u 8 ∧ s 3 = u 9 ∧ s 5 = u 11 ∧ s 6 = u 12 ∧ s 7 = u 13 ∧ s 8 = u 2 ∧ s 9 = u 4 ∧ s 10 = u 3 ∧ s 11 = u 1 ∧ s 13 0 = u 0 0) ∧
  (∀ k, k < n → s 4 k = if s 3 k = 0 then u 10 k else -1) ∧
  (∀ k, n ≤ k → s 3 k = 0 ∧ s 5 k = 0) ∧
  (∀ k, ∃ j, j < 16 ∧ s 5 k = nI j) ∧
  (∀ k, s 3 k ≠ 3 → s 7 k = 0) ∧
  (∃ t, t ≤ 100000 ∧ s 13 0 = nI t ∧ ∀ k, k < n → s 3 k = 1 → ∃ d, d ≤ t ∧ t < d + bnd k ∧ s 6 k = nI d) ∧
  (∀ p, p < 8 → ∃ q, q ≤ c ∧ s 9 p = nI q)
abbrev Rel (s u : xS) (n c : Nat) : Prop := RelG (fun _ => 20) s u n c
theorem RelG.thr {b : Nat → Nat} {s u : xS} {n c : Nat} (R : RelG b s u n c) (v : Int32) : RelG b s (xup u 15 0 v) n c := by
  obtain ⟨h1, h2, h3⟩ := R
  exact ⟨h1, h2.up rfl, h3⟩
theorem RelG.mono {b : Nat → Nat} {s u : xS} {n c c' : Nat} (R : RelG b s u n c) (hc : c ≤ c') (h : c' ≤ 512) : RelG b s u n c' := by
  obtain ⟨h1, h2, h3, h4, h5, h6, h6b, h7, h8, h9⟩ := R
  exact ⟨h1, h2, h, h4, h5, h6, h6b, h7, h8, fun p hp => (h9 p hp).elim fun q hq => ⟨q, Nat.le_trans hq.1 hc, hq.2⟩⟩
/-- the working rows are nobody's -/
theorem RelG.work {b : Nat → Nat} {s s' u : xS} {n c : Nat} (R : RelG b s u n c) (h : ∀ q, q ≠ 14 → q ≠ 15 → s' q = s q) : RelG b s' u n c := by
  obtain ⟨h1, h2, h3, h4, h5, h6, h6b, h7, h8, h9⟩ := R
  have e := fun q (a : (q != 14 && q != 15) = true) => h q (by simp at a; exact a.1) (by simp at a; exact a.2)
  refine ⟨⟨h1.1, by rw [e 12 rfl]; exact h1.2⟩, h2, h3, ?_, ?_, ?_, ?_, ?_, ?_, ?_⟩
  · rw [e 0 rfl, e 1 rfl, e 2 rfl, e 3 rfl, e 5 rfl, e 6 rfl, e 7 rfl, e 8 rfl, e 9 rfl, e 10 rfl, e 11 rfl, e 13 rfl]; exact h4
  · rw [e 3 rfl, e 4 rfl]; exact h5
  · rw [e 3 rfl, e 5 rfl]; exact h6
  · rw [e 5 rfl]; exact h6b
  · rw [e 3 rfl, e 7 rfl]; exact h7
  · rw [e 3 rfl, e 6 rfl, e 13 rfl]; exact h8
  · rw [e 9 rfl]; exact h9
theorem w_eq : ∀ q, q ≤ 512 → (if 5 - nI q < 1 then (1 : Int32) else 5 - nI q) = if nI q ≤ 4 then 5 - nI q else 1 := by
  intro q hq
  have e5 : (5 : Int32) = nI 5 := rfl
  have z1 : (1 : Int32).toInt = 1 := rfl
  have z4 : (4 : Int32).toInt = 4 := rfl
  have h1 : (5 - nI q).toInt = 5 - (q : Int) := by rw [e5]; exact pk_sub_toInt (by decide) (by omega)
  have h2 : (nI q).toInt = q := nI_toInt (by omega)
  by_cases h : q ≤ 4
  · rw [if_neg (by rw [i32_lt, h1, z1]; omega), if_pos (by rw [i32_le, h2, z4]; omega)]
  · rw [if_pos (by rw [i32_lt, h1, z1]; omega), if_neg (by rw [i32_le, h2, z4]; omega)]
theorem RelG.weight {b : Nat → Nat} {s u : xS} {n c : Nat} (R : RelG b s u n c) {p : Int32} (hp : P8 p) : fWeight s p = gWeight u p := by
  obtain ⟨h1, h2, h3, ⟨-, -, -, -, -, -, -, -, e9, -⟩, h5, h6, h6b, h7, h8, h9⟩ := R
  have hi : ix p < 8 := Nat.not_le.mp fun q => (P8_in hp) (Or.inr q)
  obtain ⟨q, hq, hv⟩ := h9 _ hi
  unfold fWeight gWeight
  rw [if_pos hp, ← e9, hv]
  exact w_eq q (by omega)
theorem fOp_at {s : xS} {n k : Nat} (hN : okX s n) (hk : k < n) : fOpinion s (nI k) = if s 3 k = 2 then 2 * fWeight s (s 1 k) else if s 3 k = 3 ∧ s 7 k = 0 then -3 * fWeight s (s 1 k) else 0 := by
  unfold fOpinion
  rw [if_pos (PL_nI hN hk), ix_n (by have := hN.1; omega)]
theorem i32_a (x w : Int32) : x + -3 * w = x + 0 - 3 * w := by grind
theorem i32_b (x w : Int32) : x + 2 * w = x + 2 * w - 0 := by grind
theorem i32_d (x : Int32) : x + 0 = x + 0 - 0 := by grind
theorem i32_c (x : Int32) : x + 0 - 0 = x := by grind
theorem RelG.rep {b : Nat → Nat} {s u : xS} {n c : Nat} (R : RelG b s u n c) (p : Int32) : ∀ k, k ≤ n → fRep s p k = gName u p k := by
  have hw := fun p => R.weight (p := p)
  obtain ⟨h1, h2, h3, ⟨e0, e1, e2, e3, e5, e6, e7, e8, e9, e10, e11, e13⟩, -⟩ := R
  intro k
  induction k with
  | zero => intro _; rfl
  | succ k ih =>
    intro hk
    have hr := (h2.2.2.1 k hk).2.1
    simp only [fRep, gName, gA, gB, fOp_at h1 hk, ih (by omega), e0, e3, e7, e1]
    rw [hw _ hr]
    by_cases c1 : u 6 k = p
    · simp only [if_pos c1]
      by_cases c2 : u 9 k = 2
      · rw [if_pos c2, if_pos c2, if_neg (by rw [c2]; decide)]
        exact i32_b _ _
      · rw [if_neg c2, if_neg c2]
        by_cases c3 : u 9 k = 3
        · by_cases c4 : u 13 k = 0
          · rw [if_pos ⟨c3, c4⟩, if_pos c3, if_pos c4]; exact i32_a _ _
          · rw [if_neg (fun h => c4 h.2), if_pos c3, if_neg c4]; exact i32_d _
        · rw [if_neg (fun h => c3 h.1), if_neg c3]; exact i32_d _
    · simp only [if_neg c1]
      exact (i32_c _).symm
theorem least_eq (x : Int32) : (if 0 < (if x < 20 then x else 20) then (if x < 20 then x else 20) else 0) = (if 0 ≤ x then (if x ≤ 20 then x else 20) else (0 : Int32)) := by
  have z0 : (0 : Int32).toInt = 0 := rfl
  have z20 : (20 : Int32).toInt = 20 := rfl
  have heq : ∀ y : Int32, y.toInt = x.toInt → y = x := fun y h => Int32.toInt_inj.mp h
  by_cases h1 : x < 20 <;> by_cases h2 : 0 ≤ x <;> by_cases h3 : x ≤ 20 <;> by_cases h4 : 0 < x <;> simp only [h1, h2, h3, h4, if_true, if_false] <;> simp only [i32_lt, i32_le, z0, z20] at h1 h2 h3 h4 <;> first | rfl | (exfalso; omega) | (apply Int32.toInt_inj.mp; rw [z0]; omega) | (rw [if_pos (by decide)]; apply Int32.toInt_inj.mp; rw [z20]; omega) | (rw [if_pos (by decide)])
theorem RelG.least {b : Nat → Nat} {s u : xS} {n c : Nat} (R : RelG b s u n c) (p : Int32) : fLeast s n p = gLeast u n p := by
  unfold fLeast gLeast
  rw [R.rep p n (Nat.le_refl n)]
  exact least_eq _
/-- all reputations at once -/
theorem fZero_q {s : xS} {q : Nat} (hq : q ≠ 15) : ∀ k, fZero s k q = s q
  | 0 => rfl
  | k + 1 => by rw [fZero, xup_n hq]; exact fZero_q hq k
theorem fZero_15 {s : xS} {j : Nat} : ∀ k, j < k → fZero s k 15 j = 0
  | 0, h => absurd h (Nat.not_lt_zero _)
  | k + 1, h => by
    rw [fZero]
    by_cases e : j = k
    · rw [e, xup_ss]
    · rw [xup_sn e]; exact fZero_15 k (by omega)
theorem fFill_q {s : xS} {q : Nat} (hq : q ≠ 15) : ∀ k, fFill s k q = s q
  | 0 => rfl
  | k + 1 => by
    unfold fFill
    split
    · rw [xup_n hq]; exact fFill_q hq k
    · exact fFill_q hq k
theorem fOp_q {s t : xS} (h : ∀ q, q ≠ 14 → q ≠ 15 → t q = s q) (v : Int32) : fOpinion t v = fOpinion s v := by
  unfold fOpinion fWeight
  simp only [PL, h 12 (by decide) (by decide), h 3 (by decide) (by decide), h 1 (by decide) (by decide), h 7 (by decide) (by decide), h 9 (by decide) (by decide)]
theorem fRep_q {s t : xS} (h : ∀ q, q ≠ 14 → q ≠ 15 → t q = s q) (p : Int32) : ∀ k, fRep t p k = fRep s p k
  | 0 => rfl
  | k + 1 => by simp only [fRep, fOp_q h, fRep_q h p k, h 0 (by decide) (by decide)]
theorem fAll_q {s : xS} {n q : Nat} (hq : q ≠ 15) : fAll s n q = s q := (fFill_q hq n).trans (fZero_q hq 8)
theorem ix_inj8 {p : Int32} {j : Nat} (hp : P8 p) (hj : j < 8) : ix p = j ↔ p = nI j := by
  obtain ⟨i, hi, rfl⟩ := vp_in_of (P8_in hp) (by decide)
  rw [ix_n (by omega), nI_eq (by omega) (by omega)]
theorem fFill_15 {s : xS} {n j : Nat} (hs : ∀ k, k < n → P8 (s 0 k)) (hj : j < 8) (hz : s 15 j = 0) : ∀ k, k ≤ n → fFill s k 15 j = fRep s (nI j) k := by
  intro k
  induction k with
  | zero => intro _; exact hz
  | succ k ih =>
    intro hk
    have h0 : fFill s k 0 = s 0 := fFill_q (by decide) k
    have hp := hs k hk
    have ho : fOpinion (fFill s k) (nI k) = fOpinion s (nI k) := fOp_q (fun q _ h => fFill_q h k) _
    rw [fFill, fRep, h0, if_pos hp, ho]
    by_cases e : s 0 k = nI j
    · have e2 : ix (s 0 k) = j := (ix_inj8 hp hj).mpr e
      rw [if_pos e, e2, xup_ss, ih (by omega)]
    · have e2 : ¬ j = ix (s 0 k) := fun h => e ((ix_inj8 hp hj).mp h.symm)
      rw [if_neg e, xup_sn e2, ih (by omega)]
theorem fAll_15 {s : xS} {n j : Nat} (hs : ∀ k, k < n → P8 (s 0 k)) (hj : j < 8) : fAll s n 15 j = fRep s (nI j) n := by
  have h0 : fZero s 8 0 = s 0 := fZero_q (by decide) 8
  unfold fAll
  rw [fFill_15 (n := n) (by rw [h0]; exact hs) hj (fZero_15 8 hj) n (Nat.le_refl n)]
  exact fRep_q (fun q _ h => fZero_q h 8) _ _
theorem fWait_q {s : xS} {q : Nat} (hq : q ≠ 14) : ∀ k, fWait s k q = s q
  | 0 => rfl
  | k + 1 => by rw [fWait, xup_n hq]; exact fWait_q hq k
theorem fWait_14 {s : xS} {j : Nat} : ∀ k, j < k → fWait s k 14 j = s 4 j
  | 0, h => absurd h (Nat.not_lt_zero _)
  | k + 1, h => by
    rw [fWait]
    by_cases e : j = k
    · rw [e, xup_ss, fWait_q (by decide)]
    · rw [xup_sn e]; exact fWait_14 k (by omega)
theorem fBegin_q {s : xS} {n q : Nat} (h4 : q ≠ 14) (h5 : q ≠ 15) : fBegin s n q = s q := (fAll_q h5).trans (fWait_q h4 n)
theorem fBegin_14 {s : xS} {n j : Nat} (h : j < n) : fBegin s n 14 j = s 4 j := by
  have : fBegin s n 14 = fWait s n 14 := fAll_q (by decide)
  rw [this]; exact fWait_14 n h
theorem fBegin_15 {s : xS} {n j : Nat} (hs : ∀ k, k < n → P8 (s 0 k)) (hj : j < 8) : fBegin s n 15 j = fRep s (nI j) n := by
  have h0 : fWait s n 0 = s 0 := fWait_q (by decide) n
  unfold fBegin
  rw [fAll_15 (by rw [h0]; exact hs) hj]
  exact fRep_q (fun q h _ => fWait_q h n) _ _
end
section
/-! the order of a queue: who is ahead, how many, and the first that still waits -/
/-- j is looked at ahead of k -/
abbrev aA (w : Nat → Int32) (j k : Nat) : Prop := w k < w j ∨ (w j = w k ∧ j < k)
theorem aA_total {w : Nat → Int32} {j k : Nat} (h : j ≠ k) : aA w j k ∨ aA w k j := by
  simp only [aA, i32_lt, ← Int32.toInt_inj]
  omega
theorem aA_trans {w : Nat → Int32} {i j k : Nat} (h1 : aA w i j) (h2 : aA w j k) : aA w i k := by
  simp only [aA, i32_lt, ← Int32.toInt_inj] at *
  omega
theorem aA_asym {w : Nat → Int32} {j k : Nat} (h1 : aA w j k) : ¬ aA w k j := by
  simp only [aA, i32_lt, ← Int32.toInt_inj] at *
  omega
theorem aA_irr {w : Nat → Int32} {j : Nat} : ¬ aA w j j := by
  simp only [aA, i32_lt, ← Int32.toInt_inj]
  omega
/-- how many below m wait at r (in the row q) and are ahead of k -/
def aC (q w : Nat → Int32) (r : Int32) (k : Nat) : Nat → Nat
  | 0 => 0
  | m + 1 => aC q w r k m + (if q m = r ∧ aA w m k then 1 else 0)
theorem aC_le (q w : Nat → Int32) (r : Int32) (k : Nat) : ∀ m, aC q w r k m ≤ m
  | 0 => Nat.le_refl 0
  | m + 1 => by
    have := aC_le q w r k m
    unfold aC
    split <;> omega
theorem aC_congr {q q' w : Nat → Int32} {r : Int32} {k : Nat} : ∀ m, (∀ j, j < m → (q j = r ↔ q' j = r)) → aC q w r k m = aC q' w r k m
  | 0, _ => rfl
  | m + 1, h => by
    unfold aC
    rw [aC_congr m (fun j hj => h j (by omega))]
    simp only [h m (Nat.lt_succ_self m)]
theorem aC_zero {q w : Nat → Int32} {r : Int32} {k : Nat} : ∀ m, (∀ j, j < m → q j = r → ¬ aA w j k) → aC q w r k m = 0
  | 0, _ => rfl
  | m + 1, h => by
    unfold aC
    rw [aC_zero m (fun j hj => h j (by omega)), if_neg (fun a => h m (Nat.lt_succ_self m) a.1 a.2)]
/-- one fewer waits -/
theorem aC_less {q w : Nat → Int32} {r : Int32} {k b : Nat} (hr : r ≠ -1) (hb : q b = r) (ha : aA w b k) : ∀ m, aC q w r k m = aC (upd q b (-1)) w r k m + (if b < m then 1 else 0)
  | 0 => rfl
  | m + 1 => by
    unfold aC
    rw [aC_less hr hb ha m]
    by_cases e : m = b
    · subst e
      have : ¬ ((upd q m (-1)) m = r ∧ aA w m k) := fun h => hr (by rw [← h.1]; exact if_pos rfl)
      rw [if_neg this, if_pos (show q m = r ∧ aA w m k from ⟨hb, ha⟩), if_neg (show ¬ m < m by omega), if_pos (show m < m + 1 by omega)]
    · have : (upd q b (-1)) m = q m := if_neg e
      rw [this]
      by_cases h1 : b < m
      · rw [if_pos h1, if_pos (show b < m + 1 by omega)]; omega
      · rw [if_neg h1, if_neg (show ¬ b < m + 1 by omega)]; omega
/-- the first of those that wait -/
theorem best_spec {t : xS} {r : Int32} {w : Nat → Int32} {n : Nat} (hn : n < 2 ^ 31) (hw : ∀ k, k < n → fRank t (nI k) = w k) : ∀ m, m ≤ n → (fBest t r m = -1 ∧ ∀ k, k < m → t 14 k ≠ r) ∨ ∃ b, b < m ∧ fBest t r m = nI b ∧ t 14 b = r ∧ ∀ j, j < m → j ≠ b → t 14 j = r → aA w b j := by
  have hm1 : ∀ b, b < n → nI b ≠ -1 := by
    intro b hb h
    have h2 := congrArg Int32.toInt h
    rw [nI_toInt (by omega)] at h2
    have : (-1 : Int32).toInt = -1 := rfl
    omega
  intro m
  induction m with
  | zero => intro _; exact Or.inl ⟨rfl, fun k hk => absurd hk (Nat.not_lt_zero k)⟩
  | succ m ih =>
    intro hm
    have step : ∀ (P : Prop), (P → P) := fun _ h => h
    by_cases c : t 14 m = r
    · rcases ih (by omega) with ⟨h1, h2⟩ | ⟨b, hb, h1, h2, h3⟩
      · refine Or.inr ⟨m, Nat.lt_succ_self m, by simp only [fBest, if_pos c, h1, if_true], c, fun j hj hne hq => ?_⟩
        exact absurd hq (h2 j (by omega))
      · have hbn : b < n := by omega
        have e : fBest t r (m + 1) = if w m ≤ w b then nI b else nI m := by
          simp only [fBest, if_pos c, h1, if_neg (hm1 b hbn)]
          rw [hw m (by omega), hw b hbn]
        by_cases d : w m ≤ w b
        · rw [if_pos d] at e
          refine Or.inr ⟨b, by omega, e, h2, fun j hj hne hq => ?_⟩
          by_cases e2 : j = m
          · subst e2
            simp only [aA, i32_lt, ← Int32.toInt_inj]
            rw [i32_le] at d
            omega
          · exact h3 j (by omega) hne hq
        · rw [if_neg d] at e
          refine Or.inr ⟨m, Nat.lt_succ_self m, e, c, fun j hj hne hq => ?_⟩
          have hmb : aA w m b := by
            simp only [aA, i32_lt, ← Int32.toInt_inj]
            rw [i32_le] at d
            omega
          by_cases e2 : j = b
          · subst e2; exact hmb
          · exact aA_trans hmb (h3 j (by omega) e2 hq)
    · have e : fBest t r (m + 1) = fBest t r m := by simp only [fBest, if_neg c]
      rcases ih (by omega) with ⟨h1, h2⟩ | ⟨b, hb, h1, h2, h3⟩
      · refine Or.inl ⟨e.trans h1, fun k hk => ?_⟩
        by_cases e2 : k = m
        · subst e2; exact c
        · exact h2 k (by omega)
      · refine Or.inr ⟨b, by omega, e.trans h1, h2, fun j hj hne hq => ?_⟩
        by_cases e2 : j = m
        · subst e2; exact absurd hq c
        · exact h3 j (by omega) hne hq
/-- a queue of which i letters have been taken: the row q is what still waits of the row q0 -/
def aI (q0 q w : Nat → Int32) (r : Int32) (n i : Nat) : Prop :=
  ∀ k, k < n → q0 k = r → (q k ≠ r ∧ aC q0 w r k n < i) ∨ (q k = r ∧ aC q0 w r k n = i + aC q w r k n)
theorem aI_0 {q0 w : Nat → Int32} {r : Int32} {n : Nat} : aI q0 q0 w r n 0 := fun k _ h => Or.inr ⟨h, by omega⟩
/-- the next is taken: it is the one that i are ahead of -/
theorem aI_next {q0 q w : Nat → Int32} {r : Int32} {n i b : Nat} (hr : r ≠ -1) (h : aI q0 q w r n i) (hb : b < n) (hq0 : q0 b = r) (hq : q b = r) (hbest : ∀ j, j < n → j ≠ b → q j = r → aA w b j) : aC q0 w r b n = i ∧ aI q0 (upd q b (-1)) w r n (i + 1) := by
  have hz : aC q w r b n = 0 := aC_zero n (fun j hj hqj => by
    by_cases e : j = b
    · subst e; exact aA_irr
    · exact aA_asym (hbest j hj e hqj))
  have h1 : aC q0 w r b n = i := by
    rcases h b hb hq0 with ⟨h2, -⟩ | ⟨-, h2⟩
    · exact absurd hq h2
    · omega
  refine ⟨h1, fun k hk hk0 => ?_⟩
  by_cases e : k = b
  · subst e
    exact Or.inl ⟨fun h => hr (by rw [← h]; exact (if_pos rfl)), by omega⟩
  · have hu : upd q b (-1) k = q k := if_neg e
    rw [hu]
    rcases h k hk hk0 with ⟨h2, h3⟩ | ⟨h2, h3⟩
    · exact Or.inl ⟨h2, by omega⟩
    · refine Or.inr ⟨h2, ?_⟩
      have := aC_less (w := w) (k := k) hr hq (hbest k hk e h2) n
      rw [if_pos hb] at this
      omega
/-- none is left: no letter has i or more ahead -/
theorem aI_none {q0 q w : Nat → Int32} {r : Int32} {n i : Nat} (h : aI q0 q w r n i) (hn : ∀ k, k < n → q k ≠ r) : (∀ k, k < n → q0 k = r → aC q0 w r k n < i) ∧ aI q0 q w r n (i + 1) := by
  have h1 : ∀ k, k < n → q0 k = r → aC q0 w r k n < i := fun k hk h0 => by
    rcases h k hk h0 with ⟨-, h3⟩ | ⟨h2, -⟩
    · exact h3
    · exact absurd h2 (hn k hk)
  exact ⟨h1, fun k hk h0 => Or.inl ⟨hn k hk, by have := h1 k hk h0; omega⟩⟩
end
section
/-! what a set of moved letters makes of a state: in the class (CX), in the reference (CM) -/
def sumP (T : Nat → Bool) (w : Nat → Int32) : Nat → Int32
  | 0 => 0
  | k + 1 => sumP T w k + (if T k = true then w k else 0)
theorem i32_ac (a b c : Int32) : a + b + c = a + c + b := by grind
theorem sumP_congr {T T' : Nat → Bool} {w w' : Nat → Int32} : ∀ m, (∀ k, k < m → T k = T' k ∧ (T k = true → w k = w' k)) → sumP T w m = sumP T' w' m
  | 0, _ => rfl
  | m + 1, h => by
    unfold sumP
    rw [sumP_congr m (fun k hk => h k (by omega)), (h m (Nat.lt_succ_self m)).1]
    by_cases c : T' m = true
    · rw [if_pos c, if_pos c, (h m (Nat.lt_succ_self m)).2 ((h m (Nat.lt_succ_self m)).1 ▸ c)]
    · rw [if_neg c, if_neg c]
theorem sumP_0 {T : Nat → Bool} {w : Nat → Int32} : ∀ m, (∀ k, k < m → T k = false) → sumP T w m = 0
  | 0, _ => rfl
  | m + 1, h => by
    unfold sumP
    rw [sumP_0 m (fun k hk => h k (by omega)), if_neg (by rw [h m (Nat.lt_succ_self m)]; decide)]
    rfl
/-- one more -/
def addT (T : Nat → Bool) (b : Nat) : Nat → Bool := fun k => if k = b then true else T k
theorem sumP_add {T : Nat → Bool} {w : Nat → Int32} {b : Nat} (hb : T b = false) : ∀ m, sumP (addT T b) w m = sumP T w m + (if b < m then w b else 0)
  | 0 => rfl
  | m + 1 => by
    unfold sumP
    rw [sumP_add hb m]
    by_cases e : m = b
    · subst e
      rw [if_pos (show addT T m m = true from if_pos rfl), if_neg (show ¬ m < m by omega), if_pos (show m < m + 1 by omega), hb, if_neg (by decide)]
    · rw [show addT T b m = T m from if_neg e]
      by_cases h1 : b < m
      · rw [if_pos h1, if_pos (show b < m + 1 by omega)]; exact i32_ac _ _ _
      · rw [if_neg h1, if_neg (show ¬ b < m + 1 by omega)]; exact i32_ac _ _ _
abbrev hm (s : xS) (k : Nat) : Int32 := fHome (s 1 k)
abbrev nx (s : xS) (k : Nat) : Int32 := fNext s (s 4 k) (hm s k)
abbrev dl (s : xS) (k : Nat) : Prop := s 4 k = hm s k
abbrev ls (s : xS) (k : Nat) : Prop := ¬ dl s k ∧ ¬ s 5 k &&& fMark (nx s k) = 0
def CX (s t : xS) (T : Nat → Bool) (n : Nat) : Prop :=
  (∀ q, q ≠ 3 → q ≠ 4 → q ≠ 5 → q ≠ 6 → q ≠ 10 → q ≠ 14 → t q = s q) ∧
  (∀ k, t 3 k = if T k = true then (if dl s k then 1 else if ls s k then 4 else s 3 k) else s 3 k) ∧
  (∀ k, t 4 k = if T k = true then (if dl s k then -1 else if ls s k then -1 else nx s k) else s 4 k) ∧
  (∀ k, t 5 k = if T k = true then (if dl s k then s 5 k else if ls s k then s 5 k else s 5 k ||| fMark (nx s k)) else s 5 k) ∧
  (∀ k, t 6 k = if T k = true then (if dl s k then s 13 0 else s 6 k) else s 6 k) ∧
  (∀ j, t 10 j = s 10 j + sumP T (fun k => if ls s k ∧ ix (s 4 k) = j then s 2 k else 0) n) ∧
  (∀ k, t 14 k = if T k = true then -1 else s 14 k) ∧
  (∀ k, T k = true → k < n)
theorem i32_z (x : Int32) : x + 0 = x := by grind
theorem CX_0 {s : xS} {n : Nat} : CX s s (fun _ => false) n := by
  refine ⟨fun q _ _ _ _ _ _ => rfl, fun k => rfl, fun k => rfl, fun k => rfl, fun k => rfl, fun j => ?_, fun k => rfl, fun k h => by cases h⟩
  rw [sumP_0 n (fun _ _ => rfl), i32_z]
theorem PL_m1 {s : xS} : ¬ PL s (-1) := fun h => absurd h.1 (by decide)
theorem step_none {t : xS} {n : Nat} {r : Int32} (h : fBest t r n = -1) : fStep t n r = t ∧ fStepN t n r = 0 := by
  have e : fTake t n r = t := by unfold fTake; rw [h, if_neg PL_m1]
  unfold fStep fStepN
  rw [e, h]
  exact ⟨by unfold fMove; rw [if_neg PL_m1], by unfold fMoveN; rw [if_neg (fun h => PL_m1 h.1)]⟩
theorem step_some {s t : xS} {T : Nat → Bool} {n b : Nat} {r : Int32} (ht : okX t n) (C : CX s t T n) (hb : b < n) (hT : T b = false) (hbest : fBest t r n = nI b) (hr : s 4 b = r) (hr4 : P4 r) : CX s (fStep t n r) (addT T b) n ∧ fStepN t n r = if dl s b then 1 else 0 := by
  have hb31 : b < 2 ^ 31 := by have := ht.1; omega
  have hpl : PL t (nI b) := PL_nI ht hb
  have e : fTake t n r = xup t 14 b (-1) := by unfold fTake; rw [hbest, if_pos hpl, ix_n hb31]
  obtain ⟨c0, c3, c4, c5, c6, c10, c14, cT⟩ := C
  have t1 : t 1 = s 1 := c0 1 (by decide) (by decide) (by decide) (by decide) (by decide) (by decide)
  have t2 : t 2 = s 2 := c0 2 (by decide) (by decide) (by decide) (by decide) (by decide) (by decide)
  have t11 : t 11 = s 11 := c0 11 (by decide) (by decide) (by decide) (by decide) (by decide) (by decide)
  have t12 : t 12 = s 12 := c0 12 (by decide) (by decide) (by decide) (by decide) (by decide) (by decide)
  have t13 : t 13 = s 13 := c0 13 (by decide) (by decide) (by decide) (by decide) (by decide) (by decide)
  have t5b : t 5 b = s 5 b := by rw [c5 b, hT]; rfl
  have hpl2 : PL (xup t 14 b (-1)) (nI b) := hpl
  have hn2 : fNext (xup t 14 b (-1)) r (fHome (s 1 b)) = nx s b := by
    show fNext _ _ _ = fNext s (s 4 b) (fHome (s 1 b))
    rw [hr]; unfold fNext
    rw [show (xup t 14 b (-1)) 11 = s 11 from t11]
  have hN : fStepN t n r = if dl s b then 1 else 0 := by
    unfold fStepN fMoveN
    rw [e, hbest, ix_n hb31, show (xup t 14 b (-1)) 1 = s 1 from t1]
    by_cases c : dl s b
    · rw [if_pos c, if_pos ⟨hpl2, by rw [← hr]; exact c⟩]
    · rw [if_neg c, if_neg (fun h => c (by rw [← hr] at h; exact h.2))]
  refine ⟨?_, hN⟩
  have hadd : ∀ k, (addT T b k = true) = (k = b ∨ T k = true) := fun k => by
    unfold addT; by_cases h : k = b <;> simp [h]
  have hsum : ∀ w : Nat → Int32, sumP (addT T b) w n = sumP T w n + w b := fun w => by rw [sumP_add hT n, if_pos hb]
  have hcT : ∀ k, addT T b k = true → k < n := fun k h => by
    rw [hadd] at h
    exact h.elim (fun h => h ▸ hb) (cT k)
  have hTb : ¬ T b = true := by rw [hT]; decide
  unfold fStep
  rw [e, hbest]
  unfold fMove
  rw [if_pos hpl2, ix_n hb31, show (xup t 14 b (-1)) 1 = s 1 from t1, show (xup t 14 b (-1)) 5 = t 5 from rfl, t5b, hn2]
  by_cases d : dl s b
  · rw [if_pos (show r = fHome (s 1 b) by rw [← hr]; exact d)]
    unfold fLeave
    rw [if_pos hpl2, ix_n hb31]
    refine ⟨fun q h3 h4 h5 h6 h10 h14 => ?_, fun k => ?_, fun k => ?_, fun k => ?_, fun k => ?_, fun j => ?_, fun k => ?_, hcT⟩
    · rw [xup_n h6, xup_n h3, xup_n h4, xup_n h14]; exact c0 q h3 h4 h5 h6 h10 h14
    all_goals try (by_cases hk : k = b)
    all_goals try subst hk
    all_goals try simp only [hadd]
    · simp [xup, upd, d]
    · simp [xup, upd, hk, c3]
    · simp [xup, upd, d]
    · simp [xup, upd, hk, c4]
    · simp [xup, upd, d, t5b]
    · simp [xup, upd, hk, c5]
    · simp [xup, upd, d, t13]
    · simp [xup, upd, hk, c6]
    · rw [hsum, if_neg (fun h => h.1.1 d), i32_z]; exact c10 j
    · simp [xup, upd]
    · simp [xup, upd, hk, c14]
  · rw [if_neg (show ¬ r = fHome (s 1 b) by rw [← hr]; exact d)]
    by_cases l : s 5 b &&& fMark (nx s b) = 0
    · have nl : ¬ ls s b := fun h => h.2 l
      rw [if_pos l]
      unfold fLay
      rw [if_pos hpl2, ix_n hb31]
      refine ⟨fun q h3 h4 h5 h6 h10 h14 => ?_, fun k => ?_, fun k => ?_, fun k => ?_, fun k => ?_, fun j => ?_, fun k => ?_, hcT⟩
      · rw [xup_n h5, xup_n h4, xup_n h14]; exact c0 q h3 h4 h5 h6 h10 h14
      all_goals try (by_cases hk : k = b)
      all_goals try subst hk
      all_goals try simp only [hadd]
      · simp only [true_or, if_true, if_neg d, if_neg nl]; exact (c3 k).trans (if_neg hTb)
      · simp [xup, upd, hk, c3]
      · simp only [true_or, if_true, if_neg d, if_neg nl]; simp [xup, upd]
      · simp [xup, upd, hk, c4]
      · simp only [true_or, if_true, if_neg d, if_neg nl]; simp [xup, upd, t5b]
      · simp [xup, upd, hk, c5]
      · simp only [true_or, if_true, if_neg d]; exact (c6 k).trans (if_neg hTb)
      · simp [xup, upd, hk, c6]
      · rw [hsum, if_neg (fun h => nl h.1), i32_z]; exact c10 j
      · simp [xup, upd]
      · simp [xup, upd, hk, c14]
    · have yl : ls s b := ⟨d, l⟩
      rw [if_neg l]
      unfold fPool fLeave
      rw [if_pos hpl2, ix_n hb31, if_pos (show PL (xup (xup (xup t 14 b (-1)) 4 b (-1)) 3 b 4) (nI b) ∧ P4 r from ⟨hpl, hr4⟩)]
      refine ⟨fun q h3 h4 h5 h6 h10 h14 => ?_, fun k => ?_, fun k => ?_, fun k => ?_, fun k => ?_, fun j => ?_, fun k => ?_, hcT⟩
      · rw [xup_n h10, xup_n h3, xup_n h4, xup_n h14]; exact c0 q h3 h4 h5 h6 h10 h14
      all_goals try (by_cases hk : k = b)
      all_goals try subst hk
      all_goals try simp only [hadd]
      · simp only [true_or, if_true, if_neg d, if_pos yl]; simp [xup, upd]
      · simp [xup, upd, hk, c3]
      · simp only [true_or, if_true, if_neg d, if_pos yl]; simp [xup, upd]
      · simp [xup, upd, hk, c4]
      · simp only [true_or, if_true, if_neg d, if_pos yl]; exact t5b
      · simp [xup, upd, hk, c5]
      · simp only [true_or, if_true, if_neg d]; exact (c6 k).trans (if_neg hTb)
      · simp [xup, upd, hk, c6]
      · rw [hsum]
        by_cases hj : ix r = j
        · subst hj
          rw [if_pos ⟨yl, by rw [hr]⟩, xup_ss]
          show t 10 (ix r) + t 2 b = _
          rw [c10, t2]
          exact Int32.add_assoc _ _ _
        · rw [if_neg (fun h => hj (by rw [← h.2, hr])), i32_z, xup_sn (Ne.symm hj)]
          exact c10 j
      · simp [xup, upd]
      · simp [xup, upd, hk, c14]
/-- the reference's letters -/
abbrev gh (u : xS) (k : Nat) : Int32 := u 7 k - u 7 k / 4 * 4
abbrev gx (u : xS) (k : Nat) : Int32 := u 1 (ix (4 * u 10 k + gh u k))
abbrev gd (u : xS) (k : Nat) : Prop := u 10 k = gh u k
abbrev gl (u : xS) (k : Nat) : Prop := ¬ gd u k ∧ gHas (u 11 k) (gx u k)
def CM (u v : xS) (T : Nat → Bool) (n : Nat) : Prop :=
  (∀ q, q ≠ 3 → q ≠ 9 → q ≠ 10 → q ≠ 11 → q ≠ 12 → v q = u q) ∧
  (∀ k, v 9 k = if T k = true then (if gd u k then 1 else if gl u k then 4 else u 9 k) else u 9 k) ∧
  (∀ k, v 10 k = if T k = true then (if gd u k then u 10 k else if gl u k then u 10 k else gx u k) else u 10 k) ∧
  (∀ k, v 11 k = if T k = true then (if gd u k then u 11 k else if gl u k then u 11 k else u 11 k ||| 1 <<< (gx u k &&& 31)) else u 11 k) ∧
  (∀ k, v 12 k = if T k = true then (if gd u k then u 0 0 else u 12 k) else u 12 k) ∧
  (∀ j, v 3 j = u 3 j + sumP T (fun k => if gl u k ∧ ix (u 10 k) = j then u 8 k else 0) n)
theorem go_some {u v : xS} {T : Nat → Bool} {n b : Nat} (C : CM u v T n) (hb : b < n) (hb31 : b < 2 ^ 31) (hT : T b = false) : CM u (gGo v (nI b)) (addT T b) n ∧ (v 10 (ix (nI b)) = gHome v (nI b) ↔ gd u b) := by
  obtain ⟨c0, c9, c10, c11, c12, c3⟩ := C
  have u7 : v 7 = u 7 := c0 7 (by decide) (by decide) (by decide) (by decide) (by decide)
  have u1 : v 1 = u 1 := c0 1 (by decide) (by decide) (by decide) (by decide) (by decide)
  have u0 : v 0 = u 0 := c0 0 (by decide) (by decide) (by decide) (by decide) (by decide)
  have u8 : v 8 = u 8 := c0 8 (by decide) (by decide) (by decide) (by decide) (by decide)
  have v10 : v 10 b = u 10 b := by rw [c10 b, hT]; rfl
  have v11 : v 11 b = u 11 b := by rw [c11 b, hT]; rfl
  have eh : gHome v (nI b) = gh u b := by unfold gHome; rw [ix_n hb31, u7]
  have en : gNext v (nI b) = gx u b := by unfold gNext; rw [ix_n hb31, eh, u1, v10]
  have hd : v 10 (ix (nI b)) = gHome v (nI b) ↔ gd u b := by rw [ix_n hb31, eh, v10]
  refine ⟨?_, hd⟩
  have hadd : ∀ k, (addT T b k = true) = (k = b ∨ T k = true) := fun k => by
    unfold addT; by_cases h : k = b <;> simp [h]
  have hsum : ∀ w : Nat → Int32, sumP (addT T b) w n = sumP T w n + w b := fun w => by rw [sumP_add hT n, if_pos hb]
  have hTb : ¬ T b = true := by rw [hT]; decide
  unfold gGo
  rw [en, eh, ix_n hb31, v10, v11, u0, u8]
  by_cases d : gd u b
  · rw [if_pos d]
    refine ⟨fun q h3 h9 h10 h11 h12 => ?_, fun k => ?_, fun k => ?_, fun k => ?_, fun k => ?_, fun j => ?_⟩
    · rw [xup_n h12, xup_n h9]; exact c0 q h3 h9 h10 h11 h12
    all_goals try (by_cases hk : k = b)
    all_goals try subst hk
    all_goals try simp only [hadd]
    · simp only [true_or, if_true, if_pos d]; simp [xup, upd]
    · simp [xup, upd, hk, c9]
    · simp only [true_or, if_true, if_pos d]; exact v10
    · simp [xup, upd, hk, c10]
    · simp only [true_or, if_true, if_pos d]; exact v11
    · simp [xup, upd, hk, c11]
    · simp only [true_or, if_true, if_pos d]; simp [xup, upd]
    · simp [xup, upd, hk, c12]
    · rw [hsum, if_neg (fun h => h.1.1 d), i32_z]; exact c3 j
  · rw [if_neg d]
    by_cases l : gHas (u 11 b) (gx u b)
    · have yl : gl u b := ⟨d, l⟩
      rw [if_pos l]
      refine ⟨fun q h3 h9 h10 h11 h12 => ?_, fun k => ?_, fun k => ?_, fun k => ?_, fun k => ?_, fun j => ?_⟩
      · rw [xup_n h3, xup_n h9]; exact c0 q h3 h9 h10 h11 h12
      all_goals try (by_cases hk : k = b)
      all_goals try subst hk
      all_goals try simp only [hadd]
      · simp only [true_or, if_true, if_neg d, if_pos yl]; simp [xup, upd]
      · simp [xup, upd, hk, c9]
      · simp only [true_or, if_true, if_neg d, if_pos yl]; exact v10
      · simp [xup, upd, hk, c10]
      · simp only [true_or, if_true, if_neg d, if_pos yl]; exact v11
      · simp [xup, upd, hk, c11]
      · simp only [true_or, if_true, if_neg d]; exact (c12 k).trans (if_neg hTb)
      · simp [xup, upd, hk, c12]
      · rw [hsum]
        by_cases hj : ix (u 10 b) = j
        · subst hj
          rw [if_pos ⟨yl, rfl⟩, xup_ss, c3]
          exact Int32.add_assoc _ _ _
        · rw [if_neg (fun h => hj h.2), i32_z, xup_sn (Ne.symm hj)]
          exact c3 j
    · have nl : ¬ gl u b := fun h => l h.2
      rw [if_neg l]
      refine ⟨fun q h3 h9 h10 h11 h12 => ?_, fun k => ?_, fun k => ?_, fun k => ?_, fun k => ?_, fun j => ?_⟩
      · rw [xup_n h11, xup_n h10]; exact c0 q h3 h9 h10 h11 h12
      all_goals try (by_cases hk : k = b)
      all_goals try subst hk
      all_goals try simp only [hadd]
      · simp only [true_or, if_true, if_neg d, if_neg nl]; exact (c9 k).trans (if_neg hTb)
      · simp [xup, upd, hk, c9]
      · simp only [true_or, if_true, if_neg d, if_neg nl]; simp [xup, upd]
      · simp [xup, upd, hk, c10]
      · simp only [true_or, if_true, if_neg d, if_neg nl]; simp [xup, upd]
      · simp [xup, upd, hk, c11]
      · simp only [true_or, if_true, if_neg d]; exact (c12 k).trans (if_neg hTb)
      · simp [xup, upd, hk, c12]
      · rw [hsum, if_neg (fun h => nl h.1), i32_z]; exact c3 j
end
section
/-! a tick: the letters that the class takes are those that the reference marks as moving -/
theorem nI_ne {a b : Nat} (ha : a < 2 ^ 31) (hb : b < 2 ^ 31) (h : a ≠ b) : nI a ≠ nI b := fun e => h ((nI_eq ha hb).mp e)
theorem nI_m1 {a : Nat} (ha : a < 2 ^ 31) : nI a ≠ -1 := by
  intro h
  have h2 := congrArg Int32.toInt h
  rw [nI_toInt ha] at h2
  have : (-1 : Int32).toInt = -1 := rfl
  omega
theorem P4_nI {a : Nat} (h : a < 4) : P4 (nI a) := ⟨nI_pos' (by omega), nI_lt h (by decide)⟩
def IV (s : xS) (w : Nat → Int32) (n p i : Nat) (t : xS) (c : Int32) : Prop :=
  ∃ T, CX s t T n ∧ c = sumP T (fun k => if dl s k then 1 else 0) n ∧
    (∀ k, k < n → ∀ r, r < p → s 14 k = nI r → (T k = true ↔ aC (s 14) w (nI r) k n < 2)) ∧
    aI (s 14) (t 14) w (nI p) n i ∧
    (∀ k, T k = true → ∃ r, (r < p ∨ (r = p ∧ 0 < i)) ∧ s 14 k = nI r)
theorem IV_0 {s : xS} {w : Nat → Int32} {n : Nat} : IV s w n 0 0 s 0 :=
  ⟨fun _ => false, CX_0, (sumP_0 n (fun _ _ => rfl)).symm, fun k _ r hr => absurd hr (Nat.not_lt_zero r), aI_0, fun k h => by cases h⟩
theorem CX.rank {s t : xS} {T : Nat → Bool} {n : Nat} (C : CX s t T n) (v : Int32) : fRank t v = fRank s v := by
  obtain ⟨c0, -⟩ := C
  have e := fun q (a : (q != 3 && q != 4 && q != 5 && q != 6 && q != 10 && q != 14) = true) => c0 q (by simp at a; omega) (by simp at a; omega) (by simp at a; omega) (by simp at a; omega) (by simp at a; omega) (by simp at a; omega)
  unfold fRank PL
  rw [e 12 rfl, e 0 rfl, e 2 rfl, e 15 rfl]
theorem IV_step {s t : xS} {w : Nat → Int32} {n p i : Nat} {c : Int32} (h4 : ∀ k, k < n → s 4 k = s 14 k) (hw : ∀ k, k < n → fRank s (nI k) = w k) (ht : okX t n) (hp : p < 4) (I : IV s w n p i t c) : IV s w n p (i + 1) (fStep t n (nI p)) (c + fStepN t n (nI p)) := by
  obtain ⟨T, C, hc, hd, ha, hr⟩ := I
  have hn31 : n < 2 ^ 31 := by have := ht.1; omega
  have hwt : ∀ k, k < n → fRank t (nI k) = w k := fun k hk => (C.rank _).trans (hw k hk)
  have hpm : nI p ≠ -1 := nI_m1 (by omega)
  rcases best_spec hn31 hwt n (Nat.le_refl n) with ⟨b1, b2⟩ | ⟨b, hb, b1, b2, b3⟩
  · obtain ⟨e1, e2⟩ := step_none (n := n) (r := nI p) b1
    rw [e1, e2, i32_z]
    exact ⟨T, C, hc, hd, (aI_none ha b2).2, fun k hk => (hr k hk).elim fun r h => ⟨r, h.1.elim Or.inl (fun h => Or.inr ⟨h.1, Nat.succ_pos i⟩), h.2⟩⟩
  · have c14 := C.2.2.2.2.2.2.1
    have hT : T b = false := by
      cases e : T b with
      | false => rfl
      | true =>
        have := c14 b
        rw [e, if_pos rfl, b2] at this
        exact absurd this hpm
    have hs14 : s 14 b = nI p := by
      have := c14 b
      rw [hT, if_neg (by decide), b2] at this
      exact this.symm
    obtain ⟨C2, e2⟩ := step_some ht C hb hT b1 ((h4 b hb).trans hs14) (P4_nI hp)
    have hu : (fStep t n (nI p)) 14 = upd (t 14) b (-1) := by
      funext k
      rw [C2.2.2.2.2.2.2.1 k]
      by_cases e : k = b
      · subst e
        rw [if_pos (show addT T k k = true from if_pos rfl)]
        exact (if_pos rfl).symm
      · rw [show addT T b k = T k from if_neg e, show upd (t 14) b (-1) k = t 14 k from if_neg e, c14 k]
    refine ⟨addT T b, C2, ?_, fun k hk r hr2 h0 => ?_, ?_, fun k hk => ?_⟩
    · rw [sumP_add hT n, if_pos hb, ← hc, e2]
    · have : k ≠ b := fun e => nI_ne (by omega) (by omega) (Nat.ne_of_lt hr2) (by rw [← h0, e, hs14])
      rw [show addT T b k = T k from if_neg this]
      exact hd k hk r hr2 h0
    · rw [hu]
      exact (aI_next hpm ha hb hs14 b2 b3).2
    · by_cases e : k = b
      · exact ⟨p, Or.inr ⟨rfl, Nat.succ_pos i⟩, e ▸ hs14⟩
      · rw [show addT T b k = T k from if_neg e] at hk
        exact (hr k hk).elim fun r h => ⟨r, h.1.elim Or.inl (fun h => Or.inr ⟨h.1, Nat.succ_pos i⟩), h.2⟩
theorem IV_next {s t : xS} {w : Nat → Int32} {n p : Nat} {c : Int32} (hp : p < 4) (I : IV s w n p 2 t c) : IV s w n (p + 1) 0 t c := by
  obtain ⟨T, C, hc, hd, ha, hr⟩ := I
  have c14 := C.2.2.2.2.2.2.1
  have hpm : nI p ≠ -1 := nI_m1 (by omega)
  refine ⟨T, C, hc, fun k hk r hr2 h0 => ?_, fun k hk h0 => ?_, fun k hk => ?_⟩
  · by_cases e : r = p
    · subst e
      have h14 := c14 k
      rcases ha k hk h0 with ⟨a1, a2⟩ | ⟨a1, a2⟩
      · refine ⟨fun _ => a2, fun _ => ?_⟩
        cases e2 : T k with
        | true => rfl
        | false =>
          rw [e2, if_neg (by decide), h0] at h14
          exact absurd h14 a1
      · refine ⟨fun e2 => ?_, fun h => by omega⟩
        rw [e2, if_pos rfl] at h14
        exact absurd (a1.symm.trans h14) hpm
    · exact hd k hk r (by omega) h0
  · have hk2 : ∀ j, j < n → (s 14 j = nI (p + 1) ↔ t 14 j = nI (p + 1)) := fun j hj => by
      have h14 := c14 j
      cases e2 : T j with
      | true =>
        rw [e2, if_pos rfl] at h14
        obtain ⟨r, h1, h2⟩ := hr j e2
        exact ⟨fun h => absurd (h2.symm.trans h) (nI_ne (by omega) (by omega) (by omega)), fun h => absurd (h.symm.trans h14) (nI_m1 (by omega))⟩
      | false =>
        rw [e2, if_neg (by decide)] at h14
        rw [h14]
    exact Or.inr ⟨(hk2 k hk).mp h0, by rw [aC_congr n hk2]; omega⟩
  · exact (hr k hk).elim fun r h => ⟨r, Or.inl (by omega), h.2⟩
theorem IV_four {s : xS} {w : Nat → Int32} {n : Nat} (hs : okX s n) (h4 : ∀ k, k < n → s 4 k = s 14 k) (hw : ∀ k, k < n → fRank s (nI k) = w k) : ∀ p, p ≤ 4 → IV s w n p 0 (fFour s n p) (fFourN s n p)
  | 0, _ => IV_0
  | p + 1, hp => by
    have I := IV_four hs h4 hw p (by omega)
    have ht := hs.four p
    have I1 := IV_step h4 hw ht (by omega) I
    have I2 := IV_step h4 hw (ht.take.move) (by omega) I1
    exact IV_next (by omega) I2
/-- the reference's moves -/
theorem gName_q {u v : xS} (h : ∀ q, q ≠ 0 → q ≠ 14 → q ≠ 15 → v q = u q) (p : Int32) : ∀ k, gName v p k = gName u p k
  | 0 => rfl
  | k + 1 => by
    have e := fun q (a : (q != 0 && q != 14 && q != 15) = true) => h q (by simp at a; omega) (by simp at a; omega) (by simp at a; omega)
    simp only [gName, gA, gB, gWeight, gName_q h p k, e 6 rfl, e 9 rfl, e 13 rfl, e 7 rfl, e 4 rfl]
theorem gRank_q {u v : xS} (h : ∀ q, q ≠ 0 → q ≠ 14 → q ≠ 15 → v q = u q) (n : Nat) (a : Int32) : gRank v n a = gRank u n a := by
  unfold gRank
  rw [gName_q h, h 8 (by decide) (by decide) (by decide), h 6 (by decide) (by decide) (by decide)]
theorem gPlace_q {u v : xS} (h : ∀ q, q ≠ 0 → q ≠ 14 → q ≠ 15 → v q = u q) (n : Nat) (a : Int32) : ∀ k, gPlace v n a k = gPlace u n a k
  | 0 => rfl
  | k + 1 => by
    simp only [gPlace, gPlace_q h n a k, gLies, gAhead, gRank_q h, h 9 (by decide) (by decide) (by decide), h 10 (by decide) (by decide) (by decide)]
theorem gMv_q {u : xS} {n q : Nat} (hq : q ≠ 14) : ∀ k, gMv u n k q = u q
  | 0 => rfl
  | k + 1 => by
    unfold gMv
    split
    · split
      · rw [xup_n hq]; exact gMv_q hq k
      · rw [xup_n hq]; exact gMv_q hq k
    · rw [xup_n hq]; exact gMv_q hq k
theorem nar_1 : vp_nar .boolean 1 = 1 := by decide +kernel
theorem nar_0 : vp_nar .boolean 0 = 0 := by decide +kernel
theorem gMv_14 {u : xS} {n j : Nat} : ∀ k, j < k → gMv u n k 14 j = if u 9 j = 0 then (if 2 ≤ gPlace u n (nI j) n then 0 else 1) else 0
  | 0, h => absurd h (Nat.not_lt_zero _)
  | k + 1, h => by
    have e9 : gMv u n k 9 = u 9 := gMv_q (by decide) k
    have ep : ∀ a m, gPlace (gMv u n k) n a m = gPlace u n a m := fun a m => gPlace_q (fun q _ h _ => gMv_q h k) n a m
    unfold gMv
    rw [e9, ep]
    by_cases e : j = k
    · subst e
      by_cases c1 : u 9 j = 0
      · rw [if_pos c1, if_pos c1]
        by_cases c2 : 2 ≤ gPlace u n (nI j) n
        · rw [if_pos c2, if_pos c2, xup_ss, nar_0]
        · rw [if_neg c2, if_neg c2, xup_ss, nar_1]
      · rw [if_neg c1, if_neg c1, xup_ss, nar_0]
    · have ih := gMv_14 (u := u) (n := n) (j := j) k (by omega)
      split
      · split
        · rw [xup_sn e]; exact ih
        · rw [xup_sn e]; exact ih
      · rw [xup_sn e]; exact ih
/-- the letters below m that are marked -/
def mT (u : xS) (m : Nat) : Nat → Bool := fun k => decide (k < m) && !(decide (u 14 k = 0))
theorem mT_1 {u : xS} {m : Nat} (h : u 14 m = 0) : mT u (m + 1) = mT u m := by
  funext k
  unfold mT
  by_cases e : k = m
  · subst e; simp [h]
  · have : (k < m + 1) = (k < m) := propext ⟨fun h => by omega, fun h => by omega⟩
    simp only [this]
theorem mT_2 {u : xS} {m : Nat} (h : ¬ u 14 m = 0) : mT u (m + 1) = addT (mT u m) m := by
  funext k
  unfold mT addT
  by_cases e : k = m
  · subst e; simp [h]
  · have : (k < m + 1) = (k < m) := propext ⟨fun h => by omega, fun h => by omega⟩
    simp only [this, if_neg e]
theorem mT_m {u : xS} {m : Nat} : mT u m m = false := by simp [mT]
theorem gos_CM {u : xS} {n : Nat} (hn : n < 2 ^ 31) : ∀ m, m ≤ n → CM u (gGos u m) (mT u m) n ∧ gGosN u m = sumP (mT u m) (fun k => if gd u k then 1 else 0) n
  | 0, _ => by
    have e : ∀ k, mT u 0 k = false := fun k => by simp [mT]
    refine ⟨⟨fun q _ _ _ _ _ => rfl, fun k => ?_, fun k => ?_, fun k => ?_, fun k => ?_, fun j => ?_⟩, ?_⟩
    · rw [e]; rfl
    · rw [e]; rfl
    · rw [e]; rfl
    · rw [e]; rfl
    · rw [sumP_0 n (fun k _ => e k), i32_z]; rfl
    · rw [sumP_0 n (fun k _ => e k)]; rfl
  | m + 1, hm => by
    obtain ⟨C, hN⟩ := gos_CM (u := u) hn m (by omega)
    have e14 : (gGos u m) 14 m = u 14 m := by rw [C.1 14 (by decide) (by decide) (by decide) (by decide) (by decide)]
    by_cases c : u 14 m = 0
    · rw [mT_1 c]
      simp only [gGos, gGosN, e14, if_pos c, i32_z]
      exact ⟨C, hN⟩
    · obtain ⟨C2, hd⟩ := go_some C (b := m) (by omega) (by omega) mT_m
      rw [mT_2 c]
      simp only [gGos, gGosN, e14, if_neg c]
      refine ⟨C2, ?_⟩
      rw [sumP_add mT_m n, if_pos (show m < n by omega), ← hN]
      by_cases d : gd u m
      · rw [if_pos (hd.mpr d), if_pos d]
      · rw [if_neg (fun h => d (hd.mp h)), if_neg d]
/-- how many are ahead: both count the same -/
theorem place_eq {u : xS} {q w : Nat → Int32} {n k : Nat} (hM : okM u n) (hk : k < n) (hq : ∀ j, j < n → q j = if u 9 j = 0 then u 10 j else -1) (hw : ∀ j, j < n → gRank u n (nI j) = w j) : ∀ m, m ≤ n → gPlace u n (nI k) m = nI (aC q w (u 10 k) k m)
  | 0, _ => rfl
  | m + 1, hm => by
    have hn := hM.lt
    have hmn : m < n := by omega
    have h10 := (hM.2.2.1 k hk).2.2
    have hm1 : u 10 k ≠ -1 := fun e => by
      rw [e] at h10
      exact absurd h10.1 (by decide)
    rw [gPlace, place_eq hM hk hq hw m (by omega), aC, ix_n (by omega)]
    have e1 : gLies u (nI m) (u 10 k) ↔ q m = u 10 k := by
      unfold gLies
      rw [ix_n (by omega), hq m hmn]
      by_cases c : u 9 m = 0
      · rw [if_pos c]; exact ⟨fun h => h.2, fun h => ⟨c, h⟩⟩
      · rw [if_neg c]; exact ⟨fun h => absurd h.1 c, fun h => absurd h.symm hm1⟩
    have e2 : gAhead u n (nI m) (nI k) ↔ aA w m k := by
      unfold gAhead aA
      rw [hw m hmn, hw k hk, nI_ltI (by omega) (by omega)]
    by_cases e : m = k
    · subst e
      rw [if_pos rfl, if_neg (fun h => aA_irr h.2)]
      exact i32_z _
    · rw [if_neg (nI_ne (by omega) (by omega) e)]
      by_cases c1 : q m = u 10 k
      · rw [if_pos (e1.mpr c1)]
        by_cases c2 : aA w m k
        · rw [if_pos (e2.mpr c2), if_pos ⟨c1, c2⟩]; exact nI_1 _
        · rw [if_neg (fun h => c2 (e2.mp h)), if_neg (fun h => c2 h.2)]; exact i32_z _
      · rw [if_neg (fun h => c1 (e1.mp h)), if_neg (fun h => c1 h.1)]; exact i32_z _
end
section
/-! a tick keeps the relation -/
theorem has_tab : ∀ j, j < 16 → ∀ q, q < 4 → ((¬ nI j &&& fMark (nI q) = 0) ↔ gHas (nI j) (nI q)) ∧ (j ||| 2 ^ q) < 16 ∧ nI j ||| fMark (nI q) = nI (j ||| 2 ^ q) := by decide +kernel
theorem fRank_at {s : xS} {n k : Nat} (hN : okX s n) (hk : k < n) (h0 : P8 (s 0 k)) : fRank s (nI k) = s 2 k + s 15 (ix (s 0 k)) := by
  have := hN.1
  unfold fRank
  rw [ix_n (by omega), if_pos ⟨PL_nI hN hk, h0⟩]
/-- all letters that move, at once -/
theorem RelG.moves {b : Nat → Nat} {s u : xS} {n c : Nat} (R : RelG b s u n c) (hb : ∀ k, 1 ≤ b k) :
    RelG b (fFour (fBegin s n) n 4) (gGos (gMv u n n) n) n c ∧ fFourN (fBegin s n) n 4 = gGosN (gMv u n n) n ∧ fFour (fBegin s n) n 4 13 = s 13 := by
  have hrep := fun p => R.rep p n (Nat.le_refl n)
  obtain ⟨h1, h2, h3, ⟨e0, e1, e2, e3, e5, e6, e7, e8, e9, e10, e11, e13⟩, h5, h6, h6b, h7, ⟨tm, ht1, ht2, ht3⟩, h9⟩ := R
  have hn := h1.1
  have hn31 : n < 2 ^ 31 := by omega
  have hp0 : ∀ k, k < n → P8 (s 0 k) := fun k hk => by rw [e0]; exact (h2.2.2.1 k hk).1
  obtain ⟨sB, hsB⟩ : ∃ z, z = fBegin s n := ⟨_, rfl⟩
  have hB : okX sB n := hsB ▸ h1.begin
  have hq : ∀ q, q ≠ 14 → q ≠ 15 → sB q = s q := fun q a c => by rw [hsB]; exact fBegin_q a c
  have h14 : ∀ k, k < n → sB 14 k = s 4 k := fun k hk => by rw [hsB]; exact fBegin_14 hk
  have h4 : ∀ k, k < n → sB 4 k = sB 14 k := fun k hk => by rw [h14 k hk, hq 4 (by decide) (by decide)]
  obtain ⟨v0, hv0⟩ : ∃ z, z = gMv u n n := ⟨_, rfl⟩
  have hvq : ∀ q, q ≠ 14 → v0 q = u q := fun q a => by rw [hv0]; exact gMv_q a n
  have hV : okM v0 n := hv0 ▸ h2.mv n
  rw [← hsB, ← hv0]
  obtain ⟨w, hw⟩ : ∃ w : Nat → Int32, w = fun k => fRank sB (nI k) := ⟨_, rfl⟩
  have hwx : ∀ k, k < n → fRank sB (nI k) = w k := fun k _ => by rw [hw]
  have hwm : ∀ k, k < n → gRank u n (nI k) = w k := fun k hk => by
    have hp := hp0 k hk
    rw [hw]
    show gRank u n (nI k) = fRank sB (nI k)
    have hq0 : sB 0 = s 0 := hq 0 (by decide) (by decide)
    have hi : ix (s 0 k) < 8 := Nat.not_le.mp fun q => (P8_in hp) (Or.inr q)
    rw [fRank_at hB hk (by rw [hq0]; exact hp), hq0, hq 2 (by decide) (by decide), hsB, fBegin_15 hp0 hi]
    have e : nI (ix (s 0 k)) = s 0 k := ((ix_inj8 hp hi).mp rfl).symm
    rw [e, hrep]
    unfold gRank
    rw [ix_n (by omega), e2, e0]
  obtain ⟨T, C, hcnt, hd, -, hr⟩ := IV_four hB h4 hwx 4 (Nat.le_refl 4)
  obtain ⟨CMv, hNM⟩ := gos_CM (u := v0) hn31 n (Nat.le_refl n)
  have hN4 := hB.four 4
  have hNg := hV.gos n (Nat.le_refl n)
  have hqr : ∀ j, j < n → sB 14 j = if u 9 j = 0 then u 10 j else -1 := fun j hj => by rw [h14 j hj, h5 j hj, e3]
  -- the same letters
  have hTT : T = mT v0 n := by
    funext k
    by_cases hk : k < n
    · have m14 : v0 14 k = if u 9 k = 0 then (if 2 ≤ gPlace u n (nI k) n then 0 else 1) else 0 := by rw [hv0]; exact gMv_14 n hk
      have hM : mT v0 n k = true ↔ ¬ v0 14 k = 0 := by simp [mT, hk]
      have key : T k = true ↔ mT v0 n k = true := by
        rw [hM, m14]
        by_cases c1 : u 9 k = 0
        · obtain ⟨r, hr4, hre⟩ := vp_in_of (P4_in (h2.2.2.1 k hk).2.2) (by decide)
          have hs14 : sB 14 k = nI r := by rw [hqr k hk, if_pos c1, hre]
          have hpl := place_eq h2 hk hqr hwm n (Nat.le_refl n)
          rw [if_pos c1, hd k hk r hr4 hs14, hpl, hre]
          have hle := aC_le (sB 14) w (nI r) k n
          have h2e : (2 : Int32) ≤ nI (aC (sB 14) w (nI r) k n) ↔ 2 ≤ aC (sB 14) w (nI r) k n := by
            rw [show (2 : Int32) = nI 2 from rfl, nI_leI (by decide) (by omega)]
          by_cases c2 : 2 ≤ aC (sB 14) w (nI r) k n
          · rw [if_pos (h2e.mpr c2)]
            exact ⟨fun h => by omega, fun h => absurd rfl h⟩
          · rw [if_neg (fun h => c2 (h2e.mp h))]
            exact ⟨fun _ => by decide, fun _ => by omega⟩
        · rw [if_neg c1]
          refine ⟨fun h => ?_, fun h => absurd rfl h⟩
          obtain ⟨r, hr1, hr2⟩ := hr k h
          rw [hqr k hk, if_neg c1] at hr2
          exact absurd hr2.symm (nI_m1 (by omega))
      cases a : T k with
      | true => exact (key.mp a).symm
      | false =>
        cases b2 : mT v0 n k with
        | true => rw [key.mpr b2] at a; cases a
        | false => rfl
    · have a : T k = false := by
        cases a : T k with
        | true => exact absurd (C.2.2.2.2.2.2.2 k a) hk
        | false => rfl
      rw [a]
      simp [mT, hk]
  rw [← hTT] at CMv hNM
  -- what is known of a letter that moves
  have hTk : ∀ k, T k = true → k < n ∧ u 9 k = 0 ∧ s 4 k = u 10 k ∧ P4 (u 10 k) := fun k h => by
    have hk := C.2.2.2.2.2.2.2 k h
    obtain ⟨r, hr1, hr2⟩ := hr k h
    have c1 : u 9 k = 0 := by
      apply Classical.byContradiction
      intro c1
      rw [hqr k hk, if_neg c1] at hr2
      exact absurd hr2.symm (nI_m1 (by omega))
    exact ⟨hk, c1, by rw [h5 k hk, e3, if_pos c1], (h2.2.2.1 k hk).2.2⟩
  have hdat : ∀ k, T k = true → (dl sB k ↔ gd v0 k) ∧ nx sB k = gx v0 k ∧ (ls sB k ↔ gl v0 k) ∧ ∃ j, j < 16 ∧ ∃ q, q < 4 ∧ s 5 k = nI j ∧ gx v0 k = nI q := fun k h => by
    obtain ⟨hk, c1, c2, c3⟩ := hTk k h
    have a1 : sB 1 = u 7 := (hq 1 (by decide) (by decide)).trans e1
    have a4 : sB 4 k = u 10 k := by rw [hq 4 (by decide) (by decide)]; exact c2
    have hmg : hm sB k = gh v0 k := by
      show fHome (sB 1 k) = v0 7 k - v0 7 k / 4 * 4
      rw [a1, hvq 7 (by decide)]; rfl
    have hp4 : P4 (gh v0 k) := by
      show P4 (v0 7 k - v0 7 k / 4 * 4)
      rw [hvq 7 (by decide)]; exact P8_home (h2.2.2.1 k hk).2.1
    have hv10 : v0 10 k = u 10 k := by rw [hvq 10 (by decide)]
    have hnx : nx sB k = gx v0 k := by
      show fNext sB (sB 4 k) (hm sB k) = v0 1 (ix (4 * v0 10 k + gh v0 k))
      rw [hmg, a4, hv10]
      unfold fNext
      rw [if_pos ⟨c3, hp4⟩, hq 11 (by decide) (by decide), e11, hvq 1 (by decide), Int32.mul_comm]
    have hdl : dl sB k ↔ gd v0 k := by
      show sB 4 k = hm sB k ↔ v0 10 k = gh v0 k
      rw [hmg, a4, hv10]
    obtain ⟨j, hj, hje⟩ := h6b k
    have hi := P4_in16m c3 hp4
    have hgx4 : P4 (gx v0 k) := by
      show P4 (v0 1 (ix (4 * v0 10 k + gh v0 k)))
      rw [hv10, hvq 1 (by decide)]
      exact h2.2.2.2 _ (Nat.not_le.mp fun q => hi (Or.inr q))
    obtain ⟨q, hq4, hqe⟩ := vp_in_of (P4_in hgx4) (by decide)
    have hs5 : sB 5 k = nI j := by rw [hq 5 (by decide) (by decide)]; exact hje
    have hu11 : v0 11 k = nI j := by rw [hvq 11 (by decide), ← e5]; exact hje
    have hls : ls sB k ↔ gl v0 k := by
      show (¬ dl sB k ∧ ¬ sB 5 k &&& fMark (nx sB k) = 0) ↔ (¬ gd v0 k ∧ gHas (v0 11 k) (gx v0 k))
      rw [hdl, hnx, hqe, hs5, hu11, (has_tab j hj q hq4).1]
    exact ⟨hdl, hnx, hls, j, hj, q, hq4, hje, hqe⟩
  have hTf : ∀ k, n ≤ k → ¬ T k = true := fun k hk h => absurd (hTk k h).1 (by omega)
  obtain ⟨t, ht⟩ : ∃ z, z = fFour sB n 4 := ⟨_, rfl⟩
  obtain ⟨v, hv⟩ : ∃ z, z = gGos v0 n := ⟨_, rfl⟩
  rw [← ht] at C hN4 ⊢
  rw [← hv] at CMv hNg ⊢
  obtain ⟨c0, c3, c4, c5, c6, c10, -, -⟩ := C
  obtain ⟨m0, m9, m10, m11, m12, m3⟩ := CMv
  have t_ : ∀ q, (q != 3 && q != 4 && q != 5 && q != 6 && q != 10 && q != 14 && q != 15) = true → t q = s q := fun q a => by
    simp at a
    rw [c0 q (by omega) (by omega) (by omega) (by omega) (by omega) (by omega)]
    exact hq q (by omega) (by omega)
  have v_ : ∀ q, (q != 3 && q != 9 && q != 10 && q != 11 && q != 12 && q != 14) = true → v q = u q := fun q a => by
    simp at a
    rw [m0 q (by omega) (by omega) (by omega) (by omega) (by omega)]
    exact hvq q (by omega)
  have b3 : sB 3 = u 9 := (hq 3 (by decide) (by decide)).trans e3
  have b5 : sB 5 = u 11 := (hq 5 (by decide) (by decide)).trans e5
  have b6 : sB 6 = u 12 := (hq 6 (by decide) (by decide)).trans e6
  have f3 : t 3 = v 9 := by
    funext k
    rw [c3, m9, b3, hvq 9 (by decide)]
    by_cases c : T k = true
    · obtain ⟨d1, d2, d3, -⟩ := hdat k c
      simp only [if_pos c, d1, d3]
    · rw [if_neg c, if_neg c]
  have f5 : t 5 = v 11 := by
    funext k
    rw [c5, m11]
    have x5 : sB 5 k = u 11 k := congrFun b5 k
    have y5 : v0 11 k = u 11 k := congrFun (hvq 11 (by decide)) k
    by_cases c : T k = true
    · obtain ⟨d1, d2, d3, -⟩ := hdat k c
      simp only [if_pos c]
      by_cases x1 : dl sB k
      · rw [if_pos x1, if_pos (d1.mp x1), x5, y5]
      · by_cases x2 : ls sB k
        · rw [if_neg x1, if_pos x2, if_neg (fun h => x1 (d1.mpr h)), if_pos (d3.mp x2), x5, y5]
        · rw [if_neg x1, if_neg x2, if_neg (fun h => x1 (d1.mpr h)), if_neg (fun h => x2 (d3.mpr h)), x5, y5, d2]
          rfl
    · rw [if_neg c, if_neg c, x5, y5]
  have f6 : t 6 = v 12 := by
    funext k
    rw [c6, m12, b6, hvq 12 (by decide), hq 13 (by decide) (by decide), e13, hvq 0 (by decide)]
    by_cases c : T k = true
    · obtain ⟨d1, d2, d3, -⟩ := hdat k c
      simp only [if_pos c, d1]
    · rw [if_neg c, if_neg c]
  have f10 : t 10 = v 3 := by
    funext j
    rw [c10, m3, hq 10 (by decide) (by decide), e10, hvq 3 (by decide)]
    congr 1
    refine sumP_congr n (fun k hk => ⟨rfl, fun c => ?_⟩)
    obtain ⟨d1, d2, d3, -⟩ := hdat k c
    obtain ⟨-, -, g3, -⟩ := hTk k c
    simp only [d3, hq 4 (by decide) (by decide), g3, hvq 10 (by decide), hq 2 (by decide) (by decide), e2, hvq 8 (by decide)]
  refine ⟨⟨hN4, hNg, h3, ⟨?_, ?_, ?_, f3, f5, f6, ?_, ?_, ?_, f10, ?_, ?_⟩, fun k hk => ?_, fun k hk => ?_, fun k => ?_, fun k hk => ?_, ⟨tm, ht1, ?_, fun k hk hk3 => ?_⟩, fun p hp => ?_⟩, ?_, t_ 13 rfl⟩
  · rw [t_ 0 rfl, v_ 6 rfl]; exact e0
  · rw [t_ 1 rfl, v_ 7 rfl]; exact e1
  · rw [t_ 2 rfl, v_ 8 rfl]; exact e2
  · rw [t_ 7 rfl, v_ 13 rfl]; exact e7
  · rw [t_ 8 rfl, v_ 2 rfl]; exact e8
  · rw [t_ 9 rfl, v_ 4 rfl]; exact e9
  · rw [t_ 11 rfl, v_ 1 rfl]; exact e11
  · rw [t_ 13 rfl, v_ 0 rfl]; exact e13
  · -- places
    rw [c4, c3, m10]
    have x3 : sB 3 k = u 9 k := congrFun b3 k
    have y10 : v0 10 k = u 10 k := congrFun (hvq 10 (by decide)) k
    by_cases c : T k = true
    · obtain ⟨d1, d2, d3, -⟩ := hdat k c
      obtain ⟨-, g2, -⟩ := hTk k c
      simp only [if_pos c]
      by_cases x1 : dl sB k
      · simp only [if_pos x1, if_neg (by decide : ¬ (1 : Int32) = 0)]
      · by_cases x2 : ls sB k
        · simp only [if_neg x1, if_pos x2, if_neg (by decide : ¬ (4 : Int32) = 0)]
        · simp only [if_neg x1, if_neg x2]
          rw [x3, if_pos g2, if_neg (fun h => x1 (d1.mpr h)), if_neg (fun h => x2 (d3.mpr h))]
          exact d2
    · simp only [if_neg c]
      rw [x3, y10, hq 4 (by decide) (by decide), h5 k hk, e3]
  · rw [c3, c5, if_neg (hTf k hk), if_neg (hTf k hk), hq 3 (by decide) (by decide), hq 5 (by decide) (by decide)]
    exact h6 k hk
  · rw [c5]
    by_cases c : T k = true
    · obtain ⟨d1, d2, d3, j, hj, q, hq4, hje, hqe⟩ := hdat k c
      have x5 : sB 5 k = nI j := by rw [hq 5 (by decide) (by decide)]; exact hje
      rw [if_pos c]
      by_cases x1 : dl sB k
      · rw [if_pos x1, x5]; exact ⟨j, hj, rfl⟩
      · by_cases x2 : ls sB k
        · rw [if_neg x1, if_pos x2, x5]; exact ⟨j, hj, rfl⟩
        · rw [if_neg x1, if_neg x2, d2, hqe, x5]
          exact ⟨_, (has_tab j hj q hq4).2⟩
    · rw [if_neg c, hq 5 (by decide) (by decide)]; exact h6b k
  · rw [t_ 7 rfl]
    by_cases c : T k = true
    · obtain ⟨-, g2, -⟩ := hTk k c
      exact h7 k (by rw [e3, g2]; decide)
    · rw [c3, if_neg c, hq 3 (by decide) (by decide)] at hk
      exact h7 k hk
  · rw [t_ 13 rfl]; exact ht2
  · rw [c6]
    rw [c3] at hk3
    by_cases c : T k = true
    · obtain ⟨-, g2, -⟩ := hTk k c
      rw [if_pos c] at hk3 ⊢
      by_cases x1 : dl sB k
      · rw [if_pos x1, hq 13 (by decide) (by decide)]
        exact ⟨tm, Nat.le_refl _, by have := hb k; omega, ht2⟩
      · exfalso
        rw [if_neg x1, b3, g2] at hk3
        by_cases x2 : ls sB k
        · rw [if_pos x2] at hk3; exact absurd hk3 (by decide)
        · rw [if_neg x2] at hk3; exact absurd hk3 (by decide)
    · rw [if_neg c] at hk3 ⊢
      rw [hq 3 (by decide) (by decide)] at hk3
      rw [hq 6 (by decide) (by decide)]
      exact ht3 k hk hk3
  · rw [t_ 9 rfl]; exact h9 p hp
  · rw [hcnt, hNM]
    refine sumP_congr n (fun k hk => ⟨rfl, fun c => ?_⟩)
    simp only [(hdat k c).1]
end
section
/-! single writes keep the relation; the letters that expire; ticks -/
theorem RelG.bnd {b b' : Nat → Nat} {s u : xS} {n c : Nat} (R : RelG b s u n c) (h : ∀ k, k < n → b k ≤ b' k) : RelG b' s u n c := by
  obtain ⟨h1, h2, h3, h4, h5, h6, h6b, h7, ⟨t, t1, t2, t3⟩, h9⟩ := R
  exact ⟨h1, h2, h3, h4, h5, h6, h6b, h7, ⟨t, t1, t2, fun k hk h3 => (t3 k hk h3).elim fun d hd => ⟨d, hd.1, by have := h k hk; omega, hd.2.2⟩⟩, h9⟩
theorem RelG.coins {b : Nat → Nat} {s u : xS} {n c : Nat} (R : RelG b s u n c) (i : Nat) (v : Int32) : RelG b (xup s 8 i v) (xup u 2 i v) n c := by
  obtain ⟨h1, h2, h3, ⟨e0, e1, e2, e3, e5, e6, e7, e8, e9, e10, e11, e13⟩, h5⟩ := R
  exact ⟨h1.up (by decide), h2.up rfl, h3, ⟨e0, e1, e2, e3, e5, e6, e7, by rw [xup_s, xup_s, e8], e9, e10, e11, e13⟩, h5⟩
theorem RelG.pools {b : Nat → Nat} {s u : xS} {n c : Nat} (R : RelG b s u n c) (i : Nat) (v : Int32) : RelG b (xup s 10 i v) (xup u 3 i v) n c := by
  obtain ⟨h1, h2, h3, ⟨e0, e1, e2, e3, e5, e6, e7, e8, e9, e10, e11, e13⟩, h5⟩ := R
  exact ⟨h1.up (by decide), h2.up rfl, h3, ⟨e0, e1, e2, e3, e5, e6, e7, e8, e9, by rw [xup_s, xup_s, e10], e11, e13⟩, h5⟩
theorem RelG.route {b : Nat → Nat} {s u : xS} {n c : Nat} (R : RelG b s u n c) (i : Nat) {v : Int32} (hv : P4 v) : RelG b (xup s 11 i v) (xup u 1 i v) n c := by
  obtain ⟨h1, ⟨m1, m2, m3, m4⟩, h3, ⟨e0, e1, e2, e3, e5, e6, e7, e8, e9, e10, e11, e13⟩, h5⟩ := R
  refine ⟨h1.up (by decide), ⟨m1, m2, m3, fun j hj => ?_⟩, h3, ⟨e0, e1, e2, e3, e5, e6, e7, e8, e9, e10, by rw [xup_s, xup_s, e11], e13⟩, h5⟩
  by_cases e : j = i
  · rw [e, xup_ss]; exact hv
  · rw [xup_sn e]; exact m4 j hj
theorem RelG.falsely {b : Nat → Nat} {s u : xS} {n c : Nat} (R : RelG b s u n c) (i : Nat) (hc : c + 1 ≤ 512) : RelG b (xup s 9 i (s 9 i + 1)) (xup u 4 i (u 4 i + 1)) n (c + 1) := by
  obtain ⟨h1, h2, h3, ⟨e0, e1, e2, e3, e5, e6, e7, e8, e9, e10, e11, e13⟩, h5, h6, h6b, h7, h8, h9⟩ := R
  refine ⟨h1.up (by decide), h2.up rfl, hc, ⟨e0, e1, e2, e3, e5, e6, e7, e8, by rw [xup_s, xup_s, e9], e10, e11, e13⟩, h5, h6, h6b, h7, h8, fun p hp => ?_⟩
  obtain ⟨q, q1, q2⟩ := h9 p hp
  by_cases e : p = i
  · subst e
    rw [xup_ss, q2]
    exact ⟨q + 1, by omega, nI_1 q⟩
  · rw [xup_sn e]; exact ⟨q, by omega, q2⟩
theorem RelG.state {b b' : Nat → Nat} {s u : xS} {n c a : Nat} {x : Int32} (R : RelG b s u n c) (hb : ∀ k, k < n → k ≠ a → b k ≤ b' k) (ha : a < n) (hs : s 3 a = 1) (h0 : x ≠ 0) (h1x : x ≠ 1) : RelG b' (xup s 3 a x) (xup u 9 a x) n c := by
  obtain ⟨h1, h2, h3, ⟨e0, e1, e2, e3, e5, e6, e7, e8, e9, e10, e11, e13⟩, h5, h6, h6b, h7, ⟨t, t1, t2, t3⟩, h9⟩ := R
  refine ⟨h1.up (by decide), h2.up rfl, h3, ⟨e0, e1, e2, by rw [xup_s, xup_s, e3], e5, e6, e7, e8, e9, e10, e11, e13⟩, fun k hk => ?_, fun k hk => ?_, h6b, fun k hk => ?_, ⟨t, t1, t2, fun k hk h3k => ?_⟩, h9⟩
  · have h := h5 k hk
    by_cases e : k = a
    · subst e
      rw [xup_ss, if_neg h0]
      rw [hs, if_neg (by decide)] at h
      exact h
    · rw [xup_sn e]; exact h
  · have e : k ≠ a := by omega
    rw [xup_sn e]; exact h6 k hk
  · by_cases e : k = a
    · subst e; exact h7 k (by rw [hs]; decide)
    · rw [xup_sn e] at hk; exact h7 k hk
  · by_cases e : k = a
    · subst e; rw [xup_ss] at h3k; exact absurd h3k h1x
    · rw [xup_sn e] at h3k
      exact (t3 k hk h3k).elim fun d hd => ⟨d, hd.1, by have := hb k hk e; omega, hd.2.2⟩
theorem fGive_at {s : xS} {n a : Nat} (hN : okX s n) (ha : a < n) (h0 : P8 (s 0 a)) : fGive s (nI a) = xup s 8 (ix (s 0 a)) (s 8 (ix (s 0 a)) + s 2 a) := by
  have := hN.1
  unfold fGive
  rw [ix_n (by omega), if_pos ⟨PL_nI hN ha, h0⟩]
theorem sub_nI {a b : Nat} (h : b ≤ a) : nI a - nI b = nI (a - b) := pk_sub h
theorem RelG.exp {s u : xS} {n c : Nat} (R : RelG (fun _ => 21) s u n c) : ∀ m, m ≤ n → RelG (fun k => if k < m then 20 else 21) (fExp s m) (gExp u m) n c ∧ (fExp s m) 13 = s 13
  | 0, _ => ⟨R.bnd (fun k _ => by rw [if_neg (Nat.not_lt_zero k)]; exact Nat.le_refl _), rfl⟩
  | m + 1, hm => by
    obtain ⟨R1, e13a⟩ := RelG.exp R m (by omega)
    have R0 := R1
    obtain ⟨h1, h2, h3, ⟨e0, e1, e2, e3, e5, e6, e7, e8, e9, e10, e11, e13⟩, h5, h6, h6b, h7, ⟨t, t1, t2, t3⟩, h9⟩ := R1
    have hmn : m < n := by omega
    have hn := h1.1
    have hb : ∀ k, k < n → k ≠ m → (if k < m then 20 else 21) ≤ (if k < m + 1 then 20 else 21 : Nat) := fun k _ e => by
      by_cases x : k < m
      · rw [if_pos x, if_pos (by omega)]; exact Nat.le_refl _
      · rw [if_neg x, if_neg (by omega)]; exact Nat.le_refl _
    have skip : (∀ d, (fExp s m) 3 m = 1 → t < d + 21 → (fExp s m) 6 m = nI d → d ≤ t → t < d + 20) → RelG (fun k => if k < m + 1 then 20 else 21) (fExp s m) (gExp u m) n c := fun hsk => by
      refine ⟨h1, h2, h3, ⟨e0, e1, e2, e3, e5, e6, e7, e8, e9, e10, e11, e13⟩, h5, h6, h6b, h7, ⟨t, t1, t2, fun k hk h3k => ?_⟩, h9⟩
      obtain ⟨d, d1, d2, d3⟩ := t3 k hk h3k
      by_cases e : k = m
      · subst e
        dsimp only at d2
        rw [if_neg (Nat.lt_irrefl _)] at d2
        exact ⟨d, d1, by dsimp only; rw [if_pos (Nat.lt_succ_self _)]; exact hsk d h3k d2 d3 d1, d3⟩
      · exact ⟨d, d1, by have := hb k hk e; dsimp only at d2 ⊢; omega, d3⟩
    simp only [fExp, gExp]
    by_cases c1 : (fExp s m) 3 m = 1
    · have c1m : (gExp u m) 9 m = 1 := by rw [← e3]; exact c1
      rw [if_pos c1, if_pos c1m]
      obtain ⟨d, d1, d2, d3⟩ := t3 m hmn c1
      dsimp only at d2
      rw [if_neg (Nat.lt_irrefl _)] at d2
      have e20 : (20 : Int32) = nI 20 := rfl
      have x1 : (fExp s m) 13 0 - (fExp s m) 6 m = nI (t - d) := by rw [t2, d3, sub_nI d1]
      have x2 : (gExp u m) 0 0 - (gExp u m) 12 m = nI (t - d) := by rw [← e13, ← e6]; exact x1
      rw [x1, x2]
      by_cases c2 : t - d < 20
      · rw [if_pos (by rw [e20, nI_ltI (by omega) (by omega)]; exact c2), if_neg (by rw [e20, nI_eq (by omega) (by omega)]; omega)]
        refine ⟨skip (fun d' _ a2 a3 a4 => ?_), e13a⟩
        have : d' = d := by
          have a := a3.symm.trans d3
          exact (nI_eq (by omega) (by omega)).mp a
        omega
      · rw [if_neg (by rw [e20, nI_ltI (by omega) (by omega)]; exact c2), if_pos (by rw [e20, nI_eq (by omega) (by omega)]; omega)]
        have hp : P8 ((fExp s m) 0 m) := by rw [e0]; exact (h2.2.2.1 m hmn).1
        rw [fGive_at (s := xup (fExp s m) 3 m 5) (h1.up (by decide)) hmn hp]
        refine ⟨?_, e13a⟩
        have R2 : RelG (fun k => if k < m + 1 then 20 else 21) (xup (fExp s m) 3 m 5) (xup (gExp u m) 9 m 5) n c := R0.state hb hmn c1 (by decide) (by decide)
        have R3 := R2.coins (ix ((fExp s m) 0 m)) ((fExp s m) 8 (ix ((fExp s m) 0 m)) + (fExp s m) 2 m)
        have y : (gExp u m) 2 (ix ((gExp u m) 6 m)) + (gExp u m) 8 m = (fExp s m) 8 (ix ((fExp s m) 0 m)) + (fExp s m) 2 m := by rw [← e0, ← e2, ← e8]
        rw [y, ← e0]
        exact R3
    · have c1m : ¬ (gExp u m) 9 m = 1 := by rw [← e3]; exact c1
      rw [if_neg c1, if_neg c1m]
      exact ⟨skip (fun d h _ _ _ => absurd h c1), e13a⟩
theorem RelG.time {s u : xS} {n c t : Nat} (R : Rel s u n c) (ht : s 13 0 = nI t) (h1 : t + 1 ≤ 100000) : RelG (fun _ => 21) (xup s 13 0 (s 13 0 + 1)) (xup u 0 0 (u 0 0 + 1)) n c := by
  obtain ⟨h1x, h2, h3, ⟨e0, e1, e2, e3, e5, e6, e7, e8, e9, e10, e11, e13⟩, h5, h6, h6b, h7, ⟨t', t1, t2, t3⟩, h9⟩ := R
  have et : t' = t := (nI_eq (by omega) (by omega)).mp (t2.symm.trans ht)
  subst et
  refine ⟨h1x.up (by decide), h2.up rfl, h3, ⟨e0, e1, e2, e3, e5, e6, e7, e8, e9, e10, e11, by rw [xup_ss, xup_ss, e13]⟩, h5, h6, h6b, h7, ⟨t' + 1, h1, by rw [xup_ss, t2]; exact nI_1 t', fun k hk h3k => ?_⟩, h9⟩
  exact (t3 k hk h3k).elim fun d hd => ⟨d, by omega, by have := hd.2.1; dsimp only at this ⊢; omega, hd.2.2⟩
theorem RelG.tick {s u : xS} {n c t : Nat} (R : Rel s u n c) (ht : s 13 0 = nI t) (h1 : t + 1 ≤ 100000) : Rel (fTick s n) (gTick u n) n c ∧ fTickN s n = gTickN u n ∧ (fTick s n) 13 0 = nI (t + 1) := by
  have R1 := R.time ht h1
  obtain ⟨R2, hN, h13⟩ := R1.moves (fun _ => by decide)
  obtain ⟨R3, h13b⟩ := R2.exp n (Nat.le_refl n)
  unfold fTick gTick fTickN gTickN fTick0 gTick0
  refine ⟨R3.bnd (fun k hk => by rw [if_pos hk]; exact Nat.le_refl _), hN, ?_⟩
  rw [h13b, h13, xup_ss, ht]
  exact nI_1 t
theorem RelG.ticks {s u : xS} {n c t : Nat} (R : Rel s u n c) (ht : s 13 0 = nI t) : ∀ k, t + k ≤ 100000 → Rel (fTicks s n k) (gTicks u n k) n c ∧ fTicksN s n k = gTicksN u n k ∧ (fTicks s n k) 13 0 = nI (t + k)
  | 0, _ => ⟨R, rfl, ht⟩
  | k + 1, h => by
    obtain ⟨R1, h1, h2⟩ := RelG.ticks R ht k (by omega)
    obtain ⟨R2, h3, h4⟩ := R1.tick h2 (by omega)
    exact ⟨R2, by simp only [fTicksN, gTicksN, h1, h3], h4⟩
end
section
/-! the public methods, class beside reference: the reading ones; setRoute, steps, pass, answer -/
theorem RelG.pl {b : Nat → Nat} {s u : xS} {n c : Nat} (R : RelG b s u n c) (a : Int32) : PL s a ↔ PM u a := by
  obtain ⟨h1, h2, -⟩ := R
  unfold PL PM
  rw [h1.2, h2.2.1]
theorem RelG.PLx {b : Nat → Nat} {s u : xS} {n c : Nat} (R : RelG b s u n c) {a : Int32} (h : PL s a) : ix a < n ∧ a = nI (ix a) := PM_ix R.2.1 ((R.pl a).mp h)
theorem RelG.klet {b : Nat → Nat} {s u : xS} {n c : Nat} (R : RelG b s u n c) (a : Int32) : kLet s a = jLet u a := by
  unfold kLet jLet
  simp only [R.pl a]
theorem RelG.del {b : Nat → Nat} {s u : xS} {n c : Nat} (R : RelG b s u n c) (a : Int32) : kDel s a = jDel u a := by
  have e3 := R.2.2.2.1.2.2.2.1
  unfold kDel jDel
  simp only [R.pl a, e3]
theorem kLet_0 {s : xS} {a : Int32} (h : kLet s a = 0) : PL s a := by
  apply Classical.byContradiction
  intro c
  unfold kLet at h
  rw [if_neg c] at h
  exact absurd h (by decide)
theorem k4_0 {a : Int32} (h : k4 a = 0) : P4 a := by
  apply Classical.byContradiction
  intro c
  unfold k4 at h
  rw [if_neg c] at h
  exact absurd h (by decide)
theorem k8_0 {a : Int32} (h : k8 a = 0) : P8 a := by
  apply Classical.byContradiction
  intro c
  unfold k8 at h
  rw [if_neg c] at h
  exact absurd h (by decide)
theorem kDel_0 {s : xS} {a : Int32} (h : kDel s a = 0) : PL s a ∧ s 3 (ix a) = 1 := by
  unfold kDel at h
  by_cases c : PL s a
  · rw [if_pos c] at h
    by_cases d : s 3 (ix a) = 1
    · exact ⟨c, d⟩
    · rw [if_neg d] at h; exact absurd h (by decide)
  · rw [if_neg c] at h; exact absurd h (by decide)
theorem E_w9 {b : Nat → Nat} {s u : xS} {n c : Nat} (R : RelG b s u n c) {a : Int32} (h : kLet s a = 0) : w9 u a = s 3 (ix a) := by
  have e3 := R.2.2.2.1.2.2.2.1
  unfold w9
  rw [if_pos ((R.pl a).mp (kLet_0 h)), e3]
  rfl
theorem E_w10 {b : Nat → Nat} {s u : xS} {n c : Nat} (R : RelG b s u n c) {a : Int32} (h : kLet s a = 0) : w10 u a = s 4 (ix a) := by
  have hp := kLet_0 h
  have hk := (R.PLx hp).1
  have e3 := R.2.2.2.1.2.2.2.1
  have h5 := R.2.2.2.2.1 _ hk
  unfold w10
  rw [if_pos ((R.pl a).mp hp), h5, e3]
  rfl
theorem E_w11 {b : Nat → Nat} {s u : xS} {n c : Nat} (R : RelG b s u n c) {a : Int32} (h : kLet s a = 0) : w11 u a = s 5 (ix a) := by
  have e5 := R.2.2.2.1.2.2.2.2.1
  unfold w11
  rw [if_pos ((R.pl a).mp (kLet_0 h)), e5]
  rfl
theorem lies_at {b : Nat → Nat} {s u : xS} {n c k : Nat} (R : RelG b s u n c) (hk : k < n) {r : Int32} (hr : P4 r) : gLies u (nI k) r ↔ s 4 k = r := by
  have e3 := R.2.2.2.1.2.2.2.1
  have hn := R.1.1
  have hm1 : r ≠ -1 := fun e => by rw [e] at hr; exact absurd hr.1 (by decide)
  unfold gLies
  rw [ix_n (by omega), R.2.2.2.2.1 k hk, e3]
  by_cases c : u 9 k = 0
  · rw [if_pos c]; exact ⟨fun h => h.2, fun h => ⟨c, h⟩⟩
  · rw [if_neg c]; exact ⟨fun h => absurd h.1 c, fun h => absurd h.symm hm1⟩
theorem RelG.len {b : Nat → Nat} {s u : xS} {n c : Nat} (R : RelG b s u n c) {r : Int32} (hr : P4 r) : ∀ k, k ≤ n → gLen u r k = fLen s r k
  | 0, _ => rfl
  | k + 1, h => by
    rw [gLen, fLen, RelG.len R hr k (by omega)]
    by_cases x : s 4 k = r
    · rw [if_pos ((lies_at R (by omega) hr).mpr x), if_pos x]
    · rw [if_neg (fun z => x ((lies_at R (by omega) hr).mp z)), if_neg x]; exact i32_z _
theorem RelG.esc {b : Nat → Nat} {s u : xS} {n c : Nat} (R : RelG b s u n c) : ∀ k, gEsc u k = fEscrow s k
  | 0 => rfl
  | k + 1 => by
    have e3 := R.2.2.2.1.2.2.2.1
    have e2 := R.2.2.2.1.2.2.1
    simp only [gEsc, fEscrow, RelG.esc R k, e3, e2, i32_z]
theorem RelG.atOnce {b : Nat → Nat} {s u : xS} {n c : Nat} (R : RelG b s u n c) {a : Int32} (ha : P8 a) : (fAll s n) 15 (ix a) = gName u a n := by
  have e0 := R.2.2.2.1.1
  have hi : ix a < 8 := Nat.not_le.mp fun q => (P8_in ha) (Or.inr q)
  rw [fAll_15 (fun k hk => by rw [e0]; exact (R.2.1.2.2.1 k hk).1) hi, ← (ix_inj8 ha hi).mp rfl, R.rep a n (Nat.le_refl n)]
theorem kRoute_0 {a b c : Int32} (h : kRoute a b c = 0) : P4 a ∧ P4 b ∧ P4 c := by
  unfold kRoute at h
  by_cases x : P4 a
  · by_cases y : P4 b
    · by_cases z : P4 c
      · exact ⟨x, y, z⟩
      · rw [if_pos x, if_pos y, if_neg z] at h; exact absurd h (by decide)
    · rw [if_pos x, if_neg y] at h; exact absurd h (by decide)
  · rw [if_neg x] at h; exact absurd h (by decide)
theorem kTwo4_0 {a b : Int32} (h : kTwo4 a b = 0) : P4 a ∧ P4 b := by
  unfold kTwo4 at h
  by_cases x : P4 a
  · by_cases y : P4 b
    · exact ⟨x, y⟩
    · rw [if_pos x, if_neg y] at h; exact absurd h (by decide)
  · rw [if_neg x] at h; exact absurd h (by decide)
theorem E_route {s u : xS} {n k : Nat} {a b c : Int32} (R : Rel s u n k) : (kRoute a b c = 0 → wRoute u a b c = vRoute s a b) ∧ Rel (if kRoute a b c = 0 then sRoute s a b c else s) (qRoute u a b c) n k ∧ (qRoute u a b c) 15 0 = kRoute a b c := by
  have e11 := R.2.2.2.1.2.2.2.2.2.2.2.2.2.2.1
  refine ⟨fun h => ?_, ?_, ?_⟩
  · unfold wRoute vRoute
    rw [if_pos h, e11, Int32.mul_comm]; rfl
  · unfold qRoute sRoute
    by_cases h : kRoute a b c = 0
    · rw [if_pos h, if_pos h, Int32.mul_comm 4 a]
      exact (R.thr 0).route _ (kRoute_0 h).2.2
    · rw [if_neg h, if_neg h]; exact R.thr _
  · unfold qRoute
    by_cases h : kRoute a b c = 0
    · rw [if_pos h, h, xup_n (by decide), xup_ss]
    · rw [if_neg h, xup_ss]
/-- steps and ways over the numbers of relays -/
def nS (c : Nat → Nat) (t : Nat) : Nat → Nat → Nat → Int32
  | 0, _, _ => -1
  | m + 1, x, k => if x = t then nI k else nS c t m (c x) (k + 1)
def nW (c : Nat → Nat) (t : Nat) : Nat → Nat → Nat → Nat → Int32
  | 0, _, _, _ => 0
  | m + 1, x, w, k => if x = t then nI k else if (w / 2 ^ c x) % 2 = 1 then -1 else nW c t m (c x) (w ||| 2 ^ c x) (k + 1)
def cL (c0 c1 c2 c3 : Nat) : Nat → Nat := fun i => if i = 0 then c0 else if i = 1 then c1 else if i = 2 then c2 else c3
set_option maxRecDepth 100000 in
theorem nSW : ∀ c0, c0 < 4 → ∀ c1, c1 < 4 → ∀ c2, c2 < 4 → ∀ c3, c3 < 4 → ∀ t, t < 4 → ∀ x, x < 4 → nS (cL c0 c1 c2 c3) t 4 x 0 = nW (cL c0 c1 c2 c3) t 4 x (2 ^ x) 0 := by decide +kernel
theorem has_bit : ∀ w, w < 16 → ∀ q, q < 4 → (gHas (nI w) (nI q) ↔ (w / 2 ^ q) % 2 = 1) ∧ (w ||| 2 ^ q) < 16 ∧ nI w ||| 1 <<< (nI q &&& 31) = nI (w ||| 2 ^ q) := by decide +kernel
theorem bit_init : ∀ q, q < 4 → 2 ^ q < 16 ∧ (1 : Int32) <<< (nI q &&& 31) = nI (2 ^ q) := by decide +kernel
theorem fSteps_n {s : xS} {c : Nat → Nat} {t : Nat} {a : Int32} (ht : t < 4) (hc : ∀ x, x < 4 → c x < 4 ∧ s 11 (x * 4 + t) = nI (c x)) : ∀ (m k x : Nat), x < 4 → fAt s a (nI t) k = nI x → fSteps s a (nI t) m k = nS c t m x k
  | 0, _, _, _, _ => rfl
  | m + 1, k, x, hx, e => by
    have e2 : fAt s a (nI t) (k + 1) = nI (c x) := by
      rw [fAt, e]
      unfold fNext
      rw [if_pos ⟨P4_nI hx, P4_nI ht⟩, show (4 : Int32) = nI 4 from rfl, pk_mul, nI_add, ix_n (by omega)]
      exact (hc x hx).2
    rw [fSteps, nS, e, fSteps_n ht hc m (k + 1) (c x) (hc x hx).1 e2]
    by_cases h : x = t
    · rw [if_pos h, if_pos (by rw [h])]
    · rw [if_neg h, if_neg (nI_ne (by omega) (by omega) h)]
theorem gWay_n {u : xS} {c : Nat → Nat} {t : Nat} (ht : t < 4) (hc : ∀ x, x < 4 → c x < 4 ∧ u 1 (x * 4 + t) = nI (c x)) : ∀ (m k x w : Nat), x < 4 → w < 16 → gWay u (nI t) m (nI x) (nI w) (nI k) = nW c t m x w k
  | 0, _, _, _, _, _ => rfl
  | m + 1, k, x, w, hx, hw => by
    obtain ⟨h1, h2, h3⟩ := has_bit w hw (c x) (hc x hx).1
    have e : u 1 (ix (4 * nI x + nI t)) = nI (c x) := by
      rw [show (4 : Int32) = nI 4 from rfl, pk_mul, nI_add, ix_n (by omega), Nat.mul_comm]
      exact (hc x hx).2
    rw [gWay, nW, e, h3, nI_1, gWay_n ht hc m (k + 1) (c x) _ (hc x hx).1 h2]
    simp only [h1]
    by_cases h : x = t
    · rw [if_pos h, if_pos (by rw [h])]
    · rw [if_neg h, if_neg (nI_ne (by omega) (by omega) h)]
theorem E_steps {s u : xS} {n k : Nat} {a b : Int32} (R : Rel s u n k) (h : kTwo4 a b = 0) : wSteps u a b = fSteps s a b 4 0 := by
  have e11 := R.2.2.2.1.2.2.2.2.2.2.2.2.2.2.1
  obtain ⟨ha, hb⟩ := kTwo4_0 h
  unfold wSteps
  rw [if_pos h]
  obtain ⟨x, hx, rfl⟩ := vp_in_of (P4_in ha) (by decide)
  obtain ⟨t, ht, rfl⟩ := vp_in_of (P4_in hb) (by decide)
  have hr : ∀ i, i < 4 → ∃ q, q < 4 ∧ u 1 (i * 4 + t) = nI q := fun i hi => vp_in_of (P4_in (R.2.1.2.2.2 (i * 4 + t) (by omega))) (by decide)
  obtain ⟨c0, g0, f0⟩ := hr 0 (by decide)
  obtain ⟨c1, g1, f1⟩ := hr 1 (by decide)
  obtain ⟨c2, g2, f2⟩ := hr 2 (by decide)
  obtain ⟨c3, g3, f3⟩ := hr 3 (by decide)
  have hc : ∀ i, i < 4 → cL c0 c1 c2 c3 i < 4 ∧ u 1 (i * 4 + t) = nI (cL c0 c1 c2 c3 i) := fun i hi => by
    rcases (by omega : i = 0 ∨ i = 1 ∨ i = 2 ∨ i = 3) with rfl | rfl | rfl | rfl
    · exact ⟨g0, f0⟩
    · exact ⟨g1, f1⟩
    · exact ⟨g2, f2⟩
    · exact ⟨g3, f3⟩
  rw [fSteps_n (a := nI x) ht (c := cL c0 c1 c2 c3) (by rw [e11]; exact hc) 4 0 x hx rfl, nSW c0 g0 c1 g1 c2 g2 c3 g3 t ht x hx, (bit_init x hx).2]
  exact gWay_n (u := xup u 15 0 0) ht hc 4 0 x (2 ^ x) hx (bit_init x hx).1
theorem pass_eq : ∀ T, 1 ≤ T → T ≤ 50 → ∀ t, t ≤ 100000 → (nI t ≤ 100000 - nI T ↔ nI t + nI T ≤ 100000) ∧ (nI t ≤ 100000 - nI T → t + T ≤ 100000) := by
  intro T h1 h2 t h3
  rw [show (100000 : Int32) = nI 100000 from rfl, pk_sub (by omega), nI_add, nI_leI (by omega) (by omega), nI_leI (by omega) (by omega)]
  omega
theorem E_pass {s u : xS} {n k : Nat} {a : Int32} (R : Rel s u n k) : kPass s a = jPass u a ∧ (kPass s a = 0 → wPass u n a = fTicksN s n (ix a)) ∧ Rel (if kPass s a = 0 then fTicks s n (ix a) else s) (qPass u n a) n k := by
  have e13 := R.2.2.2.1.2.2.2.2.2.2.2.2.2.2.2
  obtain ⟨t, t1, t2, -⟩ := R.2.2.2.2.2.2.2.2.1
  have hin : gIn a 1 50 ↔ ¬ a < 1 ∧ a ≤ 50 := by unfold gIn; rw [Int32.not_lt]
  have hk : kPass s a = jPass u a := by
    unfold kPass jPass
    by_cases c1 : a < 1
    · rw [if_pos c1, if_neg (fun h => (hin.mp h).1 c1)]
    · by_cases c2 : a ≤ 50
      · obtain ⟨g1, g2⟩ := ix_nI (lt1_lt0 c1)
        have h1 : 1 ≤ ix a := by
          rw [g1, i32_lt, nI_toInt g2, show (1 : Int32).toInt = 1 from rfl] at c1; omega
        have h50 : ix a ≤ 50 := by
          rw [g1, i32_le, nI_toInt g2, show (50 : Int32).toInt = 50 from rfl] at c2; omega
        have := (pass_eq (ix a) h1 h50 t t1).1
        rw [← g1] at this
        rw [if_neg c1, if_pos c2, if_pos (hin.mpr ⟨c1, c2⟩), ← e13, t2]
        simp only [this]
      · rw [if_neg c1, if_neg c2, if_neg (fun h => c2 (hin.mp h).2)]
  have hgo : kPass s a = 0 → t + ix a ≤ 100000 := fun h => by
    unfold kPass at h
    by_cases c1 : a < 1
    · rw [if_pos c1] at h; exact absurd h (by decide)
    · by_cases c2 : a ≤ 50
      · obtain ⟨g1, g2⟩ := ix_nI (lt1_lt0 c1)
        have h1 : 1 ≤ ix a := by
          rw [g1, i32_lt, nI_toInt g2, show (1 : Int32).toInt = 1 from rfl] at c1; omega
        have h50 : ix a ≤ 50 := by
          rw [g1, i32_le, nI_toInt g2, show (50 : Int32).toInt = 50 from rfl] at c2; omega
        rw [if_neg c1, if_pos c2] at h
        by_cases c3 : s 13 0 ≤ 100000 - a
        · rw [t2, g1] at c3
          exact (pass_eq (ix a) h1 h50 t t1).2 c3
        · rw [if_neg c3] at h; exact absurd h (by decide)
      · rw [if_neg c1, if_neg c2] at h; exact absurd h (by decide)
  refine ⟨hk, fun h => ?_, ?_⟩
  · unfold wPass
    rw [if_pos (hk ▸ h)]
    exact ((R.thr 0).ticks t2 (ix a) (hgo h)).2.1.symm
  · unfold qPass
    by_cases h : kPass s a = 0
    · rw [if_pos h, if_pos (hk ▸ h)]
      exact ((R.thr 0).ticks t2 (ix a) (hgo h)).1
    · rw [if_neg h, if_neg (hk ▸ h)]; exact R.thr _
/-- answer -/
theorem ans_s {s : xS} {n a : Nat} (hN : okX s n) (ha : a < n) (h0 : P8 (s 0 a)) : sAns s (nI a) = xup (xup s 3 a 2) 8 (ix (s 0 a)) (s 8 (ix (s 0 a)) + s 2 a) := by
  have := hN.1
  unfold sAns
  rw [ix_n (by omega)]
  exact fGive_at (s := xup s 3 a 2) (hN.up (by decide)) ha h0
theorem ans_q {u : xS} {a : Nat} (ha : a < 2 ^ 31) : qAns0 u (nI a) = xup (xup u 9 a 2) 2 (ix (u 6 a)) (u 2 (ix (u 6 a)) + u 8 a) := by
  unfold qAns0
  rw [ix_n ha]
  rfl
theorem ans_key {s u : xS} {n k : Nat} {a : Int32} (R : Rel s u n k) (h : kDel s a = 0) : Rel (sAns s a) (qAns0 (xup u 15 0 0) a) n k := by
  obtain ⟨hp, h1⟩ := kDel_0 h
  obtain ⟨hk, he⟩ := R.PLx hp
  obtain ⟨j, hj⟩ : ∃ j, j = ix a := ⟨_, rfl⟩
  rw [← hj] at hk he h1
  rw [he]
  have R0 := R.thr 0
  have e0 := R0.2.2.2.1.1
  have e2 := R0.2.2.2.1.2.2.1
  have e8 := R0.2.2.2.1.2.2.2.2.2.2.2.1
  rw [ans_s R.1 hk (by rw [e0]; exact (R0.2.1.2.2.1 _ hk).1), ans_q (by have := R.1.1; omega), ← e0, ← e2, ← e8]
  exact (R0.state (fun _ _ _ => Nat.le_refl _) hk h1 (by decide) (by decide)).coins _ _
theorem E_ans {s u : xS} {n k : Nat} {a : Int32} (R : Rel s u n k) : (kDel s a = 0 → wAns u n a = fRep (sAns s a) ((sAns s a) 0 (ix a)) n) ∧ Rel (if kDel s a = 0 then sAns s a else s) (qAns u a) n k := by
  have hd := R.del a
  refine ⟨fun h => ?_, ?_⟩
  · have R2 := ans_key R h
    have e := R2.2.2.2.1.1
    unfold wAns
    rw [if_pos (hd ▸ h), e]
    exact (R2.rep _ n (Nat.le_refl n)).symm
  · unfold qAns
    by_cases h : kDel s a = 0
    · rw [if_pos h, if_pos (hd ▸ h)]; exact ans_key R h
    · rw [if_neg h, if_neg (hd ▸ h)]; exact R.thr _
end
section
/-! send, queueAt, mark: class beside reference -/
theorem RelG.send_k {s u : xS} {n k : Nat} {a b c : Int32} (R : Rel s u n k) : kSend s n a b c = jSend u n a b c := by
  have e8 := R.2.2.2.1.2.2.2.2.2.2.2.1
  have e12 : s 12 0 = u 5 0 := R.1.2.trans R.2.1.2.1.symm
  unfold kSend jSend
  rw [R.least a, e8, e12]
  by_cases c1 : P8 a
  · by_cases c2 : P8 b
    · by_cases c3 : a = b
      · simp only [if_pos c1, if_pos c2, if_pos c3]
      · by_cases c4 : c < 0
        · rw [if_pos c1, if_pos c1, if_pos c2, if_pos c2, if_neg c3, if_neg c3, if_pos c4, if_neg (fun h => absurd c4 (Int32.not_lt.mpr h.1))]
        · by_cases c5 : c ≤ 20
          · have g : gIn c 0 20 := ⟨Int32.not_lt.mp c4, c5⟩
            by_cases c6 : u 5 0 < 60
            · have c7 : ¬ 60 ≤ u 5 0 := Int32.not_le.mpr c6
              simp only [if_pos c1, if_pos c2, if_neg c3, if_neg c4, if_pos c5, if_pos g, if_pos c6, if_neg c7]
            · have c7 : 60 ≤ u 5 0 := Int32.not_lt.mp c6
              simp only [if_pos c1, if_pos c2, if_neg c3, if_neg c4, if_pos c5, if_pos g, if_neg c6, if_pos c7]
          · rw [if_pos c1, if_pos c1, if_pos c2, if_pos c2, if_neg c3, if_neg c3, if_neg c4, if_neg c5, if_neg (fun h => c5 h.2)]
    · simp only [if_pos c1, if_neg c2]
  · simp only [if_neg c1]
theorem kSend_0 {s : xS} {n : Nat} {a b c : Int32} (h : kSend s n a b c = 0) : P8 a ∧ P8 b ∧ s 12 0 < 60 := by
  unfold kSend at h
  by_cases c1 : P8 a
  · rw [if_pos c1] at h
    by_cases c2 : P8 b
    · rw [if_pos c2] at h
      by_cases c3 : s 12 0 < 60
      · exact ⟨c1, c2, c3⟩
      · exfalso
        rw [if_neg c3] at h
        split at h
        · exact absurd h (by decide)
        · split at h
          · exact absurd h (by decide)
          · split at h
            · split at h
              · exact absurd h (by decide)
              · split at h
                · exact absurd h (by decide)
                · exact absurd h (by decide)
            · exact absurd h (by decide)
    · rw [if_neg c2] at h; exact absurd h (by decide)
  · rw [if_neg c1] at h; exact absurd h (by decide)
theorem home_tab : ∀ j, j < 8 → ∃ q, q < 4 ∧ fHome (nI j) = nI q := by decide +kernel
theorem mark_tab : ∀ q, q < 4 → 2 ^ q < 16 ∧ fMark (nI q) = nI (2 ^ q) := by decide +kernel
theorem or_0 (x : Int32) : 0 ||| x = x := Int32.zero_or
/-- what send writes: letter n -/
theorem sSend_at {s : xS} {n : Nat} {a b c : Int32} (hN : okX s n) (hn : n < 60) (h5 : s 5 n = 0) : ∀ q, (q != 8 && q != 12) = true → sSend s a b c q =
    if q = 0 then upd (s 0) n a else if q = 1 then upd (s 1) n b else if q = 2 then upd (s 2) n c else if q = 3 then upd (s 3) n 0 else if q = 4 then upd (s 4) n (fHome a) else if q = 5 then upd (s 5) n (fMark (fHome a)) else s q := by
  intro q hq
  simp at hq
  have hL : s 12 0 = nI n := hN.2
  have hok : okX (xup (sSend1 s a b c) 8 (ix a) ((sSend1 s a b c) 8 (ix a) - c)) (n + 1) := by
    refine (hN.send1 ?_).up (by decide)
    rw [hL, show (60 : Int32) = nI 60 from rfl, nI_ltI (by omega) (by decide)]
    exact hn
  unfold sSend fLay
  rw [hL, if_pos (PL_nI hok (Nat.lt_succ_self n)), ix_n (by omega)]
  unfold sSend1
  rw [hL, ix_n (by omega)]
  by_cases e4 : q = 4
  · subst e4; rfl
  · by_cases e5 : q = 5
    · subst e5
      rw [xup_s]
      show upd (s 5) n (s 5 n ||| fMark (fHome a)) = upd (s 5) n (fMark (fHome a))
      rw [h5, or_0]
    · rw [xup_n e5, xup_n e4, xup_n hq.1]
      by_cases e3 : q = 3
      · subst e3; rfl
      · rw [xup_n e3]
        by_cases e2 : q = 2
        · subst e2; rfl
        · rw [xup_n e2]
          by_cases e1 : q = 1
          · subst e1; rfl
          · rw [xup_n e1]
            by_cases e0 : q = 0
            · subst e0; rfl
            · rw [xup_n e0, xup_n hq.2]
              simp only [if_neg e0, if_neg e1, if_neg e2, if_neg e3, if_neg e4, if_neg e5]
theorem sSend_8 {s : xS} {n : Nat} {a b c : Int32} (hN : okX s n) (hn : n < 60) : sSend s a b c 8 = upd (s 8) (ix a) (s 8 (ix a) - c) ∧ sSend s a b c 12 = upd (s 12) 0 (nI (n + 1)) := by
  have hL : s 12 0 = nI n := hN.2
  have hok : okX (xup (sSend1 s a b c) 8 (ix a) ((sSend1 s a b c) 8 (ix a) - c)) (n + 1) := by
    refine (hN.send1 ?_).up (by decide)
    rw [hL, show (60 : Int32) = nI 60 from rfl, nI_ltI (by omega) (by decide)]
    exact hn
  unfold sSend fLay
  rw [hL, if_pos (PL_nI hok (Nat.lt_succ_self n)), ix_n (by omega)]
  unfold sSend1
  rw [hL]
  refine ⟨rfl, ?_⟩
  show upd (s 12) 0 (nI n + 1) = _
  rw [nI_1]
theorem qSend_at {u : xS} {n : Nat} {a b c : Int32} (h5 : u 5 0 = nI n) (hn : n < 60) : qSend0 u a b c 6 = upd (u 6) n a ∧ qSend0 u a b c 7 = upd (u 7) n b ∧ qSend0 u a b c 8 = upd (u 8) n c ∧ qSend0 u a b c 10 = upd (u 10) n (fHome a) ∧ qSend0 u a b c 11 = upd (u 11) n (fMark (fHome a)) ∧ qSend0 u a b c 2 = upd (u 2) (ix a) (u 2 (ix a) - c) ∧ qSend0 u a b c 5 = upd (u 5) 0 (nI (n + 1)) := by
  have hi : ix (u 5 0) = n := by rw [h5, ix_n (by omega)]
  refine ⟨?_, ?_, ?_, ?_, ?_, rfl, ?_⟩
  · show upd (u 6) (ix (u 5 0)) a = _; rw [hi]
  · show upd (u 7) (ix (u 5 0)) b = _; rw [hi]
  · show upd (u 8) (ix (u 5 0)) c = _; rw [hi]
  · show upd (u 10) (ix (u 5 0)) (a - a / 4 * 4) = _; rw [hi]; rfl
  · show upd (u 11) (ix (u 5 0)) (1 <<< ((a - a / 4 * 4) &&& 31)) = _; rw [hi]; rfl
  · show upd (u 5) 0 (u 5 0 + 1) = _; rw [h5, nI_1]
theorem RelG.send {s u : xS} {n k : Nat} {a b c : Int32} (R : Rel s u n k) (hn : n < 60) (ha : P8 a) (hb : P8 b) : Rel (sSend s a b c) (qSend0 u a b c) (n + 1) k := by
  obtain ⟨h1, h2, h3, ⟨e0, e1, e2, e3, e5, e6, e7, e8, e9, e10, e11, e13⟩, h5, h6, h6b, h7, ⟨t, t1, t2, t3⟩, h9⟩ := R
  obtain ⟨z3, z5⟩ := h6 n (Nat.le_refl n)
  have S := sSend_at (a := a) (b := b) (c := c) h1 hn z5
  obtain ⟨S8, S12⟩ := sSend_8 (a := a) (b := b) (c := c) h1 hn
  obtain ⟨Q6, Q7, Q8, Q10, Q11, Q2, Q5⟩ := qSend_at (a := a) (b := b) (c := c) h2.2.1 hn
  obtain ⟨sS, hsS⟩ : ∃ z, z = sSend s a b c := ⟨_, rfl⟩
  obtain ⟨uS, huS⟩ : ∃ z, z = qSend0 u a b c := ⟨_, rfl⟩
  have Q0 : uS 0 = u 0 := by rw [huS]; rfl
  have Q1 : uS 1 = u 1 := by rw [huS]; rfl
  have Q3 : uS 3 = u 3 := by rw [huS]; rfl
  have Q4 : uS 4 = u 4 := by rw [huS]; rfl
  have Q9 : uS 9 = u 9 := by rw [huS]; rfl
  have Q12 : uS 12 = u 12 := by rw [huS]; rfl
  have Q13 : uS 13 = u 13 := by rw [huS]; rfl
  have S0 : sS 0 = upd (s 0) n a := by rw [hsS]; exact S 0 rfl
  have S1 : sS 1 = upd (s 1) n b := by rw [hsS]; exact S 1 rfl
  have S2 : sS 2 = upd (s 2) n c := by rw [hsS]; exact S 2 rfl
  have S3 : sS 3 = s 3 := by
    rw [hsS]
    refine (S 3 rfl).trans ?_
    funext j
    show (if j = n then (0 : Int32) else s 3 j) = s 3 j
    by_cases e : j = n
    · rw [if_pos e, e, z3]
    · rw [if_neg e]
  have S4 : sS 4 = upd (s 4) n (fHome a) := by rw [hsS]; exact S 4 rfl
  have S5 : sS 5 = upd (s 5) n (fMark (fHome a)) := by rw [hsS]; exact S 5 rfl
  have S6 : sS 6 = s 6 := by rw [hsS]; exact S 6 rfl
  have S7 : sS 7 = s 7 := by rw [hsS]; exact S 7 rfl
  have S9 : sS 9 = s 9 := by rw [hsS]; exact S 9 rfl
  have S10 : sS 10 = s 10 := by rw [hsS]; exact S 10 rfl
  have S11 : sS 11 = s 11 := by rw [hsS]; exact S 11 rfl
  have S13 : sS 13 = s 13 := by rw [hsS]; exact S 13 rfl
  rw [← hsS] at S8 S12 ⊢
  rw [← huS] at Q6 Q7 Q8 Q10 Q11 Q2 Q5 ⊢
  have uy : ∀ (f : Nat → Int32) (v : Int32), upd f n v n = v := fun f v => if_pos rfl
  have un : ∀ (f : Nat → Int32) (v : Int32) (j : Nat), j ≠ n → upd f n v j = f j := fun f v j h => if_neg h
  obtain ⟨aj, ha8, hae⟩ := vp_in_of (P8_in ha) (by decide)
  obtain ⟨qh, qh4, qhe⟩ := home_tab aj ha8
  rw [← hae] at qhe
  refine ⟨⟨by omega, by rw [S12]; exact if_pos rfl⟩, ⟨by omega, by rw [Q5]; exact if_pos rfl, fun j hj => ?_, fun j hj => by rw [Q1]; exact h2.2.2.2 j hj⟩, h3, ⟨by rw [S0, Q6, e0], by rw [S1, Q7, e1], by rw [S2, Q8, e2], by rw [S3, Q9, e3], by rw [S5, Q11, e5], by rw [S6, Q12, e6], by rw [S7, Q13, e7], by rw [S8, Q2, e8], by rw [S9, Q4, e9], by rw [S10, Q3, e10], by rw [S11, Q1, e11], by rw [S13, Q0, e13]⟩, fun j hj => ?_, fun j hj => ?_, fun j => ?_, fun j hj => ?_, ⟨t, t1, by rw [S13]; exact t2, fun j hj h3j => ?_⟩, fun p hp => by rw [S9]; exact h9 p hp⟩
  · rw [Q6, Q7, Q10]
    by_cases e : j = n
    · subst e
      rw [uy, uy, uy, qhe]
      exact ⟨ha, hb, P4_nI qh4⟩
    · rw [un _ _ _ e, un _ _ _ e, un _ _ _ e]
      exact h2.2.2.1 j (by omega)
  · rw [S4, S3, Q10]
    by_cases e : j = n
    · subst e
      rw [uy, uy, z3, if_pos rfl]
    · rw [un _ _ _ e, un _ _ _ e]
      exact h5 j (by omega)
  · have e : j ≠ n := by omega
    rw [S3, S5, un _ _ _ e]
    exact h6 j (by omega)
  · rw [S5]
    by_cases e : j = n
    · subst e
      rw [uy, qhe]
      exact ⟨_, mark_tab qh qh4⟩
    · rw [un _ _ _ e]; exact h6b j
  · rw [S3] at hj
    rw [S7]; exact h7 j hj
  · rw [S3] at h3j
    rw [S6]
    by_cases e : j = n
    · subst e
      rw [z3] at h3j
      exact absurd h3j (by decide)
    · exact t3 j (by omega) h3j
theorem E_send {s u : xS} {n k : Nat} {a b c : Int32} (R : Rel s u n k) : (kSend s n a b c = 0 → wSend u n a b c = s 12 0) ∧ (∃ n', Rel (if kSend s n a b c = 0 then sSend s a b c else s) (qSend u n a b c) n' k) := by
  have hk := R.send_k (a := a) (b := b) (c := c)
  refine ⟨fun h => ?_, ?_⟩
  · obtain ⟨h1, h2, h3⟩ := kSend_0 h
    unfold wSend
    rw [if_pos (hk ▸ h)]
    show u 5 0 + 1 - 1 = s 12 0
    rw [R.1.2, R.2.1.2.1, nI_1, nI_pred]
  · unfold qSend
    by_cases h : kSend s n a b c = 0
    · obtain ⟨h1, h2, h3⟩ := kSend_0 h
      rw [if_pos h, if_pos (hk ▸ h)]
      exact ⟨n + 1, (R.thr 0).send (R.1.new h3).2.2 h1 h2⟩
    · rw [if_neg h, if_neg (hk ▸ h)]; exact ⟨n, R.thr _⟩
end
section
/-! queueAt and mark: class beside reference -/
theorem fTake_q {t : xS} {n q : Nat} {r : Int32} (hq : q ≠ 14) : fTake t n r q = t q := by
  unfold fTake
  split
  · exact xup_n hq
  · rfl
theorem fTakes_q {t : xS} {n q : Nat} {r : Int32} (hq : q ≠ 14) : ∀ k, fTakes t n r k q = t q
  | 0 => rfl
  | k + 1 => (fTake_q hq).trans (fTakes_q hq k)
theorem fRank_q {s t : xS} (h : ∀ q, q ≠ 14 → t q = s q) (v : Int32) : fRank t v = fRank s v := by
  unfold fRank PL
  rw [h 12 (by decide), h 0 (by decide), h 2 (by decide), h 15 (by decide)]
theorem takes_aI {s : xS} {w : Nat → Int32} {n : Nat} {r : Int32} (hs : okX s n) (hw : ∀ k, k < n → fRank s (nI k) = w k) (hr : r ≠ -1) : ∀ i, aI (s 14) ((fTakes s n r i) 14) w r n i ∧ ∀ k, k < n → (fTakes s n r i) 14 k = r → s 14 k = r
  | 0 => ⟨aI_0, fun _ _ h => h⟩
  | i + 1 => by
    obtain ⟨ih, hsub⟩ := takes_aI hs hw hr i
    have ht := hs.takes (r := r) i
    have hn31 : n < 2 ^ 31 := by have := hs.1; omega
    have hwt : ∀ k, k < n → fRank (fTakes s n r i) (nI k) = w k := fun k hk => (fRank_q (fun q hq => fTakes_q hq i) _).trans (hw k hk)
    rcases best_spec hn31 hwt n (Nat.le_refl n) with ⟨b1, b2⟩ | ⟨b, hb, b1, b2, b3⟩
    · have e : fTakes s n r (i + 1) = fTakes s n r i := by
        show fTake _ n r = _
        unfold fTake
        rw [b1, if_neg PL_m1]
      rw [e]
      exact ⟨(aI_none ih b2).2, hsub⟩
    · have e : fTakes s n r (i + 1) = xup (fTakes s n r i) 14 b (-1) := by
        show fTake _ n r = _
        unfold fTake
        rw [b1, if_pos (PL_nI ht hb), ix_n (by omega)]
      rw [e, xup_s]
      refine ⟨(aI_next hr ih hb (hsub b hb b2) b2 b3).2, fun k hk h => ?_⟩
      by_cases x : k = b
      · subst x; exact hsub k hk b2
      · rw [show upd ((fTakes s n r i) 14) b (-1) k = (fTakes s n r i) 14 k from if_neg x] at h
        exact hsub k hk h
theorem gFind_no {u : xS} {n : Nat} {r p : Int32} : ∀ m, (∀ k, k < m → gLies u (nI k) r → gPlace u n (nI k) n ≠ p) → gFind u n r p m = -1
  | 0, _ => rfl
  | m + 1, h => by
    have ih := gFind_no (u := u) (n := n) (r := r) (p := p) m (fun k hk => h k (by omega))
    rw [gFind, ih]
    by_cases c1 : gLies u (nI m) r
    · rw [if_pos c1, if_neg (h m (Nat.lt_succ_self m) c1)]
    · rw [if_neg c1]
theorem gFind_one {u : xS} {n b : Nat} {r p : Int32} (hb1 : gLies u (nI b) r) (hb2 : gPlace u n (nI b) n = p) (hu : ∀ k, k < n → k ≠ b → gLies u (nI k) r → gPlace u n (nI k) n ≠ p) : ∀ m, m ≤ n → gFind u n r p m = if b < m then nI b else -1
  | 0, _ => rfl
  | m + 1, hm => by
    rw [gFind, gFind_one hb1 hb2 hu m (by omega)]
    by_cases e : m = b
    · subst e
      rw [if_pos hb1, if_pos hb2, if_pos (Nat.lt_succ_self m)]
    · have hx : (b < m + 1) = (b < m) := propext ⟨fun h => by omega, fun h => by omega⟩
      simp only [hx]
      by_cases c1 : gLies u (nI m) r
      · rw [if_pos c1, if_neg (hu m (by omega) e c1)]
      · rw [if_neg c1]
theorem fLen_n (s : xS) (r : Int32) : ∀ k, ∃ j, j ≤ k ∧ fLen s r k = nI j
  | 0 => ⟨0, Nat.le_refl 0, rfl⟩
  | k + 1 => by
    obtain ⟨j, h1, h2⟩ := fLen_n s r k
    rw [fLen, h2]
    by_cases c : s 4 k = r
    · rw [if_pos c]; exact ⟨j + 1, by omega, nI_1 j⟩
    · rw [if_neg c]; exact ⟨j, by omega, rfl⟩
theorem RelG.at_k {s u : xS} {n c : Nat} {a b : Int32} (R : Rel s u n c) : kAt s n a b = jAt u n a b := by
  unfold kAt jAt
  by_cases c1 : P4 a
  · obtain ⟨j, j1, j2⟩ := fLen_n s a n
    have hn := R.1.1
    have e : b ≤ nI j - 1 ↔ b < nI j := le_pred (by omega)
    rw [if_pos c1, if_pos c1, R.len c1 n (Nat.le_refl n), j2]
    by_cases c2 : b < 0
    · rw [if_pos c2, if_neg (fun h => absurd c2 (Int32.not_lt.mpr h.1))]
    · rw [if_neg c2]
      by_cases c3 : b < nI j
      · rw [if_pos c3, if_pos ⟨Int32.not_lt.mp c2, e.mpr c3⟩]
      · rw [if_neg c3, if_neg (fun h => c3 (e.mp h.2))]
  · rw [if_neg c1, if_neg c1]
theorem kAt_0 {s : xS} {n : Nat} {a b : Int32} (h : kAt s n a b = 0) : P4 a ∧ ¬ b < 0 := by
  unfold kAt at h
  by_cases c1 : P4 a
  · rw [if_pos c1] at h
    by_cases c2 : b < 0
    · rw [if_pos c2] at h; exact absurd h (by decide)
    · exact ⟨c1, c2⟩
  · rw [if_neg c1] at h; exact absurd h (by decide)
theorem E_at {s u : xS} {n c : Nat} {a b : Int32} (R : Rel s u n c) (h : kAt s n a b = 0) : gFind u n a b n = fBest (fTakes (fBegin s n) n a (ix b)) a n := by
  obtain ⟨ha, hb⟩ := kAt_0 h
  obtain ⟨g1, g2⟩ := ix_nI hb
  obtain ⟨p, hp⟩ : ∃ p, p = ix b := ⟨_, rfl⟩
  rw [← hp] at g1 g2 ⊢
  have hrep := fun p => R.rep p n (Nat.le_refl n)
  have R9 := R
  obtain ⟨h1, h2, h3, ⟨e0, e1, e2, e3, e5, e6, e7, e8, e9, e10, e11, e13⟩, h5, -⟩ := R
  have hn := h1.1
  have hn31 : n < 2 ^ 31 := by omega
  have hp0 : ∀ k, k < n → P8 (s 0 k) := fun k hk => by rw [e0]; exact (h2.2.2.1 k hk).1
  have hm1 : a ≠ -1 := fun e => by rw [e] at ha; exact absurd ha.1 (by decide)
  obtain ⟨sB, hsB⟩ : ∃ z, z = fBegin s n := ⟨_, rfl⟩
  have hB : okX sB n := hsB ▸ h1.begin
  have hq : ∀ q, q ≠ 14 → q ≠ 15 → sB q = s q := fun q a c => by rw [hsB]; exact fBegin_q a c
  have h14 : ∀ k, k < n → sB 14 k = s 4 k := fun k hk => by rw [hsB]; exact fBegin_14 hk
  rw [← hsB]
  obtain ⟨w, hw⟩ : ∃ w : Nat → Int32, w = fun k => fRank sB (nI k) := ⟨_, rfl⟩
  have hwx : ∀ k, k < n → fRank sB (nI k) = w k := fun k _ => by rw [hw]
  have hwm : ∀ k, k < n → gRank u n (nI k) = w k := fun k hk => by
    have hp := hp0 k hk
    rw [hw]
    show gRank u n (nI k) = fRank sB (nI k)
    have hq0 : sB 0 = s 0 := hq 0 (by decide) (by decide)
    have hi : ix (s 0 k) < 8 := Nat.not_le.mp fun q => (P8_in hp) (Or.inr q)
    rw [fRank_at hB hk (by rw [hq0]; exact hp), hq0, hq 2 (by decide) (by decide), hsB, fBegin_15 hp0 hi]
    have e : nI (ix (s 0 k)) = s 0 k := ((ix_inj8 hp hi).mp rfl).symm
    rw [e, hrep]
    unfold gRank
    rw [ix_n (by omega), e2, e0]
  have hqr : ∀ j, j < n → sB 14 j = if u 9 j = 0 then u 10 j else -1 := fun j hj => by rw [h14 j hj, h5 j hj, e3]
  have hpl : ∀ k, k < n → gLies u (nI k) a → sB 14 k = a ∧ gPlace u n (nI k) n = nI (aC (sB 14) w a k n) := fun k hk hl => by
    have hs4 := (lies_at R9 hk ha).mp hl
    have e10k : u 10 k = a := by
      have := hl.2
      rw [ix_n (by omega)] at this
      exact this
    have := place_eq h2 hk hqr hwm n (Nat.le_refl n)
    rw [e10k] at this
    exact ⟨(h14 k hk).trans hs4, this⟩
  obtain ⟨I, hsub⟩ := takes_aI hB hwx hm1 p
  have ht := hB.takes (r := a) p
  have hwt : ∀ k, k < n → fRank (fTakes sB n a p) (nI k) = w k := fun k hk => (fRank_q (fun q hq => fTakes_q hq p) _).trans (hwx k hk)
  have hle := fun k => aC_le (sB 14) w a k n
  rw [g1]
  rcases best_spec hn31 hwt n (Nat.le_refl n) with ⟨b1, b2⟩ | ⟨b0, hb0, b1, b2, b3⟩
  · rw [b1]
    refine gFind_no n (fun k hk hl => ?_)
    obtain ⟨q1, q2⟩ := hpl k hk hl
    have := (aI_none I b2).1 k hk q1
    rw [q2]
    exact nI_ne (by have := hle k; omega) g2 (by omega)
  · rw [b1]
    have hs14 := hsub b0 hb0 b2
    have hl0 : gLies u (nI b0) a := (lies_at R9 hb0 ha).mpr ((h14 b0 hb0).symm.trans hs14)
    have h0 := (aI_next hm1 I hb0 hs14 b2 b3).1
    have := gFind_one (u := u) (n := n) (b := b0) (r := a) (p := nI p) hl0 (by rw [(hpl b0 hb0 hl0).2, h0]) (fun k hk hne hl => by
      obtain ⟨q1, q2⟩ := hpl k hk hl
      rw [q2]
      refine nI_ne (by have := hle k; omega) g2 ?_
      rcases I k hk q1 with ⟨-, x⟩ | ⟨x1, x2⟩
      · omega
      · have hl2 := aC_less (w := w) (k := k) hm1 b2 (b3 k hk hne x1) n
        rw [if_pos hb0] at hl2
        omega) n (Nat.le_refl n)
    rw [this, if_pos hb0]
theorem E_atR {s u : xS} {n c : Nat} {a b : Int32} (R : Rel s u n c) (v : Int32) : Rel (if kAt s n a b = 0 then fTakes (fBegin s n) n a (ix b + 1) else s) (xup u 15 0 v) n c := by
  by_cases h : kAt s n a b = 0
  · rw [if_pos h]
    exact (R.thr v).work (fun q q1 q2 => (fTakes_q q1 _).trans (fBegin_q q1 q2))
  · rw [if_neg h]; exact R.thr v
theorem gFind_thr {u : xS} {n : Nat} {r p v : Int32} : ∀ m, gFind (xup u 15 0 v) n r p m = gFind u n r p m
  | 0 => rfl
  | m + 1 => by
    rw [gFind, gFind, gFind_thr m, gPlace_q (u := u) (fun q _ _ h => xup_n h) n (nI m) n]
    rfl
/-! mark -/
def cntH (x : Int32) : Nat → Int32
  | 0 => 0
  | k + 1 => cntH x k + (if gHas x (nI k) then 1 else 0)
theorem gCnt_H {u : xS} {n : Nat} {a : Int32} : ∀ k, gCnt u n a k = cntH (gWho u a n) k
  | 0 => rfl
  | k + 1 => by rw [gCnt, cntH, gCnt_H k]
set_option maxRecDepth 100000 in
theorem bits_tab : ∀ j, j < 256 → fBits (nI j) = cntH (nI j) 8 := by decide +kernel
set_option maxRecDepth 100000 in
theorem or_tab : ∀ j, j < 256 → ∀ q, q < 8 → (j ||| 2 ^ q) < 256 ∧ nI j ||| 1 <<< (nI q &&& 31) = nI (j ||| 2 ^ q) := by decide +kernel
theorem or_0r (x : Int32) : x ||| 0 = x := Int32.or_zero
theorem who_eq {s t u : xS} {n a : Nat} (hM : okM u n) (han : a < n) (h0 : t 0 = u 6) (h1 : t 1 = u 7) (h3 : ∀ k, t 3 k = 2 ↔ u 9 k = 2) : ∀ k, k ≤ n → fWho t (t 0 a) (t 1 a) k = gWho u (nI a) k ∧ ∃ j, j < 256 ∧ gWho u (nI a) k = nI j
  | 0, _ => ⟨rfl, 0, by decide, rfl⟩
  | k + 1, hk => by
    obtain ⟨ih, j, hj, hje⟩ := who_eq (s := s) hM han h0 h1 h3 k (by omega)
    have hn := hM.1
    obtain ⟨q, hq, hqe⟩ := vp_in_of (P8_in (hM.2.2.1 k (by omega)).2.1) (by decide)
    have T := or_tab j hj q hq
    rw [fWho, gWho, ih, ix_n (by omega), or_0r, h0, h1, hje, hqe, T.2]
    by_cases c1 : u 6 k = u 6 a
    · by_cases c2 : u 9 k = 2
      · by_cases c3 : nI q = u 7 a
        · simp only [if_pos ((h3 k).mpr c2), if_pos c1, if_pos c3, if_pos c2]; exact ⟨trivial, j, hj, rfl⟩
        · simp only [if_pos ((h3 k).mpr c2), if_pos c1, if_neg c3, if_pos c2]; exact ⟨trivial, _, T.1, rfl⟩
      · simp only [if_neg (fun h => c2 ((h3 k).mp h)), if_pos c1, if_neg c2]; exact ⟨trivial, j, hj, rfl⟩
    · simp only [if_neg c1, ite_self]
      exact ⟨trivial, j, hj, rfl⟩
theorem xup_comm (s : xS) {j j' : Nat} (i i' : Nat) (v v' : Int32) (h : j ≠ j') : xup (xup s j i v) j' i' v' = xup (xup s j' i' v') j i v := by
  funext q
  by_cases a : q = j
  · subst a
    rw [xup_n h, xup_s, xup_s, xup_n h]
  · by_cases b : q = j'
    · subst b
      rw [xup_s, xup_n a, xup_n a, xup_s]
    · rw [xup_n b, xup_n a, xup_n a, xup_n b]
theorem xup_id (s : xS) (j i : Nat) : xup s j i (s j i) = s := by
  funext q
  by_cases a : q = j
  · subst a
    rw [xup_s]
    funext p
    by_cases e : p = i
    · rw [e]; exact if_pos rfl
    · exact if_neg e
  · exact xup_n a
theorem RelG.isf {b : Nat → Nat} {s u : xS} {n c a : Nat} (R : RelG b s u n c) (v : Int32) (h : s 3 a = 3) : RelG b (xup s 7 a v) (xup u 13 a v) n c := by
  obtain ⟨h1, h2, h3, ⟨e0, e1, e2, e3, e5, e6, e7, e8, e9, e10, e11, e13⟩, h5, h6, h6b, h7, h8, h9⟩ := R
  refine ⟨h1.up (by decide), h2.up rfl, h3, ⟨e0, e1, e2, e3, e5, e6, by rw [xup_s, xup_s, e7], e8, e9, e10, e11, e13⟩, h5, h6, h6b, fun k hk => ?_, h8, h9⟩
  by_cases e : k = a
  · subst e; exact absurd h hk
  · rw [xup_sn e]; exact h7 k hk
end
section
/-! mark, class beside reference -/
theorem qMk3_0 (u : xS) (w : Int32) : qMk3 u w 0 = u := by unfold qMk3; rw [i32_z]; exact xup_id u _ _
theorem i32_s0 (x : Int32) : x - 0 = x := by grind
theorem qMk4_0 (u : xS) (w : Int32) : qMk4 u w 0 = u := by unfold qMk4; rw [i32_s0]; exact xup_id u _ _
theorem qMk5_0 (u : xS) (a : Int32) : qMk5 u a 0 = u := by unfold qMk5; rw [i32_z]; exact xup_id u _ _
theorem mark1_at {s u : xS} {n k j : Nat} (R : Rel s u n k) (hj : j < n) : sMark1 s (nI j) = xup (xup s 3 j 3) 10 (ix (fHome (s 1 j))) (s 10 (ix (fHome (s 1 j))) + s 2 j) := by
  have h8 : P8 (s 1 j) := by rw [R.2.2.2.1.2.1]; exact (R.2.1.2.2.1 j hj).2.1
  have hn := R.1.1
  unfold sMark1
  rw [ix_n (by omega)]
  show fPool (xup s 3 j 3) (nI j) (fHome (s 1 j)) = _
  unfold fPool
  rw [if_pos ⟨PL_nI (R.1.up (by decide)) hj, P8_home h8⟩, ix_n (by omega)]
  rfl
theorem mark_n {s u : xS} {n k j : Nat} (R : Rel s u n k) (hj : j < n) (h1 : s 3 j = 1) : nMark s n (nI j) = nMk u n (nI j) := by
  have hn := R.1.1
  have e0 := R.2.2.2.1.1
  have e1 := R.2.2.2.1.2.1
  have e3 := R.2.2.2.1.2.2.2.1
  unfold nMark nMk
  rw [mark1_at R hj, ix_n (by omega)]
  obtain ⟨h, q, hq, he⟩ := who_eq (s := s) (t := xup (xup s 3 j 3) 10 (ix (fHome (s 1 j))) (s 10 (ix (fHome (s 1 j))) + s 2 j)) R.2.1 hj e0 e1 (fun i => by
    show (xup s 3 j 3) 3 i = 2 ↔ _
    by_cases e : i = j
    · subst e
      rw [xup_ss, ← e3, h1]
      exact ⟨fun h => absurd h (by decide), fun h => absurd h (by decide)⟩
    · rw [xup_sn e, e3]) n (Nat.le_refl n)
  rw [h, gCnt_H, he]
  exact bits_tab q hq
theorem mark_no {s u : xS} {n k j : Nat} (R : Rel s u n k) (hj : j < n) (h1 : s 3 j = 1) : Rel (sMark1 s (nI j)) (qMk u (nI j) 0 0) n k := by
  have hn := R.1.1
  have h7 : s 7 j = 0 := R.2.2.2.2.2.2.2.1 j (by rw [h1]; decide)
  have e1 := R.2.2.2.1.2.1
  have e2 := R.2.2.2.1.2.2.1
  have e10 := R.2.2.2.1.2.2.2.2.2.2.2.2.2.1
  have R1 : Rel (xup s 3 j 3) (xup u 9 j 3) n k := R.state (fun _ _ _ => Nat.le_refl _) hj h1 (by decide) (by decide)
  have R2 := R1.isf (a := j) 0 (xup_ss ..)
  have hid : xup (xup s 3 j 3) 7 j 0 = xup s 3 j 3 := by
    have := xup_id (xup s 3 j 3) 7 j
    rw [show (xup s 3 j 3) 7 j = 0 from h7] at this
    exact this
  rw [hid] at R2
  have R3 := R2.pools (ix (fHome (s 1 j))) (s 10 (ix (fHome (s 1 j))) + s 2 j)
  rw [mark1_at R hj]
  unfold qMk
  rw [qMk3_0, qMk4_0, qMk5_0]
  unfold qMk2 qMk1
  rw [ix_n (by omega), nar_0]
  rw [e1, e2, e10] at R3
  rw [e1, e2, e10]
  exact R3
theorem mark_yes {s u : xS} {n k j : Nat} (R : Rel s u n k) (hk : k + 1 ≤ 512) (hj : j < n) (h1 : s 3 j = 1) : Rel (fPay (sMark2 s (nI j)) (s 1 j) (s 0 j) (s 2 j)) (qMk u (nI j) 1 (pMk u (nI j))) n (k + 1) ∧ fPayN (sMark2 s (nI j)) (s 1 j) (s 0 j) (s 2 j) = pMk u (nI j) := by
  have hn := R.1.1
  have e0 := R.2.2.2.1.1
  have e1 := R.2.2.2.1.2.1
  have e2 := R.2.2.2.1.2.2.1
  have e8 := R.2.2.2.1.2.2.2.2.2.2.2.1
  have e9 := R.2.2.2.1.2.2.2.2.2.2.2.2.1
  have e10 := R.2.2.2.1.2.2.2.2.2.2.2.2.2.1
  have hP := (R.2.1.2.2.1 j hj)
  have p0 : P8 (s 0 j) := by rw [e0]; exact hP.1
  have p1 : P8 (s 1 j) := by rw [e1]; exact hP.2.1
  obtain ⟨v, hv⟩ : ∃ v, v = pMk u (nI j) := ⟨_, rfl⟩
  have hpv : fPayV (sMark2 s (nI j)) (s 1 j) (s 2 j) = v := by
    unfold fPayV
    have : (sMark2 s (nI j)) 8 = s 8 := by
      unfold sMark2
      rw [mark1_at R hj]
      rfl
    rw [this, hv]
    unfold pMk
    rw [ix_n (by omega), ← e1, ← e2, ← e8]
    by_cases c1 : s 8 (ix (s 1 j)) < s 2 j
    · rw [if_pos c1, if_neg (Int32.not_le.mpr c1)]
    · rw [if_neg c1, if_pos (Int32.not_lt.mp c1)]
  refine ⟨?_, by unfold fPayN; rw [if_pos ⟨p1, p0⟩, hpv, hv]⟩
  have R1 : Rel (xup s 3 j 3) (xup u 9 j 3) n k := R.state (fun _ _ _ => Nat.le_refl _) hj h1 (by decide) (by decide)
  have R2 := R1.isf (a := j) 1 (xup_ss ..)
  have R3 := R2.pools (ix (fHome (s 1 j))) (s 10 (ix (fHome (s 1 j))) + s 2 j)
  rw [xup_comm _ _ _ _ _ (by decide : (7 : Nat) ≠ 10)] at R3
  have R4 := R3.falsely (ix (s 1 j)) hk
  have R5 := R4.coins (ix (s 1 j)) (s 8 (ix (s 1 j)) - v)
  have R6 := R5.coins (ix (s 0 j)) ((xup s 8 (ix (s 1 j)) (s 8 (ix (s 1 j)) - v)) 8 (ix (s 0 j)) + v)
  have hX : fPay (sMark2 s (nI j)) (s 1 j) (s 0 j) (s 2 j) = xup (xup (xup (xup (xup (xup s 3 j 3) 10 (ix (fHome (s 1 j))) (s 10 (ix (fHome (s 1 j))) + s 2 j)) 7 j 1) 9 (ix (s 1 j)) (s 9 (ix (s 1 j)) + 1)) 8 (ix (s 1 j)) (s 8 (ix (s 1 j)) - v)) 8 (ix (s 0 j)) ((xup s 8 (ix (s 1 j)) (s 8 (ix (s 1 j)) - v)) 8 (ix (s 0 j)) + v) := by
    unfold fPay
    rw [if_pos ⟨p1, p0⟩, hpv]
    unfold sMark2
    rw [mark1_at R hj, ix_n (by omega), nar_1]
    rfl
  have hY : qMk u (nI j) 1 v = xup (xup (xup (xup (xup (xup u 9 j 3) 13 j 1) 3 (ix (fHome (u 7 j))) (u 3 (ix (fHome (u 7 j))) + u 8 j)) 4 (ix (u 7 j)) (u 4 (ix (u 7 j)) + 1)) 2 (ix (u 7 j)) (u 2 (ix (u 7 j)) - v)) 2 (ix (u 6 j)) ((xup u 2 (ix (u 7 j)) (u 2 (ix (u 7 j)) - v)) 2 (ix (u 6 j)) + v) := by
    unfold qMk qMk5 qMk4 qMk3 qMk2 qMk1
    rw [ix_n (by omega), nar_1]
    rfl
  rw [← hv, hX, hY, ← e0, ← e1, ← e2, ← e8, ← e9, ← e10]
  have h8 : ∀ (z z' : xS) (i p : Nat) (x : Int32), z 8 = z' 2 → (xup z 8 i x) 8 p = (xup z' 2 i x) 2 p := fun z z' i p x h => by rw [xup_s, xup_s, h]
  rw [← h8 s u _ _ _ e8]
  have e9' : (xup (xup (xup s 3 j 3) 10 (ix (fHome (s 1 j))) (s 10 (ix (fHome (s 1 j))) + s 2 j)) 7 j 1) 9 = s 9 := rfl
  have e4' : (xup (xup (xup u 9 j 3) 13 j 1) 3 (ix (fHome (s 1 j))) (s 10 (ix (fHome (s 1 j))) + s 2 j)) 4 = u 4 := rfl
  rw [e9', e4', ← e9] at R6
  exact R6
theorem E_mark {s u : xS} {n k : Nat} {a : Int32} (R : Rel s u n k) (hk : k + 1 ≤ 512) : (kDel s a = 0 → wMark u n a = vMark s n a) ∧ Rel (if kDel s a = 0 then sMark s n a else s) (qMark u n a) n (k + 1) := by
  have hd := R.del a
  by_cases h : kDel s a = 0
  · obtain ⟨hp, h1⟩ := kDel_0 h
    obtain ⟨hj, he⟩ := R.PLx hp
    obtain ⟨j, hjx⟩ : ∃ j, j = ix a := ⟨_, rfl⟩
    rw [← hjx] at hj he h1
    subst he
    have R0 := R.thr 0
    have hn := R.1.1
    have hN := mark_n R0 hj h1
    have q0 : (sMark2 s (nI j)) 0 j = s 0 j := by unfold sMark2; rw [mark1_at R hj]; rfl
    have q1 : (sMark2 s (nI j)) 1 j = s 1 j := by unfold sMark2; rw [mark1_at R hj]; rfl
    have q2 : (sMark2 s (nI j)) 2 j = s 2 j := by unfold sMark2; rw [mark1_at R hj]; rfl
    unfold wMark vMark sMark qMark qMark0
    have hd' : jDel u (nI j) = 0 := hd ▸ h
    simp only [if_pos h, if_pos hd']
    rw [hN, ix_n (by omega), q0, q1, q2]
    by_cases c : 3 ≤ nMk (xup u 15 0 0) n (nI j)
    · have c' : ¬ nMk (xup u 15 0 0) n (nI j) < 3 := Int32.not_lt.mpr c
      obtain ⟨g1, g2⟩ := mark_yes R0 hk hj h1
      simp only [if_pos c, if_neg c']
      exact ⟨fun _ => g2.symm, g1⟩
    · have c' : nMk (xup u 15 0 0) n (nI j) < 3 := Int32.not_le.mp c
      simp only [if_neg c, if_pos c']
      exact ⟨fun _ => trivial, (mark_no R0 hj h1).mono (Nat.le_succ k) hk⟩
  · refine ⟨fun g => absurd g h, ?_⟩
    unfold qMark
    rw [if_neg h, if_neg (hd ▸ h)]
    exact (R.thr _).mono (Nat.le_succ k) hk
/-! what the reference's `thrown` holds behind a call -/
theorem go_15 {u : xS} {v : Int32} : (gGo u v) 15 = u 15 := by
  unfold gGo
  split
  · rfl
  · split
    · rfl
    · rfl
theorem gos_15 {u : xS} : ∀ k, (gGos u k) 15 = u 15
  | 0 => rfl
  | k + 1 => by
    unfold gGos
    split
    · exact gos_15 k
    · exact go_15.trans (gos_15 k)
theorem mv_15 {u : xS} {n : Nat} : ∀ k, (gMv u n k) 15 = u 15
  | 0 => rfl
  | k + 1 => by
    unfold gMv
    split
    · split
      · rw [xup_n (by decide)]; exact mv_15 k
      · rw [xup_n (by decide)]; exact mv_15 k
    · rw [xup_n (by decide)]; exact mv_15 k
theorem exp_15 {u : xS} : ∀ k, (gExp u k) 15 = u 15
  | 0 => rfl
  | k + 1 => by
    unfold gExp
    split
    · split
      · rw [xup_n (by decide), xup_n (by decide)]; exact exp_15 k
      · exact exp_15 k
    · exact exp_15 k
theorem ticks_15 {u : xS} {n : Nat} : ∀ k, (gTicks u n k) 15 = u 15
  | 0 => rfl
  | k + 1 => (exp_15 n).trans ((gos_15 n).trans ((mv_15 n).trans ((xup_n (by decide)).trans (ticks_15 k))))
theorem qRoute_15 {u : xS} {a b c : Int32} : (qRoute u a b c) 15 0 = kRoute a b c := by
  unfold qRoute
  by_cases h : kRoute a b c = 0
  · rw [if_pos h, h, xup_n (by decide), xup_ss]
  · rw [if_neg h, xup_ss]
theorem qSend_15 {u : xS} {n : Nat} {a b c : Int32} : (qSend u n a b c) 15 0 = jSend u n a b c := by
  unfold qSend
  by_cases h : jSend u n a b c = 0
  · rw [if_pos h, h]; rfl
  · rw [if_neg h, xup_ss]
theorem qPass_15 {u : xS} {n : Nat} {a : Int32} : (qPass u n a) 15 0 = jPass u a := by
  unfold qPass
  by_cases h : jPass u a = 0
  · rw [if_pos h, h, ticks_15, xup_ss]
  · rw [if_neg h, xup_ss]
theorem qAns_15 {u : xS} {a : Int32} : (qAns u a) 15 0 = jDel u a := by
  unfold qAns
  by_cases h : jDel u a = 0
  · rw [if_pos h, h]; rfl
  · rw [if_neg h, xup_ss]
theorem qMark_15 {u : xS} {n : Nat} {a : Int32} : (qMark u n a) 15 0 = jDel u a := by
  unfold qMark
  by_cases h : jDel u a = 0
  · rw [if_pos h, h]
    unfold qMark0
    split
    · rfl
    · rfl
  · rw [if_neg h, xup_ss]
/-- at the start -/
theorem rel_0 : Rel zX0 zM0 0 0 := by
  have hr : ∀ j, (if j < 16 then nI (j % 4) else (0 : Int32)) = zX0 11 j := fun j => rfl
  refine ⟨⟨by decide, rfl⟩, ⟨by decide, rfl, fun k hk => absurd hk (Nat.not_lt_zero k), fun j hj => ?_⟩, by decide, ⟨rfl, rfl, rfl, rfl, rfl, rfl, rfl, rfl, rfl, rfl, rfl, rfl⟩, fun k hk => absurd hk (Nat.not_lt_zero k), fun k _ => ⟨rfl, rfl⟩, fun k => ⟨0, by decide, rfl⟩, fun k _ => rfl, ⟨0, by decide, rfl, fun k hk => absurd hk (Nat.not_lt_zero k)⟩, fun p _ => ⟨0, by decide, rfl⟩⟩
  have : zM0 1 j = nI (j % 4) := if_pos hj
  rw [this]
  exact P4_nI (Nat.mod_lt _ (by decide))
end
