/-! the law, from its entry to its end -/
def R_law : String := "StampRelayLaw"
def lw_P (b : Addr) (xs : List Int32) (args : Array Value) (s : State) : Prop := args = #[.ref b] ∧ s.IntsAt b xs ∧ xs.length ≤ 2048 ∧ (Jvm.Cond.and given_1 narrow_1).before args s = true
def lw_Q (_ : Array Value) (s : State) (o : Outcome) (t : State) : Prop := o = .returned (some (.int 1)) ∧ Framed s o t [] 1077 9523
def lw_Z (below : List Frame) (a : Array Value) (s : State) : State → Prop := fun t => ∃ o, t.status = .running ∧ Ended t below o ∧ lw_Q a s o t
/-- the law's own end, with 1 on the stack, nothing written that was there before, its room as the claim has it -/
theorem lw_ret {p : Program} {l : Launch} {e : Env} {s : State} {m : MethodId} {below : List Frame} {meth : Method} {c : Code} {b : Nat} (hx : p.tables.exec = Jvm.exec) (hb : c.code = code) (hr : meth.sig.returnType = ret) (hlocks : meth.locks = false) {pc : Nat} {H : Heap} {ls : Array Slot} (hdg : decode code pc = .ok (.ireturn, 1)) : W p l e room_1 s m #[Value.ref b] below meth c H [] 1077 9523 (lw_Z below #[Value.ref b] s) (F0 m pc ls [.int 1]) := by
  intro T hT X
  obtain ⟨fs, hret, hrun, hended, hW, hframe⟩ := X.leave (v := some (.int 1)) (hlocks := hlocks) (fun h => by rw [hr] at h; cases h)
  have hmeth' : T.vm.method? m = some meth := X.method'
  refine ⟨T.setFrames fs, ?_, .returned (some (.int 1)), hrun, hended, rfl, ⟨_, rfl⟩, hW, hframe⟩
  jvm_step X.here [X.here.top, hx, hb, hdg, hmeth', hr, ret, narrow_b1]
  (try refine ⟨rfl, ?_⟩); (try refine ⟨rfl, ?_⟩)
  first | (intro acts; rw [hret _ acts rfl rfl rfl]) | rw [hret _ _ rfl rfl rfl]
  exact Steps.refl _
/-- what holds at the law's entry: the machine, the code, the tables' words (any of lw_tbl by 'hts w (by decide +kernel)'), the script of L ints xs at the cell b, what the Statement gives of the start (any of its parts by flat_of_before) -/
def lw_At (p : Program) (s : State) (m : MethodId) (meth : Method) (c : Code) (b L : Nat) (xs : Nat → Int32) : Prop :=
  p.tables.exec = Jvm.exec ∧ c.code = code ∧ meth.sig.returnType = ret ∧ c.maxLocals = 7 ∧ s.vm.findClass R_law = some m.cls ∧ (∀ w ∈ lw_tbl, w.before #[Value.ref b] s = true) ∧ va_X b L xs s s.heap ∧ b < s.heap.size ∧ meth.locks = false ∧ (Jvm.Cond.and given_1 narrow_1).before #[Value.ref b] s = true
def lwW : List Cond := [.laysStatic "java/lang/Throwable" "UNASSIGNED_STACK" "[Ljava/lang/StackTraceElement;", .laysStatic "java/lang/Throwable" "SUPPRESSED_SENTINEL" "Ljava/util/List;", .initialized "java/lang/Throwable", .stringRef RX0 66 "there is no such relay", .stringRef RX0 73 "a route leads to another relay, by another relay", .stringRef RX0 83 "there is no such person", .stringRef RX0 85 "the reader is another person, a stake is 0 to 20", .stringRef RX0 93 "the stake is too low, the coins are too few, or there are 60 letters", .stringRef RX0 103 "ticks are 1 to 50", .stringRef RX0 106 "the time would be above 100000", .stringRef RX0 115 "there is no such letter", .stringRef RX0 117 "the letter is not DELIVERED", .stringRef RX0 139 "there is no such relay or no such place in its queue", .castable "java/lang/IndexOutOfBoundsException" "java/lang/IndexOutOfBoundsException", .castable "java/lang/IllegalArgumentException" "java/lang/IllegalArgumentException", .castable "java/lang/IllegalStateException" "java/lang/IllegalStateException", xDm "java/lang/RuntimeException", xDm "java/lang/Exception", xDm "java/lang/Throwable", .arrayClass .int, .arrayClass .boolean, .arrayClass .long, .instantiable RX0 16, .instantiable RX1 16]
set_option maxRecDepth 20000 in
theorem lwW_in : ∀ w ∈ lwW, w ∈ lw_tbl := mem_r9 _ [157, 159, 39, 171, 207, 236, 237, 273, 297, 299, 347, 348, 409, 132, 200, 266, 134, 136, 138, 104, 105, 664, 48, 453] (by decide +kernel)
theorem x_rot {X : xX} {nL k n pc : Nat} {w : va_W} {e : Nat × va_E} {lv : List (Nat × Value)} {st : List Value} (kk : xV X nL k n (e :: w) pc lv st) : xV X nL k n (w ++ [e]) pc lv st := by
  intro H locs ls hP hD hS hl
  have g : ∀ (i : Nat) (q : Nat × va_E), (e :: w)[i]? = some q → ∃ j, (w ++ [e])[j]? = some q ∧ (i = 0 ∧ j = w.length ∨ i = j + 1 ∧ j < w.length) := fun i q h => by
    cases i with
    | zero => exact ⟨w.length, by rw [List.getElem?_append_right (Nat.le_refl _), Nat.sub_self]; exact h, Or.inl ⟨rfl, rfl⟩⟩
    | succ i =>
      have h' : w[i]? = some q := h
      have hl := (List.getElem?_eq_some_iff.mp h').1
      exact ⟨i, by rw [List.getElem?_append_left hl]; exact h', Or.inr ⟨rfl, hl⟩⟩
  refine kk H locs ls (fun i q h => ?_) ⟨fun i j p q hi hj e9 => ?_, fun i q h => ?_⟩ hS hl
  · obtain ⟨j, hj, -⟩ := g i q h
    exact hP j q hj
  · obtain ⟨i', hi', a⟩ := g i p hi
    obtain ⟨j', hj', b⟩ := g j q hj
    have := hD.1 i' j' p q hi' hj' e9
    omega
  · obtain ⟨j, hj, -⟩ := g i q h
    exact hD.2 j q hj
theorem lw_arr {U : State} {a : Array Value} {ty : FieldType} (h : (Cond.arrayClass ty).before a U = true) (hty : va_RA U = va_RA U) : ∃ c, ArrOfT U c ty ∧ U.vm.findClass ("[" ++ ty.toString) = some c := by
  obtain ⟨c, k, comp, h1, h2, h3⟩ := Cond.arrayClass_spec h
  exact ⟨c, fun n z => ⟨fun k h => (by cases h), k, h2, comp, h3⟩, h1⟩
theorem lw_str {U : State} {a : Array Value} {c : ClassId} (hc : U.vm.findClass RX0 = some c) {k : Nat} {tx : String} (h : (Cond.stringRef RX0 k tx).before a U = true) : ∃ sa, vk_R RX0 k tx sa U := by
  obtain ⟨k', cf, i, sa, h1, h2, h3, h4, h5, h6⟩ := Cond.stringRef_spec hc h
  exact ⟨sa, vk_R.of h h6⟩
set_option maxRecDepth 100000 in
theorem lw_xTh {b : Nat} {s : State} {c : ClassId} (hc : s.vm.findClass RX0 = some c) (hts : ∀ w ∈ lw_tbl, w.before #[Value.ref b] s = true) (hgv : (Jvm.Cond.and given_1 narrow_1).before #[Value.ref b] s = true) : xTh (fun q => s.heap.size ≤ q) s s.heap := by
  have ht : ∀ w ∈ lwW, w.before #[Value.ref b] s = true := fun w h => hts w (lwW_in w h)
  have hn := flat_of_before _ hgv
  have hA : ∀ a : Nat, a < s.heap.size → ¬ (fun q => s.heap.size ≤ q) a := fun a h => Nat.not_le.mpr h
  refine ⟨vx_Zqof (ht _ (by decide +kernel)) (ht _ (by decide +kernel)) (hn _ (by decide +kernel)) hA, vx_Zqof (ht _ (by decide +kernel)) (ht _ (by decide +kernel)) (hn _ (by decide +kernel)) hA, ?_, ?_, ?_, ?_⟩
  · refine List.forall_mem_cons.mpr ⟨lw_str hc (ht _ (by decide +kernel)), ?_⟩
    refine List.forall_mem_cons.mpr ⟨lw_str hc (ht _ (by decide +kernel)), ?_⟩
    refine List.forall_mem_cons.mpr ⟨lw_str hc (ht _ (by decide +kernel)), ?_⟩
    refine List.forall_mem_cons.mpr ⟨lw_str hc (ht _ (by decide +kernel)), ?_⟩
    refine List.forall_mem_cons.mpr ⟨lw_str hc (ht _ (by decide +kernel)), ?_⟩
    refine List.forall_mem_cons.mpr ⟨lw_str hc (ht _ (by decide +kernel)), ?_⟩
    refine List.forall_mem_cons.mpr ⟨lw_str hc (ht _ (by decide +kernel)), ?_⟩
    refine List.forall_mem_cons.mpr ⟨lw_str hc (ht _ (by decide +kernel)), ?_⟩
    refine List.forall_mem_cons.mpr ⟨lw_str hc (ht _ (by decide +kernel)), ?_⟩
    exact List.forall_mem_cons.mpr ⟨lw_str hc (ht _ (by decide +kernel)), fun _ h => absurd h List.not_mem_nil⟩
  · refine List.forall_mem_cons.mpr ⟨va_Nw.of rfl (ht _ (by decide +kernel)), ?_⟩
    refine List.forall_mem_cons.mpr ⟨va_Nw.of rfl (ht _ (by decide +kernel)), ?_⟩
    exact List.forall_mem_cons.mpr ⟨va_Nw.of rfl (ht _ (by decide +kernel)), fun _ h => absurd h List.not_mem_nil⟩
  · have h01 := va_Nc.of (hn (.not (.castable xIOB xIAE)) (by decide +kernel))
    have h02 := va_Nc.of (hn (.not (.castable xIOB xISE)) (by decide +kernel))
    have h10 := va_Nc.of (hn (.not (.castable xIAE xIOB)) (by decide +kernel))
    have h12 := va_Nc.of (hn (.not (.castable xIAE xISE)) (by decide +kernel))
    have h20 := va_Nc.of (hn (.not (.castable xISE xIOB)) (by decide +kernel))
    have h21 := va_Nc.of (hn (.not (.castable xISE xIAE)) (by decide +kernel))
    refine List.forall_mem_cons.mpr ⟨?_, List.forall_mem_cons.mpr ⟨?_, List.forall_mem_cons.mpr ⟨?_, fun _ h => absurd h List.not_mem_nil⟩⟩⟩
    · exact List.forall_mem_cons.mpr ⟨fun h => absurd rfl h, List.forall_mem_cons.mpr ⟨fun _ => h01, List.forall_mem_cons.mpr ⟨fun _ => h02, fun _ h => absurd h List.not_mem_nil⟩⟩⟩
    · exact List.forall_mem_cons.mpr ⟨fun _ => h10, List.forall_mem_cons.mpr ⟨fun h => absurd rfl h, List.forall_mem_cons.mpr ⟨fun _ => h12, fun _ h => absurd h List.not_mem_nil⟩⟩⟩
    · exact List.forall_mem_cons.mpr ⟨fun _ => h20, List.forall_mem_cons.mpr ⟨fun _ => h21, List.forall_mem_cons.mpr ⟨fun h => absurd rfl h, fun _ h => absurd h List.not_mem_nil⟩⟩⟩
  · refine List.forall_mem_cons.mpr ⟨va_Nw.of rfl (ht _ (by decide +kernel)), ?_⟩
    refine List.forall_mem_cons.mpr ⟨va_Nw.of rfl (ht _ (by decide +kernel)), ?_⟩
    exact List.forall_mem_cons.mpr ⟨va_Nw.of rfl (ht _ (by decide +kernel)), fun _ h => absurd h List.not_mem_nil⟩
