/-! methods that throw (xT), the law's own methods that catch (xL), calls of both; a world between two others -/
def xIOB : String := "java/lang/IndexOutOfBoundsException"
def xIAE : String := "java/lang/IllegalArgumentException"
def xISE : String := "java/lang/IllegalStateException"
abbrev xNm : List String := ["java/lang/RuntimeException", "java/lang/Exception"]
def xStrs : List (Nat × String) := [(66, "there is no such relay"), (73, "a route leads to another relay, by another relay"), (83, "there is no such person"), (85, "the reader is another person, a stake is 0 to 20"), (93, "the stake is too low, the coins are too few, or there are 60 letters"), (103, "ticks are 1 to 50"), (106, "the time would be above 100000"), (115, "there is no such letter"), (117, "the letter is not DELIVERED"), (139, "there is no such relay or no such place in its queue")]
def xExs : List String := ["java/lang/IndexOutOfBoundsException", "java/lang/IllegalArgumentException", "java/lang/IllegalStateException"]
abbrev xDm (Y : String) : Cond := .declares ⟨Y, "<init>", "(Ljava/lang/String;)V"⟩
def xDs : List String := ["java/lang/RuntimeException", "java/lang/Exception", "java/lang/Throwable"]
abbrev xBad (E : String) : List Cond := [Cond.castable E E, xDm "java/lang/RuntimeException", xDm "java/lang/Exception", xDm "java/lang/Throwable"]
/-- what a throw and a catch need of the heap and the tables -/
def xTh (A : Nat → Prop) (U : State) (H : Heap) : Prop :=
  vx_Zq Bundle.tN "UNASSIGNED_STACK" Bundle.steD A U H ∧ vx_Zq Bundle.tN "SUPPRESSED_SENTINEL" Bundle.listD A U H ∧ (∀ q ∈ xStrs, ∃ sa, vk_R RX0 q.1 q.2 sa U) ∧ (∀ E ∈ xExs, va_Nw (.castable E E) U) ∧ (∀ E ∈ xExs, ∀ F ∈ xExs, E ≠ F → va_Nc E F U) ∧ (∀ Y ∈ xDs, va_Nw (xDm Y) U)
theorem xTh.to {A B : Nat → Prop} {s U : State} {H : Heap} {locs : List Loc} (h : xTh A s s.heap) (hS : va_S A s.heap H locs) (hAB : ∀ q, B q → A q) (hU : U.heap = H) (hW : s.WarmedH U.vm) : xTh B U U.heap := by
  obtain ⟨h1, h2, h3, h4, h5, h6⟩ := h
  have hk : ∀ a : Nat, a < s.heap.size → ¬ A a → U.heap[a]? = s.heap[a]? := fun a ha hn => by rw [hU]; exact hS.2.1 a ha hn
  exact ⟨((h1.moved hW.alike).kept hk).narrow hAB, ((h2.moved hW.alike).kept hk).narrow hAB, fun q hq => (h3 q hq).elim (fun sa h => ⟨sa, h.warm hW⟩), fun E hE => (h4 E hE).warmC hW, fun E hE F hF hne => (h5 E hE F hF hne).moved hW.alike, fun Y hY => (h6 Y hY).warmD hW⟩
theorem xTh.calling {A : Nat → Prop} {U : State} {g : JFrame} {mk : MethodId} {a : Array Value} (h : xTh A U U.heap) : xTh A (U.calling g mk a) (U.calling g mk a).heap := by
  obtain ⟨h1, h2, h3, h4, h5, h6⟩ := h
  have hv : U.vm.Alike (U.calling g mk a).vm := Vm.Alike.refl U.vm
  exact ⟨h1.moved hv, h2.moved hv, fun q hq => (h3 q hq).elim (fun sa h => ⟨sa, vk_R.same rfl h⟩), fun E hE => va_Nw.same rfl (rfl : U.vm = (U.calling g mk a).vm) (h4 E hE), fun E hE F hF hne => (h5 E hE F hF hne).moved hv, fun Y hY => va_Nw.same rfl (rfl : U.vm = (U.calling g mk a).vm) (h6 Y hY)⟩
abbrev xRT (f lo : Nat) : Room := { frames := f, cells := 1, slots := 6, locals := lo }
def xPreT (D : va_G) (cx : xC) (W0 : va_W) (sz : Nat) : State → Prop := fun U => xPre D cx W0 sz U ∧ xTh (va_A W0 sz) U U.heap
theorem xPreT_blind {D : va_G} {cx : xC} {W0 : va_W} {sz : Nat} {av : List Value} : FrameBlind (va_Pc av (xPreT D cx W0 sz)) :=
  fun a U g mk q => ⟨q.1, (xPre_blind a U g mk ⟨q.1, q.2.1⟩).2, q.2.2.calling⟩
/-- an int, or a throw of a class of which px holds, the world as it was -/
def xT {S : Type} (l : Launch) (y : MethodName) (wsC : List Cond) (rm : Room) (D : va_G) (cx : xC) (av : List Value) (W0 : va_W) (wf : S → va_W) (post : Int32 → S → Prop) (px : String → Prop) : Prop :=
  ∀ sz : Nat, vx_Met l y wsC rm (va_Pc av (xPreT D cx W0 sz)) (va_Qi post (xAt D cx (va_A W0 sz) wf) (va_A W0 sz)) (vx_X (fun _ : Unit => True) (fun E _ t => px E ∧ va_P D vwCl W0 t.heap ∧ va_K D vwCl (xTy cx) t ∧ va_D (va_A W0 sz) W0) (va_A W0 sz)) 1 6 (va_A W0 sz)
theorem x_enterT {S : Type} {l : Launch} {y : MethodName} {wsC wsC' : List Cond} {rm : Room} {D : va_G} {cx : xC} {av : List Value} {W0 : va_W} {wf : S → va_W} {post : Int32 → S → Prop} {px : String → Prop} {cc : ByteArray} {nL : Nat} (hfl : l.stackTraces = false) (hy : plainName y.cls = true) (hw : wsC = .code y cc nL (some .int) :: wsC') (hcls : y.cls = RX0) (hlen : (lg_sl av).length ≤ nL) (hrm : 5 < rm.frames ∧ 82 ≤ rm.locals ∧ rm.cells = 1 ∧ rm.slots = 6)
    (body : ∀ X : xX, xOK l D cx rm X cc nL RX0 wsC → (∀ (v : Int32) (u : S) (pc : Nat) (lv : List (Nat × Value)), post v u → decode cc pc = .ok (.ireturn, 1) → xV X nL 0 0 (wf u) pc lv [.int v]) →
      (∀ (pc ik is ic : Nat) (cls text : String) (lv : List (Nat × Value)), px cls → Bundle.fit cls = true → cls ∈ xExs → (is, text) ∈ xStrs → Cond.classLink RX0 ik cls ∈ wsC → Cond.initialized cls ∈ wsC → (∀ w ∈ (vx_atS RX0 ic cls xNm).filter goodWord, w ∈ wsC) → (∀ w ∈ (vx_atS RX0 ic cls xNm).filter (fun w => !goodWord w), w ∈ xBad cls) → (∀ w ∈ Cond.classLink RX0 ik cls :: Cond.initialized cls :: vx_atS RX0 ic cls xNm, vx_ot w = true) →
        decode cc pc = .ok (.new ik, 3) → decode cc (pc + 3) = .ok (.dup, 1) → decode cc (pc + 4) = .ok (.ldc is, 2) → decode cc (pc + 6) = .ok (.invokespecial ic, 3) → decode cc (pc + 9) = .ok (.athrow, 1) → xV X nL 0 0 W0 pc lv []) → xV X nL 0 0 W0 0 (lv_args 0 av) []) : xT l y wsC rm D cx av W0 wf post px := by
  intro sz
  refine vx_ofW (cc := cc) (maxL := nL) (ret := some .int) hy hw ?_
  intro p e s m args below meth c s₁ B hml htab hv
  obtain ⟨rfl, ⟨hsz, hP, hK, hD0⟩, hTh⟩ := hv
  subst hsz
  have hx := B.exec
  have hb := B.bytes
  have hr := B.returns
  have hts := atoms_spec (ws := wsC) B.pre
  have hown : s.vm.findClass RX0 = some m.cls := hcls ▸ findClass_of_methodNamed B.named
  have hlocks := B.notSynchronized
  have hD : va_D (va_A W0 s.heap.size) W0 := hD0.self
  have hl := lv_entry av (n := nL) hlen
  rw [lg_entry_eq]
  refine body ((p, l, e, (headSpec wsC rm).room), (s, m, av.toArray, below), (meth, c, _), (D, cx, va_A W0 s.heap.size)) ⟨hx, hb, hml, hown, hts, hK, fun q h => Or.inr h, rfl, rfl, rfl, rfl⟩ ?_ ?_ s.heap [] _ hP hD va_S.rf hl
  · intro v u pc lv hp hd H locs ls hP hD hS hl
    exact W.widen (k := 1) (n := 6) (Nat.zero_le _) (Nat.zero_le _) (vx_ret (W.zret hx hb hr rfl (fun t ht hW => ⟨⟨v, u, rfl, hp, by rw [ht]; exact hP, va_K.moved hW.alike hK, hD⟩, hS.F ht⟩) hS.2.2 hd hlocks))
  · intro pc ik is ic cls text lv hpx hfit hex hstr hk hini hg hb2 hot d0 d3 d4 d6 d9 H locs ls hP2 hD2 hS2 hl2
    obtain ⟨h1, h2, h3, h4, h5, h6⟩ := hTh
    obtain ⟨sa, hsa⟩ := h3 _ hstr
    refine vx_throwS (names := xNm) (sa := sa) (A := va_A W0 s.heap.size) hx hb hfl hown hfit (by decide +kernel) (hts _ hk) (hts _ hini) hsa (vx_hat (fun w hw => hts w (hg w hw)) hb2 (vx_c (va_Nw.use rfl (h4 cls hex)) (vx_c (va_Nw.use rfl (h6 _ (by decide))) (vx_c (va_Nw.use rfl (h6 _ (by decide))) (vx_c (va_Nw.use rfl (h6 _ (by decide))) vx_n))))) hot h1 h2 hS2 (hl2.1.trans hml.symm) d0 d3 d4 d6 d9 (fun x hx => (htab x hx).elim) ?_ ?_ ?_ ?_ hlocks (fun t hvm hz hk => ?_) hS2.2.2 (Nat.le_refl 1) (Nat.le_refl 6)
    · exact hrm.1
    · show 0 + (13 * (2 + 1) + 43) ≤ rm.locals
      exact hrm.2.1
    · show 0 + 1 ≤ rm.cells
      rw [hrm.2.2.1]; exact Nat.le_refl 1
    · show 0 + 6 ≤ rm.slots
      rw [hrm.2.2.2]; exact Nat.le_refl 6
    · exact ⟨(), trivial, ⟨hpx, hP2.kept (fun k q hq => hk q.1 (hP2 k q hq).lt), va_K.moved hvm hK, hD2⟩, Nat.le_trans hS2.1 hz, fun q h1 h2 => (hk q (Nat.lt_of_lt_of_le h1 hS2.1)).trans (hS2.2.1 q h1 h2)⟩
/-- a frame over which q, of class E, has been thrown -/
def xVX (X : xX) (nL k n : Nat) (ws : va_W) (pc : Nat) (lv : List (Nat × Value)) (st : List Value) (E : String) : Prop :=
  ∀ (H : Heap) (locs : List Loc) (ls : Array Slot) (q : Addr) (ce : Cell), va_P X.2.2.2.1 vwCl ws H → va_D X.2.2.2.2.2 ws → va_S X.2.2.2.2.2 X.2.1.1.heap H locs → lv_has ls nL lv → H[q]? = some ce → ce.vm = .none → X.2.1.1.vm.findClass E = some ce.cls →
    vx_W X.1.1 X.1.2.1 X.1.2.2.1 X.1.2.2.2 X.2.1.1 X.2.1.2.1 X.2.1.2.2.1 X.2.1.2.2.2 X.2.2.1.1 X.2.2.1.2.1 H locs k n X.2.2.1.2.2 (F0 X.2.1.2.1 pc ls st) q
/-- a world between two: the cut and the join of a call -/
theorem xw_cut {D : va_G} {cl : List vw_C} {A : Nat → Prop} {w1 wc w2 : va_W} {H : Heap} (hP : va_P D cl (w1 ++ (wc ++ w2)) H) (hD : va_D A (w1 ++ (wc ++ w2))) :
    (va_P D cl w1 H ∧ va_P D cl wc H ∧ va_P D cl w2 H) ∧ (va_D A w1 ∧ va_D A wc ∧ va_D A w2) ∧ (∀ (k : Nat) (q : Nat × va_E), w1[k]? = some q → ¬ va_A wc H.size q.1) ∧ (∀ (k : Nat) (q : Nat × va_E), w2[k]? = some q → ¬ va_A wc H.size q.1) ∧ (∀ (i j : Nat) (p q : Nat × va_E), w1[i]? = some p → w2[j]? = some q → p.1 ≠ q.1) := by
  have g1 : ∀ {k : Nat} {q : Nat × va_E}, w1[k]? = some q → (w1 ++ (wc ++ w2))[k]? = some q ∧ k < w1.length := fun {k q} h => by
    have hl := (List.getElem?_eq_some_iff.mp h).1
    exact ⟨by rw [List.getElem?_append_left hl]; exact h, hl⟩
  have gc : ∀ {k : Nat} {q : Nat × va_E}, wc[k]? = some q → (w1 ++ (wc ++ w2))[w1.length + k]? = some q ∧ k < wc.length := fun {k q} h => by
    have hl := (List.getElem?_eq_some_iff.mp h).1
    refine ⟨?_, hl⟩
    rw [List.getElem?_append_right (by omega), Nat.add_sub_cancel_left, List.getElem?_append_left hl]
    exact h
  have g2 : ∀ {k : Nat} {q : Nat × va_E}, w2[k]? = some q → (w1 ++ (wc ++ w2))[w1.length + (wc.length + k)]? = some q := fun {k q} h => by
    rw [List.getElem?_append_right (by omega), Nat.add_sub_cancel_left, List.getElem?_append_right (by omega), Nat.add_sub_cancel_left]
    exact h
  refine ⟨⟨fun k q h => hP _ q (g1 h).1, fun k q h => hP _ q (gc h).1, fun k q h => hP _ q (g2 h)⟩, ⟨⟨fun i j p q hi hj e => hD.1 i j p q (g1 hi).1 (g1 hj).1 e, fun k q h => hD.2 _ q (g1 h).1⟩, ⟨fun i j p q hi hj e => ?_, fun k q h => hD.2 _ q (gc h).1⟩, ⟨fun i j p q hi hj e => ?_, fun k q h => hD.2 _ q (g2 h)⟩⟩, fun k q h => ?_, fun k q h => ?_, fun i j p q hi hj e => ?_⟩
  · have := hD.1 _ _ p q (gc hi).1 (gc hj).1 e
    omega
  · have := hD.1 _ _ p q (g2 hi) (g2 hj) e
    omega
  · rintro (⟨j, e, h2⟩ | h2)
    · have := hD.1 _ _ q (q.1, e) (g1 h).1 (gc h2).1 rfl
      have := (g1 h).2
      omega
    · have := (hP _ q (g1 h).1).lt
      omega
  · rintro (⟨j, e, h2⟩ | h2)
    · have := hD.1 _ _ q (q.1, e) (g2 h) (gc h2).1 rfl
      have := (gc h2).2
      omega
    · have := (hP _ q (g2 h)).lt
      omega
  · have := hD.1 _ _ p q (g1 hi).1 (g2 hj) e
    have := (g1 hi).2
    omega
theorem xw_join {D : va_G} {cl : List vw_C} {A : Nat → Prop} {w1 wc w2 wn : va_W} {H H1 : Heap} (hP : va_P D cl (w1 ++ (wc ++ w2)) H) (hD : va_D A (w1 ++ (wc ++ w2))) (hk : ∀ q : Nat, q < H.size → ¬ va_A wc H.size q → H1[q]? = H[q]?) (hF : ∀ q, va_A wc H.size q → A q) (hPn : va_P D cl wn H1) (hDn : va_D (va_A wc H.size) wn) : va_P D cl (w1 ++ (wn ++ w2)) H1 ∧ va_D A (w1 ++ (wn ++ w2)) := by
  obtain ⟨⟨p1, pc, p2⟩, ⟨d1, dc, d2⟩, n1, n2, n12⟩ := xw_cut hP hD
  refine ⟨va_P.app (p1.kept (fun k q h => hk q.1 (p1 k q h).lt (n1 k q h))) (va_P.app hPn (p2.kept (fun k q h => hk q.1 (p2 k q h).lt (n2 k q h)))), va_D.app d1 (va_D.app (hDn.weaken (fun k q _ h => hF q.1 h)) d2 (fun i j p q hi hj e => n2 j q hj (e ▸ hDn.2 i p hi))) (fun i j p q hi hj e => ?_)⟩
  rcases Nat.lt_or_ge j wn.length with hl | hl
  · rw [List.getElem?_append_left hl] at hj
    exact n1 i p hi (e ▸ hDn.2 j q hj)
  · rw [List.getElem?_append_right hl] at hj
    exact n12 i _ p q hi hj e
theorem xw_free {D : va_G} {cl : List vw_C} {A : Nat → Prop} {w1 wc w2 : va_W} {H0 H : Heap} {locs : List Loc} (hD : va_D A (w1 ++ (wc ++ w2))) (hP : va_P D cl (w1 ++ (wc ++ w2)) H) (hS : va_S A H0 H locs) (hA : ∀ q, H0.size ≤ q → A q) : ∀ q, va_A wc H.size q → A q := by
  obtain ⟨-, ⟨-, dc, -⟩, -⟩ := xw_cut hP hD
  intro q h
  exact h.elim (fun ⟨k, e, h⟩ => dc.2 k (q, e) h) (fun h => hA q (Nat.le_trans hS.1 h))
section XTHROW
variable {l : Launch} {D : va_G} {cx : xC} {rm : Room} {X : xX} {cc : ByteArray} {nL : Nat} {own : String} {Ts : List Cond} {k n pc : Nat} {ws : va_W} {lv : List (Nat × Value)} {st : List Value}
/-- a method of an object whose world lies between w1 and w2 -/
theorem x_bvi {S : Type} (w1 w2 : va_W) {wc : va_W} {wf' : S → va_W} (h : xOK l D cx rm X cc nL own Ts) {y : MethodName} {cc2 : ByteArray} {nL2 idx : Nat} {ret : FieldType} {wsC wsC' : List Cond} {rmC : Room} {As : List Value} {b ci : Nat} {fs : List Value} {C : String} {T : u_T} {N : Nat} {wf : S → va_W} {post : Int32 → S → Prop} {st0 : List Value} (d : decode cc pc = .ok (.invokevirtual idx, 3)) (na : Nat) (hna : As.length = na) (hM : xI l y wsC rmC D cx (.ref b :: As) wc wf post) (hws : ws = w1 ++ (wc ++ w2)) (hwf : ∀ u, w1 ++ (wf u ++ w2) = wf' u) (hg : GoodIn Ts (wsV own idx C y wsC)) (hw : wsC = .code y cc2 nL2 (some ret) :: wsC')
    (hd : y.cls = C ∧ y.cls ≠ "java/lang/invoke/MethodHandle" ∧ y.cls ≠ "java/lang/invoke/VarHandle" ∧ (parseMethodDescriptor y.desc).map (fun d => d.parameters.length) = some na) (hrm : rmC.cells = 0 ∧ rmC.slots = 0 ∧ rmC.frames + 1 ≤ rm.frames ∧ 8 + (nL2 + 11) + rmC.locals ≤ rm.locals ∧ k ≤ rm.cells ∧ n ≤ rm.slots)
    (he : wc[0]? = some (b, .inr (ci, fs))) (hc : vwCl[ci]? = some (C, T, N)) (hst : (st.map fun v => v.category).sum ≤ 8) (hs0 : st0 = As.reverse ++ .ref b :: st) (kk : ∀ (r : Int32) (u : S), post r u → xV X nL k n (wf' u) (pc + 3) lv (.int r :: st)) : xV X nL k n ws pc lv st0 := by
  intro H locs ls hP hD hS hl
  obtain ⟨hx, hb, hml, hown, hts, hK, hA, rfl, rfl, rfl, rfl⟩ := h
  subst hs0
  subst hna
  subst hws
  have hF := xw_free hD hP hS hA
  obtain ⟨⟨p1, pc1, p2⟩, ⟨d1, dc, d2⟩, -⟩ := xw_cut hP hD
  refine va_calli (va_runV (As := As) (rest := st) ⟨hx, hb, hml, hown, hts⟩ (hM H.size) (cwV As.length hts hg hw hrm.1 hrm.2.1 hd ⟨hrm.2.2.1, hrm.2.2.2.1⟩) ⟨xPre_blind, va_recv hK pc1 hc he, fun U hU hW => ⟨rfl, by rw [hU], by rw [hU]; exact pc1, va_K.moved hW.alike hK, dc.weaken (fun _ _ _ _ => trivial)⟩⟩ rfl rfl hl.1 rfl (lv_room hst) d ⟨hrm.2.2.2.2.1, hrm.2.2.2.2.2⟩) hS (fun q _ h => hF q h) hF (fun r u t H1 locs1 ht hvm hw hB hz1 hk1 hS1 => ?_)
  obtain ⟨hP1, hK1, hD1⟩ := hB
  rw [ht] at hP1
  obtain ⟨q1, q2⟩ := xw_join hP hD hk1 hF hP1 hD1
  rw [hwf] at q1 q2
  exact kk r u hw H1 locs1 ls q1 q2 hS1 hl
/-- a method that may throw, of an object whose world lies between w1 and w2 -/
theorem x_bvt {S : Type} (w1 w2 : va_W) {wc : va_W} {wf' : S → va_W} (h : xOK l D cx rm X cc nL own Ts) (hTh : xTh X.2.2.2.2.2 X.2.1.1 X.2.1.1.heap) {y : MethodName} {cc2 : ByteArray} {nL2 idx : Nat} {ret : FieldType} {wsC wsC' : List Cond} {rmC : Room} {As : List Value} {b ci : Nat} {fs : List Value} {C : String} {T : u_T} {N : Nat} {wf : S → va_W} {post : Int32 → S → Prop} {px : String → Prop} {st0 : List Value} (d : decode cc pc = .ok (.invokevirtual idx, 3)) (na : Nat) (hna : As.length = na) (hM : xT l y wsC rmC D cx (.ref b :: As) wc wf post px) (hws : ws = w1 ++ (wc ++ w2)) (hwf : ∀ u, w1 ++ (wf u ++ w2) = wf' u) (hg : GoodIn Ts (wsV own idx C y wsC)) (hw : wsC = .code y cc2 nL2 (some ret) :: wsC')
    (hd : y.cls = C ∧ y.cls ≠ "java/lang/invoke/MethodHandle" ∧ y.cls ≠ "java/lang/invoke/VarHandle" ∧ (parseMethodDescriptor y.desc).map (fun d => d.parameters.length) = some na) (hrm : rmC.cells = 1 ∧ rmC.slots = 6 ∧ rmC.frames + 1 ≤ rm.frames ∧ 8 + (nL2 + 11) + rmC.locals ≤ rm.locals ∧ k + 1 ≤ rm.cells ∧ n + 6 ≤ rm.slots)
    (he : wc[0]? = some (b, .inr (ci, fs))) (hc : vwCl[ci]? = some (C, T, N)) (hst : (st.map fun v => v.category).sum ≤ 8) (hs0 : st0 = As.reverse ++ .ref b :: st) (kx : ∀ E, px E → xVX X nL (k + 1) (n + 6) ws pc lv st E) (kk : ∀ (r : Int32) (u : S), post r u → xV X nL (k + 1) (n + 6) (wf' u) (pc + 3) lv (.int r :: st)) : xV X nL k n ws pc lv st0 := by
  intro H locs ls hP hD hS hl
  obtain ⟨hx, hb, hml, hown, hts, hK, hA, rfl, rfl, rfl, rfl⟩ := h
  subst hs0
  subst hna
  subst hws
  have hF := xw_free hD hP hS hA
  obtain ⟨⟨p1, pc1, p2⟩, ⟨d1, dc, d2⟩, -⟩ := xw_cut hP hD
  refine vx_calli (vx_runV (As := As) (rest := st) ⟨hx, hb, hml, hown, hts⟩ (hM H.size) (cwV As.length hts hg hw hrm.1 hrm.2.1 hd ⟨hrm.2.2.1, hrm.2.2.2.1⟩) ⟨xPreT_blind, va_recv hK pc1 hc he, fun U hU hW => ⟨rfl, ⟨by rw [hU], by rw [hU]; exact pc1, va_K.moved hW.alike hK, dc.weaken (fun _ _ _ _ => trivial)⟩, hTh.to hS hF hU hW⟩⟩ rfl rfl hl.1 rfl (lv_room hst) d ⟨hrm.2.2.2.2.1, hrm.2.2.2.2.2⟩) hS (fun q _ h => hF q h) hF (fun q _ h => hF q h) (fun E ce q u t H1 locs1 ht hvm _ hB hz1 hk1 hS1 hce hcv hcl => ?_) (fun r u t H1 locs1 ht hvm hw hB hz1 hk1 hS1 => ?_)
  · obtain ⟨hpx, hP1, hK1, hD1⟩ := hB
    rw [ht] at hP1
    obtain ⟨q1, q2⟩ := xw_join hP hD hk1 hF hP1 hD1
    exact kx E hpx H1 locs1 ls q ce q1 q2 hS1 hl hce hcv hcl
  · obtain ⟨hP1, hK1, hD1⟩ := hB
    rw [ht] at hP1
    obtain ⟨q1, q2⟩ := xw_join hP hD hk1 hF hP1 hD1
    rw [hwf] at q1 q2
    exact kk r u hw H1 locs1 ls q1 q2 hS1 hl
/-- caught by a row of the method's table -/
theorem x_catch (h : xOK l D cx rm X cc nL own Ts) (hTh : xTh X.2.2.2.2.2 X.2.1.1 X.2.1.1.heap) {hh : List (Nat × Nat × Nat × Nat)} (htab : X.2.2.1.2.1.exceptionTable.toList = tableOf hh) {E : String} (hE : E ∈ xExs) (pre : List ExceptionTableEntry) (x : ExceptionTableEntry) (suf : List ExceptionTableEntry) (hsplit : tableOf hh = pre ++ x :: suf)
    (hpass : ∀ z ∈ pre, z.catchType ≠ 0 ∧ ∃ nm : String, Cond.classLink own z.catchType nm ∈ Ts ∧ nm ∈ xExs ∧ E ≠ nm) (hx : covers x pc = true) (h0 : x.catchType ≠ 0) (hlink : Cond.classLink own x.catchType E ∈ Ts)
    (kk : ∀ q, xV X nL k n ws x.handlerPc lv [.ref q]) : xVX X nL k n ws pc lv st E := by
  intro H locs ls q ce hP hD hS hl hce hcv hcl
  obtain ⟨hx0, hb, hml, hown, hts, hK, hA, rfl, rfl, rfl, rfl⟩ := h
  obtain ⟨h1, h2, h3, h4, h5, h6⟩ := hTh
  exact vx_catch hown pre x suf (htab.trans hsplit) (fun z hz => Or.inr ⟨(hpass z hz).1, (hpass z hz).2.elim (fun nm h => ⟨nm, hts _ h.1, h5 E hE nm h.2.1 h.2.2⟩)⟩) hx h0 (hts _ hlink) (va_Nw.use rfl (h4 E hE)) hce hcv hcl (kk q H locs ls hP hD hS hl)
end XTHROW
/-- a method of the law's own, that catches what it calls: it returns -/
def xL {S : Type} (l : Launch) (y : MethodName) (wsC : List Cond) (rm : Room) (D : va_G) (cx : xC) (av : List Value) (W0 : va_W) (wf : S → va_W) (post : Int32 → S → Prop) : Prop :=
  ∀ sz : Nat, vx_Met l y wsC rm (va_Pc av (xPreT D cx W0 sz)) (va_Qi post (xAt D cx (va_A W0 sz) wf) (va_A W0 sz)) (vx_X (fun _ : Unit => False) (fun _ _ _ => True) (va_A W0 sz)) 1 6 (va_A W0 sz)
theorem x_enterL {S : Type} {l : Launch} {y : MethodName} {wsC wsC' : List Cond} {rm : Room} {D : va_G} {cx : xC} {av : List Value} {W0 : va_W} {wf : S → va_W} {post : Int32 → S → Prop} {cc : ByteArray} {nL : Nat} {own : String} {hh : List (Nat × Nat × Nat × Nat)} (hy : plainName y.cls = true) (hw : wsC = .codeWith y cc nL (some .int) hh :: wsC') (hcls : y.cls = own) (hlen : (lg_sl av).length ≤ nL)
    (body : ∀ X : xX, xOK l D cx rm X cc nL own wsC → xTh X.2.2.2.2.2 X.2.1.1 X.2.1.1.heap → X.2.2.1.2.1.exceptionTable.toList = tableOf hh → (∀ (v : Int32) (u : S) (pc : Nat) (lv : List (Nat × Value)), post v u → decode cc pc = .ok (.ireturn, 1) → xV X nL 1 6 (wf u) pc lv [.int v]) → xV X nL 0 0 W0 0 (lv_args 0 av) []) : xL l y wsC rm D cx av W0 wf post := by
  intro sz
  refine vx_ofWH (cc := cc) (maxL := nL) (ret := some .int) (hh := hh) hy hw ?_
  intro p e s m args below meth c s₁ B hml hv
  obtain ⟨rfl, ⟨hsz, hP, hK, hD0⟩, hTh⟩ := hv
  subst hsz
  have hx := B.exec
  have hb := B.bytes
  have hr := B.returns
  have hts := atoms_spec (ws := wsC) B.pre
  have hown : s.vm.findClass own = some m.cls := hcls ▸ findClass_of_methodNamed B.named
  have hlocks := B.notSynchronized
  have hD : va_D (va_A W0 s.heap.size) W0 := hD0.self
  have hl := lv_entry av (n := nL) hlen
  have htab := vx_table (x := y) B (hts _ (by rw [hw]; exact List.mem_cons_self))
  rw [lg_entry_eq]
  refine body ((p, l, e, (headSpec wsC rm).room), (s, m, av.toArray, below), (meth, c, _), (D, cx, va_A W0 s.heap.size)) ⟨hx, hb, hml, hown, hts, hK, fun q h => Or.inr h, rfl, rfl, rfl, rfl⟩ hTh htab ?_ s.heap [] _ hP hD va_S.rf hl
  intro v u pc lv hp hd H locs ls hP hD hS hl
  exact vx_ret (W.zret hx hb hr rfl (fun t ht hW => ⟨⟨v, u, rfl, hp, by rw [ht]; exact hP, va_K.moved hW.alike hK, hD⟩, hS.F ht⟩) hS.2.2 hd hlocks)
section XLAW
variable {l : Launch} {D : va_G} {cx : xC} {rm : Room} {X : xX} {cc : ByteArray} {nL : Nat} {own : String} {Ts : List Cond} {k n pc : Nat} {ws : va_W} {lv : List (Nat × Value)} {st : List Value}
theorem x_bsl {S : Type} (w1 w2 : va_W) {wc : va_W} {wf' : S → va_W} (h : xOK l D cx rm X cc nL own Ts) (hTh : xTh X.2.2.2.2.2 X.2.1.1 X.2.1.1.heap) {y : MethodName} {cc2 : ByteArray} {nL2 idx : Nat} {ret : FieldType} {hh : List (Nat × Nat × Nat × Nat)} {wsC wsC' : List Cond} {rmC : Room} {As : List Value} {wf : S → va_W} {post : Int32 → S → Prop} {st0 : List Value} (d : decode cc pc = .ok (.invokestatic idx, 3)) (na : Nat) (hna : As.length = na) (hM : xL l y wsC rmC D cx As wc wf post) (hws : ws = w1 ++ (wc ++ w2)) (hwf : ∀ u, w1 ++ (wf u ++ w2) = wf' u) (hg : GoodIn Ts (va_wsS own idx y wsC)) (hw : wsC = .codeWith y cc2 nL2 (some ret) hh :: wsC')
    (hd : y.cls ≠ "java/lang/invoke/MethodHandle" ∧ y.cls ≠ "java/lang/invoke/VarHandle" ∧ (parseMethodDescriptor y.desc).map (fun d => d.parameters.length) = some na) (hrm : rmC.cells = 1 ∧ rmC.slots = 6 ∧ rmC.frames + 1 ≤ rm.frames ∧ 8 + (nL2 + 11) + rmC.locals ≤ rm.locals ∧ k + 1 ≤ rm.cells ∧ n + 6 ≤ rm.slots)
    (hst : (st.map fun v => v.category).sum ≤ 8) (hs0 : st0 = As.reverse ++ st) (kk : ∀ (r : Int32) (u : S), post r u → xV X nL (k + 1) (n + 6) (wf' u) (pc + 3) lv (.int r :: st)) : xV X nL k n ws pc lv st0 := by
  intro H locs ls hP hD hS hl
  obtain ⟨hx, hb, hml, hown, hts, hK, hA, rfl, rfl, rfl, rfl⟩ := h
  subst hs0
  subst hna
  subst hws
  have hF := xw_free hD hP hS hA
  obtain ⟨⟨p1, pc1, p2⟩, ⟨d1, dc, d2⟩, -⟩ := xw_cut hP hD
  refine vx_calli (vx_runSX (As := As) (rest := st) (hh := hh) ⟨hx, hb, hml, hown, hts⟩ (hM H.size) (vx_cwSW As.length hts hg hw hrm.1 hrm.2.1 hd ⟨hrm.2.2.1, hrm.2.2.2.1⟩) ⟨xPreT_blind, fun U hU hW => ⟨rfl, ⟨by rw [hU], by rw [hU]; exact pc1, va_K.moved hW.alike hK, dc.weaken (fun _ _ _ _ => trivial)⟩, hTh.to hS hF hU hW⟩⟩ rfl rfl hl.1 rfl (lv_room hst) d ⟨hrm.2.2.2.2.1, hrm.2.2.2.2.2⟩) hS (fun q _ h => hF q h) hF (fun q _ h => hF q h) (fun E ce q u t H1 locs1 ht hvm hu hB hz1 hk1 hS1 hce hcv hcl => hu.elim) (fun r u t H1 locs1 ht hvm hw hB hz1 hk1 hS1 => ?_)
  obtain ⟨hP1, hK1, hD1⟩ := hB
  rw [ht] at hP1
  obtain ⟨q1, q2⟩ := xw_join hP hD hk1 hF hP1 hD1
  rw [hwf] at q1 q2
  exact kk r u hw H1 locs1 ls q1 q2 hS1 hl
end XLAW
