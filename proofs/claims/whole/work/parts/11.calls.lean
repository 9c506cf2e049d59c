/-! contracts over a world: xI (an int), xN (nothing); how a body proves one; how a call uses one -/
def xPre (D : va_G) (cx : xC) (W0 : va_W) (sz : Nat) : State → Prop := fun U => U.heap.size = sz ∧ va_P D vwCl W0 U.heap ∧ va_K D vwCl (xTy cx) U ∧ va_D (fun _ => True) W0
def xAt {S : Type} (D : va_G) (cx : xC) (A : Nat → Prop) (wf : S → va_W) : S → State → Prop := fun u t => va_P D vwCl (wf u) t.heap ∧ va_K D vwCl (xTy cx) t ∧ va_D A (wf u)
def xI {S : Type} (l : Launch) (y : MethodName) (wsC : List Cond) (rm : Room) (D : va_G) (cx : xC) (av : List Value) (W0 : va_W) (wf : S → va_W) (post : Int32 → S → Prop) : Prop :=
  ∀ sz : Nat, Met l y wsC rm (va_Pc av (xPre D cx W0 sz)) (va_Qi post (xAt D cx (va_A W0 sz) wf) (va_A W0 sz)) 0 0 (va_A W0 sz)
def xN {S : Type} (l : Launch) (y : MethodName) (wsC : List Cond) (rm : Room) (D : va_G) (cx : xC) (av : List Value) (W0 : va_W) (wf : S → va_W) (post : S → Prop) : Prop :=
  ∀ sz : Nat, Met l y wsC rm (va_Pc av (xPre D cx W0 sz)) (va_Qv post (xAt D cx (va_A W0 sz) wf) (va_A W0 sz)) 0 0 (va_A W0 sz)
theorem xPre_blind {D : va_G} {cx : xC} {W0 : va_W} {sz : Nat} {av : List Value} : FrameBlind (va_Pc av (xPre D cx W0 sz)) :=
  fun a U g mk q => ⟨q.1, q.2.1, q.2.2.1, va_K.moved (u := U) (U := U.calling g mk a) (Vm.Alike.refl U.vm) q.2.2.2.1, q.2.2.2.2⟩
theorem x_enterI {S : Type} {l : Launch} {y : MethodName} {wsC wsC' : List Cond} {rm : Room} {D : va_G} {cx : xC} {av : List Value} {W0 : va_W} {wf : S → va_W} {post : Int32 → S → Prop} {cc : ByteArray} {nL : Nat} {own : String} {ret : FieldType} (hy : plainName y.cls = true) (hw : wsC = .code y cc nL (some ret) :: wsC') (hcls : y.cls = own)
    (hret : ∀ v u, post v u → narrow ret (.int v) = .int v) (hlen : (lg_sl av).length ≤ nL)
    (body : ∀ X : xX, xOK l D cx rm X cc nL own wsC → (∀ (v : Int32) (u : S) (pc : Nat) (lv : List (Nat × Value)), post v u → decode cc pc = .ok (.ireturn, 1) → xV X nL 0 0 (wf u) pc lv [.int v]) → xV X nL 0 0 W0 0 (lv_args 0 av) []) : xI l y wsC rm D cx av W0 wf post := by
  intro sz
  refine Met.ofW (cc := cc) (maxL := nL) (ret := some ret) hy hw ?_
  intro p e s m args below meth c s₁ B hml hv
  obtain ⟨rfl, hsz, hP, hK, hD0⟩ := hv
  subst hsz
  have hx := B.exec
  have hb := B.bytes
  have hr := B.returns
  have hts := atoms_spec (ws := wsC) B.pre
  have hown : s.vm.findClass own = some m.cls := hcls ▸ findClass_of_methodNamed B.named
  have hlocks := B.notSynchronized
  have hD : va_D (va_A W0 s.heap.size) W0 := hD0.self
  have hl := lv_entry av (n := nL) hlen
  rw [lg_entry_eq]
  refine body ((p, l, e, (headSpec wsC rm).room), (s, m, av.toArray, below), (meth, c, MQ below (va_Qi post (xAt D cx (va_A W0 s.heap.size) wf) (va_A W0 s.heap.size)) av.toArray s 0 0 (va_A W0 s.heap.size)), (D, cx, va_A W0 s.heap.size)) ⟨hx, hb, hml, hown, hts, hK, fun q h => Or.inr h, rfl, rfl, rfl, rfl⟩ ?_ s.heap [] _ hP hD va_S.rf hl
  intro v u pc lv hp hd H locs ls hP hD hS hl
  exact W.zret hx hb hr (hret v u hp) (fun t ht hW => ⟨⟨v, u, rfl, hp, by rw [ht]; exact hP, va_K.moved hW.alike hK, hD⟩, hS.F ht⟩) hS.2.2 hd hlocks
theorem x_enterN {S : Type} {l : Launch} {y : MethodName} {wsC wsC' : List Cond} {rm : Room} {D : va_G} {cx : xC} {av : List Value} {W0 : va_W} {wf : S → va_W} {post : S → Prop} {cc : ByteArray} {nL : Nat} {own : String} (hy : plainName y.cls = true) (hw : wsC = .code y cc nL none :: wsC') (hcls : y.cls = own) (hlen : (lg_sl av).length ≤ nL)
    (body : ∀ X : xX, xOK l D cx rm X cc nL own wsC → (∀ (u : S) (pc : Nat) (lv : List (Nat × Value)), post u → decode cc pc = .ok (.return_, 1) → xV X nL 0 0 (wf u) pc lv []) → xV X nL 0 0 W0 0 (lv_args 0 av) []) : xN l y wsC rm D cx av W0 wf post := by
  intro sz
  refine Met.ofW (cc := cc) (maxL := nL) (ret := none) hy hw ?_
  intro p e s m args below meth c s₁ B hml hv
  obtain ⟨rfl, hsz, hP, hK, hD0⟩ := hv
  subst hsz
  have hx := B.exec
  have hb := B.bytes
  have hr := B.returns
  have hts := atoms_spec (ws := wsC) B.pre
  have hown : s.vm.findClass own = some m.cls := hcls ▸ findClass_of_methodNamed B.named
  have hlocks := B.notSynchronized
  have hD : va_D (va_A W0 s.heap.size) W0 := hD0.self
  have hl := lv_entry av (n := nL) hlen
  rw [lg_entry_eq]
  refine body ((p, l, e, (headSpec wsC rm).room), (s, m, av.toArray, below), (meth, c, MQ below (va_Qv post (xAt D cx (va_A W0 s.heap.size) wf) (va_A W0 s.heap.size)) av.toArray s 0 0 (va_A W0 s.heap.size)), (D, cx, va_A W0 s.heap.size)) ⟨hx, hb, hml, hown, hts, hK, fun q h => Or.inr h, rfl, rfl, rfl, rfl⟩ ?_ s.heap [] _ hP hD va_S.rf hl
  intro u pc lv hp hd H locs ls hP hD hS hl
  exact W.vret hx hb hr (fun t ht hW => ⟨⟨u, rfl, hp, by rw [ht]; exact hP, va_K.moved hW.alike hK, hD⟩, hS.F ht⟩) hS.2.2 hd hlocks
section XCALL
variable {l : Launch} {D : va_G} {cx : xC} {rm : Room} {X : xX} {cc : ByteArray} {nL : Nat} {own : String} {Ts : List Cond} {k n pc : Nat} {ws : va_W} {lv : List (Nat × Value)} {st : List Value}
/-- a method of the object whose world this is, called on it: the whole world goes along -/
theorem x_cvi {S : Type} (h : xOK l D cx rm X cc nL own Ts) {y : MethodName} {cc2 : ByteArray} {nL2 idx : Nat} {ret : FieldType} {wsC wsC' : List Cond} {rmC : Room} {As : List Value} {b ci : Nat} {fs : List Value} {C : String} {T : u_T} {N : Nat} {wf : S → va_W} {post : Int32 → S → Prop} {st0 : List Value} (d : decode cc pc = .ok (.invokevirtual idx, 3)) (na : Nat) (hna : As.length = na) (hM : xI l y wsC rmC D cx (.ref b :: As) ws wf post) (hg : GoodIn Ts (wsV own idx C y wsC)) (hw : wsC = .code y cc2 nL2 (some ret) :: wsC')
    (hd : y.cls = C ∧ y.cls ≠ "java/lang/invoke/MethodHandle" ∧ y.cls ≠ "java/lang/invoke/VarHandle" ∧ (parseMethodDescriptor y.desc).map (fun d => d.parameters.length) = some na) (hrm : rmC.cells = 0 ∧ rmC.slots = 0 ∧ rmC.frames + 1 ≤ rm.frames ∧ 8 + (nL2 + 11) + rmC.locals ≤ rm.locals ∧ k ≤ rm.cells ∧ n ≤ rm.slots)
    (he : ws[0]? = some (b, .inr (ci, fs))) (hc : vwCl[ci]? = some (C, T, N)) (hst : (st.map fun v => v.category).sum ≤ 8) (hs0 : st0 = As.reverse ++ .ref b :: st) (kk : ∀ (r : Int32) (u : S), post r u → xV X nL k n (wf u) (pc + 3) lv (.int r :: st)) : xV X nL k n ws pc lv st0 := by
  intro H locs ls hP hD hS hl
  obtain ⟨hx, hb, hml, hown, hts, hK, hA, rfl, rfl, rfl, rfl⟩ := h
  subst hs0
  subst hna
  have hF : ∀ q, va_A ws H.size q → X.2.2.2.2.2 q := fun q h => h.elim (fun ⟨k, e, h⟩ => hD.2 k (q, e) h) (fun h => hA q (Nat.le_trans hS.1 h))
  refine va_calli (va_runV (As := As) (rest := st) ⟨hx, hb, hml, hown, hts⟩ (hM H.size) (cwV As.length hts hg hw hrm.1 hrm.2.1 hd ⟨hrm.2.2.1, hrm.2.2.2.1⟩) ⟨xPre_blind, va_recv hK hP hc he, fun U hU hW => ⟨rfl, by rw [hU], by rw [hU]; exact hP, va_K.moved hW.alike hK, hD.weaken (fun _ _ _ _ => trivial)⟩⟩ rfl rfl hl.1 rfl (lv_room hst) d ⟨hrm.2.2.2.2.1, hrm.2.2.2.2.2⟩) hS (fun q _ h => hF q h) hF (fun r u t H1 locs1 ht hvm hw hB hz1 hk1 hS1 => ?_)
  obtain ⟨hP1, hK1, hD1⟩ := hB
  rw [ht] at hP1
  exact kk r u hw H1 locs1 ls hP1 (hD1.weaken (fun _ q _ h => hF q.1 h)) hS1 hl
theorem x_cvn {S : Type} (h : xOK l D cx rm X cc nL own Ts) {y : MethodName} {cc2 : ByteArray} {nL2 idx : Nat} {wsC wsC' : List Cond} {rmC : Room} {As : List Value} {b ci : Nat} {fs : List Value} {C : String} {T : u_T} {N : Nat} {wf : S → va_W} {post : S → Prop} {st0 : List Value} (d : decode cc pc = .ok (.invokevirtual idx, 3)) (na : Nat) (hna : As.length = na) (hM : xN l y wsC rmC D cx (.ref b :: As) ws wf post) (hg : GoodIn Ts (wsV own idx C y wsC)) (hw : wsC = .code y cc2 nL2 none :: wsC')
    (hd : y.cls = C ∧ y.cls ≠ "java/lang/invoke/MethodHandle" ∧ y.cls ≠ "java/lang/invoke/VarHandle" ∧ (parseMethodDescriptor y.desc).map (fun d => d.parameters.length) = some na) (hrm : rmC.cells = 0 ∧ rmC.slots = 0 ∧ rmC.frames + 1 ≤ rm.frames ∧ 8 + (nL2 + 11) + rmC.locals ≤ rm.locals ∧ k ≤ rm.cells ∧ n ≤ rm.slots)
    (he : ws[0]? = some (b, .inr (ci, fs))) (hc : vwCl[ci]? = some (C, T, N)) (hst : (st.map fun v => v.category).sum ≤ 8) (hs0 : st0 = As.reverse ++ .ref b :: st) (kk : ∀ (u : S), post u → xV X nL k n (wf u) (pc + 3) lv st) : xV X nL k n ws pc lv st0 := by
  intro H locs ls hP hD hS hl
  obtain ⟨hx, hb, hml, hown, hts, hK, hA, rfl, rfl, rfl, rfl⟩ := h
  subst hs0
  subst hna
  have hF : ∀ q, va_A ws H.size q → X.2.2.2.2.2 q := fun q h => h.elim (fun ⟨k, e, h⟩ => hD.2 k (q, e) h) (fun h => hA q (Nat.le_trans hS.1 h))
  refine va_callv (va_runV (As := As) (rest := st) ⟨hx, hb, hml, hown, hts⟩ (hM H.size) (cwV As.length hts hg hw hrm.1 hrm.2.1 hd ⟨hrm.2.2.1, hrm.2.2.2.1⟩) ⟨xPre_blind, va_recv hK hP hc he, fun U hU hW => ⟨rfl, by rw [hU], by rw [hU]; exact hP, va_K.moved hW.alike hK, hD.weaken (fun _ _ _ _ => trivial)⟩⟩ rfl rfl hl.1 rfl (lv_room hst) d ⟨hrm.2.2.2.2.1, hrm.2.2.2.2.2⟩) hS (fun q _ h => hF q h) hF (fun u t H1 locs1 ht hvm hw hB hz1 hk1 hS1 => ?_)
  obtain ⟨hP1, hK1, hD1⟩ := hB
  rw [ht] at hP1
  exact kk u hw H1 locs1 ls hP1 (hD1.weaken (fun _ q _ h => hF q.1 h)) hS1 hl
/-- a static method that needs no world -/
theorem x_csi {S : Type} (h : xOK l D cx rm X cc nL own Ts) {y : MethodName} {cc2 : ByteArray} {nL2 idx : Nat} {ret : FieldType} {wsC wsC' : List Cond} {rmC : Room} {As : List Value} {wf : S → va_W} {post : Int32 → S → Prop} {st0 : List Value} (d : decode cc pc = .ok (.invokestatic idx, 3)) (na : Nat) (hna : As.length = na) (hM : xI l y wsC rmC D cx As [] wf post) (hg : GoodIn Ts (va_wsS own idx y wsC)) (hw : wsC = .code y cc2 nL2 (some ret) :: wsC')
    (hd : y.cls ≠ "java/lang/invoke/MethodHandle" ∧ y.cls ≠ "java/lang/invoke/VarHandle" ∧ (parseMethodDescriptor y.desc).map (fun d => d.parameters.length) = some na) (hrm : rmC.cells = 0 ∧ rmC.slots = 0 ∧ rmC.frames + 1 ≤ rm.frames ∧ 8 + (nL2 + 11) + rmC.locals ≤ rm.locals ∧ k ≤ rm.cells ∧ n ≤ rm.slots)
    (hst : (st.map fun v => v.category).sum ≤ 8) (hs0 : st0 = As.reverse ++ st) (kk : ∀ (r : Int32) (u : S), post r u → xV X nL k n ws (pc + 3) lv (.int r :: st)) : xV X nL k n ws pc lv st0 := by
  intro H locs ls hP hD hS hl
  obtain ⟨hx, hb, hml, hown, hts, hK, hA, rfl, rfl, rfl, rfl⟩ := h
  subst hs0
  subst hna
  have hF : ∀ q, va_A [] H.size q → X.2.2.2.2.2 q := fun q h => h.elim (fun ⟨k, e, h⟩ => by simp at h) (fun h => hA q (Nat.le_trans hS.1 h))
  refine va_calli (va_runS (As := As) (rest := st) ⟨hx, hb, hml, hown, hts⟩ (hM H.size) (va_cwS As.length hts hg hw hrm.1 hrm.2.1 hd ⟨hrm.2.2.1, hrm.2.2.2.1⟩) ⟨xPre_blind, fun U hU hW => ⟨rfl, by rw [hU], fun k q h => by simp at h, va_K.moved hW.alike hK, ⟨fun i j p q h => by simp at h, fun k q h => by simp at h⟩⟩⟩ rfl rfl hl.1 rfl (lv_room hst) d ⟨hrm.2.2.2.2.1, hrm.2.2.2.2.2⟩) hS (fun q _ h => hF q h) hF (fun r u t H1 locs1 ht hvm hw hB hz1 hk1 hS1 => ?_)
  exact kk r u hw H1 locs1 ls (hP.kept (fun k q hk => hk1 q.1 (hP k q hk).lt (fun h => h.elim (fun ⟨k, e, h⟩ => by simp at h) (fun h => absurd (hP k q hk).lt (Nat.not_lt.mpr h))))) hD hS1 hl
end XCALL
