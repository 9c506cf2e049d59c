/-! constructors: rows of new arrays, final fields, Object.<init>; the first states -/
/-- the first c places of a field: k % 4; 100 -/
def sR (s : xS) (f c : Nat) : xS := fun q => if q = f then (fun j => if j < c then nI (j % 4) else s f j) else s q
def sP (s : xS) (f c : Nat) : xS := fun q => if q = f then (fun j => if j < c then 100 else s f j) else s q
theorem sR_0 (s : xS) (f : Nat) : sR s f 0 = s := by
  funext q j
  unfold sR
  split
  · rename_i h; subst h; simp
  · rfl
theorem sP_0 (s : xS) (f : Nat) : sP s f 0 = s := by
  funext q j
  unfold sP
  split
  · rename_i h; subst h; simp
  · rfl
theorem sR_1 (s : xS) (f c : Nat) : xup (sR s f c) f c (nI (c % 4)) = sR s f (c + 1) := by
  funext q j
  by_cases h : q = f
  · subst h
    rw [xup_s]
    unfold upd
    by_cases hj : j = c
    · subst hj; simp [sR]
    · rw [if_neg hj]
      simp only [sR, if_true]
      by_cases h1 : j < c
      · rw [if_pos h1, if_pos (by omega)]
      · rw [if_neg h1, if_neg (by omega)]
  · rw [xup_n h]
    simp [sR, h]
theorem sP_1 (s : xS) (f c : Nat) : xup (sP s f c) f c 100 = sP s f (c + 1) := by
  funext q j
  by_cases h : q = f
  · subst h
    rw [xup_s]
    unfold upd
    by_cases hj : j = c
    · subst hj; simp [sP]
    · rw [if_neg hj]
      simp only [sP, if_true]
      by_cases h1 : j < c
      · rw [if_pos h1, if_pos (by omega)]
      · rw [if_neg h1, if_neg (by omega)]
  · rw [xup_n h]
    simp [sP, h]
def s0 : xS := fun _ _ => 0
/-- the new class; the new reference -/
def zX0 : xS := sR (sP s0 8 8) 11 16
def zM0 : xS := sP (sR s0 1 16) 2 8
section XNEW
variable {l : Launch} {D : va_G} {cx : xC} {rm : Room} {X : xX} {cc : ByteArray} {nL : Nat} {own : String} {Ts : List Cond} {k n pc : Nat} {ws : va_W} {lv : List (Nat × Value)} {st : List Value}
theorem x_newi (h : xOK l D cx rm X cc nL own Ts) (hc : Cond.arrayClass .int ∈ Ts) {N : Nat} {v : Int32} {ws' : Nat → va_W} (d : decode cc pc = .ok (.newarray .int, 2)) (hv : ¬ v < 0 ∧ v.toNatClampNeg = N ∧ N ≤ 1000) (hR : k + 1 ≤ rm.cells ∧ n + N ≤ rm.slots) (hw : ∀ q, ws ++ [(q, .inl (cx.1, N, .inl (s0 0)))] = ws' q) (kk : ∀ q, xV X nL (k + 1) (n + N) (ws' q) (pc + 2) lv (.ref q :: st)) : xV X nL k n ws pc lv (.int v :: st) := by
  intro H locs ls hP hD hS hl
  obtain ⟨hx, hb, hml, hown, hts, hK, hA, rfl, rfl, rfl, rfl⟩ := h
  refine va_newa (atype := .int) hx hb (hts _ hc) rfl hK hP hD hS hA (a0 := (N, .inl (s0 0))) (fun _ => rfl) hv.1 hv.2.1 (by have := hv.2.2; show N * 4 ≤ _; omega) hR.1 hR.2 d (fun q cA H1 hK1 hP1 hD1 hS1 => ?_)
  have e1 := (hK1.2 3 (cA, .int) rfl).2
  have e2 := (hK1.2 0 (X.2.2.2.2.1.1, .int) rfl).2
  have e : cA = X.2.2.2.2.1.1 := Option.some.inj (Eq.trans (Eq.symm e1) e2)
  subst e
  rw [hw] at hP1 hD1
  exact kk q H1 locs ls hP1 hD1 hS1 hl
theorem x_newz (h : xOK l D cx rm X cc nL own Ts) (hc : Cond.arrayClass .boolean ∈ Ts) {N : Nat} {v : Int32} {ws' : Nat → va_W} (d : decode cc pc = .ok (.newarray .boolean, 2)) (hv : ¬ v < 0 ∧ v.toNatClampNeg = N ∧ N ≤ 1000) (hR : k + 1 ≤ rm.cells ∧ n + N ≤ rm.slots) (hw : ∀ q, ws ++ [(q, .inl (cx.2.1, N, .inl (s0 0)))] = ws' q) (kk : ∀ q, xV X nL (k + 1) (n + N) (ws' q) (pc + 2) lv (.ref q :: st)) : xV X nL k n ws pc lv (.int v :: st) := by
  intro H locs ls hP hD hS hl
  obtain ⟨hx, hb, hml, hown, hts, hK, hA, rfl, rfl, rfl, rfl⟩ := h
  refine va_newa (atype := .boolean) hx hb (hts _ hc) rfl hK hP hD hS hA (a0 := (N, .inl (s0 0))) (fun _ => rfl) hv.1 hv.2.1 (by have := hv.2.2; show N * 1 ≤ _; omega) hR.1 hR.2 d (fun q cA H1 hK1 hP1 hD1 hS1 => ?_)
  have e1 := (hK1.2 3 (cA, .boolean) rfl).2
  have e2 := (hK1.2 1 (X.2.2.2.2.1.2.1, .boolean) rfl).2
  have e : cA = X.2.2.2.2.1.2.1 := Option.some.inj (Eq.trans (Eq.symm e1) e2)
  subst e
  rw [hw] at hP1 hD1
  exact kk q H1 locs ls hP1 hD1 hS1 hl
theorem x_newl (h : xOK l D cx rm X cc nL own Ts) (hc : Cond.arrayClass .long ∈ Ts) {N : Nat} {v : Int32} {ws' : Nat → va_W} (d : decode cc pc = .ok (.newarray .long, 2)) (hv : ¬ v < 0 ∧ v.toNatClampNeg = N ∧ N ≤ 1000) (hR : k + 1 ≤ rm.cells ∧ n + N ≤ rm.slots) (hw : ∀ q, ws ++ [(q, .inl (cx.2.2, N, .inr (.inl (fun _ => 0))))] = ws' q) (kk : ∀ q, xV X nL (k + 1) (n + N) (ws' q) (pc + 2) lv (.ref q :: st)) : xV X nL k n ws pc lv (.int v :: st) := by
  intro H locs ls hP hD hS hl
  obtain ⟨hx, hb, hml, hown, hts, hK, hA, rfl, rfl, rfl, rfl⟩ := h
  refine va_newa (atype := .long) hx hb (hts _ hc) rfl hK hP hD hS hA (a0 := (N, .inr (.inl (fun _ => 0)))) (fun _ => rfl) hv.1 hv.2.1 (by have := hv.2.2; show N * 8 ≤ _; omega) hR.1 hR.2 d (fun q cA H1 hK1 hP1 hD1 hS1 => ?_)
  have e1 := (hK1.2 3 (cA, .long) rfl).2
  have e2 := (hK1.2 2 (X.2.2.2.2.1.2.2, .long) rfl).2
  have e : cA = X.2.2.2.2.1.2.2 := Option.some.inj (Eq.trans (Eq.symm e1) e2)
  subst e
  rw [hw] at hP1 hD1
  exact kk q H1 locs ls hP1 hD1 hS1 hl
theorem x_putr (h : xOK l D cx rm X cc nL own Ts) (hname : X.2.2.1.1.name = "<init>") {index : Nat} {a ci q : Nat} {fs : List Value} {C ref : String} {T : u_T} {N : Nat} {ws' : va_W} (d : decode cc pc = .ok (.putfield index, 3)) (he : ws[0]? = some (a, .inr (ci, fs))) (hc : vwCl[ci]? = some (C, T, N)) (hin : ∀ w ∈ u_ws C T N, w ∈ Ts) (ty0 : Nat → FieldType) (hty : ∀ k, k < N → parseFieldDescriptor (T k).2.2.1 = some (ty0 k)) (hnm : ∀ a, a < N → ∀ b, b < N → a ≠ b → (T a).2.1 ≠ (T b).2.1) (i : Nat) (hi : i < N) (hlink : Cond.fieldLink own index ref (T i).2.1 (T i).2.2.1 ∈ Ts) (href : (T i).1 = ref) (hfin : (T i).2.2.2 = true) (hown2 : (T i).1 = own) (et : FieldType) (hd : ty0 i = .array et) (hlen : i < fs.length) (hw' : ws.set 0 (a, .inr (ci, fs.set i (.ref q))) = ws') (kk : xV X nL k n ws' (pc + 3) lv st) : xV X nL k n ws pc lv (.ref q :: .ref a :: st) := by
  intro H locs ls hP hD hS hl
  obtain ⟨hx, hb, hml, hown, hts, hK, hA, rfl, rfl, rfl, rfl⟩ := h
  refine va_putF (D := X.2.2.2.1) (ci := ci) (v := .ref q) (ty := .array et) (C := C) (T := T) (N := N) hx hb hts hin ty0 hty hnm hown hK hP hD hS 0 he hc i hi (hts _ hlink) (fun _ h9 => by rw [← href]; exact h9) hfin hname hown2 (by rw [hty i hi, hd]) rfl rfl hlen d (fun H1 locs1 hP1 hD1 hS1 => ?_)
  rw [hw'] at hP1 hD1
  exact kk H1 locs1 ls hP1 hD1 hS1 hl
theorem x_obj (h : xOK l D cx rm X cc nL own Ts) {idx a : Nat} (d : decode cc pc = .ok (.invokespecial idx, 3)) (h1 : Cond.methodLink own idx objectInit ∈ Ts) (h2 : Cond.instanceMethod objectInit ∈ Ts) (h3 : Cond.code objectInit ⟨#[0xb1]⟩ 1 none ∈ Ts) (hR : 1 ≤ rm.frames ∧ (st.map fun v => v.category).sum + 12 ≤ rm.locals) (kk : xV X nL k n ws (pc + 3) lv st) : xV X nL k n ws pc lv (.ref a :: st) := by
  intro H locs ls hP hD hS hl
  obtain ⟨hx, hb, hml, hown, hts, hK, hA, rfl, rfl, rfl, rfl⟩ := h
  refine W.objInit hx hb hown (hts _ h1) (hts _ h2) (hts _ h3) rfl (by rw [hml]; exact hl.1) rfl d hR.1 (by have := hR.2; show 2 * 0 + _ + 12 ≤ _; omega) ?_
  exact kk H locs ls hP hD hS hl
end XNEW
def xCt {S : Type} (l : Launch) (y : MethodName) (wsC : List Cond) (rm : Room) (D : va_G) (cx : xC) (av : List Value) (W0 : va_W) (wf : S → va_W) (post : S → Prop) : Prop :=
  ∀ sz : Nat, Met l y wsC rm (va_Pc av (xPre D cx W0 sz)) (va_Qv post (xAt D cx (va_A W0 sz) wf) (va_A W0 sz)) rm.cells rm.slots (va_A W0 sz)
theorem x_enterC {S : Type} {l : Launch} {y : MethodName} {wsC wsC' : List Cond} {rm : Room} {D : va_G} {cx : xC} {av : List Value} {W0 : va_W} {wf : S → va_W} {post : S → Prop} {cc : ByteArray} {nL : Nat} {own : String} (hy : plainName y.cls = true) (hw : wsC = .code y cc nL none :: wsC') (hcls : y.cls = own) (hn : y.name = "<init>") (hlen : (lg_sl av).length ≤ nL)
    (body : ∀ X : xX, xOK l D cx rm X cc nL own wsC → X.2.2.1.1.name = "<init>" → (∀ (u : S) (pc : Nat) (lv : List (Nat × Value)), post u → decode cc pc = .ok (.return_, 1) → xV X nL rm.cells rm.slots (wf u) pc lv []) → xV X nL 0 0 W0 0 (lv_args 0 av) []) : xCt l y wsC rm D cx av W0 wf post := by
  intro sz
  refine Met.ofW (cc := cc) (maxL := nL) (ret := none) hy hw ?_
  intro p e s m args below meth c s₁ B hml hv
  obtain ⟨rfl, hsz, hP, hK, hD0⟩ := hv
  subst hsz
  have hx := B.exec
  have hb := B.bytes
  have hr := B.returns
  have hts := atoms_spec (ws := wsC) B.pre
  have hown : s.vm.findClass own = some m.cls := hcls ▸ findClass_of_methodNamed B.named
  have hlocks := B.notSynchronized
  have hin : meth.name = "<init>" := (name_of_methodNamed B.named B.method).1.trans hn
  have hD : va_D (va_A W0 s.heap.size) W0 := hD0.self
  have hl := lv_entry av (n := nL) hlen
  rw [lg_entry_eq]
  refine body ((p, l, e, (headSpec wsC rm).room), (s, m, av.toArray, below), (meth, c, MQ below (va_Qv post (xAt D cx (va_A W0 s.heap.size) wf) (va_A W0 s.heap.size)) av.toArray s rm.cells rm.slots (va_A W0 s.heap.size)), (D, cx, va_A W0 s.heap.size)) ⟨hx, hb, hml, hown, hts, hK, fun q h => Or.inr h, rfl, rfl, rfl, rfl⟩ hin ?_ s.heap [] _ hP hD va_S.rf hl
  intro u pc lv hp hd H locs ls hP hD hS hl
  exact W.vret hx hb hr (fun t ht hW => ⟨⟨u, rfl, hp, by rw [ht]; exact hP, va_K.moved hW.alike hK, hD⟩, hS.F ht⟩) hS.2.2 hd hlocks
