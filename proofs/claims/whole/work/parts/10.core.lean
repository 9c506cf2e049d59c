/-! the judgement of a frame over a world of cells (xV), its rows, contracts (xI, xN, xT), calls -/
abbrev xS : Type := Nat → Nat → Int32
abbrev xC : Type := ClassId × ClassId × ClassId
abbrev xTy (c : xC) : List (ClassId × FieldType) := [(c.1, .int), (c.2.1, .boolean), (c.2.2, .long)]
/-- a frame's standing: program and room; start; code and goal; tables and what may be written -/
abbrev xX : Type := (Program × Launch × Env × Room) × (State × MethodId × Array Value × List Frame) × (Method × Code × (State → Prop)) × (va_G × xC × (Nat → Prop))
def xW (X : xX) (H : Heap) (locs : List Loc) (k n : Nat) (pc : Nat) (ls : Array Slot) (st : List Value) : Prop :=
  W X.1.1 X.1.2.1 X.1.2.2.1 X.1.2.2.2 X.2.1.1 X.2.1.2.1 X.2.1.2.2.1 X.2.1.2.2.2 X.2.2.1.1 X.2.2.1.2.1 H locs k n X.2.2.1.2.2 (F0 X.2.1.2.1 pc ls st)
def xV (X : xX) (nL k n : Nat) (ws : va_W) (pc : Nat) (lv : List (Nat × Value)) (st : List Value) : Prop :=
  ∀ (H : Heap) (locs : List Loc) (ls : Array Slot), va_P X.2.2.2.1 vwCl ws H → va_D X.2.2.2.2.2 ws → va_S X.2.2.2.2.2 X.2.1.1.heap H locs → lv_has ls nL lv → xW X H locs k n pc ls st
def xOK (l : Launch) (D : va_G) (cx : xC) (rm : Room) (X : xX) (cc : ByteArray) (nL : Nat) (own : String) (Ts : List Cond) : Prop :=
  X.1.1.tables.exec = Jvm.exec ∧ X.2.2.1.2.1.code = cc ∧ X.2.2.1.2.1.maxLocals = nL ∧ X.2.1.1.vm.findClass own = some X.2.1.2.1.cls ∧ (∀ w ∈ Ts, w.before X.2.1.2.2.1 X.2.1.1 = true) ∧ va_K D vwCl (xTy cx) X.2.1.1 ∧ (∀ q, X.2.1.1.heap.size ≤ q → X.2.2.2.2.2 q) ∧ X.1.2.1 = l ∧ X.2.2.2.1 = D ∧ X.2.2.2.2.1 = cx ∧ X.1.2.2.2 = rm
/-- locals: one set -/
def xset : List (Nat × Value) → Nat → Value → List (Nat × Value)
  | [], i, v => [(i, v)]
  | q :: l, i, v => if q.1 = i then (i, v) :: l else q :: xset l i v
def xchk : List (Nat × Value) → Bool
  | [] => true
  | q :: l => (q.2.category == 1) && !(l.any (fun r => r.1 == q.1)) && xchk l
theorem xchk_cat : ∀ {l : List (Nat × Value)}, xchk l = true → ∀ q ∈ l, q.2.category = 1
  | [], _, q, h => absurd h List.not_mem_nil
  | r :: l, hn, q, h => by
    simp only [xchk, Bool.and_eq_true, Bool.not_eq_true', beq_iff_eq] at hn
    rcases List.mem_cons.mp h with h | h
    · rw [h]; exact hn.1.1
    · exact xchk_cat hn.2 q h
theorem xset_mem {i : Nat} {v : Value} : ∀ {l : List (Nat × Value)}, xchk l = true → ∀ q ∈ xset l i v, q = (i, v) ∨ (q ∈ l ∧ q.1 ≠ i)
  | [], _, q, h => Or.inl (List.mem_singleton.mp h)
  | r :: l, hn, q, h => by
    simp only [xchk, Bool.and_eq_true, Bool.not_eq_true', beq_iff_eq] at hn
    obtain ⟨⟨hc, ha⟩, hn⟩ := hn
    have ha : ∀ z ∈ l, z.1 ≠ r.1 := fun z hz e => by
      have := List.any_eq_false.mp ha z hz
      simp [e] at this
    unfold xset at h
    split at h
    · rename_i hr
      rcases List.mem_cons.mp h with h | h
      · exact Or.inl h
      · exact Or.inr ⟨List.mem_cons_of_mem _ h, fun e => ha q h (e.trans hr.symm)⟩
    · rename_i hr
      rcases List.mem_cons.mp h with h | h
      · subst h
        exact Or.inr ⟨List.mem_cons_self, hr⟩
      · rcases xset_mem hn q h with h | ⟨h, h2⟩
        · exact Or.inl h
        · exact Or.inr ⟨List.mem_cons_of_mem _ h, h2⟩
/-- stored: the kit's list of what is held gives this one -/
theorem xset_has {ls : Array Slot} {nL i : Nat} {v : Value} {lv : List (Nat × Value)} (hc : xchk lv = true) (h : lv_has ls nL ((i, v) :: lv.filter (fun q => !(q.1 == i) && !(q.1 + 1 == i && q.2.category == 2)))) : lv_has ls nL (xset lv i v) := by
  refine ⟨h.1, h.2.1, fun q hq => h.2.2 q ?_⟩
  rcases xset_mem hc q hq with e | ⟨h1, h2⟩
  · rw [e]; exact List.mem_cons_self
  · refine List.mem_cons_of_mem _ (List.mem_filter.mpr ⟨h1, ?_⟩)
    simp [h2, xchk_cat hc q h1]
theorem xV_use {X : xX} {nL k n : Nat} {ws : va_W} {pc : Nat} {lv : List (Nat × Value)} {st : List Value} (h : xV X nL k n ws pc lv st) {H : Heap} {locs : List Loc} {ls : Array Slot} (hP : va_P X.2.2.2.1 vwCl ws H) (hD : va_D X.2.2.2.2.2 ws) (hS : va_S X.2.2.2.2.2 X.2.1.1.heap H locs) (hl : lv_has ls nL lv) : xW X H locs k n pc ls st := h H locs ls hP hD hS hl
section XROWS
variable {l : Launch} {D : va_G} {cx : xC} {rm : Room} {X : xX} {cc : ByteArray} {nL : Nat} {own : String} {Ts : List Cond} {k n pc : Nat} {ws : va_W} {lv : List (Nat × Value)} {st : List Value}
theorem x_iconst (h : xOK l D cx rm X cc nL own Ts) {z : Int} (d : decode cc pc = .ok (.iconst z, 1)) (kk : xV X nL k n ws (pc + 1) lv (.int (Int32.ofInt z) :: st)) : xV X nL k n ws pc lv (st) :=
  fun H locs ls hP hD hS hl => lv_iconst h.1 h.2.1 d rfl (kk H locs ls hP hD hS hl)
theorem x_bipush (h : xOK l D cx rm X cc nL own Ts) {z : Int} (d : decode cc pc = .ok (.bipush z, 2)) (kk : xV X nL k n ws (pc + 2) lv (.int ((Int8.ofInt z).toInt32) :: st)) : xV X nL k n ws pc lv (st) :=
  fun H locs ls hP hD hS hl => lv_bipush h.1 h.2.1 d rfl (kk H locs ls hP hD hS hl)
theorem x_iconstv (h : xOK l D cx rm X cc nL own Ts) {z : Int} (d : decode cc pc = .ok (.iconst z, 1)) (v : Int32) (hv : Int32.ofInt z = v) (kk : xV X nL k n ws (pc + 1) lv (.int v :: st)) : xV X nL k n ws pc lv (st) :=
  fun H locs ls hP hD hS hl => lv_iconst h.1 h.2.1 d hv (kk H locs ls hP hD hS hl)
theorem x_bipushv (h : xOK l D cx rm X cc nL own Ts) {z : Int} (d : decode cc pc = .ok (.bipush z, 2)) (v : Int32) (hv : (Int8.ofInt z).toInt32 = v) (kk : xV X nL k n ws (pc + 2) lv (.int v :: st)) : xV X nL k n ws pc lv (st) :=
  fun H locs ls hP hD hS hl => lv_bipush h.1 h.2.1 d hv (kk H locs ls hP hD hS hl)
theorem x_iload_n (h : xOK l D cx rm X cc nL own Ts) {q : Fin 4} {x : Int32} (d : decode cc pc = .ok (.iload_n q, 1)) (j : Nat) (hj : lv[j]? = some ((q : Nat), .int x)) (kk : xV X nL k n ws (pc + 1) lv (.int x :: st)) : xV X nL k n ws pc lv st :=
  fun H locs ls hP hD hS hl => lv_iload_n h.1 h.2.1 d rfl (lv_at hl j hj) (kk H locs ls hP hD hS hl)
theorem x_iload (h : xOK l D cx rm X cc nL own Ts) {q : Nat} {x : Int32} (d : decode cc pc = .ok (.iload q, 2)) (j : Nat) (hj : lv[j]? = some (q, .int x)) (kk : xV X nL k n ws (pc + 2) lv (.int x :: st)) : xV X nL k n ws pc lv st :=
  fun H locs ls hP hD hS hl => lv_iload h.1 h.2.1 d (lv_at hl j hj) (kk H locs ls hP hD hS hl)
theorem x_istore_n (h : xOK l D cx rm X cc nL own Ts) {q : Fin 4} {x : Int32} {lv' : List (Nat × Value)} (d : decode cc pc = .ok (.istore_n q, 1)) (i : Nat) (hi : (q : Nat) = i) (hn : i < nL) (hc : xchk lv = true) (hl' : xset lv i (.int x) = lv') (kk : xV X nL k n ws (pc + 1) lv' st) : xV X nL k n ws pc lv (.int x :: st) :=
  fun H locs ls hP hD hS hl => lv_istore_n h.1 h.2.1 d hi hl hn rfl (fun ls' hl2 => kk H locs ls' hP hD hS (hl' ▸ xset_has hc hl2))
theorem x_istore (h : xOK l D cx rm X cc nL own Ts) {q : Nat} {x : Int32} {lv' : List (Nat × Value)} (d : decode cc pc = .ok (.istore q, 2)) (hn : q < nL) (hc : xchk lv = true) (hl' : xset lv q (.int x) = lv') (kk : xV X nL k n ws (pc + 2) lv' st) : xV X nL k n ws pc lv (.int x :: st) :=
  fun H locs ls hP hD hS hl => lv_istore h.1 h.2.1 d hl hn rfl (fun ls' hl2 => kk H locs ls' hP hD hS (hl' ▸ xset_has hc hl2))
theorem x_aload_n (h : xOK l D cx rm X cc nL own Ts) {q : Fin 4} {x : Nat} (d : decode cc pc = .ok (.aload_n q, 1)) (j : Nat) (hj : lv[j]? = some ((q : Nat), .ref x)) (kk : xV X nL k n ws (pc + 1) lv (.ref x :: st)) : xV X nL k n ws pc lv st :=
  fun H locs ls hP hD hS hl => lv_aload_n h.1 h.2.1 d rfl (lv_at hl j hj) (kk H locs ls hP hD hS hl)
theorem x_aload (h : xOK l D cx rm X cc nL own Ts) {q : Nat} {x : Nat} (d : decode cc pc = .ok (.aload q, 2)) (j : Nat) (hj : lv[j]? = some (q, .ref x)) (kk : xV X nL k n ws (pc + 2) lv (.ref x :: st)) : xV X nL k n ws pc lv st :=
  fun H locs ls hP hD hS hl => lv_aload h.1 h.2.1 d (lv_at hl j hj) (kk H locs ls hP hD hS hl)
theorem x_astore_n (h : xOK l D cx rm X cc nL own Ts) {q : Fin 4} {x : Nat} {lv' : List (Nat × Value)} (d : decode cc pc = .ok (.astore_n q, 1)) (i : Nat) (hi : (q : Nat) = i) (hn : i < nL) (hc : xchk lv = true) (hl' : xset lv i (.ref x) = lv') (kk : xV X nL k n ws (pc + 1) lv' st) : xV X nL k n ws pc lv (.ref x :: st) :=
  fun H locs ls hP hD hS hl => lv_astore_n h.1 h.2.1 d hi hl hn rfl (fun ls' hl2 => kk H locs ls' hP hD hS (hl' ▸ xset_has hc hl2))
theorem x_astore (h : xOK l D cx rm X cc nL own Ts) {q : Nat} {x : Nat} {lv' : List (Nat × Value)} (d : decode cc pc = .ok (.astore q, 2)) (hn : q < nL) (hc : xchk lv = true) (hl' : xset lv q (.ref x) = lv') (kk : xV X nL k n ws (pc + 2) lv' st) : xV X nL k n ws pc lv (.ref x :: st) :=
  fun H locs ls hP hD hS hl => lv_astore h.1 h.2.1 d hl hn rfl (fun ls' hl2 => kk H locs ls' hP hD hS (hl' ▸ xset_has hc hl2))
theorem x_iinc (h : xOK l D cx rm X cc nL own Ts) {q : Nat} {z : Int} {x v : Int32} {lv' : List (Nat × Value)} (d : decode cc pc = .ok (.iinc q z, 3)) (j : Nat) (hj : lv[j]? = some (q, .int x)) (hv : x + Int32.ofInt z = v) (hn : q < nL) (hc : xchk lv = true) (hl' : xset lv q (.int v) = lv') (kk : xV X nL k n ws (pc + 3) lv' st) : xV X nL k n ws pc lv st :=
  fun H locs ls hP hD hS hl => lv_iinc h.1 h.2.1 d hl hj hv hn rfl (fun ls' hl2 => kk H locs ls' hP hD hS (hl' ▸ xset_has hc hl2))
theorem x_iadd (h : xOK l D cx rm X cc nL own Ts) {x y : Int32} (d : decode cc pc = .ok (.iadd, 1)) (kk : xV X nL k n ws (pc + 1) lv (.int (x + y) :: st)) : xV X nL k n ws pc lv (.int y :: .int x :: st) :=
  fun H locs ls hP hD hS hl => lv_iadd h.1 h.2.1 d (kk H locs ls hP hD hS hl)
theorem x_isub (h : xOK l D cx rm X cc nL own Ts) {x y : Int32} (d : decode cc pc = .ok (.isub, 1)) (kk : xV X nL k n ws (pc + 1) lv (.int (x - y) :: st)) : xV X nL k n ws pc lv (.int y :: .int x :: st) :=
  fun H locs ls hP hD hS hl => lv_isub h.1 h.2.1 d (kk H locs ls hP hD hS hl)
theorem x_imul (h : xOK l D cx rm X cc nL own Ts) {x y : Int32} (d : decode cc pc = .ok (.imul, 1)) (kk : xV X nL k n ws (pc + 1) lv (.int (x * y) :: st)) : xV X nL k n ws pc lv (.int y :: .int x :: st) :=
  fun H locs ls hP hD hS hl => lv_imul h.1 h.2.1 d (kk H locs ls hP hD hS hl)
theorem x_iand (h : xOK l D cx rm X cc nL own Ts) {x y : Int32} (d : decode cc pc = .ok (.iand, 1)) (kk : xV X nL k n ws (pc + 1) lv (.int (x &&& y) :: st)) : xV X nL k n ws pc lv (.int y :: .int x :: st) :=
  fun H locs ls hP hD hS hl => lv_iand h.1 h.2.1 d (kk H locs ls hP hD hS hl)
theorem x_ior (h : xOK l D cx rm X cc nL own Ts) {x y : Int32} (d : decode cc pc = .ok (.ior, 1)) (kk : xV X nL k n ws (pc + 1) lv (.int (x ||| y) :: st)) : xV X nL k n ws pc lv (.int y :: .int x :: st) :=
  fun H locs ls hP hD hS hl => lv_ior h.1 h.2.1 d (kk H locs ls hP hD hS hl)
theorem x_ishl (h : xOK l D cx rm X cc nL own Ts) {x y : Int32} (d : decode cc pc = .ok (.ishl, 1)) (kk : xV X nL k n ws (pc + 1) lv (.int (x <<< (y &&& 31)) :: st)) : xV X nL k n ws pc lv (.int y :: .int x :: st) :=
  fun H locs ls hP hD hS hl => lv_ishl h.1 h.2.1 d (kk H locs ls hP hD hS hl)
theorem x_ishr (h : xOK l D cx rm X cc nL own Ts) {x y : Int32} (d : decode cc pc = .ok (.ishr, 1)) (kk : xV X nL k n ws (pc + 1) lv (.int (x >>> (y &&& 31)) :: st)) : xV X nL k n ws pc lv (.int y :: .int x :: st) :=
  fun H locs ls hP hD hS hl => lv_ishr h.1 h.2.1 d (kk H locs ls hP hD hS hl)
theorem x_irem (h : xOK l D cx rm X cc nL own Ts) {x y : Int32} (d : decode cc pc = .ok (.irem, 1)) (hy : ¬ y = 0) (kk : xV X nL k n ws (pc + 1) lv (.int (x - x / y * y) :: st)) : xV X nL k n ws pc lv (.int y :: .int x :: st) :=
  fun H locs ls hP hD hS hl => lv_irem h.1 h.2.1 d hy (kk H locs ls hP hD hS hl)
theorem x_ineg (h : xOK l D cx rm X cc nL own Ts) {x : Int32} (d : decode cc pc = .ok (.ineg, 1)) (kk : xV X nL k n ws (pc + 1) lv (.int (-x) :: st)) : xV X nL k n ws pc lv (.int x :: st) :=
  fun H locs ls hP hD hS hl => lv_ineg h.1 h.2.1 d (kk H locs ls hP hD hS hl)
theorem x_iushr (h : xOK l D cx rm X cc nL own Ts) {x y : Int32} (d : decode cc pc = .ok (.iushr, 1)) (kk : xV X nL k n ws (pc + 1) lv (.int ((x.toUInt32 >>> (y.toUInt32 &&& Int32.toUInt32 31)).toInt32) :: st)) : xV X nL k n ws pc lv (.int y :: .int x :: st) :=
  fun H locs ls hP hD hS hl => lv_iushr h.1 h.2.1 d rfl (kk H locs ls hP hD hS hl)
theorem x_i2l (h : xOK l D cx rm X cc nL own Ts) {x : Int32} (d : decode cc pc = .ok (.i2l, 1)) (kk : xV X nL k n ws (pc + 1) lv (.long x.toInt64 :: st)) : xV X nL k n ws pc lv (.int x :: st) :=
  fun H locs ls hP hD hS hl => lv_i2l h.1 h.2.1 d rfl (kk H locs ls hP hD hS hl)
theorem x_lcmp (h : xOK l D cx rm X cc nL own Ts) {x y : Int64} (d : decode cc pc = .ok (.lcmp, 1)) (kk : xV X nL k n ws (pc + 1) lv (.int (lg_cmp x y) :: st)) : xV X nL k n ws pc lv (.long y :: .long x :: st) :=
  fun H locs ls hP hD hS hl => W.lcmp h.1 h.2.1 d (kk H locs ls hP hD hS hl)
theorem x_dup (h : xOK l D cx rm X cc nL own Ts) {va : Value} (d : decode cc pc = .ok (.dup, 1)) (hva : va.category = 1) (kk : xV X nL k n ws (pc + 1) lv (va :: va :: st)) : xV X nL k n ws pc lv (va :: st) :=
  fun H locs ls hP hD hS hl => lv_dup h.1 h.2.1 d hva (kk H locs ls hP hD hS hl)
theorem x_dup2 (h : xOK l D cx rm X cc nL own Ts) {va vb : Value} (d : decode cc pc = .ok (.dup2, 1)) (hva : va.category = 1) (hvb : vb.category = 1) (kk : xV X nL k n ws (pc + 1) lv (va :: vb :: va :: vb :: st)) : xV X nL k n ws pc lv (va :: vb :: st) :=
  fun H locs ls hP hD hS hl => lv_dup2_11 h.1 h.2.1 d hva hvb (kk H locs ls hP hD hS hl)
theorem x_pop (h : xOK l D cx rm X cc nL own Ts) {va : Value} (d : decode cc pc = .ok (.pop, 1)) (hva : va.category = 1) (kk : xV X nL k n ws (pc + 1) lv (st)) : xV X nL k n ws pc lv (va :: st) :=
  fun H locs ls hP hD hS hl => lv_pop h.1 h.2.1 d hva (kk H locs ls hP hD hS hl)
theorem x_goto (h : xOK l D cx rm X cc nL own Ts) {off : Int} (tgt : Nat) (d : decode cc pc = .ok (.goto off, 3)) (ht : (pc : Int) + off = (tgt : Int)) (kk : xV X nL k n ws tgt lv (st)) : xV X nL k n ws pc lv (st) :=
  fun H locs ls hP hD hS hl => lv_goto h.1 h.2.1 d ht (kk H locs ls hP hD hS hl)
theorem x_if_eq (h : xOK l D cx rm X cc nL own Ts) {x : Int32} {off : Int} (tgt : Nat) (d : decode cc pc = .ok (.ifCond .eq off, 3)) (ht : (pc : Int) + off = (tgt : Int)) (kt : x = 0 → xV X nL k n ws tgt lv st) (kf : ¬ x = 0 → xV X nL k n ws (pc + 3) lv st) : xV X nL k n ws pc lv (.int x :: st) :=
  fun H locs ls hP hD hS hl => lv_if_eq h.1 h.2.1 d ht (fun c => kt c H locs ls hP hD hS hl) (fun c => kf c H locs ls hP hD hS hl)
theorem x_if_ne (h : xOK l D cx rm X cc nL own Ts) {x : Int32} {off : Int} (tgt : Nat) (d : decode cc pc = .ok (.ifCond .ne off, 3)) (ht : (pc : Int) + off = (tgt : Int)) (kt : ¬ x = 0 → xV X nL k n ws tgt lv st) (kf : x = 0 → xV X nL k n ws (pc + 3) lv st) : xV X nL k n ws pc lv (.int x :: st) :=
  fun H locs ls hP hD hS hl => lv_if_ne h.1 h.2.1 d ht (fun c => kt c H locs ls hP hD hS hl) (fun c => kf c H locs ls hP hD hS hl)
theorem x_if_lt (h : xOK l D cx rm X cc nL own Ts) {x : Int32} {off : Int} (tgt : Nat) (d : decode cc pc = .ok (.ifCond .lt off, 3)) (ht : (pc : Int) + off = (tgt : Int)) (kt : x < 0 → xV X nL k n ws tgt lv st) (kf : ¬ x < 0 → xV X nL k n ws (pc + 3) lv st) : xV X nL k n ws pc lv (.int x :: st) :=
  fun H locs ls hP hD hS hl => lv_if_lt h.1 h.2.1 d ht (fun c => kt c H locs ls hP hD hS hl) (fun c => kf c H locs ls hP hD hS hl)
theorem x_if_ge (h : xOK l D cx rm X cc nL own Ts) {x : Int32} {off : Int} (tgt : Nat) (d : decode cc pc = .ok (.ifCond .ge off, 3)) (ht : (pc : Int) + off = (tgt : Int)) (kt : 0 ≤ x → xV X nL k n ws tgt lv st) (kf : ¬ 0 ≤ x → xV X nL k n ws (pc + 3) lv st) : xV X nL k n ws pc lv (.int x :: st) :=
  fun H locs ls hP hD hS hl => lv_if_ge h.1 h.2.1 d ht (fun c => kt c H locs ls hP hD hS hl) (fun c => kf c H locs ls hP hD hS hl)
theorem x_icmp_eq (h : xOK l D cx rm X cc nL own Ts) {x y : Int32} {off : Int} (tgt : Nat) (d : decode cc pc = .ok (.if_icmp .eq off, 3)) (ht : (pc : Int) + off = (tgt : Int)) (kt : x = y → xV X nL k n ws tgt lv st) (kf : ¬ x = y → xV X nL k n ws (pc + 3) lv st) : xV X nL k n ws pc lv (.int y :: .int x :: st) :=
  fun H locs ls hP hD hS hl => lv_icmp_eq h.1 h.2.1 d ht (fun c => kt c H locs ls hP hD hS hl) (fun c => kf c H locs ls hP hD hS hl)
theorem x_icmp_ne (h : xOK l D cx rm X cc nL own Ts) {x y : Int32} {off : Int} (tgt : Nat) (d : decode cc pc = .ok (.if_icmp .ne off, 3)) (ht : (pc : Int) + off = (tgt : Int)) (kt : ¬ x = y → xV X nL k n ws tgt lv st) (kf : x = y → xV X nL k n ws (pc + 3) lv st) : xV X nL k n ws pc lv (.int y :: .int x :: st) :=
  fun H locs ls hP hD hS hl => lv_icmp_ne h.1 h.2.1 d ht (fun c => kt c H locs ls hP hD hS hl) (fun c => kf c H locs ls hP hD hS hl)
theorem x_icmp_lt (h : xOK l D cx rm X cc nL own Ts) {x y : Int32} {off : Int} (tgt : Nat) (d : decode cc pc = .ok (.if_icmp .lt off, 3)) (ht : (pc : Int) + off = (tgt : Int)) (kt : x < y → xV X nL k n ws tgt lv st) (kf : ¬ x < y → xV X nL k n ws (pc + 3) lv st) : xV X nL k n ws pc lv (.int y :: .int x :: st) :=
  fun H locs ls hP hD hS hl => lv_icmp_lt h.1 h.2.1 d ht (fun c => kt c H locs ls hP hD hS hl) (fun c => kf c H locs ls hP hD hS hl)
theorem x_icmp_ge (h : xOK l D cx rm X cc nL own Ts) {x y : Int32} {off : Int} (tgt : Nat) (d : decode cc pc = .ok (.if_icmp .ge off, 3)) (ht : (pc : Int) + off = (tgt : Int)) (kt : y ≤ x → xV X nL k n ws tgt lv st) (kf : ¬ y ≤ x → xV X nL k n ws (pc + 3) lv st) : xV X nL k n ws pc lv (.int y :: .int x :: st) :=
  fun H locs ls hP hD hS hl => lv_icmp_ge h.1 h.2.1 d ht (fun c => kt c H locs ls hP hD hS hl) (fun c => kf c H locs ls hP hD hS hl)
theorem x_icmp_gt (h : xOK l D cx rm X cc nL own Ts) {x y : Int32} {off : Int} (tgt : Nat) (d : decode cc pc = .ok (.if_icmp .gt off, 3)) (ht : (pc : Int) + off = (tgt : Int)) (kt : y < x → xV X nL k n ws tgt lv st) (kf : ¬ y < x → xV X nL k n ws (pc + 3) lv st) : xV X nL k n ws pc lv (.int y :: .int x :: st) :=
  fun H locs ls hP hD hS hl => lv_icmp_gt h.1 h.2.1 d ht (fun c => kt c H locs ls hP hD hS hl) (fun c => kf c H locs ls hP hD hS hl)
theorem x_icmp_le (h : xOK l D cx rm X cc nL own Ts) {x y : Int32} {off : Int} (tgt : Nat) (d : decode cc pc = .ok (.if_icmp .le off, 3)) (ht : (pc : Int) + off = (tgt : Int)) (kt : x ≤ y → xV X nL k n ws tgt lv st) (kf : ¬ x ≤ y → xV X nL k n ws (pc + 3) lv st) : xV X nL k n ws pc lv (.int y :: .int x :: st) :=
  fun H locs ls hP hD hS hl => lv_icmp_le h.1 h.2.1 d ht (fun c => kt c H locs ls hP hD hS hl) (fun c => kf c H locs ls hP hD hS hl)
theorem x_ldc (h : xOK l D cx rm X cc nL own Ts) {index : Nat} {v : Int32} (d : decode cc pc = .ok (.ldc index, 2)) (hc : Jvm.Cond.constant own index v ∈ Ts) (kk : xV X nL k n ws (pc + 2) lv (.int v :: st)) : xV X nL k n ws pc lv st :=
  fun H locs ls hP hD hS hl => lv_ldc h.1 h.2.1 h.2.2.2.1 (h.2.2.2.2.1 _ hc) d (kk H locs ls hP hD hS hl)
theorem x_ldcw (h : xOK l D cx rm X cc nL own Ts) {index : Nat} {v : Int32} (d : decode cc pc = .ok (.ldc_w index, 3)) (hc : Jvm.Cond.constant own index v ∈ Ts) (kk : xV X nL k n ws (pc + 3) lv (.int v :: st)) : xV X nL k n ws pc lv st :=
  fun H locs ls hP hD hS hl => lv_ldcw h.1 h.2.1 h.2.2.2.1 (h.2.2.2.2.1 _ hc) d (kk H locs ls hP hD hS hl)
theorem x_lv {lv' : List (Nat × Value)} (ks : List Nat) (hl' : lv_pick lv ks = lv') (kk : xV X nL k n ws pc lv' st) : xV X nL k n ws pc lv st :=
  fun H locs ls hP hD hS hl => kk H locs ls hP hD hS (lv_sub hl ks hl')
theorem x_as {ws' : va_W} {lv' : List (Nat × Value)} (e1 : ws = ws') (e2 : lv = lv') (kk : xV X nL k n ws' pc lv' st) : xV X nL k n ws pc lv st := e1 ▸ e2 ▸ kk
theorem x_asr {ws' : va_W} {st' : List Value} (e1 : ws = ws') (e2 : st = st') (kk : xV X nL k n ws' pc lv st') : xV X nL k n ws pc lv st := e1 ▸ e2 ▸ kk
theorem x_eq {ws' : va_W} (e : ws = ws') (kk : xV X nL k n ws' pc lv st) : xV X nL k n ws pc lv st := e ▸ kk
theorem x_widen {k' n' : Nat} (hk : k ≤ k') (hn : n ≤ n') (kk : xV X nL k' n' ws pc lv st) : xV X nL k n ws pc lv st :=
  fun H locs ls hP hD hS hl => W.widen hk hn (kk H locs ls hP hD hS hl)
theorem x_get (h : xOK l D cx rm X cc nL own Ts) {index : Nat} {a ci : Nat} {fs : List Value} {C ref : String} {T : u_T} {N : Nat} {v : Value} (d : decode cc pc = .ok (.getfield index, 3)) (he : ws[0]? = some (a, .inr (ci, fs))) (hc : vwCl[ci]? = some (C, T, N)) (hin : ∀ w ∈ u_ws C T N, w ∈ Ts) (i : Nat) (hi : i < N) (hlink : Cond.fieldLink own index ref (T i).2.1 (T i).2.2.1 ∈ Ts) (href : (T i).1 = ref) (hv : fs[i]? = some v) (kk : xV X nL k n ws (pc + 3) lv (v :: st)) : xV X nL k n ws pc lv (.ref a :: st) := by
  intro H locs ls hP hD hS hl
  obtain ⟨hx, hb, hml, hown, hts, hK, hA, rfl, rfl, rfl, rfl⟩ := h
  exact va_get (D := X.2.2.2.1) (ci := ci) (v := v) (C := C) (T := T) (N := N) hx hb hts hin hown hK hP 0 he hc i hi (hts _ hlink) (fun _ h9 => by rw [← href]; exact h9) hv d (kk H locs ls hP hD hS hl)
theorem x_put (h : xOK l D cx rm X cc nL own Ts) {index : Nat} {a ci : Nat} {fs : List Value} {C ref : String} {T : u_T} {N : Nat} {x : Int32} {ws' : va_W} (d : decode cc pc = .ok (.putfield index, 3)) (he : ws[0]? = some (a, .inr (ci, fs))) (hc : vwCl[ci]? = some (C, T, N)) (hin : ∀ w ∈ u_ws C T N, w ∈ Ts) (ty0 : Nat → FieldType) (hty : ∀ k, k < N → parseFieldDescriptor (T k).2.2.1 = some (ty0 k)) (hnm : ∀ a, a < N → ∀ b, b < N → a ≠ b → (T a).2.1 ≠ (T b).2.1) (i : Nat) (hi : i < N) (hlink : Cond.fieldLink own index ref (T i).2.1 (T i).2.2.1 ∈ Ts) (href : (T i).1 = ref) (hfin : (T i).2.2.2 = false) (hd : ty0 i = .int) (hlen : i < fs.length) (hw' : ws.set 0 (a, .inr (ci, fs.set i (.int x))) = ws') (kk : xV X nL k n ws' (pc + 3) lv st) : xV X nL k n ws pc lv (.int x :: .ref a :: st) := by
  intro H locs ls hP hD hS hl
  obtain ⟨hx, hb, hml, hown, hts, hK, hA, rfl, rfl, rfl, rfl⟩ := h
  refine va_put (D := X.2.2.2.1) (ci := ci) (v := .int x) (ty := .int) (C := C) (T := T) (N := N) hx hb hts hin ty0 hty hnm hown hK hP hD hS 0 he hc i hi (hts _ hlink) (fun _ h9 => by rw [← href]; exact h9) hfin (by rw [hty i hi, hd]) rfl rfl hlen d (fun H1 locs1 hP1 hD1 hS1 => ?_)
  rw [hw'] at hP1 hD1
  exact kk H1 locs1 ls hP1 hD1 hS1 hl
theorem x_iald (h : xOK l D cx rm X cc nL own Ts) {a N : Nat} {f : Nat → Int32} {i : Int32} (d : decode cc pc = .ok (.iaload, 1)) (q0 : Nat) (ha : ws[q0]? = some (a, .inl (cx.1, N, .inl f))) (hin : vp_in i N) (kk : xV X nL k n ws (pc + 1) lv (.int (f i.toNatClampNeg) :: st)) : xV X nL k n ws pc lv (.int i :: .ref a :: st) := by
  intro H locs ls hP hD hS hl
  obtain ⟨hx, hb, hml, hown, hts, hK, hA, rfl, rfl, rfl, rfl⟩ := h
  exact va_iald hx hb hK hP q0 0 ha rfl hin d (kk H locs ls hP hD hS hl)
theorem x_zald (h : xOK l D cx rm X cc nL own Ts) {a N : Nat} {f : Nat → Int32} {i : Int32} (d : decode cc pc = .ok (.baload, 1)) (q0 : Nat) (ha : ws[q0]? = some (a, .inl (cx.2.1, N, .inl f))) (hin : vp_in i N) (kk : xV X nL k n ws (pc + 1) lv (.int (f i.toNatClampNeg) :: st)) : xV X nL k n ws pc lv (.int i :: .ref a :: st) := by
  intro H locs ls hP hD hS hl
  obtain ⟨hx, hb, hml, hown, hts, hK, hA, rfl, rfl, rfl, rfl⟩ := h
  exact va_zald hx hb hK hP q0 1 ha rfl hin d (kk H locs ls hP hD hS hl)
theorem x_lald (h : xOK l D cx rm X cc nL own Ts) {a N : Nat} {f : Nat → Int64} {i : Int32} (d : decode cc pc = .ok (.laload, 1)) (q0 : Nat) (ha : ws[q0]? = some (a, .inl (cx.2.2, N, .inr (.inl f)))) (hin : vp_in i N) (kk : xV X nL k n ws (pc + 1) lv (.long (f i.toNatClampNeg) :: st)) : xV X nL k n ws pc lv (.int i :: .ref a :: st) := by
  intro H locs ls hP hD hS hl
  obtain ⟨hx, hb, hml, hown, hts, hK, hA, rfl, rfl, rfl, rfl⟩ := h
  exact va_lald hx hb hK hP q0 2 ha rfl hin d (kk H locs ls hP hD hS hl)
theorem x_iast (h : xOK l D cx rm X cc nL own Ts) {a N : Nat} {f : Nat → Int32} {i x : Int32} {ws' : va_W} (d : decode cc pc = .ok (.iastore, 1)) (q0 : Nat) (ha : ws[q0]? = some (a, .inl (cx.1, N, .inl f))) (hin : vp_in i N) (hw' : ws.set q0 (a, .inl (cx.1, N, .inl (upd f i.toNatClampNeg x))) = ws') (kk : xV X nL k n ws' (pc + 1) lv st) : xV X nL k n ws pc lv (.int x :: .int i :: .ref a :: st) := by
  intro H locs ls hP hD hS hl
  obtain ⟨hx, hb, hml, hown, hts, hK, hA, rfl, rfl, rfl, rfl⟩ := h
  refine va_iast hx hb hK hP hD hS q0 0 ha rfl hin d (fun H1 locs1 hP1 hD1 hS1 => ?_)
  rw [hw'] at hP1 hD1
  exact kk H1 locs1 ls hP1 hD1 hS1 hl
theorem x_zast (h : xOK l D cx rm X cc nL own Ts) {a N : Nat} {f : Nat → Int32} {i x : Int32} {ws' : va_W} (d : decode cc pc = .ok (.bastore, 1)) (q0 : Nat) (ha : ws[q0]? = some (a, .inl (cx.2.1, N, .inl f))) (hin : vp_in i N) (hw' : ws.set q0 (a, .inl (cx.2.1, N, .inl (upd f i.toNatClampNeg (vp_nar .boolean x)))) = ws') (kk : xV X nL k n ws' (pc + 1) lv st) : xV X nL k n ws pc lv (.int x :: .int i :: .ref a :: st) := by
  intro H locs ls hP hD hS hl
  obtain ⟨hx, hb, hml, hown, hts, hK, hA, rfl, rfl, rfl, rfl⟩ := h
  refine va_zast hx hb hK hP hD hS q0 1 ha rfl hin d (fun H1 locs1 hP1 hD1 hS1 => ?_)
  rw [hw'] at hP1 hD1
  exact kk H1 locs1 ls hP1 hD1 hS1 hl
theorem x_last (h : xOK l D cx rm X cc nL own Ts) {a N : Nat} {f : Nat → Int64} {i : Int32} {x : Int64} {ws' : va_W} (d : decode cc pc = .ok (.lastore, 1)) (q0 : Nat) (ha : ws[q0]? = some (a, .inl (cx.2.2, N, .inr (.inl f)))) (hin : vp_in i N) (hw' : ws.set q0 (a, .inl (cx.2.2, N, .inr (.inl (vp_updL f i.toNatClampNeg x)))) = ws') (kk : xV X nL k n ws' (pc + 1) lv st) : xV X nL k n ws pc lv (.long x :: .int i :: .ref a :: st) := by
  intro H locs ls hP hD hS hl
  obtain ⟨hx, hb, hml, hown, hts, hK, hA, rfl, rfl, rfl, rfl⟩ := h
  refine va_last hx hb hK hP hD hS q0 2 ha rfl hin d (fun H1 locs1 hP1 hD1 hS1 => ?_)
  rw [hw'] at hP1 hD1
  exact kk H1 locs1 ls hP1 hD1 hS1 hl
theorem x_mmax (h : xOK l D cx rm X cc nL own Ts) {index : Nat} {x y : Int32} (d : decode cc pc = .ok (.invokestatic index, 3)) (hlink : Cond.methodLink own index Lib.Math.max.name ∈ Ts) (hstat : Cond.static Lib.Math.max.name ∈ Ts) (hini : Cond.initialized "java/lang/Math" ∈ Ts) (hcode : Cond.code Lib.Math.max.name Lib.Math.max.code 2 (some .int) ∈ Ts) (hR : 1 ≤ rm.frames ∧ (st.map fun v => v.category).sum + 13 ≤ rm.locals ∧ k ≤ rm.cells ∧ n ≤ rm.slots) (kk : xV X nL k n ws (pc + 3) lv (.int (if x < y then y else x) :: st)) : xV X nL k n ws pc lv (.int y :: .int x :: st) := by
  intro H locs ls hP hD hS hl
  obtain ⟨hx, hb, hml, hown, hts, hK, hA, rfl, rfl, rfl, rfl⟩ := h
  exact va_mmax hx hb (hml.trans hl.1.symm) hown (hts _ hlink) (hts _ hstat) (hts _ hini) (hts _ hcode) hR.1 hR.2.1 hR.2.2.1 hR.2.2.2 d (kk H locs ls hP hD hS hl)
theorem x_mmin (h : xOK l D cx rm X cc nL own Ts) {index : Nat} {x y : Int32} (d : decode cc pc = .ok (.invokestatic index, 3)) (hlink : Cond.methodLink own index Lib.Math.min.name ∈ Ts) (hstat : Cond.static Lib.Math.min.name ∈ Ts) (hini : Cond.initialized "java/lang/Math" ∈ Ts) (hcode : Cond.code Lib.Math.min.name Lib.Math.min.code 2 (some .int) ∈ Ts) (hR : 1 ≤ rm.frames ∧ (st.map fun v => v.category).sum + 13 ≤ rm.locals ∧ k ≤ rm.cells ∧ n ≤ rm.slots) (kk : xV X nL k n ws (pc + 3) lv (.int (if y < x then y else x) :: st)) : xV X nL k n ws pc lv (.int y :: .int x :: st) := by
  intro H locs ls hP hD hS hl
  obtain ⟨hx, hb, hml, hown, hts, hK, hA, rfl, rfl, rfl, rfl⟩ := h
  exact va_mmin hx hb (hml.trans hl.1.symm) hown (hts _ hlink) (hts _ hstat) (hts _ hini) (hts _ hcode) hR.1 hR.2.1 hR.2.2.1 hR.2.2.2 d (kk H locs ls hP hD hS hl)
end XROWS
