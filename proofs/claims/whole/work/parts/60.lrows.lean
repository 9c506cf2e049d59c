/-! rows that only the law needs: the script, the switch, new objects, constructors -/
def xSc (X : xX) (b L : Nat) (xs : Nat → Int32) : Prop := va_X b L xs X.2.1.1 X.2.1.1.heap ∧ b < X.2.1.1.heap.size ∧ ¬ X.2.2.2.2.2 b
theorem lg_z (x : Int64) : lg_cmp x x = 0 := by
  unfold lg_cmp
  rw [if_neg (Int64.lt_irrefl), if_pos rfl]
theorem cmp_z {K V w : Int32} {f : Nat → Int64} (hK : K = 0) (h : w = V) : lg_cmp ((if K = 0 then vp_updL f 0 V.toInt64 else f) (0 : Int32).toNatClampNeg) w.toInt64 = 0 := by
  rw [if_pos hK, h]
  have : (vp_updL f 0 V.toInt64) (0 : Int32).toNatClampNeg = V.toInt64 := if_pos rfl
  rw [this]
  exact lg_z _
theorem and_31 (v : Int32) : ∃ q, q < 32 ∧ v &&& 31 = nI q := by
  refine ⟨(v.toBitVec &&& 31#32).toNat, ?_, ?_⟩
  · rw [BitVec.toNat_and]
    exact Nat.lt_of_le_of_lt Nat.and_le_right (by decide)
  · apply Int32.toBitVec_inj.mp
    show v.toBitVec &&& 31#32 = BitVec.ofNat 32 _
    rw [BitVec.ofNat_toNat, BitVec.setWidth_eq]
theorem E_once {s u : xS} {n c : Nat} {a v : Int32} (R : Rel s u n c) : Rel (if k8 a = 0 then fAll s n else s) (xup u 15 0 v) n c := by
  by_cases z9 : k8 a = 0
  · rw [if_pos z9]; exact (R.thr v).work (fun q _ h => fAll_q h)
  · rw [if_neg z9]; exact R.thr v
section XLROWS
variable {l : Launch} {D : va_G} {cx : xC} {rm : Room} {X : xX} {cc : ByteArray} {nL : Nat} {own : String} {Ts : List Cond} {k n pc : Nat} {ws : va_W} {lv : List (Nat × Value)} {st : List Value}
theorem x_slen (h : xOK l D cx rm X cc nL own Ts) {b L : Nat} {xs : Nat → Int32} (hs : xSc X b L xs) (d : decode cc pc = .ok (.arraylength, 1)) (kk : xV X nL k n ws (pc + 1) lv (.int (nI L) :: st)) : xV X nL k n ws pc lv (.ref b :: st) := by
  intro H locs ls hP hD hS hl
  obtain ⟨hx, hb, hml, hown, hts, hK, hA, rfl, rfl, rfl, rfl⟩ := h
  exact va_slen hx hb hs.1 hs.2.1 hs.2.2 hS d (kk H locs ls hP hD hS hl)
theorem x_sld (h : xOK l D cx rm X cc nL own Ts) {b L : Nat} {xs : Nat → Int32} (hs : xSc X b L xs) {i v : Int32} (d : decode cc pc = .ok (.iaload, 1)) (hin : vp_in i L) (hv : xs i.toNatClampNeg = v) (kk : xV X nL k n ws (pc + 1) lv (.int v :: st)) : xV X nL k n ws pc lv (.int i :: .ref b :: st) := by
  intro H locs ls hP hD hS hl
  obtain ⟨hx, hb, hml, hown, hts, hK, hA, rfl, rfl, rfl, rfl⟩ := h
  subst hv
  exact va_sld hx hb hs.1 hs.2.1 hs.2.2 hS hin d (kk H locs ls hP hD hS hl)
theorem x_tabIn (h : xOK l D cx rm X cc nL own Ts) {dflt lo hi : Int} {offs : Array Int} {len : Nat} {x : Int32} {off : Int} {tgt : Nat} (d : decode cc pc = .ok (.tableswitch dflt lo hi offs, len)) (h1 : ¬ x.toInt < lo) (h2 : ¬ hi < x.toInt) (ho : offs[(x.toInt - lo).toNat]? = some off) (ht : (pc : Int) + off = (tgt : Int)) (kk : xV X nL k n ws tgt lv st) : xV X nL k n ws pc lv (.int x :: st) :=
  fun H locs ls hP hD hS hl => lv_tableIn h.1 h.2.1 d h1 h2 ho ht (kk H locs ls hP hD hS hl)
theorem x_tabOut (h : xOK l D cx rm X cc nL own Ts) {dflt lo hi : Int} {offs : Array Int} {len : Nat} {x : Int32} {tgt : Nat} (d : decode cc pc = .ok (.tableswitch dflt lo hi offs, len)) (h1 : x.toInt < lo ∨ hi < x.toInt) (ht : (pc : Int) + dflt = (tgt : Int)) (kk : xV X nL k n ws tgt lv st) : xV X nL k n ws pc lv (.int x :: st) :=
  fun H locs ls hP hD hS hl => lv_tableOut h.1 h.2.1 d h1 ht (kk H locs ls hP hD hS hl)
theorem x_new (h : xOK l D cx rm X cc nL own Ts) {C : String} {T : u_T} {N ci idx : Nat} {fs : List Value} {ws' : Nat → va_W} (d : decode cc pc = .ok (.new idx, 3)) (hin : ∀ w ∈ u_ws C T N, w ∈ Ts) (ty : Nat → FieldType) (hty : ∀ k, k < N → parseFieldDescriptor (T k).2.2.1 = some (ty k)) (hcl : Cond.classLink own idx C ∈ Ts) (hinst : Cond.instantiable C N ∈ Ts) (hini : Cond.initialized C ∈ Ts) (hc : vwCl[ci]? = some (C, T, N)) (hfs : ∀ j, j < N → defaultValue (ty j) = vp_V fs j) (hR : k + 1 ≤ rm.cells ∧ n + N ≤ rm.slots) (hw : ∀ q, ws ++ [(q, .inr (ci, fs))] = ws' q) (kk : ∀ q, xV X nL (k + 1) (n + N) (ws' q) (pc + 3) lv (.ref q :: st)) : xV X nL k n ws pc lv st := by
  intro H locs ls hP hD hS hl
  obtain ⟨hx, hb, hml, hown, hts, hK, hA, rfl, rfl, rfl, rfl⟩ := h
  refine va_new (ci := ci) (fs := fs) (C := C) (T := T) (N := N) hx hb hts hin ty hty hown (hts _ hcl) (hts _ hinst) (hts _ hini) hK hP hD hS hA hc hfs hR.1 hR.2 d (fun q H1 hP1 hD1 hS1 => ?_)
  rw [hw] at hP1 hD1
  exact kk q H1 locs ls hP1 hD1 hS1 hl
theorem x_ctor {S : Type} (w1 : va_W) {wc : va_W} {wf' : S → va_W} (h : xOK l D cx rm X cc nL own Ts) {y : MethodName} {cc2 : ByteArray} {nL2 idx : Nat} {wsC wsC' : List Cond} {rmC : Room} {b : Nat} {wf : S → va_W} {post : S → Prop} (d : decode cc pc = .ok (.invokespecial idx, 3)) (hM : xCt l y wsC rmC D cx [.ref b] wc wf post) (hws : ws = w1 ++ (wc ++ [])) (hwf : ∀ u, w1 ++ (wf u ++ []) = wf' u) (hg : GoodIn Ts wsC) (hw : wsC = .code y cc2 nL2 none :: wsC') (h1 : Cond.initialized y.cls ∈ Ts) (h2 : Cond.methodLink own idx y ∈ Ts) (h3 : Cond.instanceMethod y ∈ Ts) (hn : y.name = "<init>")
    (hd : y.cls ≠ "java/lang/invoke/MethodHandle" ∧ y.cls ≠ "java/lang/invoke/VarHandle" ∧ (parseMethodDescriptor y.desc).map (fun d => d.parameters.length) = some 0) (hrm : rmC.frames + 1 ≤ rm.frames ∧ 8 + (nL2 + 11) + rmC.locals ≤ rm.locals ∧ k + rmC.cells ≤ rm.cells ∧ n + rmC.slots ≤ rm.slots) (hst : (st.map fun v => v.category).sum ≤ 8) (kk : ∀ u : S, post u → xV X nL (k + rmC.cells) (n + rmC.slots) (wf' u) (pc + 3) lv st) : xV X nL k n ws pc lv (.ref b :: st) := by
  intro H locs ls hP hD hS hl
  obtain ⟨hx, hb, hml, hown, hts, hK, hA, rfl, rfl, rfl, rfl⟩ := h
  subst hws
  have hF := xw_free hD hP hS hA
  obtain ⟨⟨p1, pc1, p2⟩, ⟨d1, dc, d2⟩, -⟩ := xw_cut hP hD
  refine va_callv (va_runI (As := []) (rest := st) ⟨hx, hb, hml, hown, hts⟩ (hM H.size) (cwI 0 hts hg hw rfl rfl (hts _ h1) (hts _ h2) (hts _ h3) hn hd ⟨hrm.1, hrm.2.1⟩) ⟨xPre_blind, fun U hU hW => ⟨rfl, by rw [hU], by rw [hU]; exact pc1, va_K.moved hW.alike hK, dc.weaken (fun _ _ _ _ => trivial)⟩⟩ rfl rfl hl.1 rfl (lv_room hst) d ⟨hrm.2.2.1, hrm.2.2.2⟩) hS (fun q _ h => hF q h) hF (fun u t H1 locs1 ht hvm hw hB hz1 hk1 hS1 => ?_)
  obtain ⟨hP1, hK1, hD1⟩ := hB
  rw [ht] at hP1
  obtain ⟨q1, q2⟩ := xw_join hP hD hk1 hF hP1 hD1
  rw [hwf] at q1 q2
  exact kk u hw H1 locs1 ls q1 q2 hS1 hl
end XLROWS
/-- the law's world: the cell of the answer, the class's, the reference's -/
def wLM (cx : xC) (o : Nat) (f : Nat → Int64) (h : Nat → Nat) (s : xS) (h' : Nat → Nat) (u : xS) : va_W := wL cx o f h s ++ wM cx h' u
