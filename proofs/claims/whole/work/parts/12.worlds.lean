/-! the worlds: of the class (wX) and of the reference (wM), as functions of addresses and of a state (field, place) -/
def xup (s : xS) (j i : Nat) (v : Int32) : xS := fun q => if q = j then upd (s j) i v else s q
theorem xup_s (s : xS) (j i : Nat) (v : Int32) : xup s j i v j = upd (s j) i v := if_pos rfl
theorem xup_n {s : xS} {j i q : Nat} {v : Int32} (h : q ≠ j) : xup s j i v q = s q := if_neg h
theorem xup_ss (s : xS) (j i : Nat) (v : Int32) : xup s j i v j i = v := by rw [xup_s]; exact if_pos rfl
theorem xup_sn {s : xS} {j i q : Nat} {v : Int32} (h : q ≠ i) : xup s j i v j q = s j q := by rw [xup_s]; exact if_neg h
abbrev xR (f lo : Nat) : Room := { frames := f, cells := 0, slots := 0, locals := lo }
def oX (h : Nat → Nat) (s : xS) : List Value := [.ref (h 1), .ref (h 2), .ref (h 3), .ref (h 4), .ref (h 5), .ref (h 6), .ref (h 7), .ref (h 8), .ref (h 9), .ref (h 10), .ref (h 11), .ref (h 12), .int (s 12 0), .int (s 13 0), .ref (h 15), .ref (h 16)]
def wX (c : xC) (h : Nat → Nat) (s : xS) : va_W := [(h 0, .inr (0, oX h s)), (h 1, .inl (c.1, 60, .inl (s 0))), (h 2, .inl (c.1, 60, .inl (s 1))), (h 3, .inl (c.1, 60, .inl (s 2))), (h 4, .inl (c.1, 60, .inl (s 3))), (h 5, .inl (c.1, 60, .inl (s 4))), (h 6, .inl (c.1, 60, .inl (s 5))), (h 7, .inl (c.1, 60, .inl (s 6))), (h 8, .inl (c.2.1, 60, .inl (s 7))), (h 9, .inl (c.1, 8, .inl (s 8))), (h 10, .inl (c.1, 8, .inl (s 9))), (h 11, .inl (c.1, 4, .inl (s 10))), (h 12, .inl (c.1, 16, .inl (s 11))), (h 15, .inl (c.1, 60, .inl (s 14))), (h 16, .inl (c.1, 8, .inl (s 15)))]
section XWX
variable {l : Launch} {D : va_G} {cx : xC} {rm : Room} {X : xX} {cc : ByteArray} {nL : Nat} {Ts : List Cond} {k n pc : Nat} {lv : List (Nat × Value)} {st : List Value} {h : Nat → Nat} {s : xS}
theorem gX0 (hX : xOK l D cx rm X cc nL RX0 Ts) (hin : ∀ w ∈ wsX00, w ∈ Ts) (hl : Cond.fieldLink RX0 9 RX0 "senders" "[I" ∈ Ts) (d : decode cc pc = .ok (.getfield 9, 3)) (kk : xV X nL k n (wX cx h s) (pc + 3) lv (.ref (h 1) :: st)) : xV X nL k n (wX cx h s) pc lv (.ref (h 0) :: st) :=
  x_get hX d rfl rfl hin 0 (by decide) hl rfl rfl kk
theorem lX0 (hX : xOK l D cx rm X cc nL RX0 Ts) {i : Int32} (d : decode cc pc = .ok (.iaload, 1)) (hi : vp_in i 60) {j : Nat} (e : i.toNatClampNeg = j) (kk : xV X nL k n (wX cx h s) (pc + 1) lv (.int (s 0 j) :: st)) : xV X nL k n (wX cx h s) pc lv (.int i :: .ref (h 1) :: st) :=
  x_iald hX d 1 rfl hi (e ▸ kk)
theorem sX0 (hX : xOK l D cx rm X cc nL RX0 Ts) {i v : Int32} (d : decode cc pc = .ok (.iastore, 1)) (hi : vp_in i 60) {j : Nat} (e : i.toNatClampNeg = j) (kk : xV X nL k n (wX cx h (xup s 0 j (v))) (pc + 1) lv st) : xV X nL k n (wX cx h s) pc lv (.int v :: .int i :: .ref (h 1) :: st) :=
  x_iast hX d 1 rfl hi rfl (e ▸ kk)
theorem gX1 (hX : xOK l D cx rm X cc nL RX0 Ts) (hin : ∀ w ∈ wsX00, w ∈ Ts) (hl : Cond.fieldLink RX0 13 RX0 "readers" "[I" ∈ Ts) (d : decode cc pc = .ok (.getfield 13, 3)) (kk : xV X nL k n (wX cx h s) (pc + 3) lv (.ref (h 2) :: st)) : xV X nL k n (wX cx h s) pc lv (.ref (h 0) :: st) :=
  x_get hX d rfl rfl hin 1 (by decide) hl rfl rfl kk
theorem lX1 (hX : xOK l D cx rm X cc nL RX0 Ts) {i : Int32} (d : decode cc pc = .ok (.iaload, 1)) (hi : vp_in i 60) {j : Nat} (e : i.toNatClampNeg = j) (kk : xV X nL k n (wX cx h s) (pc + 1) lv (.int (s 1 j) :: st)) : xV X nL k n (wX cx h s) pc lv (.int i :: .ref (h 2) :: st) :=
  x_iald hX d 2 rfl hi (e ▸ kk)
theorem sX1 (hX : xOK l D cx rm X cc nL RX0 Ts) {i v : Int32} (d : decode cc pc = .ok (.iastore, 1)) (hi : vp_in i 60) {j : Nat} (e : i.toNatClampNeg = j) (kk : xV X nL k n (wX cx h (xup s 1 j (v))) (pc + 1) lv st) : xV X nL k n (wX cx h s) pc lv (.int v :: .int i :: .ref (h 2) :: st) :=
  x_iast hX d 2 rfl hi rfl (e ▸ kk)
theorem gX2 (hX : xOK l D cx rm X cc nL RX0 Ts) (hin : ∀ w ∈ wsX00, w ∈ Ts) (hl : Cond.fieldLink RX0 16 RX0 "stakes" "[I" ∈ Ts) (d : decode cc pc = .ok (.getfield 16, 3)) (kk : xV X nL k n (wX cx h s) (pc + 3) lv (.ref (h 3) :: st)) : xV X nL k n (wX cx h s) pc lv (.ref (h 0) :: st) :=
  x_get hX d rfl rfl hin 2 (by decide) hl rfl rfl kk
theorem lX2 (hX : xOK l D cx rm X cc nL RX0 Ts) {i : Int32} (d : decode cc pc = .ok (.iaload, 1)) (hi : vp_in i 60) {j : Nat} (e : i.toNatClampNeg = j) (kk : xV X nL k n (wX cx h s) (pc + 1) lv (.int (s 2 j) :: st)) : xV X nL k n (wX cx h s) pc lv (.int i :: .ref (h 3) :: st) :=
  x_iald hX d 3 rfl hi (e ▸ kk)
theorem sX2 (hX : xOK l D cx rm X cc nL RX0 Ts) {i v : Int32} (d : decode cc pc = .ok (.iastore, 1)) (hi : vp_in i 60) {j : Nat} (e : i.toNatClampNeg = j) (kk : xV X nL k n (wX cx h (xup s 2 j (v))) (pc + 1) lv st) : xV X nL k n (wX cx h s) pc lv (.int v :: .int i :: .ref (h 3) :: st) :=
  x_iast hX d 3 rfl hi rfl (e ▸ kk)
theorem gX3 (hX : xOK l D cx rm X cc nL RX0 Ts) (hin : ∀ w ∈ wsX00, w ∈ Ts) (hl : Cond.fieldLink RX0 19 RX0 "states" "[I" ∈ Ts) (d : decode cc pc = .ok (.getfield 19, 3)) (kk : xV X nL k n (wX cx h s) (pc + 3) lv (.ref (h 4) :: st)) : xV X nL k n (wX cx h s) pc lv (.ref (h 0) :: st) :=
  x_get hX d rfl rfl hin 3 (by decide) hl rfl rfl kk
theorem lX3 (hX : xOK l D cx rm X cc nL RX0 Ts) {i : Int32} (d : decode cc pc = .ok (.iaload, 1)) (hi : vp_in i 60) {j : Nat} (e : i.toNatClampNeg = j) (kk : xV X nL k n (wX cx h s) (pc + 1) lv (.int (s 3 j) :: st)) : xV X nL k n (wX cx h s) pc lv (.int i :: .ref (h 4) :: st) :=
  x_iald hX d 4 rfl hi (e ▸ kk)
theorem sX3 (hX : xOK l D cx rm X cc nL RX0 Ts) {i v : Int32} (d : decode cc pc = .ok (.iastore, 1)) (hi : vp_in i 60) {j : Nat} (e : i.toNatClampNeg = j) (kk : xV X nL k n (wX cx h (xup s 3 j (v))) (pc + 1) lv st) : xV X nL k n (wX cx h s) pc lv (.int v :: .int i :: .ref (h 4) :: st) :=
  x_iast hX d 4 rfl hi rfl (e ▸ kk)
theorem gX4 (hX : xOK l D cx rm X cc nL RX0 Ts) (hin : ∀ w ∈ wsX00, w ∈ Ts) (hl : Cond.fieldLink RX0 22 RX0 "places" "[I" ∈ Ts) (d : decode cc pc = .ok (.getfield 22, 3)) (kk : xV X nL k n (wX cx h s) (pc + 3) lv (.ref (h 5) :: st)) : xV X nL k n (wX cx h s) pc lv (.ref (h 0) :: st) :=
  x_get hX d rfl rfl hin 4 (by decide) hl rfl rfl kk
theorem lX4 (hX : xOK l D cx rm X cc nL RX0 Ts) {i : Int32} (d : decode cc pc = .ok (.iaload, 1)) (hi : vp_in i 60) {j : Nat} (e : i.toNatClampNeg = j) (kk : xV X nL k n (wX cx h s) (pc + 1) lv (.int (s 4 j) :: st)) : xV X nL k n (wX cx h s) pc lv (.int i :: .ref (h 5) :: st) :=
  x_iald hX d 5 rfl hi (e ▸ kk)
theorem sX4 (hX : xOK l D cx rm X cc nL RX0 Ts) {i v : Int32} (d : decode cc pc = .ok (.iastore, 1)) (hi : vp_in i 60) {j : Nat} (e : i.toNatClampNeg = j) (kk : xV X nL k n (wX cx h (xup s 4 j (v))) (pc + 1) lv st) : xV X nL k n (wX cx h s) pc lv (.int v :: .int i :: .ref (h 5) :: st) :=
  x_iast hX d 5 rfl hi rfl (e ▸ kk)
theorem gX5 (hX : xOK l D cx rm X cc nL RX0 Ts) (hin : ∀ w ∈ wsX00, w ∈ Ts) (hl : Cond.fieldLink RX0 25 RX0 "relaysSeen" "[I" ∈ Ts) (d : decode cc pc = .ok (.getfield 25, 3)) (kk : xV X nL k n (wX cx h s) (pc + 3) lv (.ref (h 6) :: st)) : xV X nL k n (wX cx h s) pc lv (.ref (h 0) :: st) :=
  x_get hX d rfl rfl hin 5 (by decide) hl rfl rfl kk
theorem lX5 (hX : xOK l D cx rm X cc nL RX0 Ts) {i : Int32} (d : decode cc pc = .ok (.iaload, 1)) (hi : vp_in i 60) {j : Nat} (e : i.toNatClampNeg = j) (kk : xV X nL k n (wX cx h s) (pc + 1) lv (.int (s 5 j) :: st)) : xV X nL k n (wX cx h s) pc lv (.int i :: .ref (h 6) :: st) :=
  x_iald hX d 6 rfl hi (e ▸ kk)
theorem sX5 (hX : xOK l D cx rm X cc nL RX0 Ts) {i v : Int32} (d : decode cc pc = .ok (.iastore, 1)) (hi : vp_in i 60) {j : Nat} (e : i.toNatClampNeg = j) (kk : xV X nL k n (wX cx h (xup s 5 j (v))) (pc + 1) lv st) : xV X nL k n (wX cx h s) pc lv (.int v :: .int i :: .ref (h 6) :: st) :=
  x_iast hX d 6 rfl hi rfl (e ▸ kk)
theorem gX6 (hX : xOK l D cx rm X cc nL RX0 Ts) (hin : ∀ w ∈ wsX00, w ∈ Ts) (hl : Cond.fieldLink RX0 28 RX0 "deliveryTimes" "[I" ∈ Ts) (d : decode cc pc = .ok (.getfield 28, 3)) (kk : xV X nL k n (wX cx h s) (pc + 3) lv (.ref (h 7) :: st)) : xV X nL k n (wX cx h s) pc lv (.ref (h 0) :: st) :=
  x_get hX d rfl rfl hin 6 (by decide) hl rfl rfl kk
theorem lX6 (hX : xOK l D cx rm X cc nL RX0 Ts) {i : Int32} (d : decode cc pc = .ok (.iaload, 1)) (hi : vp_in i 60) {j : Nat} (e : i.toNatClampNeg = j) (kk : xV X nL k n (wX cx h s) (pc + 1) lv (.int (s 6 j) :: st)) : xV X nL k n (wX cx h s) pc lv (.int i :: .ref (h 7) :: st) :=
  x_iald hX d 7 rfl hi (e ▸ kk)
theorem sX6 (hX : xOK l D cx rm X cc nL RX0 Ts) {i v : Int32} (d : decode cc pc = .ok (.iastore, 1)) (hi : vp_in i 60) {j : Nat} (e : i.toNatClampNeg = j) (kk : xV X nL k n (wX cx h (xup s 6 j (v))) (pc + 1) lv st) : xV X nL k n (wX cx h s) pc lv (.int v :: .int i :: .ref (h 7) :: st) :=
  x_iast hX d 7 rfl hi rfl (e ▸ kk)
theorem gX7 (hX : xOK l D cx rm X cc nL RX0 Ts) (hin : ∀ w ∈ wsX00, w ∈ Ts) (hl : Cond.fieldLink RX0 31 RX0 "falselyMarked" "[Z" ∈ Ts) (d : decode cc pc = .ok (.getfield 31, 3)) (kk : xV X nL k n (wX cx h s) (pc + 3) lv (.ref (h 8) :: st)) : xV X nL k n (wX cx h s) pc lv (.ref (h 0) :: st) :=
  x_get hX d rfl rfl hin 7 (by decide) hl rfl rfl kk
theorem lX7 (hX : xOK l D cx rm X cc nL RX0 Ts) {i : Int32} (d : decode cc pc = .ok (.baload, 1)) (hi : vp_in i 60) {j : Nat} (e : i.toNatClampNeg = j) (kk : xV X nL k n (wX cx h s) (pc + 1) lv (.int (s 7 j) :: st)) : xV X nL k n (wX cx h s) pc lv (.int i :: .ref (h 8) :: st) :=
  x_zald hX d 8 rfl hi (e ▸ kk)
theorem sX7 (hX : xOK l D cx rm X cc nL RX0 Ts) {i v : Int32} (d : decode cc pc = .ok (.bastore, 1)) (hi : vp_in i 60) {j : Nat} (e : i.toNatClampNeg = j) (kk : xV X nL k n (wX cx h (xup s 7 j (vp_nar .boolean v))) (pc + 1) lv st) : xV X nL k n (wX cx h s) pc lv (.int v :: .int i :: .ref (h 8) :: st) :=
  x_zast hX d 8 rfl hi rfl (e ▸ kk)
theorem gX8 (hX : xOK l D cx rm X cc nL RX0 Ts) (hin : ∀ w ∈ wsX00, w ∈ Ts) (hl : Cond.fieldLink RX0 35 RX0 "purses" "[I" ∈ Ts) (d : decode cc pc = .ok (.getfield 35, 3)) (kk : xV X nL k n (wX cx h s) (pc + 3) lv (.ref (h 9) :: st)) : xV X nL k n (wX cx h s) pc lv (.ref (h 0) :: st) :=
  x_get hX d rfl rfl hin 8 (by decide) hl rfl rfl kk
theorem lX8 (hX : xOK l D cx rm X cc nL RX0 Ts) {i : Int32} (d : decode cc pc = .ok (.iaload, 1)) (hi : vp_in i 8) {j : Nat} (e : i.toNatClampNeg = j) (kk : xV X nL k n (wX cx h s) (pc + 1) lv (.int (s 8 j) :: st)) : xV X nL k n (wX cx h s) pc lv (.int i :: .ref (h 9) :: st) :=
  x_iald hX d 9 rfl hi (e ▸ kk)
theorem sX8 (hX : xOK l D cx rm X cc nL RX0 Ts) {i v : Int32} (d : decode cc pc = .ok (.iastore, 1)) (hi : vp_in i 8) {j : Nat} (e : i.toNatClampNeg = j) (kk : xV X nL k n (wX cx h (xup s 8 j (v))) (pc + 1) lv st) : xV X nL k n (wX cx h s) pc lv (.int v :: .int i :: .ref (h 9) :: st) :=
  x_iast hX d 9 rfl hi rfl (e ▸ kk)
theorem gX9 (hX : xOK l D cx rm X cc nL RX0 Ts) (hin : ∀ w ∈ wsX00, w ∈ Ts) (hl : Cond.fieldLink RX0 38 RX0 "falseMarkCounts" "[I" ∈ Ts) (d : decode cc pc = .ok (.getfield 38, 3)) (kk : xV X nL k n (wX cx h s) (pc + 3) lv (.ref (h 10) :: st)) : xV X nL k n (wX cx h s) pc lv (.ref (h 0) :: st) :=
  x_get hX d rfl rfl hin 9 (by decide) hl rfl rfl kk
theorem lX9 (hX : xOK l D cx rm X cc nL RX0 Ts) {i : Int32} (d : decode cc pc = .ok (.iaload, 1)) (hi : vp_in i 8) {j : Nat} (e : i.toNatClampNeg = j) (kk : xV X nL k n (wX cx h s) (pc + 1) lv (.int (s 9 j) :: st)) : xV X nL k n (wX cx h s) pc lv (.int i :: .ref (h 10) :: st) :=
  x_iald hX d 10 rfl hi (e ▸ kk)
theorem sX9 (hX : xOK l D cx rm X cc nL RX0 Ts) {i v : Int32} (d : decode cc pc = .ok (.iastore, 1)) (hi : vp_in i 8) {j : Nat} (e : i.toNatClampNeg = j) (kk : xV X nL k n (wX cx h (xup s 9 j (v))) (pc + 1) lv st) : xV X nL k n (wX cx h s) pc lv (.int v :: .int i :: .ref (h 10) :: st) :=
  x_iast hX d 10 rfl hi rfl (e ▸ kk)
theorem gX10 (hX : xOK l D cx rm X cc nL RX0 Ts) (hin : ∀ w ∈ wsX00, w ∈ Ts) (hl : Cond.fieldLink RX0 41 RX0 "pools" "[I" ∈ Ts) (d : decode cc pc = .ok (.getfield 41, 3)) (kk : xV X nL k n (wX cx h s) (pc + 3) lv (.ref (h 11) :: st)) : xV X nL k n (wX cx h s) pc lv (.ref (h 0) :: st) :=
  x_get hX d rfl rfl hin 10 (by decide) hl rfl rfl kk
theorem lX10 (hX : xOK l D cx rm X cc nL RX0 Ts) {i : Int32} (d : decode cc pc = .ok (.iaload, 1)) (hi : vp_in i 4) {j : Nat} (e : i.toNatClampNeg = j) (kk : xV X nL k n (wX cx h s) (pc + 1) lv (.int (s 10 j) :: st)) : xV X nL k n (wX cx h s) pc lv (.int i :: .ref (h 11) :: st) :=
  x_iald hX d 11 rfl hi (e ▸ kk)
theorem sX10 (hX : xOK l D cx rm X cc nL RX0 Ts) {i v : Int32} (d : decode cc pc = .ok (.iastore, 1)) (hi : vp_in i 4) {j : Nat} (e : i.toNatClampNeg = j) (kk : xV X nL k n (wX cx h (xup s 10 j (v))) (pc + 1) lv st) : xV X nL k n (wX cx h s) pc lv (.int v :: .int i :: .ref (h 11) :: st) :=
  x_iast hX d 11 rfl hi rfl (e ▸ kk)
theorem gX11 (hX : xOK l D cx rm X cc nL RX0 Ts) (hin : ∀ w ∈ wsX00, w ∈ Ts) (hl : Cond.fieldLink RX0 44 RX0 "routes" "[I" ∈ Ts) (d : decode cc pc = .ok (.getfield 44, 3)) (kk : xV X nL k n (wX cx h s) (pc + 3) lv (.ref (h 12) :: st)) : xV X nL k n (wX cx h s) pc lv (.ref (h 0) :: st) :=
  x_get hX d rfl rfl hin 11 (by decide) hl rfl rfl kk
theorem lX11 (hX : xOK l D cx rm X cc nL RX0 Ts) {i : Int32} (d : decode cc pc = .ok (.iaload, 1)) (hi : vp_in i 16) {j : Nat} (e : i.toNatClampNeg = j) (kk : xV X nL k n (wX cx h s) (pc + 1) lv (.int (s 11 j) :: st)) : xV X nL k n (wX cx h s) pc lv (.int i :: .ref (h 12) :: st) :=
  x_iald hX d 12 rfl hi (e ▸ kk)
theorem sX11 (hX : xOK l D cx rm X cc nL RX0 Ts) {i v : Int32} (d : decode cc pc = .ok (.iastore, 1)) (hi : vp_in i 16) {j : Nat} (e : i.toNatClampNeg = j) (kk : xV X nL k n (wX cx h (xup s 11 j (v))) (pc + 1) lv st) : xV X nL k n (wX cx h s) pc lv (.int v :: .int i :: .ref (h 12) :: st) :=
  x_iast hX d 12 rfl hi rfl (e ▸ kk)
theorem gX12 (hX : xOK l D cx rm X cc nL RX0 Ts) (hin : ∀ w ∈ wsX00, w ∈ Ts) (hl : Cond.fieldLink RX0 47 RX0 "letterCount" "I" ∈ Ts) (d : decode cc pc = .ok (.getfield 47, 3)) (kk : xV X nL k n (wX cx h s) (pc + 3) lv (.int (s 12 0) :: st)) : xV X nL k n (wX cx h s) pc lv (.ref (h 0) :: st) :=
  x_get hX d rfl rfl hin 12 (by decide) hl rfl rfl kk
theorem pX12 (hX : xOK l D cx rm X cc nL RX0 Ts) (hin : ∀ w ∈ wsX00, w ∈ Ts) (hl : Cond.fieldLink RX0 47 RX0 "letterCount" "I" ∈ Ts) {v : Int32} (d : decode cc pc = .ok (.putfield 47, 3)) (kk : xV X nL k n (wX cx h (xup s 12 0 v)) (pc + 3) lv st) : xV X nL k n (wX cx h s) pc lv (.int v :: .ref (h 0) :: st) :=
  x_put hX d rfl rfl hin tyX0 tyX0_ok nmX0 12 (by decide) hl rfl rfl rfl (Nat.le_of_ble_eq_true rfl) rfl kk
theorem gX13 (hX : xOK l D cx rm X cc nL RX0 Ts) (hin : ∀ w ∈ wsX00, w ∈ Ts) (hl : Cond.fieldLink RX0 51 RX0 "now" "I" ∈ Ts) (d : decode cc pc = .ok (.getfield 51, 3)) (kk : xV X nL k n (wX cx h s) (pc + 3) lv (.int (s 13 0) :: st)) : xV X nL k n (wX cx h s) pc lv (.ref (h 0) :: st) :=
  x_get hX d rfl rfl hin 13 (by decide) hl rfl rfl kk
theorem pX13 (hX : xOK l D cx rm X cc nL RX0 Ts) (hin : ∀ w ∈ wsX00, w ∈ Ts) (hl : Cond.fieldLink RX0 51 RX0 "now" "I" ∈ Ts) {v : Int32} (d : decode cc pc = .ok (.putfield 51, 3)) (kk : xV X nL k n (wX cx h (xup s 13 0 v)) (pc + 3) lv st) : xV X nL k n (wX cx h s) pc lv (.int v :: .ref (h 0) :: st) :=
  x_put hX d rfl rfl hin tyX0 tyX0_ok nmX0 13 (by decide) hl rfl rfl rfl (Nat.le_of_ble_eq_true rfl) rfl kk
theorem gX14 (hX : xOK l D cx rm X cc nL RX0 Ts) (hin : ∀ w ∈ wsX00, w ∈ Ts) (hl : Cond.fieldLink RX0 54 RX0 "waitingAt" "[I" ∈ Ts) (d : decode cc pc = .ok (.getfield 54, 3)) (kk : xV X nL k n (wX cx h s) (pc + 3) lv (.ref (h 15) :: st)) : xV X nL k n (wX cx h s) pc lv (.ref (h 0) :: st) :=
  x_get hX d rfl rfl hin 14 (by decide) hl rfl rfl kk
theorem lX14 (hX : xOK l D cx rm X cc nL RX0 Ts) {i : Int32} (d : decode cc pc = .ok (.iaload, 1)) (hi : vp_in i 60) {j : Nat} (e : i.toNatClampNeg = j) (kk : xV X nL k n (wX cx h s) (pc + 1) lv (.int (s 14 j) :: st)) : xV X nL k n (wX cx h s) pc lv (.int i :: .ref (h 15) :: st) :=
  x_iald hX d 13 rfl hi (e ▸ kk)
theorem sX14 (hX : xOK l D cx rm X cc nL RX0 Ts) {i v : Int32} (d : decode cc pc = .ok (.iastore, 1)) (hi : vp_in i 60) {j : Nat} (e : i.toNatClampNeg = j) (kk : xV X nL k n (wX cx h (xup s 14 j (v))) (pc + 1) lv st) : xV X nL k n (wX cx h s) pc lv (.int v :: .int i :: .ref (h 15) :: st) :=
  x_iast hX d 13 rfl hi rfl (e ▸ kk)
theorem gX15 (hX : xOK l D cx rm X cc nL RX0 Ts) (hin : ∀ w ∈ wsX00, w ∈ Ts) (hl : Cond.fieldLink RX0 57 RX0 "reputations" "[I" ∈ Ts) (d : decode cc pc = .ok (.getfield 57, 3)) (kk : xV X nL k n (wX cx h s) (pc + 3) lv (.ref (h 16) :: st)) : xV X nL k n (wX cx h s) pc lv (.ref (h 0) :: st) :=
  x_get hX d rfl rfl hin 15 (by decide) hl rfl rfl kk
theorem lX15 (hX : xOK l D cx rm X cc nL RX0 Ts) {i : Int32} (d : decode cc pc = .ok (.iaload, 1)) (hi : vp_in i 8) {j : Nat} (e : i.toNatClampNeg = j) (kk : xV X nL k n (wX cx h s) (pc + 1) lv (.int (s 15 j) :: st)) : xV X nL k n (wX cx h s) pc lv (.int i :: .ref (h 16) :: st) :=
  x_iald hX d 14 rfl hi (e ▸ kk)
theorem sX15 (hX : xOK l D cx rm X cc nL RX0 Ts) {i v : Int32} (d : decode cc pc = .ok (.iastore, 1)) (hi : vp_in i 8) {j : Nat} (e : i.toNatClampNeg = j) (kk : xV X nL k n (wX cx h (xup s 15 j (v))) (pc + 1) lv st) : xV X nL k n (wX cx h s) pc lv (.int v :: .int i :: .ref (h 16) :: st) :=
  x_iast hX d 14 rfl hi rfl (e ▸ kk)
end XWX
def oM (h : Nat → Nat) (s : xS) : List Value := [.int (s 0 0), .ref (h 2), .ref (h 3), .ref (h 4), .ref (h 5), .int (s 5 0), .ref (h 7), .ref (h 8), .ref (h 9), .ref (h 10), .ref (h 11), .ref (h 12), .ref (h 13), .ref (h 14), .ref (h 15), .int (s 15 0)]
def wM (c : xC) (h : Nat → Nat) (s : xS) : va_W := [(h 0, .inr (1, oM h s)), (h 2, .inl (c.1, 16, .inl (s 1))), (h 3, .inl (c.1, 8, .inl (s 2))), (h 4, .inl (c.1, 4, .inl (s 3))), (h 5, .inl (c.1, 8, .inl (s 4))), (h 7, .inl (c.1, 60, .inl (s 6))), (h 8, .inl (c.1, 60, .inl (s 7))), (h 9, .inl (c.1, 60, .inl (s 8))), (h 10, .inl (c.1, 60, .inl (s 9))), (h 11, .inl (c.1, 60, .inl (s 10))), (h 12, .inl (c.1, 60, .inl (s 11))), (h 13, .inl (c.1, 60, .inl (s 12))), (h 14, .inl (c.2.1, 60, .inl (s 13))), (h 15, .inl (c.2.1, 60, .inl (s 14)))]
section XWM
variable {l : Launch} {D : va_G} {cx : xC} {rm : Room} {X : xX} {cc : ByteArray} {nL : Nat} {Ts : List Cond} {k n pc : Nat} {lv : List (Nat × Value)} {st : List Value} {h : Nat → Nat} {s : xS}
theorem gM0 (hX : xOK l D cx rm X cc nL RX1 Ts) (hin : ∀ w ∈ wsX10, w ∈ Ts) (hl : Cond.fieldLink RX1 95 RX1 "time" "I" ∈ Ts) (d : decode cc pc = .ok (.getfield 95, 3)) (kk : xV X nL k n (wM cx h s) (pc + 3) lv (.int (s 0 0) :: st)) : xV X nL k n (wM cx h s) pc lv (.ref (h 0) :: st) :=
  x_get hX d rfl rfl hin 0 (by decide) hl rfl rfl kk
theorem pM0 (hX : xOK l D cx rm X cc nL RX1 Ts) (hin : ∀ w ∈ wsX10, w ∈ Ts) (hl : Cond.fieldLink RX1 95 RX1 "time" "I" ∈ Ts) {v : Int32} (d : decode cc pc = .ok (.putfield 95, 3)) (kk : xV X nL k n (wM cx h (xup s 0 0 v)) (pc + 3) lv st) : xV X nL k n (wM cx h s) pc lv (.int v :: .ref (h 0) :: st) :=
  x_put hX d rfl rfl hin tyX1 tyX1_ok nmX1 0 (by decide) hl rfl rfl rfl (Nat.le_of_ble_eq_true rfl) rfl kk
theorem gM1 (hX : xOK l D cx rm X cc nL RX1 Ts) (hin : ∀ w ∈ wsX10, w ∈ Ts) (hl : Cond.fieldLink RX1 7 RX1 "routes" "[I" ∈ Ts) (d : decode cc pc = .ok (.getfield 7, 3)) (kk : xV X nL k n (wM cx h s) (pc + 3) lv (.ref (h 2) :: st)) : xV X nL k n (wM cx h s) pc lv (.ref (h 0) :: st) :=
  x_get hX d rfl rfl hin 1 (by decide) hl rfl rfl kk
theorem lM1 (hX : xOK l D cx rm X cc nL RX1 Ts) {i : Int32} (d : decode cc pc = .ok (.iaload, 1)) (hi : vp_in i 16) {j : Nat} (e : i.toNatClampNeg = j) (kk : xV X nL k n (wM cx h s) (pc + 1) lv (.int (s 1 j) :: st)) : xV X nL k n (wM cx h s) pc lv (.int i :: .ref (h 2) :: st) :=
  x_iald hX d 1 rfl hi (e ▸ kk)
theorem sM1 (hX : xOK l D cx rm X cc nL RX1 Ts) {i v : Int32} (d : decode cc pc = .ok (.iastore, 1)) (hi : vp_in i 16) {j : Nat} (e : i.toNatClampNeg = j) (kk : xV X nL k n (wM cx h (xup s 1 j (v))) (pc + 1) lv st) : xV X nL k n (wM cx h s) pc lv (.int v :: .int i :: .ref (h 2) :: st) :=
  x_iast hX d 1 rfl hi rfl (e ▸ kk)
theorem gM2 (hX : xOK l D cx rm X cc nL RX1 Ts) (hin : ∀ w ∈ wsX10, w ∈ Ts) (hl : Cond.fieldLink RX1 13 RX1 "coins" "[I" ∈ Ts) (d : decode cc pc = .ok (.getfield 13, 3)) (kk : xV X nL k n (wM cx h s) (pc + 3) lv (.ref (h 3) :: st)) : xV X nL k n (wM cx h s) pc lv (.ref (h 0) :: st) :=
  x_get hX d rfl rfl hin 2 (by decide) hl rfl rfl kk
theorem lM2 (hX : xOK l D cx rm X cc nL RX1 Ts) {i : Int32} (d : decode cc pc = .ok (.iaload, 1)) (hi : vp_in i 8) {j : Nat} (e : i.toNatClampNeg = j) (kk : xV X nL k n (wM cx h s) (pc + 1) lv (.int (s 2 j) :: st)) : xV X nL k n (wM cx h s) pc lv (.int i :: .ref (h 3) :: st) :=
  x_iald hX d 2 rfl hi (e ▸ kk)
theorem sM2 (hX : xOK l D cx rm X cc nL RX1 Ts) {i v : Int32} (d : decode cc pc = .ok (.iastore, 1)) (hi : vp_in i 8) {j : Nat} (e : i.toNatClampNeg = j) (kk : xV X nL k n (wM cx h (xup s 2 j (v))) (pc + 1) lv st) : xV X nL k n (wM cx h s) pc lv (.int v :: .int i :: .ref (h 3) :: st) :=
  x_iast hX d 2 rfl hi rfl (e ▸ kk)
theorem gM3 (hX : xOK l D cx rm X cc nL RX1 Ts) (hin : ∀ w ∈ wsX10, w ∈ Ts) (hl : Cond.fieldLink RX1 16 RX1 "pools" "[I" ∈ Ts) (d : decode cc pc = .ok (.getfield 16, 3)) (kk : xV X nL k n (wM cx h s) (pc + 3) lv (.ref (h 4) :: st)) : xV X nL k n (wM cx h s) pc lv (.ref (h 0) :: st) :=
  x_get hX d rfl rfl hin 3 (by decide) hl rfl rfl kk
theorem lM3 (hX : xOK l D cx rm X cc nL RX1 Ts) {i : Int32} (d : decode cc pc = .ok (.iaload, 1)) (hi : vp_in i 4) {j : Nat} (e : i.toNatClampNeg = j) (kk : xV X nL k n (wM cx h s) (pc + 1) lv (.int (s 3 j) :: st)) : xV X nL k n (wM cx h s) pc lv (.int i :: .ref (h 4) :: st) :=
  x_iald hX d 3 rfl hi (e ▸ kk)
theorem sM3 (hX : xOK l D cx rm X cc nL RX1 Ts) {i v : Int32} (d : decode cc pc = .ok (.iastore, 1)) (hi : vp_in i 4) {j : Nat} (e : i.toNatClampNeg = j) (kk : xV X nL k n (wM cx h (xup s 3 j (v))) (pc + 1) lv st) : xV X nL k n (wM cx h s) pc lv (.int v :: .int i :: .ref (h 4) :: st) :=
  x_iast hX d 3 rfl hi rfl (e ▸ kk)
theorem gM4 (hX : xOK l D cx rm X cc nL RX1 Ts) (hin : ∀ w ∈ wsX10, w ∈ Ts) (hl : Cond.fieldLink RX1 19 RX1 "falsely" "[I" ∈ Ts) (d : decode cc pc = .ok (.getfield 19, 3)) (kk : xV X nL k n (wM cx h s) (pc + 3) lv (.ref (h 5) :: st)) : xV X nL k n (wM cx h s) pc lv (.ref (h 0) :: st) :=
  x_get hX d rfl rfl hin 4 (by decide) hl rfl rfl kk
theorem lM4 (hX : xOK l D cx rm X cc nL RX1 Ts) {i : Int32} (d : decode cc pc = .ok (.iaload, 1)) (hi : vp_in i 8) {j : Nat} (e : i.toNatClampNeg = j) (kk : xV X nL k n (wM cx h s) (pc + 1) lv (.int (s 4 j) :: st)) : xV X nL k n (wM cx h s) pc lv (.int i :: .ref (h 5) :: st) :=
  x_iald hX d 4 rfl hi (e ▸ kk)
theorem sM4 (hX : xOK l D cx rm X cc nL RX1 Ts) {i v : Int32} (d : decode cc pc = .ok (.iastore, 1)) (hi : vp_in i 8) {j : Nat} (e : i.toNatClampNeg = j) (kk : xV X nL k n (wM cx h (xup s 4 j (v))) (pc + 1) lv st) : xV X nL k n (wM cx h s) pc lv (.int v :: .int i :: .ref (h 5) :: st) :=
  x_iast hX d 4 rfl hi rfl (e ▸ kk)
theorem gM5 (hX : xOK l D cx rm X cc nL RX1 Ts) (hin : ∀ w ∈ wsX10, w ∈ Ts) (hl : Cond.fieldLink RX1 58 RX1 "letters" "I" ∈ Ts) (d : decode cc pc = .ok (.getfield 58, 3)) (kk : xV X nL k n (wM cx h s) (pc + 3) lv (.int (s 5 0) :: st)) : xV X nL k n (wM cx h s) pc lv (.ref (h 0) :: st) :=
  x_get hX d rfl rfl hin 5 (by decide) hl rfl rfl kk
theorem pM5 (hX : xOK l D cx rm X cc nL RX1 Ts) (hin : ∀ w ∈ wsX10, w ∈ Ts) (hl : Cond.fieldLink RX1 58 RX1 "letters" "I" ∈ Ts) {v : Int32} (d : decode cc pc = .ok (.putfield 58, 3)) (kk : xV X nL k n (wM cx h (xup s 5 0 v)) (pc + 3) lv st) : xV X nL k n (wM cx h s) pc lv (.int v :: .ref (h 0) :: st) :=
  x_put hX d rfl rfl hin tyX1 tyX1_ok nmX1 5 (by decide) hl rfl rfl rfl (Nat.le_of_ble_eq_true rfl) rfl kk
theorem gM6 (hX : xOK l D cx rm X cc nL RX1 Ts) (hin : ∀ w ∈ wsX10, w ∈ Ts) (hl : Cond.fieldLink RX1 22 RX1 "sender" "[I" ∈ Ts) (d : decode cc pc = .ok (.getfield 22, 3)) (kk : xV X nL k n (wM cx h s) (pc + 3) lv (.ref (h 7) :: st)) : xV X nL k n (wM cx h s) pc lv (.ref (h 0) :: st) :=
  x_get hX d rfl rfl hin 6 (by decide) hl rfl rfl kk
theorem lM6 (hX : xOK l D cx rm X cc nL RX1 Ts) {i : Int32} (d : decode cc pc = .ok (.iaload, 1)) (hi : vp_in i 60) {j : Nat} (e : i.toNatClampNeg = j) (kk : xV X nL k n (wM cx h s) (pc + 1) lv (.int (s 6 j) :: st)) : xV X nL k n (wM cx h s) pc lv (.int i :: .ref (h 7) :: st) :=
  x_iald hX d 5 rfl hi (e ▸ kk)
theorem sM6 (hX : xOK l D cx rm X cc nL RX1 Ts) {i v : Int32} (d : decode cc pc = .ok (.iastore, 1)) (hi : vp_in i 60) {j : Nat} (e : i.toNatClampNeg = j) (kk : xV X nL k n (wM cx h (xup s 6 j (v))) (pc + 1) lv st) : xV X nL k n (wM cx h s) pc lv (.int v :: .int i :: .ref (h 7) :: st) :=
  x_iast hX d 5 rfl hi rfl (e ▸ kk)
theorem gM7 (hX : xOK l D cx rm X cc nL RX1 Ts) (hin : ∀ w ∈ wsX10, w ∈ Ts) (hl : Cond.fieldLink RX1 25 RX1 "reader" "[I" ∈ Ts) (d : decode cc pc = .ok (.getfield 25, 3)) (kk : xV X nL k n (wM cx h s) (pc + 3) lv (.ref (h 8) :: st)) : xV X nL k n (wM cx h s) pc lv (.ref (h 0) :: st) :=
  x_get hX d rfl rfl hin 7 (by decide) hl rfl rfl kk
theorem lM7 (hX : xOK l D cx rm X cc nL RX1 Ts) {i : Int32} (d : decode cc pc = .ok (.iaload, 1)) (hi : vp_in i 60) {j : Nat} (e : i.toNatClampNeg = j) (kk : xV X nL k n (wM cx h s) (pc + 1) lv (.int (s 7 j) :: st)) : xV X nL k n (wM cx h s) pc lv (.int i :: .ref (h 8) :: st) :=
  x_iald hX d 6 rfl hi (e ▸ kk)
theorem sM7 (hX : xOK l D cx rm X cc nL RX1 Ts) {i v : Int32} (d : decode cc pc = .ok (.iastore, 1)) (hi : vp_in i 60) {j : Nat} (e : i.toNatClampNeg = j) (kk : xV X nL k n (wM cx h (xup s 7 j (v))) (pc + 1) lv st) : xV X nL k n (wM cx h s) pc lv (.int v :: .int i :: .ref (h 8) :: st) :=
  x_iast hX d 6 rfl hi rfl (e ▸ kk)
theorem gM8 (hX : xOK l D cx rm X cc nL RX1 Ts) (hin : ∀ w ∈ wsX10, w ∈ Ts) (hl : Cond.fieldLink RX1 28 RX1 "stake" "[I" ∈ Ts) (d : decode cc pc = .ok (.getfield 28, 3)) (kk : xV X nL k n (wM cx h s) (pc + 3) lv (.ref (h 9) :: st)) : xV X nL k n (wM cx h s) pc lv (.ref (h 0) :: st) :=
  x_get hX d rfl rfl hin 8 (by decide) hl rfl rfl kk
theorem lM8 (hX : xOK l D cx rm X cc nL RX1 Ts) {i : Int32} (d : decode cc pc = .ok (.iaload, 1)) (hi : vp_in i 60) {j : Nat} (e : i.toNatClampNeg = j) (kk : xV X nL k n (wM cx h s) (pc + 1) lv (.int (s 8 j) :: st)) : xV X nL k n (wM cx h s) pc lv (.int i :: .ref (h 9) :: st) :=
  x_iald hX d 7 rfl hi (e ▸ kk)
theorem sM8 (hX : xOK l D cx rm X cc nL RX1 Ts) {i v : Int32} (d : decode cc pc = .ok (.iastore, 1)) (hi : vp_in i 60) {j : Nat} (e : i.toNatClampNeg = j) (kk : xV X nL k n (wM cx h (xup s 8 j (v))) (pc + 1) lv st) : xV X nL k n (wM cx h s) pc lv (.int v :: .int i :: .ref (h 9) :: st) :=
  x_iast hX d 7 rfl hi rfl (e ▸ kk)
theorem gM9 (hX : xOK l D cx rm X cc nL RX1 Ts) (hin : ∀ w ∈ wsX10, w ∈ Ts) (hl : Cond.fieldLink RX1 31 RX1 "state" "[I" ∈ Ts) (d : decode cc pc = .ok (.getfield 31, 3)) (kk : xV X nL k n (wM cx h s) (pc + 3) lv (.ref (h 10) :: st)) : xV X nL k n (wM cx h s) pc lv (.ref (h 0) :: st) :=
  x_get hX d rfl rfl hin 9 (by decide) hl rfl rfl kk
theorem lM9 (hX : xOK l D cx rm X cc nL RX1 Ts) {i : Int32} (d : decode cc pc = .ok (.iaload, 1)) (hi : vp_in i 60) {j : Nat} (e : i.toNatClampNeg = j) (kk : xV X nL k n (wM cx h s) (pc + 1) lv (.int (s 9 j) :: st)) : xV X nL k n (wM cx h s) pc lv (.int i :: .ref (h 10) :: st) :=
  x_iald hX d 8 rfl hi (e ▸ kk)
theorem sM9 (hX : xOK l D cx rm X cc nL RX1 Ts) {i v : Int32} (d : decode cc pc = .ok (.iastore, 1)) (hi : vp_in i 60) {j : Nat} (e : i.toNatClampNeg = j) (kk : xV X nL k n (wM cx h (xup s 9 j (v))) (pc + 1) lv st) : xV X nL k n (wM cx h s) pc lv (.int v :: .int i :: .ref (h 10) :: st) :=
  x_iast hX d 8 rfl hi rfl (e ▸ kk)
theorem gM10 (hX : xOK l D cx rm X cc nL RX1 Ts) (hin : ∀ w ∈ wsX10, w ∈ Ts) (hl : Cond.fieldLink RX1 34 RX1 "relay" "[I" ∈ Ts) (d : decode cc pc = .ok (.getfield 34, 3)) (kk : xV X nL k n (wM cx h s) (pc + 3) lv (.ref (h 11) :: st)) : xV X nL k n (wM cx h s) pc lv (.ref (h 0) :: st) :=
  x_get hX d rfl rfl hin 10 (by decide) hl rfl rfl kk
theorem lM10 (hX : xOK l D cx rm X cc nL RX1 Ts) {i : Int32} (d : decode cc pc = .ok (.iaload, 1)) (hi : vp_in i 60) {j : Nat} (e : i.toNatClampNeg = j) (kk : xV X nL k n (wM cx h s) (pc + 1) lv (.int (s 10 j) :: st)) : xV X nL k n (wM cx h s) pc lv (.int i :: .ref (h 11) :: st) :=
  x_iald hX d 9 rfl hi (e ▸ kk)
theorem sM10 (hX : xOK l D cx rm X cc nL RX1 Ts) {i v : Int32} (d : decode cc pc = .ok (.iastore, 1)) (hi : vp_in i 60) {j : Nat} (e : i.toNatClampNeg = j) (kk : xV X nL k n (wM cx h (xup s 10 j (v))) (pc + 1) lv st) : xV X nL k n (wM cx h s) pc lv (.int v :: .int i :: .ref (h 11) :: st) :=
  x_iast hX d 9 rfl hi rfl (e ▸ kk)
theorem gM11 (hX : xOK l D cx rm X cc nL RX1 Ts) (hin : ∀ w ∈ wsX10, w ∈ Ts) (hl : Cond.fieldLink RX1 37 RX1 "marks" "[I" ∈ Ts) (d : decode cc pc = .ok (.getfield 37, 3)) (kk : xV X nL k n (wM cx h s) (pc + 3) lv (.ref (h 12) :: st)) : xV X nL k n (wM cx h s) pc lv (.ref (h 0) :: st) :=
  x_get hX d rfl rfl hin 11 (by decide) hl rfl rfl kk
theorem lM11 (hX : xOK l D cx rm X cc nL RX1 Ts) {i : Int32} (d : decode cc pc = .ok (.iaload, 1)) (hi : vp_in i 60) {j : Nat} (e : i.toNatClampNeg = j) (kk : xV X nL k n (wM cx h s) (pc + 1) lv (.int (s 11 j) :: st)) : xV X nL k n (wM cx h s) pc lv (.int i :: .ref (h 12) :: st) :=
  x_iald hX d 10 rfl hi (e ▸ kk)
theorem sM11 (hX : xOK l D cx rm X cc nL RX1 Ts) {i v : Int32} (d : decode cc pc = .ok (.iastore, 1)) (hi : vp_in i 60) {j : Nat} (e : i.toNatClampNeg = j) (kk : xV X nL k n (wM cx h (xup s 11 j (v))) (pc + 1) lv st) : xV X nL k n (wM cx h s) pc lv (.int v :: .int i :: .ref (h 12) :: st) :=
  x_iast hX d 10 rfl hi rfl (e ▸ kk)
theorem gM12 (hX : xOK l D cx rm X cc nL RX1 Ts) (hin : ∀ w ∈ wsX10, w ∈ Ts) (hl : Cond.fieldLink RX1 40 RX1 "came" "[I" ∈ Ts) (d : decode cc pc = .ok (.getfield 40, 3)) (kk : xV X nL k n (wM cx h s) (pc + 3) lv (.ref (h 13) :: st)) : xV X nL k n (wM cx h s) pc lv (.ref (h 0) :: st) :=
  x_get hX d rfl rfl hin 12 (by decide) hl rfl rfl kk
theorem lM12 (hX : xOK l D cx rm X cc nL RX1 Ts) {i : Int32} (d : decode cc pc = .ok (.iaload, 1)) (hi : vp_in i 60) {j : Nat} (e : i.toNatClampNeg = j) (kk : xV X nL k n (wM cx h s) (pc + 1) lv (.int (s 12 j) :: st)) : xV X nL k n (wM cx h s) pc lv (.int i :: .ref (h 13) :: st) :=
  x_iald hX d 11 rfl hi (e ▸ kk)
theorem sM12 (hX : xOK l D cx rm X cc nL RX1 Ts) {i v : Int32} (d : decode cc pc = .ok (.iastore, 1)) (hi : vp_in i 60) {j : Nat} (e : i.toNatClampNeg = j) (kk : xV X nL k n (wM cx h (xup s 12 j (v))) (pc + 1) lv st) : xV X nL k n (wM cx h s) pc lv (.int v :: .int i :: .ref (h 13) :: st) :=
  x_iast hX d 11 rfl hi rfl (e ▸ kk)
theorem gM13 (hX : xOK l D cx rm X cc nL RX1 Ts) (hin : ∀ w ∈ wsX10, w ∈ Ts) (hl : Cond.fieldLink RX1 43 RX1 "isFalse" "[Z" ∈ Ts) (d : decode cc pc = .ok (.getfield 43, 3)) (kk : xV X nL k n (wM cx h s) (pc + 3) lv (.ref (h 14) :: st)) : xV X nL k n (wM cx h s) pc lv (.ref (h 0) :: st) :=
  x_get hX d rfl rfl hin 13 (by decide) hl rfl rfl kk
theorem lM13 (hX : xOK l D cx rm X cc nL RX1 Ts) {i : Int32} (d : decode cc pc = .ok (.baload, 1)) (hi : vp_in i 60) {j : Nat} (e : i.toNatClampNeg = j) (kk : xV X nL k n (wM cx h s) (pc + 1) lv (.int (s 13 j) :: st)) : xV X nL k n (wM cx h s) pc lv (.int i :: .ref (h 14) :: st) :=
  x_zald hX d 12 rfl hi (e ▸ kk)
theorem sM13 (hX : xOK l D cx rm X cc nL RX1 Ts) {i v : Int32} (d : decode cc pc = .ok (.bastore, 1)) (hi : vp_in i 60) {j : Nat} (e : i.toNatClampNeg = j) (kk : xV X nL k n (wM cx h (xup s 13 j (vp_nar .boolean v))) (pc + 1) lv st) : xV X nL k n (wM cx h s) pc lv (.int v :: .int i :: .ref (h 14) :: st) :=
  x_zast hX d 12 rfl hi rfl (e ▸ kk)
theorem gM14 (hX : xOK l D cx rm X cc nL RX1 Ts) (hin : ∀ w ∈ wsX10, w ∈ Ts) (hl : Cond.fieldLink RX1 47 RX1 "moves" "[Z" ∈ Ts) (d : decode cc pc = .ok (.getfield 47, 3)) (kk : xV X nL k n (wM cx h s) (pc + 3) lv (.ref (h 15) :: st)) : xV X nL k n (wM cx h s) pc lv (.ref (h 0) :: st) :=
  x_get hX d rfl rfl hin 14 (by decide) hl rfl rfl kk
theorem lM14 (hX : xOK l D cx rm X cc nL RX1 Ts) {i : Int32} (d : decode cc pc = .ok (.baload, 1)) (hi : vp_in i 60) {j : Nat} (e : i.toNatClampNeg = j) (kk : xV X nL k n (wM cx h s) (pc + 1) lv (.int (s 14 j) :: st)) : xV X nL k n (wM cx h s) pc lv (.int i :: .ref (h 15) :: st) :=
  x_zald hX d 13 rfl hi (e ▸ kk)
theorem sM14 (hX : xOK l D cx rm X cc nL RX1 Ts) {i v : Int32} (d : decode cc pc = .ok (.bastore, 1)) (hi : vp_in i 60) {j : Nat} (e : i.toNatClampNeg = j) (kk : xV X nL k n (wM cx h (xup s 14 j (vp_nar .boolean v))) (pc + 1) lv st) : xV X nL k n (wM cx h s) pc lv (.int v :: .int i :: .ref (h 15) :: st) :=
  x_zast hX d 13 rfl hi rfl (e ▸ kk)
theorem gM15 (hX : xOK l D cx rm X cc nL RX1 Ts) (hin : ∀ w ∈ wsX10, w ∈ Ts) (hl : Cond.fieldLink RX1 50 RX1 "thrown" "I" ∈ Ts) (d : decode cc pc = .ok (.getfield 50, 3)) (kk : xV X nL k n (wM cx h s) (pc + 3) lv (.int (s 15 0) :: st)) : xV X nL k n (wM cx h s) pc lv (.ref (h 0) :: st) :=
  x_get hX d rfl rfl hin 15 (by decide) hl rfl rfl kk
theorem pM15 (hX : xOK l D cx rm X cc nL RX1 Ts) (hin : ∀ w ∈ wsX10, w ∈ Ts) (hl : Cond.fieldLink RX1 50 RX1 "thrown" "I" ∈ Ts) {v : Int32} (d : decode cc pc = .ok (.putfield 50, 3)) (kk : xV X nL k n (wM cx h (xup s 15 0 v)) (pc + 3) lv st) : xV X nL k n (wM cx h s) pc lv (.int v :: .ref (h 0) :: st) :=
  x_put hX d rfl rfl hin tyX1 tyX1_ok nmX1 15 (by decide) hl rfl rfl rfl (Nat.le_of_ble_eq_true rfl) rfl kk
end XWM
