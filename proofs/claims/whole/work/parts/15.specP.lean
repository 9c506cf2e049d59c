/-! the class's public methods: k.. which exception (0: none), v.. the answer, s.. the state behind it -/
def kRoute (a b c : Int32) : Int32 := if P4 a then (if P4 b then (if P4 c then (if b = a then 2 else if c = a then 2 else 0) else 1) else 1) else 1
def vRoute (s : xS) (a b : Int32) : Int32 := s 11 (ix (a * 4 + b))
def sRoute (s : xS) (a b c : Int32) : xS := xup s 11 (ix (a * 4 + b)) c
def kTwo4 (a b : Int32) : Int32 := if P4 a then (if P4 b then 0 else 1) else 1
def fAt (s : xS) (a t : Int32) : Nat → Int32
  | 0 => a
  | k + 1 => fNext s (fAt s a t k) t
def fSteps (s : xS) (a t : Int32) : Nat → Nat → Int32
  | 0, _ => -1
  | m + 1, k => if fAt s a t k = t then nI k else fSteps s a t m (k + 1)
def kSend (s : xS) (n : Nat) (a b c : Int32) : Int32 :=
  if P8 a then (if P8 b then (if a = b then 2 else if c < 0 then 2 else if c ≤ 20 then (if c < fLeast s n a then 3 else if s 8 (ix a) < c then 3 else if s 12 0 < 60 then 0 else 3) else 2) else 1) else 1
def sSend1 (s : xS) (a b c : Int32) : xS := xup (xup (xup (xup (xup s 12 0 (s 12 0 + 1)) 0 (ix (s 12 0)) a) 1 (ix (s 12 0)) b) 2 (ix (s 12 0)) c) 3 (ix (s 12 0)) 0
def sSend (s : xS) (a b c : Int32) : xS := fLay (xup (sSend1 s a b c) 8 (ix a) ((sSend1 s a b c) 8 (ix a) - c)) (s 12 0) (fHome a)
def kPass (s : xS) (a : Int32) : Int32 := if a < 1 then 1 else if a ≤ 50 then (if s 13 0 ≤ 100000 - a then 0 else 2) else 1
def kDel (s : xS) (a : Int32) : Int32 := if PL s a then (if s 3 (ix a) = 1 then 0 else 2) else 1
def sAns (s : xS) (a : Int32) : xS := fGive (xup s 3 (ix a) 2) a
def sMark1 (s : xS) (a : Int32) : xS := fPool (xup s 3 (ix a) 3) a (fHome ((xup s 3 (ix a) 3) 1 (ix a)))
def nMark (s : xS) (n : Nat) (a : Int32) : Int32 := fBits (fWho (sMark1 s a) ((sMark1 s a) 0 (ix a)) ((sMark1 s a) 1 (ix a)) n)
def sMark2 (s : xS) (a : Int32) : xS := xup (sMark1 s a) 7 (ix a) (vp_nar .boolean 1)
def sMark (s : xS) (n : Nat) (a : Int32) : xS := if 3 ≤ nMark s n a then fPay (sMark2 s a) ((sMark2 s a) 1 (ix a)) ((sMark2 s a) 0 (ix a)) ((sMark2 s a) 2 (ix a)) else sMark1 s a
def vMark (s : xS) (n : Nat) (a : Int32) : Int32 := if 3 ≤ nMark s n a then fPayN (sMark2 s a) ((sMark2 s a) 1 (ix a)) ((sMark2 s a) 0 (ix a)) ((sMark2 s a) 2 (ix a)) else 0
theorem okX.mark1 {s : xS} {n : Nat} {a : Int32} (h : okX s n) : okX (sMark1 s a) n := (h.up (by decide)).pool
theorem okX.mark2 {s : xS} {n : Nat} {a : Int32} (h : okX s n) : okX (sMark2 s a) n := h.mark1.up (by decide)
def kLet (s : xS) (a : Int32) : Int32 := if PL s a then 0 else 1
def k4 (a : Int32) : Int32 := if P4 a then 0 else 1
def k8 (a : Int32) : Int32 := if P8 a then 0 else 1
def kAt (s : xS) (n : Nat) (a b : Int32) : Int32 := if P4 a then (if b < 0 then 1 else if b < fLen s a n then 0 else 1) else 1
def xPx (es : List (String × Int32)) (K : Int32) : String → Prop := fun E => ∃ c, (E, c) ∈ es ∧ K = c
theorem tb_IOB : ∀ w ∈ (vx_atS RX0 68 "java/lang/IndexOutOfBoundsException" xNm).filter (fun w => !goodWord w), w ∈ xBad "java/lang/IndexOutOfBoundsException" := by decide +kernel
theorem tb_IAE : ∀ w ∈ (vx_atS RX0 75 "java/lang/IllegalArgumentException" xNm).filter (fun w => !goodWord w), w ∈ xBad "java/lang/IllegalArgumentException" := by decide +kernel
theorem tb_ISE : ∀ w ∈ (vx_atS RX0 95 "java/lang/IllegalStateException" xNm).filter (fun w => !goodWord w), w ∈ xBad "java/lang/IllegalStateException" := by decide +kernel
theorem to_IOB : ∀ w ∈ Cond.classLink RX0 64 "java/lang/IndexOutOfBoundsException" :: Cond.initialized "java/lang/IndexOutOfBoundsException" :: vx_atS RX0 68 "java/lang/IndexOutOfBoundsException" xNm, vx_ot w = true := by decide +kernel
theorem to_IAE : ∀ w ∈ Cond.classLink RX0 71 "java/lang/IllegalArgumentException" :: Cond.initialized "java/lang/IllegalArgumentException" :: vx_atS RX0 75 "java/lang/IllegalArgumentException" xNm, vx_ot w = true := by decide +kernel
theorem to_ISE : ∀ w ∈ Cond.classLink RX0 91 "java/lang/IllegalStateException" :: Cond.initialized "java/lang/IllegalStateException" :: vx_atS RX0 95 "java/lang/IllegalStateException" xNm, vx_ot w = true := by decide +kernel
theorem ix_nI {a : Int32} (h : ¬ a < 0) : a = nI (ix a) ∧ ix a < 2 ^ 31 := by
  obtain ⟨j, hj, rfl⟩ := nI_of h
  rw [show ix (nI j) = j from nI_clamp hj]
  exact ⟨rfl, hj⟩
theorem lt1_lt0 {a : Int32} (h : ¬ a < 1) : ¬ a < 0 := by
  rw [i32_lt] at h ⊢
  have : (1 : Int32).toInt = 1 := rfl
  have : (0 : Int32).toInt = 0 := rfl
  omega
theorem okX.new {s : xS} {n : Nat} (h : okX s n) (c : s 12 0 < 60) : vp_in (s 12 0) 60 ∧ okX (xup s 12 0 (s 12 0 + 1)) (n + 1) ∧ n < 60 := by
  have h1 := h.1
  rw [h.2, i32_lt, nI_toInt (by omega)] at c
  have h60 : (60 : Int32).toInt = 60 := rfl
  rw [h60] at c
  have hn : n < 60 := by omega
  refine ⟨by rw [h.2]; exact vp_in_nI hn (by decide), ⟨by omega, ?_⟩, hn⟩
  rw [xup_ss, h.2]
  exact nI_1 n
theorem okX.send1 {s : xS} {n : Nat} {a b c : Int32} (h : okX s n) (hc : s 12 0 < 60) : okX (sSend1 s a b c) (n + 1) := ((((h.new hc).2.1.up (by decide)).up (by decide)).up (by decide)).up (by decide)
