/-! what the class's methods answer, and what they make of a state (fields: 0 senders 1 readers 2 stakes 3 states 4 places 5 relaysSeen 6 deliveryTimes 7 falselyMarked 8 purses 9 falseMarkCounts 10 pools 11 routes 12 letterCount 13 now 14 waitingAt 15 reputations) -/
theorem xb_f {P : Prop} [Decidable P] : (if P then (1 : Int32) else 0) = 0 ↔ ¬ P := by by_cases h : P <;> simp [h]
theorem xb_t {P : Prop} [Decidable P] : ¬ (if P then (1 : Int32) else 0) = 0 ↔ P := by by_cases h : P <;> simp [h]
abbrev P8 (v : Int32) : Prop := 0 ≤ v ∧ v < 8
abbrev P4 (v : Int32) : Prop := 0 ≤ v ∧ v < 4
abbrev PL (s : xS) (v : Int32) : Prop := 0 ≤ v ∧ v < s 12 0
def okX (s : xS) (n : Nat) : Prop := n ≤ 60 ∧ s 12 0 = nI n
theorem i32_le {a b : Int32} : a ≤ b ↔ a.toInt ≤ b.toInt := Int32.le_iff_toInt_le
theorem i32_lt {a b : Int32} : a < b ↔ a.toInt < b.toInt := Int32.lt_iff_toInt_lt
theorem bnd_if (v u : Int32) : (if v < 0 then (0 : Int32) else if u ≤ v then 0 else 1) = if 0 ≤ v ∧ v < u then 1 else 0 := by
  have z : (0 : Int32).toInt = 0 := rfl
  by_cases h1 : v < 0 <;> by_cases h2 : u ≤ v <;> simp only [i32_le, i32_lt, z] at h1 h2 ⊢ <;> (split <;> split <;> first | rfl | (exfalso; omega) | (split <;> first | rfl | (exfalso; omega)))
theorem P8_in {v : Int32} (h : P8 v) : vp_in v 8 := by
  have h1 := i32_le.mp h.1
  have h2 := i32_lt.mp h.2
  rw [vp_in_iff]
  exact ⟨h1, h2⟩
theorem P4_in {v : Int32} (h : P4 v) : vp_in v 4 := by
  have h1 := i32_le.mp h.1
  have h2 := i32_lt.mp h.2
  rw [vp_in_iff]
  exact ⟨h1, h2⟩
theorem P4_in16 {r t : Int32} (h : P4 r) (h2 : P4 t) : vp_in (r * 4 + t) 16 := by
  obtain ⟨a, ha, rfl⟩ := vp_in_of (P4_in h) (by decide)
  obtain ⟨b, hb, rfl⟩ := vp_in_of (P4_in h2) (by decide)
  rw [show (4 : Int32) = nI 4 from rfl, pk_mul, nI_add]
  exact vp_in_nI (by omega) (by decide)
theorem PL_in {s : xS} {n : Nat} {v : Int32} (hN : okX s n) (h : PL s v) : vp_in v 60 := by
  have h1 := i32_le.mp h.1
  have h2 := i32_lt.mp h.2
  have h3 := hN.1
  rw [hN.2, nI_toInt (by omega)] at h2
  rw [vp_in_iff]
  exact ⟨h1, by omega⟩
theorem PL_nI {s : xS} {n k : Nat} (hN : okX s n) (h : k < n) : PL s (nI k) := by
  have h3 := hN.1
  refine ⟨nI_pos' (by omega), ?_⟩
  rw [hN.2]
  exact nI_lt h (by omega)
theorem okX_in {s : xS} {n k : Nat} (hN : okX s n) (h : k < n) : vp_in (nI k) 60 := vp_in_nI (by have := hN.1; omega) (by decide)
theorem nI_i1 (k : Nat) : nI k + Int32.ofInt 1 = nI (k + 1) := nI_1 k
theorem lp_no {b : Int32} {N k : Nat} (hb : b = nI N) (hN : N < 2 ^ 31) (hk : k < N) : ¬ b ≤ nI k := by rw [hb]; exact nI_ge hk hN
theorem lp_yes {b : Int32} {N k : Nat} (hb : b = nI N) (hN : N < 2 ^ 31) (hk : k = N) : b ≤ nI k := by rw [hb, hk]; exact nI_le (Nat.le_refl _) hN
theorem okX.lt {s : xS} {n : Nat} (h : okX s n) : n < 2 ^ 31 := by have := h.1; omega
/-- an address of a place -/
abbrev ix (v : Int32) : Nat := v.toNatClampNeg
def fHome (v : Int32) : Int32 := v - v / 4 * 4
def fMark (v : Int32) : Int32 := 1 <<< (v &&& 31)
def fNext (s : xS) (r t : Int32) : Int32 := if P4 r ∧ P4 t then s 11 (ix (r * 4 + t)) else t
def fWeight (s : xS) (v : Int32) : Int32 := if P8 v then (if 5 - s 9 (ix v) < 1 then 1 else 5 - s 9 (ix v)) else 1
def fOpinion (s : xS) (v : Int32) : Int32 :=
  if PL s v then (if s 3 (ix v) = 2 then 2 * fWeight s (s 1 (ix v)) else if s 3 (ix v) = 3 ∧ s 7 (ix v) = 0 then -3 * fWeight s (s 1 (ix v)) else 0) else 0
def fRep (s : xS) (p : Int32) : Nat → Int32
  | 0 => 0
  | k + 1 => if s 0 k = p then fRep s p k + fOpinion s (nI k) else fRep s p k
def fLeast (s : xS) (n : Nat) (p : Int32) : Int32 := if 0 < (if 10 - fRep s p n < 20 then 10 - fRep s p n else 20) then (if 10 - fRep s p n < 20 then 10 - fRep s p n else 20) else 0
theorem okX.up {s : xS} {n j i : Nat} {v : Int32} (h : okX s n) (hj : j ≠ 12) : okX (xup s j i v) n := ⟨h.1, by rw [xup_n (Ne.symm hj)]; exact h.2⟩
/-- the working row of reputations: emptied up to k; filled by the letters below k -/
def fZero (s : xS) : Nat → xS
  | 0 => s
  | k + 1 => xup (fZero s k) 15 k 0
theorem okX.zero {s : xS} {n : Nat} (h : okX s n) : ∀ k, okX (fZero s k) n
  | 0 => h
  | k + 1 => (h.zero k).up (by decide)
def fFill (t : xS) : Nat → xS
  | 0 => t
  | k + 1 => if P8 ((fFill t k) 0 k) then xup (fFill t k) 15 (ix ((fFill t k) 0 k)) ((fFill t k) 15 (ix ((fFill t k) 0 k)) + fOpinion (fFill t k) (nI k)) else fFill t k
theorem okX.fill {s : xS} {n : Nat} (h : okX s n) : ∀ k, okX (fFill s k) n
  | 0 => h
  | k + 1 => by
    unfold fFill
    split
    · exact (h.fill k).up (by decide)
    · exact h.fill k
def fAll (s : xS) (n : Nat) : xS := fFill (fZero s 8) n
theorem okX.all {s : xS} {n : Nat} (h : okX s n) : okX (fAll s n) n := (h.zero 8).fill n
def fWait (s : xS) : Nat → xS
  | 0 => s
  | k + 1 => xup (fWait s k) 14 k ((fWait s k) 4 k)
theorem okX.wait {s : xS} {n : Nat} (h : okX s n) : ∀ k, okX (fWait s k) n
  | 0 => h
  | k + 1 => (h.wait k).up (by decide)
def fBegin (s : xS) (n : Nat) : xS := fAll (fWait s n) n
theorem okX.begin {s : xS} {n : Nat} (h : okX s n) : okX (fBegin s n) n := (h.wait n).all
def fRank (s : xS) (v : Int32) : Int32 := if PL s v ∧ P8 (s 0 (ix v)) then s 2 (ix v) + s 15 (ix (s 0 (ix v))) else 0
/-- the first of the greatest rank among the letters below k that wait at r -/
def fBest (s : xS) (r : Int32) : Nat → Int32
  | 0 => -1
  | k + 1 => if s 14 k = r then (if fBest s r k = -1 then nI k else if fRank s (nI k) ≤ fRank s (fBest s r k) then fBest s r k else nI k) else fBest s r k
def fTake (s : xS) (n : Nat) (r : Int32) : xS := if PL s (fBest s r n) then xup s 14 (ix (fBest s r n)) (-1) else s
theorem okX.take {s : xS} {n m : Nat} {r : Int32} (h : okX s n) : okX (fTake s m r) n := by
  unfold fTake
  split
  · exact h.up (by decide)
  · exact h
def fLen (s : xS) (r : Int32) : Nat → Int32
  | 0 => 0
  | k + 1 => if s 4 k = r then fLen s r k + 1 else fLen s r k
def fEscrow (s : xS) : Nat → Int32
  | 0 => 0
  | k + 1 => if s 3 k = 0 then fEscrow s k + s 2 k else if s 3 k = 1 then fEscrow s k + s 2 k else fEscrow s k
def fWho (s : xS) (p q : Int32) : Nat → Int32
  | 0 => 0
  | k + 1 => if s 3 k = 2 then (if s 0 k = p then (if s 1 k = q then fWho s p q k else fWho s p q k ||| 1 <<< (s 1 k &&& 31)) else fWho s p q k) else fWho s p q k
/-- Integer.bitCount, as the JDK counts -/
def us (x y : Int32) : Int32 := (x.toUInt32 >>> (y.toUInt32 &&& Int32.toUInt32 31)).toInt32
def fB1 (i : Int32) : Int32 := i - (us i 1 &&& 1431655765)
def fB2 (i : Int32) : Int32 := (i &&& 858993459) + (us i 2 &&& 858993459)
def fB3 (i : Int32) : Int32 := (i + us i 4) &&& 252645135
def fB4 (i : Int32) : Int32 := i + us i 8
def fB5 (i : Int32) : Int32 := i + us i 16
def fBits (i : Int32) : Int32 := fB5 (fB4 (fB3 (fB2 (fB1 i)))) &&& 63
def fLay (s : xS) (v r : Int32) : xS := if PL s v then xup (xup s 4 (ix v) r) 5 (ix v) ((xup s 4 (ix v) r) 5 (ix v) ||| fMark r) else s
theorem okX.lay {s : xS} {n : Nat} {v r : Int32} (h : okX s n) : okX (fLay s v r) n := by
  unfold fLay
  split
  · exact (h.up (by decide)).up (by decide)
  · exact h
def fLeave (s : xS) (v t : Int32) : xS := if PL s v then xup (xup s 4 (ix v) (-1)) 3 (ix v) t else s
theorem okX.leave {s : xS} {n : Nat} {v t : Int32} (h : okX s n) : okX (fLeave s v t) n := by
  unfold fLeave
  split
  · exact (h.up (by decide)).up (by decide)
  · exact h
def fPool (s : xS) (v r : Int32) : xS := if PL s v ∧ P4 r then xup s 10 (ix r) (s 10 (ix r) + s 2 (ix v)) else s
theorem okX.pool {s : xS} {n : Nat} {v r : Int32} (h : okX s n) : okX (fPool s v r) n := by
  unfold fPool
  split
  · exact h.up (by decide)
  · exact h
def fGive (s : xS) (v : Int32) : xS := if PL s v ∧ P8 (s 0 (ix v)) then xup s 8 (ix (s 0 (ix v))) (s 8 (ix (s 0 (ix v))) + s 2 (ix v)) else s
theorem okX.give {s : xS} {n : Nat} {v : Int32} (h : okX s n) : okX (fGive s v) n := by
  unfold fGive
  split
  · exact h.up (by decide)
  · exact h
def fMove (s : xS) (v r : Int32) : xS :=
  if PL s v then
    (if r = fHome (s 1 (ix v)) then xup (fLeave s v 1) 6 (ix v) ((fLeave s v 1) 13 0)
     else if s 5 (ix v) &&& fMark (fNext s r (fHome (s 1 (ix v)))) = 0 then fLay s v (fNext s r (fHome (s 1 (ix v)))) else fPool (fLeave s v 4) v r)
  else s
def fMoveN (s : xS) (v r : Int32) : Int32 := if PL s v ∧ r = fHome (s 1 (ix v)) then 1 else 0
theorem okX.move {s : xS} {n : Nat} {v r : Int32} (h : okX s n) : okX (fMove s v r) n := by
  unfold fMove
  split
  · split
    · exact h.leave.up (by decide)
    · split
      · exact h.lay
      · exact h.leave.pool
  · exact h
def fExp (s : xS) : Nat → xS
  | 0 => s
  | k + 1 => if (fExp s k) 3 k = 1 then (if (fExp s k) 13 0 - (fExp s k) 6 k < 20 then fExp s k else fGive (xup (fExp s k) 3 k 5) (nI k)) else fExp s k
theorem okX.exp {s : xS} {n : Nat} (h : okX s n) : ∀ k, okX (fExp s k) n
  | 0 => h
  | k + 1 => by
    unfold fExp
    split
    · split
      · exact h.exp k
      · exact ((h.exp k).up (by decide)).give
    · exact h.exp k
def fPayV (s : xS) (p t : Int32) : Int32 := if s 8 (ix p) < t then s 8 (ix p) else t
def fPay (s : xS) (p q t : Int32) : xS :=
  if P8 p ∧ P8 q then
    xup (xup (xup s 9 (ix p) (s 9 (ix p) + 1)) 8 (ix p) ((xup s 9 (ix p) (s 9 (ix p) + 1)) 8 (ix p) - fPayV s p t)) 8 (ix q) ((xup (xup s 9 (ix p) (s 9 (ix p) + 1)) 8 (ix p) ((xup s 9 (ix p) (s 9 (ix p) + 1)) 8 (ix p) - fPayV s p t)) 8 (ix q) + fPayV s p t)
  else s
def fPayN (s : xS) (p q t : Int32) : Int32 := if P8 p ∧ P8 q then fPayV s p t else 0
theorem okX.pay {s : xS} {n : Nat} {p q t : Int32} (h : okX s n) : okX (fPay s p q t) n := by
  unfold fPay
  split
  · exact ((h.up (by decide)).up (by decide)).up (by decide)
  · exact h
def fStep (s : xS) (n : Nat) (r : Int32) : xS := fMove (fTake s n r) (fBest s r n) r
def fStepN (s : xS) (n : Nat) (r : Int32) : Int32 := fMoveN (fTake s n r) (fBest s r n) r
def fTwo (s : xS) (n : Nat) (r : Int32) : Nat → xS
  | 0 => s
  | k + 1 => fStep (fTwo s n r k) n r
def fTwoN (s : xS) (n : Nat) (r c : Int32) : Nat → Int32
  | 0 => c
  | k + 1 => fTwoN s n r c k + fStepN (fTwo s n r k) n r
theorem okX.two {s : xS} {n : Nat} {r : Int32} (h : okX s n) : ∀ k, okX (fTwo s n r k) n
  | 0 => h
  | k + 1 => (h.two k).take.move
def fFour (s : xS) (n : Nat) : Nat → xS
  | 0 => s
  | k + 1 => fTwo (fFour s n k) n (nI k) 2
def fFourN (s : xS) (n : Nat) : Nat → Int32
  | 0 => 0
  | k + 1 => fTwoN (fFour s n k) n (nI k) (fFourN s n k) 2
theorem okX.four {s : xS} {n : Nat} (h : okX s n) : ∀ k, okX (fFour s n k) n
  | 0 => h
  | k + 1 => (h.four k).two 2
def fTick0 (s : xS) (n : Nat) : xS := fBegin (xup s 13 0 (s 13 0 + 1)) n
def fTick (s : xS) (n : Nat) : xS := fExp (fFour (fTick0 s n) n 4) n
def fTickN (s : xS) (n : Nat) : Int32 := fFourN (fTick0 s n) n 4
theorem okX.tick0 {s : xS} {n : Nat} (h : okX s n) : okX (fTick0 s n) n := (h.up (by decide)).begin
theorem okX.tick {s : xS} {n : Nat} (h : okX s n) : okX (fTick s n) n := (h.tick0.four 4).exp n
def fTicks (s : xS) (n : Nat) : Nat → xS
  | 0 => s
  | k + 1 => fTick (fTicks s n k) n
def fTicksN (s : xS) (n : Nat) : Nat → Int32
  | 0 => 0
  | k + 1 => fTicksN s n k + fTickN (fTicks s n k) n
theorem okX.ticks {s : xS} {n : Nat} (h : okX s n) : ∀ k, okX (fTicks s n k) n
  | 0 => h
  | k + 1 => (h.ticks k).tick
def fTakes (s : xS) (n : Nat) (r : Int32) : Nat → xS
  | 0 => s
  | k + 1 => fTake (fTakes s n r k) n r
theorem okX.takes {s : xS} {n : Nat} {r : Int32} (h : okX s n) : ∀ k, okX (fTakes s n r k) n
  | 0 => h
  | k + 1 => (h.takes k).take
