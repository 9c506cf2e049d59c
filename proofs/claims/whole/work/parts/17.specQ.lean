/-! the reference's public methods: q.. the state behind it, w.. the answer -/
def qRoute (u : xS) (a b c : Int32) : xS := if kRoute a b c = 0 then xup (xup u 15 0 0) 1 (ix (4 * a + b)) c else xup u 15 0 (kRoute a b c)
def wRoute (u : xS) (a b c : Int32) : Int32 := if kRoute a b c = 0 then (xup u 15 0 0) 1 (ix (4 * a + b)) else 0
def wSteps (u : xS) (a b : Int32) : Int32 := if kTwo4 a b = 0 then gWay (xup u 15 0 0) b 4 a (1 <<< (a &&& 31)) 0 else 0
def jSend (u : xS) (n : Nat) (a b c : Int32) : Int32 :=
  if P8 a then (if P8 b then (if a = b then 2 else if gIn c 0 20 then (if c < gLeast u n a then 3 else if u 2 (ix a) < c then 3 else if 60 ≤ u 5 0 then 3 else 0) else 2) else 1) else 1
def q1 (u : xS) (a : Int32) : xS := xup u 6 (ix (u 5 0)) a
def q2 (u : xS) (b : Int32) : xS := xup u 7 (ix (u 5 0)) b
def q3 (u : xS) (c : Int32) : xS := xup u 8 (ix (u 5 0)) c
def q4 (u : xS) (a : Int32) : xS := xup u 10 (ix (u 5 0)) (a - a / 4 * 4)
def q5 (u : xS) (a : Int32) : xS := xup u 11 (ix (u 5 0)) (1 <<< ((a - a / 4 * 4) &&& 31))
def q6 (u : xS) (a c : Int32) : xS := xup u 2 (ix a) (u 2 (ix a) - c)
def q7 (u : xS) : xS := xup u 5 0 (u 5 0 + 1)
def qSend0 (u : xS) (a b c : Int32) : xS := q7 (q6 (q5 (q4 (q3 (q2 (q1 (xup u 15 0 0) a) b) c) a) a) a c)
def qSend (u : xS) (n : Nat) (a b c : Int32) : xS := if jSend u n a b c = 0 then qSend0 u a b c else xup u 15 0 (jSend u n a b c)
def wSend (u : xS) (n : Nat) (a b c : Int32) : Int32 := if jSend u n a b c = 0 then (qSend0 u a b c) 5 0 - 1 else 0
def jPass (u : xS) (a : Int32) : Int32 := if gIn a 1 50 then (if u 0 0 + a ≤ 100000 then 0 else 2) else 1
def qPass (u : xS) (n : Nat) (a : Int32) : xS := if jPass u a = 0 then gTicks (xup u 15 0 0) n (ix a) else xup u 15 0 (jPass u a)
def wPass (u : xS) (n : Nat) (a : Int32) : Int32 := if jPass u a = 0 then gTicksN (xup u 15 0 0) n (ix a) else 0
def jDel (u : xS) (a : Int32) : Int32 := if PM u a then (if u 9 (ix a) = 1 then 0 else 2) else 1
def qAns0 (u : xS) (a : Int32) : xS := xup (xup u 9 (ix a) 2) 2 (ix ((xup u 9 (ix a) 2) 6 (ix a))) ((xup u 9 (ix a) 2) 2 (ix ((xup u 9 (ix a) 2) 6 (ix a))) + (xup u 9 (ix a) 2) 8 (ix a))
def qAns (u : xS) (a : Int32) : xS := if jDel u a = 0 then qAns0 (xup u 15 0 0) a else xup u 15 0 (jDel u a)
def wAns (u : xS) (n : Nat) (a : Int32) : Int32 := if jDel u a = 0 then gName (qAns0 (xup u 15 0 0) a) ((qAns0 (xup u 15 0 0) a) 6 (ix a)) n else 0
def qMk1 (u : xS) (a : Int32) (f : Int32) : xS := xup (xup u 9 (ix a) 3) 13 (ix a) (vp_nar .boolean f)
def qMk2 (u : xS) (a w : Int32) : xS := xup u 3 (ix (w - w / 4 * 4)) (u 3 (ix (w - w / 4 * 4)) + u 8 (ix a))
def qMk3 (u : xS) (w f : Int32) : xS := xup u 4 (ix w) (u 4 (ix w) + f)
def qMk4 (u : xS) (w p : Int32) : xS := xup u 2 (ix w) (u 2 (ix w) - p)
def qMk5 (u : xS) (a p : Int32) : xS := xup u 2 (ix (u 6 (ix a))) (u 2 (ix (u 6 (ix a))) + p)
def qMk (u : xS) (a f p : Int32) : xS := qMk5 (qMk4 (qMk3 (qMk2 (qMk1 u a f) a (u 7 (ix a))) (u 7 (ix a)) f) (u 7 (ix a)) p) a p
def nMk (u : xS) (n : Nat) (a : Int32) : Int32 := gCnt u n a 8
def pMk (u : xS) (a : Int32) : Int32 := if u 8 (ix a) ≤ u 2 (ix (u 7 (ix a))) then u 8 (ix a) else u 2 (ix (u 7 (ix a)))
def qMark0 (u : xS) (n : Nat) (a : Int32) : xS := if nMk u n a < 3 then qMk u a 0 0 else qMk u a 1 (pMk u a)
def qMark (u : xS) (n : Nat) (a : Int32) : xS := if jDel u a = 0 then qMark0 (xup u 15 0 0) n a else xup u 15 0 (jDel u a)
def wMark (u : xS) (n : Nat) (a : Int32) : Int32 := if jDel u a = 0 then (if nMk (xup u 15 0 0) n a < 3 then 0 else pMk (xup u 15 0 0) a) else 0
def jLet (u : xS) (a : Int32) : Int32 := if PM u a then 0 else 1
def jAt (u : xS) (n : Nat) (a b : Int32) : Int32 := if P4 a then (if gIn b 0 (gLen u a n - 1) then 0 else 1) else 1
def w9 (u : xS) (a : Int32) : Int32 := if PM u a then (xup u 15 0 (jLet u a)) 9 (ix a) else 0
def w10 (u : xS) (a : Int32) : Int32 := if PM u a then (if (xup u 15 0 (jLet u a)) 9 (ix a) = 0 then (xup u 15 0 (jLet u a)) 10 (ix a) else -1) else 0
def w11 (u : xS) (a : Int32) : Int32 := if PM u a then (xup u 15 0 (jLet u a)) 11 (ix a) else 0
theorem okM.new {u : xS} {n : Nat} (h : okM u n) (c : ¬ 60 ≤ u 5 0) : vp_in (u 5 0) 60 ∧ n < 60 ∧ ix (u 5 0) = n := by
  have h1 := h.1
  have h60 : (60 : Int32).toInt = 60 := rfl
  rw [h.2.1, i32_le, nI_toInt (by omega), h60] at c
  have hn : n < 60 := by omega
  rw [h.2.1, show ix (nI n) = n from nI_clamp (by omega)]
  exact ⟨vp_in_nI hn (by decide), hn, rfl⟩
theorem okM.ans {u : xS} {n : Nat} {a : Int32} (h : okM u n) : okM (qAns0 u a) n := (h.up rfl).up rfl
/-- unmarked relays of a set of four -/
def zN (j : Nat) : Nat := (if j % 2 = 1 then 0 else 1) + (if j / 2 % 2 = 1 then 0 else 1) + (if j / 4 % 2 = 1 then 0 else 1) + (if j / 8 % 2 = 1 then 0 else 1)
theorem way_step : ∀ j, j < 16 → ∀ q, q < 4 → ¬ gHas (nI j) (nI q) → ∃ i, i < 16 ∧ nI j ||| 1 <<< (nI q &&& 31) = nI i ∧ zN i < zN j := by
  have h : ∀ j, j < 16 → ∀ q, q < 4 → ¬ gHas (nI j) (nI q) → (j ||| 2 ^ q) < 16 ∧ nI j ||| 1 <<< (nI q &&& 31) = nI (j ||| 2 ^ q) ∧ zN (j ||| 2 ^ q) < zN j := by decide +kernel
  exact fun j hj q hq hn => ⟨_, h j hj q hq hn⟩
theorem way_init : ∀ q, q < 4 → ∃ i, i < 16 ∧ 1 <<< (nI q &&& 31) = nI i ∧ zN i ≤ 3 := by
  have h : ∀ q, q < 4 → (2 ^ q) < 16 ∧ (1 : Int32) <<< (nI q &&& 31) = nI (2 ^ q) ∧ zN (2 ^ q) ≤ 3 := by decide +kernel
  exact fun q hq => ⟨_, h q hq⟩
