/-! the reference's methods (fields: 0 time 1 routes 2 coins 3 pools 4 falsely 5 letters 6 sender 7 reader 8 stake 9 state 10 relay 11 marks 12 came 13 isFalse 14 moves 15 thrown) -/
abbrev PM (u : xS) (v : Int32) : Prop := 0 ≤ v ∧ v < u 5 0
def okM (u : xS) (n : Nat) : Prop := n ≤ 60 ∧ u 5 0 = nI n ∧ (∀ k, k < n → P8 (u 6 k) ∧ P8 (u 7 k) ∧ P4 (u 10 k)) ∧ (∀ j, j < 16 → P4 (u 1 j))
theorem okM.lt {u : xS} {n : Nat} (h : okM u n) : n < 2 ^ 31 := by have := h.1; omega
theorem okM.up {u : xS} {n j i : Nat} {v : Int32} (h : okM u n) (hj : (j != 1 && j != 5 && j != 6 && j != 7 && j != 10) = true) : okM (xup u j i v) n := by
  simp only [Bool.and_eq_true, bne_iff_ne] at hj
  obtain ⟨⟨⟨⟨h1, h5⟩, h6⟩, h7⟩, h10⟩ := hj
  obtain ⟨a, b, c, d⟩ := h
  refine ⟨a, by rw [xup_n (Ne.symm h5)]; exact b, fun k hk => ?_, fun q hq => by rw [xup_n (Ne.symm h1)]; exact d q hq⟩
  rw [xup_n (Ne.symm h6), xup_n (Ne.symm h7), xup_n (Ne.symm h10)]
  exact c k hk
theorem okM.up10 {u : xS} {n i : Nat} {v : Int32} (h : okM u n) (hv : P4 v) : okM (xup u 10 i v) n := by
  obtain ⟨a, b, c, d⟩ := h
  refine ⟨a, b, fun k hk => ⟨(c k hk).1, (c k hk).2.1, ?_⟩, d⟩
  by_cases e : k = i
  · rw [e, xup_ss]; exact hv
  · rw [xup_sn e]; exact (c k hk).2.2
theorem okM_in {u : xS} {n k : Nat} (h : okM u n) (hk : k < n) : vp_in (nI k) 60 := vp_in_nI (by have := h.1; omega) (by decide)
theorem PM_in {u : xS} {n : Nat} {v : Int32} (h : okM u n) (hv : PM u v) : vp_in v 60 := by
  have h1 := i32_le.mp hv.1
  have h2 := i32_lt.mp hv.2
  have h3 := h.1
  rw [h.2.1, nI_toInt (by omega)] at h2
  rw [vp_in_iff]
  exact ⟨h1, by omega⟩
theorem PM_ix {u : xS} {n : Nat} {v : Int32} (h : okM u n) (hv : PM u v) : ix v < n ∧ v = nI (ix v) := by
  obtain ⟨j, hj, rfl⟩ := vp_in_of (PM_in h hv) (by decide)
  have h2 := i32_lt.mp hv.2
  have h3 := h.1
  rw [h.2.1, nI_toInt (by omega), nI_toInt (by omega)] at h2
  rw [show ix (nI j) = j from nI_clamp (by omega)]
  exact ⟨by omega, rfl⟩
theorem P8_7 {v : Int32} : (0 ≤ v ∧ v ≤ 7) = P8 v := by
  have h7 : (7 : Int32).toInt = 7 := rfl
  have h8 : (8 : Int32).toInt = 8 := rfl
  simp only [P8, i32_le, i32_lt, h7, h8]
  exact propext ⟨fun h => ⟨h.1, by omega⟩, fun h => ⟨h.1, by omega⟩⟩
theorem P4_3 {v : Int32} : (0 ≤ v ∧ v ≤ 3) = P4 v := by
  have h7 : (3 : Int32).toInt = 3 := rfl
  have h8 : (4 : Int32).toInt = 4 := rfl
  simp only [P4, i32_le, i32_lt, h7, h8]
  exact propext ⟨fun h => ⟨h.1, by omega⟩, fun h => ⟨h.1, by omega⟩⟩
theorem le_pred {n : Nat} {v : Int32} (hn : n < 2 ^ 31) : v ≤ nI n - 1 ↔ v < nI n := by
  cases n with
  | zero =>
    rw [nI_0]
    have : ((0 : Int32) - 1).toInt = -1 := rfl
    have : (0 : Int32).toInt = 0 := rfl
    rw [i32_le, i32_lt]
    omega
  | succ n =>
    rw [nI_pred, i32_le, i32_lt, nI_toInt hn, nI_toInt (by omega)]
    omega
theorem PM_1 {u : xS} {n : Nat} {v : Int32} (h : okM u n) : (0 ≤ v ∧ v ≤ u 5 0 - 1) = PM u v := by
  simp only [PM, h.2.1]
  rw [le_pred h.lt]
theorem P4_in16m {r t : Int32} (h : P4 r) (h2 : P4 t) : vp_in (4 * r + t) 16 := by
  rw [Int32.mul_comm]; exact P4_in16 h h2
/-- a remainder by 4 of a person -/
theorem P8_home {v : Int32} (h : P8 v) : P4 (v - v / 4 * 4) := by
  obtain ⟨j, hj, rfl⟩ := vp_in_of (P8_in h) (by decide)
  have : ∀ j, j < 8 → P4 (nI j - nI j / 4 * 4) := by decide +kernel
  exact this j hj
abbrev gIn (v a b : Int32) : Prop := a ≤ v ∧ v ≤ b
abbrev gHas (x k : Int32) : Prop := (x >>> (k &&& 31)) &&& 1 = 1
def gWeight (u : xS) (p : Int32) : Int32 := if u 4 (ix p) ≤ 4 then 5 - u 4 (ix p) else 1
def gA (u : xS) (p : Int32) (k : Nat) : Int32 := if u 6 k = p then (if u 9 k = 2 then 2 * gWeight u (u 7 k) else 0) else 0
def gB (u : xS) (p : Int32) (k : Nat) : Int32 := if u 6 k = p then (if u 9 k = 3 then (if u 13 k = 0 then 3 * gWeight u (u 7 k) else 0) else 0) else 0
def gName (u : xS) (p : Int32) : Nat → Int32
  | 0 => 0
  | k + 1 => gName u p k + gA u p k - gB u p k
def gLeast (u : xS) (n : Nat) (p : Int32) : Int32 := if 0 ≤ 10 - gName u p n then (if 10 - gName u p n ≤ 20 then 10 - gName u p n else 20) else 0
def gRank (u : xS) (n : Nat) (a : Int32) : Int32 := u 8 (ix a) + gName u (u 6 (ix a)) n
abbrev gAhead (u : xS) (n : Nat) (a b : Int32) : Prop := gRank u n b < gRank u n a ∨ (gRank u n a = gRank u n b ∧ a < b)
abbrev gLies (u : xS) (a r : Int32) : Prop := u 9 (ix a) = 0 ∧ u 10 (ix a) = r
def gPlace (u : xS) (n : Nat) (a : Int32) : Nat → Int32
  | 0 => 0
  | k + 1 => gPlace u n a k + (if nI k = a then 0 else if gLies u (nI k) (u 10 (ix a)) then (if gAhead u n (nI k) a then 1 else 0) else 0)
/-- the relay that is next for a letter -/
def gHome (u : xS) (a : Int32) : Int32 := u 7 (ix a) - u 7 (ix a) / 4 * 4
def gNext (u : xS) (a : Int32) : Int32 := u 1 (ix (4 * u 10 (ix a) + gHome u a))
def gGo (u : xS) (a : Int32) : xS :=
  if u 10 (ix a) = gHome u a then xup (xup u 9 (ix a) 1) 12 (ix a) (u 0 0)
  else if gHas (u 11 (ix a)) (gNext u a) then xup (xup u 9 (ix a) 4) 3 (ix (u 10 (ix a))) (u 3 (ix (u 10 (ix a))) + u 8 (ix a))
  else xup (xup u 10 (ix a) (gNext u a)) 11 (ix a) (u 11 (ix a) ||| 1 <<< (gNext u a &&& 31))
theorem okM.go {u : xS} {n : Nat} {a : Int32} (h : okM u n) (ha : ix a < n) : okM (gGo u a) n := by
  unfold gGo
  split
  · exact (h.up rfl).up rfl
  · split
    · exact (h.up rfl).up rfl
    · refine (h.up10 ?_).up rfl
      have hc := h.2.2.1 _ ha
      have hh : P4 (gHome u a) := P8_home hc.2.1
      have hi := P4_in16m hc.2.2 hh
      exact h.2.2.2 _ (Nat.not_le.mp fun q => hi (Or.inr q))
def gMv (u : xS) (n : Nat) : Nat → xS
  | 0 => u
  | k + 1 => if (gMv u n k) 9 k = 0 then (if 2 ≤ gPlace (gMv u n k) n (nI k) n then xup (gMv u n k) 14 k (vp_nar .boolean 0) else xup (gMv u n k) 14 k (vp_nar .boolean 1)) else xup (gMv u n k) 14 k (vp_nar .boolean 0)
theorem okM.mv {u : xS} {n : Nat} (h : okM u n) : ∀ k, okM (gMv u n k) n
  | 0 => h
  | k + 1 => by
    unfold gMv
    split
    · split
      · exact (h.mv k).up rfl
      · exact (h.mv k).up rfl
    · exact (h.mv k).up rfl
def gGos (u : xS) : Nat → xS
  | 0 => u
  | k + 1 => if (gGos u k) 14 k = 0 then gGos u k else gGo (gGos u k) (nI k)
def gGosN (u : xS) : Nat → Int32
  | 0 => 0
  | k + 1 => if (gGos u k) 14 k = 0 then gGosN u k + 0 else if (gGos u k) 10 (ix (nI k)) = gHome (gGos u k) (nI k) then gGosN u k + 1 else gGosN u k + 0
theorem ix_n {k : Nat} (h : k < 2 ^ 31) : ix (nI k) = k := nI_clamp h
theorem okM.gos {u : xS} {n : Nat} (h : okM u n) : ∀ k, k ≤ n → okM (gGos u k) n
  | 0, _ => h
  | k + 1, hk => by
    unfold gGos
    split
    · exact h.gos k (by omega)
    · exact (h.gos k (by omega)).go (by rw [ix_n (by have := h.1; omega)]; omega)
def gExp (u : xS) : Nat → xS
  | 0 => u
  | k + 1 => if (gExp u k) 9 k = 1 then (if (gExp u k) 0 0 - (gExp u k) 12 k = 20 then xup (xup (gExp u k) 9 k 5) 2 (ix ((gExp u k) 6 k)) ((gExp u k) 2 (ix ((gExp u k) 6 k)) + (gExp u k) 8 k) else gExp u k) else gExp u k
theorem okM.exp {u : xS} {n : Nat} (h : okM u n) : ∀ k, okM (gExp u k) n
  | 0 => h
  | k + 1 => by
    unfold gExp
    split
    · split
      · exact ((h.exp k).up rfl).up rfl
      · exact h.exp k
    · exact h.exp k
def gTick0 (u : xS) (n : Nat) : xS := gMv (xup u 0 0 (u 0 0 + 1)) n n
def gTick (u : xS) (n : Nat) : xS := gExp (gGos (gTick0 u n) n) n
def gTickN (u : xS) (n : Nat) : Int32 := gGosN (gTick0 u n) n
theorem okM.tick0 {u : xS} {n : Nat} (h : okM u n) : okM (gTick0 u n) n := (h.up rfl).mv n
theorem okM.tick {u : xS} {n : Nat} (h : okM u n) : okM (gTick u n) n := (h.tick0.gos n (Nat.le_refl n)).exp n
def gTicks (u : xS) (n : Nat) : Nat → xS
  | 0 => u
  | k + 1 => gTick (gTicks u n k) n
def gTicksN (u : xS) (n : Nat) : Nat → Int32
  | 0 => 0
  | k + 1 => gTicksN u n k + gTickN (gTicks u n k) n
theorem okM.ticks {u : xS} {n : Nat} (h : okM u n) : ∀ k, okM (gTicks u n k) n
  | 0 => h
  | k + 1 => (h.ticks k).tick
/-- who else has answered letters of the sender of a: a set -/
def gWho (u : xS) (a : Int32) : Nat → Int32
  | 0 => 0
  | k + 1 => if u 6 k = u 6 (ix a) then (if u 9 k = 2 then (if u 7 k = u 7 (ix a) then gWho u a k ||| 0 else gWho u a k ||| 1 <<< (u 7 k &&& 31)) else gWho u a k ||| 0) else gWho u a k ||| 0
def gCnt (u : xS) (n : Nat) (a : Int32) : Nat → Int32
  | 0 => 0
  | k + 1 => gCnt u n a k + (if gHas (gWho u a n) (nI k) then 1 else 0)
def gLen (u : xS) (r : Int32) : Nat → Int32
  | 0 => 0
  | k + 1 => gLen u r k + (if gLies u (nI k) r then 1 else 0)
def gFind (u : xS) (n : Nat) (r p : Int32) : Nat → Int32
  | 0 => -1
  | k + 1 => if gLies u (nI k) r then (if gPlace u n (nI k) n = p then nI k else gFind u n r p k) else gFind u n r p k
def gEsc (u : xS) : Nat → Int32
  | 0 => 0
  | k + 1 => if u 9 k = 0 then gEsc u k + u 8 k else if u 9 k = 1 then gEsc u k + u 8 k else gEsc u k + 0
/-- the way by the routes: at a relay, the marks, the steps; m more steps at most -/
def gWay (u : xS) (t : Int32) : Nat → Int32 → Int32 → Int32 → Int32
  | 0, _, _, _ => 0
  | m + 1, a, w, c => if a = t then c else if gHas w (u 1 (ix (4 * a + t))) then -1 else gWay u t m (u 1 (ix (4 * a + t))) (w ||| 1 <<< (u 1 (ix (4 * a + t)) &&& 31)) (c + 1)
theorem z10 : ((1 : Int32) = 0) = False := by decide
theorem z20 : ((2 : Int32) = 0) = False := by decide
theorem z30 : ((3 : Int32) = 0) = False := by decide
theorem z00 : ((0 : Int32) = 0) = True := by decide
