/-! what the class's methods answer, and what they make of a state (fields: 0 senders 1 readers 2 stakes 3 states 4 places 5 relaysSeen 6 deliveryTimes 7 falselyMarked 8 purses 9 falseMarkCounts 10 pools 11 routes 12 letterCount 13 now 14 waitingAt 15 reputations) -/
theorem xb_f {P : Prop} [Decidable P] : (if P then (1 : Int32) else 0) = 0 ↔ ¬ P := by by_cases h : P <;> simp [h]
theorem xb_t {P : Prop} [Decidable P] : ¬ (if P then (1 : Int32) else 0) = 0 ↔ P := by by_cases h : P <;> simp [h]
abbrev P8 (v : Int32) : Prop := 0 ≤ v ∧ v < 8
abbrev P4 (v : Int32) : Prop := 0 ≤ v ∧ v < 4
abbrev PL (s : xS) (v : Int32) : Prop := 0 ≤ v ∧ v < s 12 0
def okX (s : xS) (n : Nat) : Prop := n ≤ 60 ∧ s 12 0 = nI n
theorem i32_le {a b : Int32} : a ≤ b ↔ a.toInt ≤ b.toInt := Int32.le_iff_toInt_le
theorem i32_lt {a b : Int32} : a < b ↔ a.toInt < b.toInt := Int32.lt_iff_toInt_lt
theorem bnd_if (v u : Int32) : (if v < 0 then (0 : Int32) else if u ≤ v then 0 else 1) = if 0 ≤ v ∧ v < u then 1 else 0 := by
  have z : (0 : Int32).toInt = 0 := rfl
  by_cases h1 : v < 0 <;> by_cases h2 : u ≤ v <;> simp only [i32_le, i32_lt, z] at h1 h2 ⊢ <;> (split <;> split <;> first | rfl | (exfalso; omega) | (split <;> first | rfl | (exfalso; omega)))
theorem P8_in {v : Int32} (h : P8 v) : vp_in v 8 := by
  have h1 := i32_le.mp h.1
  have h2 := i32_lt.mp h.2
  rw [vp_in_iff]
  exact ⟨h1, h2⟩
theorem P4_in {v : Int32} (h : P4 v) : vp_in v 4 := by
  have h1 := i32_le.mp h.1
  have h2 := i32_lt.mp h.2
  rw [vp_in_iff]
  exact ⟨h1, h2⟩
theorem P4_in16 {r t : Int32} (h : P4 r) (h2 : P4 t) : vp_in (r * 4 + t) 16 := by
  obtain ⟨a, ha, rfl⟩ := vp_in_of (P4_in h) (by decide)
  obtain ⟨b, hb, rfl⟩ := vp_in_of (P4_in h2) (by decide)
  rw [show (4 : Int32) = nI 4 from rfl, pk_mul, nI_add]
  exact vp_in_nI (by omega) (by decide)
theorem PL_in {s : xS} {n : Nat} {v : Int32} (hN : okX s n) (h : PL s v) : vp_in v 60 := by
  have h1 := i32_le.mp h.1
  have h2 := i32_lt.mp h.2
  have h3 := hN.1
  rw [hN.2, nI_toInt (by omega)] at h2
  rw [vp_in_iff]
  exact ⟨h1, by omega⟩
theorem PL_nI {s : xS} {n k : Nat} (hN : okX s n) (h : k < n) : PL s (nI k) := by
  have h3 := hN.1
  refine ⟨nI_pos' (by omega), ?_⟩
  rw [hN.2]
  exact nI_lt h (by omega)
theorem okX_in {s : xS} {n k : Nat} (hN : okX s n) (h : k < n) : vp_in (nI k) 60 := vp_in_nI (by have := hN.1; omega) (by decide)
/-- an address of a place -/
abbrev ix (v : Int32) : Nat := v.toNatClampNeg
def fHome (v : Int32) : Int32 := v - v / 4 * 4
def fMark (v : Int32) : Int32 := 1 <<< (v &&& 31)
def fNext (s : xS) (r t : Int32) : Int32 := if P4 r ∧ P4 t then s 11 (ix (r * 4 + t)) else t
def fWeight (s : xS) (v : Int32) : Int32 := if P8 v then (if 5 - s 9 (ix v) < 1 then 1 else 5 - s 9 (ix v)) else 1
def fOpinion (s : xS) (v : Int32) : Int32 :=
  if PL s v then (if s 3 (ix v) = 2 then 2 * fWeight s (s 1 (ix v)) else if s 3 (ix v) = 3 ∧ s 7 (ix v) = 0 then -3 * fWeight s (s 1 (ix v)) else 0) else 0
def fRep (s : xS) (p : Int32) : Nat → Int32
  | 0 => 0
  | k + 1 => if s 0 k = p then fRep s p k + fOpinion s (nI k) else fRep s p k
