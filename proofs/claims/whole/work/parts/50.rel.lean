/-! the class's states beside the reference's: what they share; weights, reputations, least stakes -/
def RelG (bnd : Nat → Nat) (s u : xS) (n c : Nat) : Prop :=
  okX s n ∧ okM u n ∧ c ≤ 512 ∧
  (s 0 = u 6 ∧ s 1 = u 7 ∧ s 2 = u 8 ∧ s 3 = u 9 ∧ s 5 = u 11 ∧ s 6 = u 12 ∧ s 7 = u 13 ∧ s 8 = u 2 ∧ s 9 = u 4 ∧ s 10 = u 3 ∧ s 11 = u 1 ∧ s 13 0 = u 0 0) ∧
  (∀ k, k < n → s 4 k = if s 3 k = 0 then u 10 k else -1) ∧
  (∀ k, n ≤ k → s 3 k = 0 ∧ s 5 k = 0) ∧
  (∀ k, ∃ j, j < 16 ∧ s 5 k = nI j) ∧
  (∀ k, s 3 k ≠ 3 → s 7 k = 0) ∧
  (∃ t, t ≤ 100000 ∧ s 13 0 = nI t ∧ ∀ k, k < n → s 3 k = 1 → ∃ d, d ≤ t ∧ t < d + bnd k ∧ s 6 k = nI d) ∧
  (∀ p, p < 8 → ∃ q, q ≤ c ∧ s 9 p = nI q)
abbrev Rel (s u : xS) (n c : Nat) : Prop := RelG (fun _ => 20) s u n c
theorem RelG.thr {b : Nat → Nat} {s u : xS} {n c : Nat} (R : RelG b s u n c) (v : Int32) : RelG b s (xup u 15 0 v) n c := by
  obtain ⟨h1, h2, h3⟩ := R
  exact ⟨h1, h2.up rfl, h3⟩
theorem RelG.mono {b : Nat → Nat} {s u : xS} {n c c' : Nat} (R : RelG b s u n c) (hc : c ≤ c') (h : c' ≤ 512) : RelG b s u n c' := by
  obtain ⟨h1, h2, h3, h4, h5, h6, h6b, h7, h8, h9⟩ := R
  exact ⟨h1, h2, h, h4, h5, h6, h6b, h7, h8, fun p hp => (h9 p hp).elim fun q hq => ⟨q, Nat.le_trans hq.1 hc, hq.2⟩⟩
/-- the working rows are nobody's -/
theorem RelG.work {b : Nat → Nat} {s s' u : xS} {n c : Nat} (R : RelG b s u n c) (h : ∀ q, q ≠ 14 → q ≠ 15 → s' q = s q) : RelG b s' u n c := by
  obtain ⟨h1, h2, h3, h4, h5, h6, h6b, h7, h8, h9⟩ := R
  have e := fun q (a : (q != 14 && q != 15) = true) => h q (by simp at a; exact a.1) (by simp at a; exact a.2)
  refine ⟨⟨h1.1, by rw [e 12 rfl]; exact h1.2⟩, h2, h3, ?_, ?_, ?_, ?_, ?_, ?_, ?_⟩
  · rw [e 0 rfl, e 1 rfl, e 2 rfl, e 3 rfl, e 5 rfl, e 6 rfl, e 7 rfl, e 8 rfl, e 9 rfl, e 10 rfl, e 11 rfl, e 13 rfl]; exact h4
  · rw [e 3 rfl, e 4 rfl]; exact h5
  · rw [e 3 rfl, e 5 rfl]; exact h6
  · rw [e 5 rfl]; exact h6b
  · rw [e 3 rfl, e 7 rfl]; exact h7
  · rw [e 3 rfl, e 6 rfl, e 13 rfl]; exact h8
  · rw [e 9 rfl]; exact h9
theorem w_eq : ∀ q, q ≤ 512 → (if 5 - nI q < 1 then (1 : Int32) else 5 - nI q) = if nI q ≤ 4 then 5 - nI q else 1 := by
  intro q hq
  have e5 : (5 : Int32) = nI 5 := rfl
  have z1 : (1 : Int32).toInt = 1 := rfl
  have z4 : (4 : Int32).toInt = 4 := rfl
  have h1 : (5 - nI q).toInt = 5 - (q : Int) := by rw [e5]; exact pk_sub_toInt (by decide) (by omega)
  have h2 : (nI q).toInt = q := nI_toInt (by omega)
  by_cases h : q ≤ 4
  · rw [if_neg (by rw [i32_lt, h1, z1]; omega), if_pos (by rw [i32_le, h2, z4]; omega)]
  · rw [if_pos (by rw [i32_lt, h1, z1]; omega), if_neg (by rw [i32_le, h2, z4]; omega)]
theorem RelG.weight {b : Nat → Nat} {s u : xS} {n c : Nat} (R : RelG b s u n c) {p : Int32} (hp : P8 p) : fWeight s p = gWeight u p := by
  obtain ⟨h1, h2, h3, ⟨-, -, -, -, -, -, -, -, e9, -⟩, h5, h6, h6b, h7, h8, h9⟩ := R
  have hi : ix p < 8 := Nat.not_le.mp fun q => (P8_in hp) (Or.inr q)
  obtain ⟨q, hq, hv⟩ := h9 _ hi
  unfold fWeight gWeight
  rw [if_pos hp, ← e9, hv]
  exact w_eq q (by omega)
theorem fOp_at {s : xS} {n k : Nat} (hN : okX s n) (hk : k < n) : fOpinion s (nI k) = if s 3 k = 2 then 2 * fWeight s (s 1 k) else if s 3 k = 3 ∧ s 7 k = 0 then -3 * fWeight s (s 1 k) else 0 := by
  unfold fOpinion
  rw [if_pos (PL_nI hN hk), ix_n (by have := hN.1; omega)]
theorem i32_a (x w : Int32) : x + -3 * w = x + 0 - 3 * w := by grind
theorem i32_b (x w : Int32) : x + 2 * w = x + 2 * w - 0 := by grind
theorem i32_d (x : Int32) : x + 0 = x + 0 - 0 := by grind
theorem i32_c (x : Int32) : x + 0 - 0 = x := by grind
theorem RelG.rep {b : Nat → Nat} {s u : xS} {n c : Nat} (R : RelG b s u n c) (p : Int32) : ∀ k, k ≤ n → fRep s p k = gName u p k := by
  have hw := fun p => R.weight (p := p)
  obtain ⟨h1, h2, h3, ⟨e0, e1, e2, e3, e5, e6, e7, e8, e9, e10, e11, e13⟩, -⟩ := R
  intro k
  induction k with
  | zero => intro _; rfl
  | succ k ih =>
    intro hk
    have hr := (h2.2.2.1 k hk).2.1
    simp only [fRep, gName, gA, gB, fOp_at h1 hk, ih (by omega), e0, e3, e7, e1]
    rw [hw _ hr]
    by_cases c1 : u 6 k = p
    · simp only [if_pos c1]
      by_cases c2 : u 9 k = 2
      · rw [if_pos c2, if_pos c2, if_neg (by rw [c2]; decide)]
        exact i32_b _ _
      · rw [if_neg c2, if_neg c2]
        by_cases c3 : u 9 k = 3
        · by_cases c4 : u 13 k = 0
          · rw [if_pos ⟨c3, c4⟩, if_pos c3, if_pos c4]; exact i32_a _ _
          · rw [if_neg (fun h => c4 h.2), if_pos c3, if_neg c4]; exact i32_d _
        · rw [if_neg (fun h => c3 h.1), if_neg c3]; exact i32_d _
    · simp only [if_neg c1]
      exact (i32_c _).symm
theorem least_eq (x : Int32) : (if 0 < (if x < 20 then x else 20) then (if x < 20 then x else 20) else 0) = (if 0 ≤ x then (if x ≤ 20 then x else 20) else (0 : Int32)) := by
  have z0 : (0 : Int32).toInt = 0 := rfl
  have z20 : (20 : Int32).toInt = 20 := rfl
  have heq : ∀ y : Int32, y.toInt = x.toInt → y = x := fun y h => Int32.toInt_inj.mp h
  by_cases h1 : x < 20 <;> by_cases h2 : 0 ≤ x <;> by_cases h3 : x ≤ 20 <;> by_cases h4 : 0 < x <;> simp only [h1, h2, h3, h4, if_true, if_false] <;> simp only [i32_lt, i32_le, z0, z20] at h1 h2 h3 h4 <;> first | rfl | (exfalso; omega) | (apply Int32.toInt_inj.mp; rw [z0]; omega) | (rw [if_pos (by decide)]; apply Int32.toInt_inj.mp; rw [z20]; omega) | (rw [if_pos (by decide)])
theorem RelG.least {b : Nat → Nat} {s u : xS} {n c : Nat} (R : RelG b s u n c) (p : Int32) : fLeast s n p = gLeast u n p := by
  unfold fLeast gLeast
  rw [R.rep p n (Nat.le_refl n)]
  exact least_eq _
/-- all reputations at once -/
theorem fZero_q {s : xS} {q : Nat} (hq : q ≠ 15) : ∀ k, fZero s k q = s q
  | 0 => rfl
  | k + 1 => by rw [fZero, xup_n hq]; exact fZero_q hq k
theorem fZero_15 {s : xS} {j : Nat} : ∀ k, j < k → fZero s k 15 j = 0
  | 0, h => absurd h (Nat.not_lt_zero _)
  | k + 1, h => by
    rw [fZero]
    by_cases e : j = k
    · rw [e, xup_ss]
    · rw [xup_sn e]; exact fZero_15 k (by omega)
theorem fFill_q {s : xS} {q : Nat} (hq : q ≠ 15) : ∀ k, fFill s k q = s q
  | 0 => rfl
  | k + 1 => by
    unfold fFill
    split
    · rw [xup_n hq]; exact fFill_q hq k
    · exact fFill_q hq k
theorem fOp_q {s t : xS} (h : ∀ q, q ≠ 14 → q ≠ 15 → t q = s q) (v : Int32) : fOpinion t v = fOpinion s v := by
  unfold fOpinion fWeight
  simp only [PL, h 12 (by decide) (by decide), h 3 (by decide) (by decide), h 1 (by decide) (by decide), h 7 (by decide) (by decide), h 9 (by decide) (by decide)]
theorem fRep_q {s t : xS} (h : ∀ q, q ≠ 14 → q ≠ 15 → t q = s q) (p : Int32) : ∀ k, fRep t p k = fRep s p k
  | 0 => rfl
  | k + 1 => by simp only [fRep, fOp_q h, fRep_q h p k, h 0 (by decide) (by decide)]
theorem fAll_q {s : xS} {n q : Nat} (hq : q ≠ 15) : fAll s n q = s q := (fFill_q hq n).trans (fZero_q hq 8)
theorem ix_inj8 {p : Int32} {j : Nat} (hp : P8 p) (hj : j < 8) : ix p = j ↔ p = nI j := by
  obtain ⟨i, hi, rfl⟩ := vp_in_of (P8_in hp) (by decide)
  rw [ix_n (by omega), nI_eq (by omega) (by omega)]
theorem fFill_15 {s : xS} {n j : Nat} (hs : ∀ k, k < n → P8 (s 0 k)) (hj : j < 8) (hz : s 15 j = 0) : ∀ k, k ≤ n → fFill s k 15 j = fRep s (nI j) k := by
  intro k
  induction k with
  | zero => intro _; exact hz
  | succ k ih =>
    intro hk
    have h0 : fFill s k 0 = s 0 := fFill_q (by decide) k
    have hp := hs k hk
    have ho : fOpinion (fFill s k) (nI k) = fOpinion s (nI k) := fOp_q (fun q _ h => fFill_q h k) _
    rw [fFill, fRep, h0, if_pos hp, ho]
    by_cases e : s 0 k = nI j
    · have e2 : ix (s 0 k) = j := (ix_inj8 hp hj).mpr e
      rw [if_pos e, e2, xup_ss, ih (by omega)]
    · have e2 : ¬ j = ix (s 0 k) := fun h => e ((ix_inj8 hp hj).mp h.symm)
      rw [if_neg e, xup_sn e2, ih (by omega)]
theorem fAll_15 {s : xS} {n j : Nat} (hs : ∀ k, k < n → P8 (s 0 k)) (hj : j < 8) : fAll s n 15 j = fRep s (nI j) n := by
  have h0 : fZero s 8 0 = s 0 := fZero_q (by decide) 8
  unfold fAll
  rw [fFill_15 (n := n) (by rw [h0]; exact hs) hj (fZero_15 8 hj) n (Nat.le_refl n)]
  exact fRep_q (fun q _ h => fZero_q h 8) _ _
theorem fWait_q {s : xS} {q : Nat} (hq : q ≠ 14) : ∀ k, fWait s k q = s q
  | 0 => rfl
  | k + 1 => by rw [fWait, xup_n hq]; exact fWait_q hq k
theorem fWait_14 {s : xS} {j : Nat} : ∀ k, j < k → fWait s k 14 j = s 4 j
  | 0, h => absurd h (Nat.not_lt_zero _)
  | k + 1, h => by
    rw [fWait]
    by_cases e : j = k
    · rw [e, xup_ss, fWait_q (by decide)]
    · rw [xup_sn e]; exact fWait_14 k (by omega)
theorem fBegin_q {s : xS} {n q : Nat} (h4 : q ≠ 14) (h5 : q ≠ 15) : fBegin s n q = s q := (fAll_q h5).trans (fWait_q h4 n)
theorem fBegin_14 {s : xS} {n j : Nat} (h : j < n) : fBegin s n 14 j = s 4 j := by
  have : fBegin s n 14 = fWait s n 14 := fAll_q (by decide)
  rw [this]; exact fWait_14 n h
theorem fBegin_15 {s : xS} {n j : Nat} (hs : ∀ k, k < n → P8 (s 0 k)) (hj : j < 8) : fBegin s n 15 j = fRep s (nI j) n := by
  have h0 : fWait s n 0 = s 0 := fWait_q (by decide) n
  unfold fBegin
  rw [fAll_15 (by rw [h0]; exact hs) hj]
  exact fRep_q (fun q h _ => fWait_q h n) _ _
