/-! mark, class beside reference -/
theorem qMk3_0 (u : xS) (w : Int32) : qMk3 u w 0 = u := by unfold qMk3; rw [i32_z]; exact xup_id u _ _
theorem i32_s0 (x : Int32) : x - 0 = x := Int32.sub_zero
theorem qMk4_0 (u : xS) (w : Int32) : qMk4 u w 0 = u := by unfold qMk4; rw [i32_s0]; exact xup_id u _ _
theorem qMk5_0 (u : xS) (a : Int32) : qMk5 u a 0 = u := by unfold qMk5; rw [i32_z]; exact xup_id u _ _
theorem mark1_at {s u : xS} {n k j : Nat} (R : Rel s u n k) (hj : j < n) : sMark1 s (nI j) = xup (xup s 3 j 3) 10 (ix (fHome (s 1 j))) (s 10 (ix (fHome (s 1 j))) + s 2 j) := by
  have h8 : P8 (s 1 j) := by rw [R.2.2.2.1.2.1]; exact (R.2.1.2.2.1 j hj).2.1
  have hn := R.1.1
  unfold sMark1
  rw [ix_n (by omega)]
  show fPool (xup s 3 j 3) (nI j) (fHome (s 1 j)) = _
  unfold fPool
  rw [if_pos ⟨PL_nI (R.1.up (by decide)) hj, P8_home h8⟩, ix_n (by omega)]
  rfl
theorem mark_n {s u : xS} {n k j : Nat} (R : Rel s u n k) (hj : j < n) (h1 : s 3 j = 1) : nMark s n (nI j) = nMk u n (nI j) := by
  have hn := R.1.1
  have e0 := R.2.2.2.1.1
  have e1 := R.2.2.2.1.2.1
  have e3 := R.2.2.2.1.2.2.2.1
  unfold nMark nMk
  rw [mark1_at R hj, ix_n (by omega)]
  obtain ⟨h, q, hq, he⟩ := who_eq (t := xup (xup s 3 j 3) 10 (ix (fHome (s 1 j))) (s 10 (ix (fHome (s 1 j))) + s 2 j)) R.2.1 hj e0 e1 (fun i => by
    show (xup s 3 j 3) 3 i = 2 ↔ _
    by_cases e : i = j
    · subst e
      rw [xup_ss, ← e3, h1]
      exact ⟨fun h => absurd h (by decide), fun h => absurd h (by decide)⟩
    · rw [xup_sn e, e3]) n (Nat.le_refl n)
  rw [h, gCnt_H, he]
  exact bits_tab q hq
theorem mark_no {s u : xS} {n k j : Nat} (R : Rel s u n k) (hj : j < n) (h1 : s 3 j = 1) : Rel (sMark1 s (nI j)) (qMk u (nI j) 0 0) n k := by
  have hn := R.1.1
  have h7 : s 7 j = 0 := R.2.2.2.2.2.2.2.1 j (by rw [h1]; decide)
  have e1 := R.2.2.2.1.2.1
  have e2 := R.2.2.2.1.2.2.1
  have e10 := R.2.2.2.1.2.2.2.2.2.2.2.2.2.1
  have R1 : Rel (xup s 3 j 3) (xup u 9 j 3) n k := R.state (fun _ _ _ => Nat.le_refl _) hj h1 (by decide) (by decide)
  have R2 := R1.isf (a := j) 0 (xup_ss ..)
  have hid : xup (xup s 3 j 3) 7 j 0 = xup s 3 j 3 := by
    have := xup_id (xup s 3 j 3) 7 j
    rw [show (xup s 3 j 3) 7 j = 0 from h7] at this
    exact this
  rw [hid] at R2
  have R3 := R2.pools (ix (fHome (s 1 j))) (s 10 (ix (fHome (s 1 j))) + s 2 j)
  rw [mark1_at R hj]
  unfold qMk
  rw [qMk3_0, qMk4_0, qMk5_0]
  unfold qMk2 qMk1
  rw [ix_n (by omega), nar_0]
  rw [e1, e2, e10] at R3
  rw [e1, e2, e10]
  exact R3
theorem mark_yes {s u : xS} {n k j : Nat} (R : Rel s u n k) (hk : k + 1 ≤ 512) (hj : j < n) (h1 : s 3 j = 1) : Rel (fPay (sMark2 s (nI j)) (s 1 j) (s 0 j) (s 2 j)) (qMk u (nI j) 1 (pMk u (nI j))) n (k + 1) ∧ fPayN (sMark2 s (nI j)) (s 1 j) (s 0 j) (s 2 j) = pMk u (nI j) := by
  have hn := R.1.1
  have e0 := R.2.2.2.1.1
  have e1 := R.2.2.2.1.2.1
  have e2 := R.2.2.2.1.2.2.1
  have e8 := R.2.2.2.1.2.2.2.2.2.2.2.1
  have e9 := R.2.2.2.1.2.2.2.2.2.2.2.2.1
  have e10 := R.2.2.2.1.2.2.2.2.2.2.2.2.2.1
  have hP := (R.2.1.2.2.1 j hj)
  have p0 : P8 (s 0 j) := by rw [e0]; exact hP.1
  have p1 : P8 (s 1 j) := by rw [e1]; exact hP.2.1
  obtain ⟨v, hv⟩ : ∃ v, v = pMk u (nI j) := ⟨_, rfl⟩
  have hpv : fPayV (sMark2 s (nI j)) (s 1 j) (s 2 j) = v := by
    unfold fPayV
    have : (sMark2 s (nI j)) 8 = s 8 := by
      unfold sMark2
      rw [mark1_at R hj]
      rfl
    rw [this, hv]
    unfold pMk
    rw [ix_n (by omega), ← e1, ← e2, ← e8]
    by_cases c1 : s 8 (ix (s 1 j)) < s 2 j
    · rw [if_pos c1, if_neg (Int32.not_le.mpr c1)]
    · rw [if_neg c1, if_pos (Int32.not_lt.mp c1)]
  refine ⟨?_, by unfold fPayN; rw [if_pos ⟨p1, p0⟩, hpv, hv]⟩
  have R1 : Rel (xup s 3 j 3) (xup u 9 j 3) n k := R.state (fun _ _ _ => Nat.le_refl _) hj h1 (by decide) (by decide)
  have R2 := R1.isf (a := j) 1 (xup_ss ..)
  have R3 := R2.pools (ix (fHome (s 1 j))) (s 10 (ix (fHome (s 1 j))) + s 2 j)
  rw [xup_comm _ _ _ _ _ (by decide : (7 : Nat) ≠ 10)] at R3
  have R4 := R3.falsely (ix (s 1 j)) hk
  have R5 := R4.coins (ix (s 1 j)) (s 8 (ix (s 1 j)) - v)
  have R6 := R5.coins (ix (s 0 j)) ((xup s 8 (ix (s 1 j)) (s 8 (ix (s 1 j)) - v)) 8 (ix (s 0 j)) + v)
  unfold fPay
  rw [if_pos ⟨p1, p0⟩, hpv, ← hv]
  unfold sMark2
  rw [mark1_at R hj, ix_n (by omega), nar_1]
  unfold qMk qMk5 qMk4 qMk3 qMk2 qMk1
  rw [ix_n (by omega), nar_1]
  rw [e0, e1, e2, e8, e10] at R6
  rw [e0, e1, e2]
  sorry
