/-! mark, class beside reference -/
theorem qMk3_0 (u : xS) (w : Int32) : qMk3 u w 0 = u := by unfold qMk3; rw [i32_z]; exact xup_id u _ _
theorem i32_s0 (x : Int32) : x - 0 = x := by grind
theorem qMk4_0 (u : xS) (w : Int32) : qMk4 u w 0 = u := by unfold qMk4; rw [i32_s0]; exact xup_id u _ _
theorem qMk5_0 (u : xS) (a : Int32) : qMk5 u a 0 = u := by unfold qMk5; rw [i32_z]; exact xup_id u _ _
theorem mark1_at {s u : xS} {n k j : Nat} (R : Rel s u n k) (hj : j < n) : sMark1 s (nI j) = xup (xup s 3 j 3) 10 (ix (fHome (s 1 j))) (s 10 (ix (fHome (s 1 j))) + s 2 j) := by
  have h8 : P8 (s 1 j) := by rw [R.2.2.2.1.2.1]; exact (R.2.1.2.2.1 j hj).2.1
  have hn := R.1.1
  unfold sMark1
  rw [ix_n (by omega)]
  show fPool (xup s 3 j 3) (nI j) (fHome (s 1 j)) = _
  unfold fPool
  rw [if_pos ⟨PL_nI (R.1.up (by decide)) hj, P8_home h8⟩, ix_n (by omega)]
  rfl
theorem mark_n {s u : xS} {n k j : Nat} (R : Rel s u n k) (hj : j < n) (h1 : s 3 j = 1) : nMark s n (nI j) = nMk u n (nI j) := by
  have hn := R.1.1
  have e0 := R.2.2.2.1.1
  have e1 := R.2.2.2.1.2.1
  have e3 := R.2.2.2.1.2.2.2.1
  unfold nMark nMk
  rw [mark1_at R hj, ix_n (by omega)]
  obtain ⟨h, q, hq, he⟩ := who_eq (s := s) (t := xup (xup s 3 j 3) 10 (ix (fHome (s 1 j))) (s 10 (ix (fHome (s 1 j))) + s 2 j)) R.2.1 hj e0 e1 (fun i => by
    show (xup s 3 j 3) 3 i = 2 ↔ _
    by_cases e : i = j
    · subst e
      rw [xup_ss, ← e3, h1]
      exact ⟨fun h => absurd h (by decide), fun h => absurd h (by decide)⟩
    · rw [xup_sn e, e3]) n (Nat.le_refl n)
  rw [h, gCnt_H, he]
  exact bits_tab q hq
theorem mark_no {s u : xS} {n k j : Nat} (R : Rel s u n k) (hj : j < n) (h1 : s 3 j = 1) : Rel (sMark1 s (nI j)) (qMk u (nI j) 0 0) n k := by
  have hn := R.1.1
  have h7 : s 7 j = 0 := R.2.2.2.2.2.2.2.1 j (by rw [h1]; decide)
  have e1 := R.2.2.2.1.2.1
  have e2 := R.2.2.2.1.2.2.1
  have e10 := R.2.2.2.1.2.2.2.2.2.2.2.2.2.1
  have R1 : Rel (xup s 3 j 3) (xup u 9 j 3) n k := R.state (fun _ _ _ => Nat.le_refl _) hj h1 (by decide) (by decide)
  have R2 := R1.isf (a := j) 0 (xup_ss ..)
  have hid : xup (xup s 3 j 3) 7 j 0 = xup s 3 j 3 := by
    have := xup_id (xup s 3 j 3) 7 j
    rw [show (xup s 3 j 3) 7 j = 0 from h7] at this
    exact this
  rw [hid] at R2
  have R3 := R2.pools (ix (fHome (s 1 j))) (s 10 (ix (fHome (s 1 j))) + s 2 j)
  rw [mark1_at R hj]
  unfold qMk
  rw [qMk3_0, qMk4_0, qMk5_0]
  unfold qMk2 qMk1
  rw [ix_n (by omega), nar_0]
  rw [e1, e2, e10] at R3
  rw [e1, e2, e10]
  exact R3
theorem mark_yes {s u : xS} {n k j : Nat} (R : Rel s u n k) (hk : k + 1 ≤ 512) (hj : j < n) (h1 : s 3 j = 1) : Rel (fPay (sMark2 s (nI j)) (s 1 j) (s 0 j) (s 2 j)) (qMk u (nI j) 1 (pMk u (nI j))) n (k + 1) ∧ fPayN (sMark2 s (nI j)) (s 1 j) (s 0 j) (s 2 j) = pMk u (nI j) := by
  have hn := R.1.1
  have e0 := R.2.2.2.1.1
  have e1 := R.2.2.2.1.2.1
  have e2 := R.2.2.2.1.2.2.1
  have e8 := R.2.2.2.1.2.2.2.2.2.2.2.1
  have e9 := R.2.2.2.1.2.2.2.2.2.2.2.2.1
  have e10 := R.2.2.2.1.2.2.2.2.2.2.2.2.2.1
  have hP := (R.2.1.2.2.1 j hj)
  have p0 : P8 (s 0 j) := by rw [e0]; exact hP.1
  have p1 : P8 (s 1 j) := by rw [e1]; exact hP.2.1
  obtain ⟨v, hv⟩ : ∃ v, v = pMk u (nI j) := ⟨_, rfl⟩
  have hpv : fPayV (sMark2 s (nI j)) (s 1 j) (s 2 j) = v := by
    unfold fPayV
    have : (sMark2 s (nI j)) 8 = s 8 := by
      unfold sMark2
      rw [mark1_at R hj]
      rfl
    rw [this, hv]
    unfold pMk
    rw [ix_n (by omega), ← e1, ← e2, ← e8]
    by_cases c1 : s 8 (ix (s 1 j)) < s 2 j
    · rw [if_pos c1, if_neg (Int32.not_le.mpr c1)]
    · rw [if_neg c1, if_pos (Int32.not_lt.mp c1)]
  refine ⟨?_, by unfold fPayN; rw [if_pos ⟨p1, p0⟩, hpv, hv]⟩
  have R1 : Rel (xup s 3 j 3) (xup u 9 j 3) n k := R.state (fun _ _ _ => Nat.le_refl _) hj h1 (by decide) (by decide)
  have R2 := R1.isf (a := j) 1 (xup_ss ..)
  have R3 := R2.pools (ix (fHome (s 1 j))) (s 10 (ix (fHome (s 1 j))) + s 2 j)
  rw [xup_comm _ _ _ _ _ (by decide : (7 : Nat) ≠ 10)] at R3
  have R4 := R3.falsely (ix (s 1 j)) hk
  have R5 := R4.coins (ix (s 1 j)) (s 8 (ix (s 1 j)) - v)
  have R6 := R5.coins (ix (s 0 j)) ((xup s 8 (ix (s 1 j)) (s 8 (ix (s 1 j)) - v)) 8 (ix (s 0 j)) + v)
  have hX : fPay (sMark2 s (nI j)) (s 1 j) (s 0 j) (s 2 j) = xup (xup (xup (xup (xup (xup s 3 j 3) 10 (ix (fHome (s 1 j))) (s 10 (ix (fHome (s 1 j))) + s 2 j)) 7 j 1) 9 (ix (s 1 j)) (s 9 (ix (s 1 j)) + 1)) 8 (ix (s 1 j)) (s 8 (ix (s 1 j)) - v)) 8 (ix (s 0 j)) ((xup s 8 (ix (s 1 j)) (s 8 (ix (s 1 j)) - v)) 8 (ix (s 0 j)) + v) := by
    unfold fPay
    rw [if_pos ⟨p1, p0⟩, hpv]
    unfold sMark2
    rw [mark1_at R hj, ix_n (by omega), nar_1]
    rfl
  have hY : qMk u (nI j) 1 v = xup (xup (xup (xup (xup (xup u 9 j 3) 13 j 1) 3 (ix (fHome (u 7 j))) (u 3 (ix (fHome (u 7 j))) + u 8 j)) 4 (ix (u 7 j)) (u 4 (ix (u 7 j)) + 1)) 2 (ix (u 7 j)) (u 2 (ix (u 7 j)) - v)) 2 (ix (u 6 j)) ((xup u 2 (ix (u 7 j)) (u 2 (ix (u 7 j)) - v)) 2 (ix (u 6 j)) + v) := by
    unfold qMk qMk5 qMk4 qMk3 qMk2 qMk1
    rw [ix_n (by omega), nar_1]
    rfl
  rw [← hv, hX, hY, ← e0, ← e1, ← e2, ← e8, ← e9, ← e10]
  have h8 : ∀ (z z' : xS) (i p : Nat) (x : Int32), z 8 = z' 2 → (xup z 8 i x) 8 p = (xup z' 2 i x) 2 p := fun z z' i p x h => by rw [xup_s, xup_s, h]
  rw [← h8 s u _ _ _ e8]
  have e9' : (xup (xup (xup s 3 j 3) 10 (ix (fHome (s 1 j))) (s 10 (ix (fHome (s 1 j))) + s 2 j)) 7 j 1) 9 = s 9 := rfl
  have e4' : (xup (xup (xup u 9 j 3) 13 j 1) 3 (ix (fHome (s 1 j))) (s 10 (ix (fHome (s 1 j))) + s 2 j)) 4 = u 4 := rfl
  rw [e9', e4', ← e9] at R6
  exact R6
theorem E_mark {s u : xS} {n k : Nat} {a : Int32} (R : Rel s u n k) (hk : k + 1 ≤ 512) : (kDel s a = 0 → wMark u n a = vMark s n a) ∧ Rel (if kDel s a = 0 then sMark s n a else s) (qMark u n a) n (k + 1) := by
  have hd := R.del a
  by_cases h : kDel s a = 0
  · obtain ⟨hp, h1⟩ := kDel_0 h
    obtain ⟨hj, he⟩ := R.PLx hp
    obtain ⟨j, hjx⟩ : ∃ j, j = ix a := ⟨_, rfl⟩
    rw [← hjx] at hj he h1
    subst he
    have R0 := R.thr 0
    have hn := R.1.1
    have hN := mark_n R0 hj h1
    have q0 : (sMark2 s (nI j)) 0 j = s 0 j := by unfold sMark2; rw [mark1_at R hj]; rfl
    have q1 : (sMark2 s (nI j)) 1 j = s 1 j := by unfold sMark2; rw [mark1_at R hj]; rfl
    have q2 : (sMark2 s (nI j)) 2 j = s 2 j := by unfold sMark2; rw [mark1_at R hj]; rfl
    unfold wMark vMark sMark qMark qMark0
    have hd' : jDel u (nI j) = 0 := hd ▸ h
    simp only [if_pos h, if_pos hd']
    rw [hN, ix_n (by omega), q0, q1, q2]
    by_cases c : 3 ≤ nMk (xup u 15 0 0) n (nI j)
    · have c' : ¬ nMk (xup u 15 0 0) n (nI j) < 3 := Int32.not_lt.mpr c
      obtain ⟨g1, g2⟩ := mark_yes R0 hk hj h1
      simp only [if_pos c, if_neg c']
      exact ⟨fun _ => g2.symm, g1⟩
    · have c' : nMk (xup u 15 0 0) n (nI j) < 3 := Int32.not_le.mp c
      simp only [if_neg c, if_pos c']
      exact ⟨fun _ => trivial, (mark_no R0 hj h1).mono (Nat.le_succ k) hk⟩
  · refine ⟨fun g => absurd g h, ?_⟩
    unfold qMark
    rw [if_neg h, if_neg (hd ▸ h)]
    exact (R.thr _).mono (Nat.le_succ k) hk
/-! what the reference's `thrown` holds behind a call -/
theorem go_15 {u : xS} {v : Int32} : (gGo u v) 15 = u 15 := by
  unfold gGo
  split
  · rfl
  · split
    · rfl
    · rfl
theorem gos_15 {u : xS} : ∀ k, (gGos u k) 15 = u 15
  | 0 => rfl
  | k + 1 => by
    unfold gGos
    split
    · exact gos_15 k
    · exact go_15.trans (gos_15 k)
theorem mv_15 {u : xS} {n : Nat} : ∀ k, (gMv u n k) 15 = u 15
  | 0 => rfl
  | k + 1 => by
    unfold gMv
    split
    · split
      · rw [xup_n (by decide)]; exact mv_15 k
      · rw [xup_n (by decide)]; exact mv_15 k
    · rw [xup_n (by decide)]; exact mv_15 k
theorem exp_15 {u : xS} : ∀ k, (gExp u k) 15 = u 15
  | 0 => rfl
  | k + 1 => by
    unfold gExp
    split
    · split
      · rw [xup_n (by decide), xup_n (by decide)]; exact exp_15 k
      · exact exp_15 k
    · exact exp_15 k
theorem ticks_15 {u : xS} {n : Nat} : ∀ k, (gTicks u n k) 15 = u 15
  | 0 => rfl
  | k + 1 => (exp_15 n).trans ((gos_15 n).trans ((mv_15 n).trans ((xup_n (by decide)).trans (ticks_15 k))))
theorem qRoute_15 {u : xS} {a b c : Int32} : (qRoute u a b c) 15 0 = kRoute a b c := by
  unfold qRoute
  by_cases h : kRoute a b c = 0
  · rw [if_pos h, h, xup_n (by decide), xup_ss]
  · rw [if_neg h, xup_ss]
theorem qSend_15 {u : xS} {n : Nat} {a b c : Int32} : (qSend u n a b c) 15 0 = jSend u n a b c := by
  unfold qSend
  by_cases h : jSend u n a b c = 0
  · rw [if_pos h, h]; rfl
  · rw [if_neg h, xup_ss]
theorem qPass_15 {u : xS} {n : Nat} {a : Int32} : (qPass u n a) 15 0 = jPass u a := by
  unfold qPass
  by_cases h : jPass u a = 0
  · rw [if_pos h, h, ticks_15, xup_ss]
  · rw [if_neg h, xup_ss]
theorem qAns_15 {u : xS} {a : Int32} : (qAns u a) 15 0 = jDel u a := by
  unfold qAns
  by_cases h : jDel u a = 0
  · rw [if_pos h, h]; rfl
  · rw [if_neg h, xup_ss]
theorem qMark_15 {u : xS} {n : Nat} {a : Int32} : (qMark u n a) 15 0 = jDel u a := by
  unfold qMark
  by_cases h : jDel u a = 0
  · rw [if_pos h, h]
    unfold qMark0
    split
    · rfl
    · rfl
  · rw [if_neg h, xup_ss]
/-- at the start -/
theorem rel_0 : Rel zX0 zM0 0 0 := by
  have hr : ∀ j, (if j < 16 then nI (j % 4) else (0 : Int32)) = zX0 11 j := fun j => rfl
  refine ⟨⟨by decide, rfl⟩, ⟨by decide, rfl, fun k hk => absurd hk (Nat.not_lt_zero k), fun j hj => ?_⟩, by decide, ⟨rfl, rfl, rfl, rfl, rfl, rfl, rfl, rfl, rfl, rfl, rfl, rfl⟩, fun k hk => absurd hk (Nat.not_lt_zero k), fun k _ => ⟨rfl, rfl⟩, fun k => ⟨0, by decide, rfl⟩, fun k _ => rfl, ⟨0, by decide, rfl, fun k hk => absurd hk (Nat.not_lt_zero k)⟩, fun p _ => ⟨0, by decide, rfl⟩⟩
  have : zM0 1 j = nI (j % 4) := if_pos hj
  rw [this]
  exact P4_nI (Nat.mod_lt _ (by decide))
