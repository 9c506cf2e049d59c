/-! send, queueAt, mark: class beside reference -/
theorem RelG.send_k {s u : xS} {n k : Nat} {a b c : Int32} (R : Rel s u n k) : kSend s n a b c = jSend u n a b c := by
  have e8 := R.2.2.2.1.2.2.2.2.2.2.2.1
  have e12 : s 12 0 = u 5 0 := R.1.2.trans R.2.1.2.1.symm
  unfold kSend jSend
  rw [R.least a, e8, e12]
  by_cases c1 : P8 a
  · by_cases c2 : P8 b
    · by_cases c3 : a = b
      · simp only [if_pos c1, if_pos c2, if_pos c3]
      · by_cases c4 : c < 0
        · rw [if_pos c1, if_pos c1, if_pos c2, if_pos c2, if_neg c3, if_neg c3, if_pos c4, if_neg (fun h => absurd c4 (Int32.not_lt.mpr h.1))]
        · by_cases c5 : c ≤ 20
          · have g : gIn c 0 20 := ⟨Int32.not_lt.mp c4, c5⟩
            by_cases c6 : u 5 0 < 60
            · have c7 : ¬ 60 ≤ u 5 0 := Int32.not_le.mpr c6
              simp only [if_pos c1, if_pos c2, if_neg c3, if_neg c4, if_pos c5, if_pos g, if_pos c6, if_neg c7]
            · have c7 : 60 ≤ u 5 0 := Int32.not_lt.mp c6
              simp only [if_pos c1, if_pos c2, if_neg c3, if_neg c4, if_pos c5, if_pos g, if_neg c6, if_pos c7]
          · rw [if_pos c1, if_pos c1, if_pos c2, if_pos c2, if_neg c3, if_neg c3, if_neg c4, if_neg c5, if_neg (fun h => c5 h.2)]
    · simp only [if_pos c1, if_neg c2]
  · simp only [if_neg c1]
theorem kSend_0 {s : xS} {n : Nat} {a b c : Int32} (h : kSend s n a b c = 0) : P8 a ∧ P8 b ∧ s 12 0 < 60 := by
  unfold kSend at h
  by_cases c1 : P8 a
  · rw [if_pos c1] at h
    by_cases c2 : P8 b
    · rw [if_pos c2] at h
      by_cases c3 : s 12 0 < 60
      · exact ⟨c1, c2, c3⟩
      · exfalso
        rw [if_neg c3] at h
        split at h
        · exact absurd h (by decide)
        · split at h
          · exact absurd h (by decide)
          · split at h
            · split at h
              · exact absurd h (by decide)
              · split at h
                · exact absurd h (by decide)
                · exact absurd h (by decide)
            · exact absurd h (by decide)
    · rw [if_neg c2] at h; exact absurd h (by decide)
  · rw [if_neg c1] at h; exact absurd h (by decide)
theorem home_tab : ∀ j, j < 8 → ∃ q, q < 4 ∧ fHome (nI j) = nI q := by decide +kernel
theorem mark_tab : ∀ q, q < 4 → 2 ^ q < 16 ∧ fMark (nI q) = nI (2 ^ q) := by decide +kernel
theorem or_0 (x : Int32) : 0 ||| x = x := Int32.zero_or
/-- what send writes: letter n -/
theorem sSend_at {s : xS} {n : Nat} {a b c : Int32} (hN : okX s n) (hn : n < 60) (h5 : s 5 n = 0) : ∀ q, (q != 8 && q != 12) = true → sSend s a b c q =
    if q = 0 then upd (s 0) n a else if q = 1 then upd (s 1) n b else if q = 2 then upd (s 2) n c else if q = 3 then upd (s 3) n 0 else if q = 4 then upd (s 4) n (fHome a) else if q = 5 then upd (s 5) n (fMark (fHome a)) else s q := by
  intro q hq
  simp at hq
  have hL : s 12 0 = nI n := hN.2
  have hok : okX (xup (sSend1 s a b c) 8 (ix a) ((sSend1 s a b c) 8 (ix a) - c)) (n + 1) := by
    refine (hN.send1 ?_).up (by decide)
    rw [hL, show (60 : Int32) = nI 60 from rfl, nI_ltI (by omega) (by decide)]
    exact hn
  unfold sSend fLay
  rw [hL, if_pos (PL_nI hok (Nat.lt_succ_self n)), ix_n (by omega)]
  unfold sSend1
  rw [hL, ix_n (by omega)]
  by_cases e4 : q = 4
  · subst e4; rfl
  · by_cases e5 : q = 5
    · subst e5
      rw [xup_s]
      show upd (s 5) n (s 5 n ||| fMark (fHome a)) = upd (s 5) n (fMark (fHome a))
      rw [h5, or_0]
    · rw [xup_n e5, xup_n e4, xup_n hq.1]
      by_cases e3 : q = 3
      · subst e3; rfl
      · rw [xup_n e3]
        by_cases e2 : q = 2
        · subst e2; rfl
        · rw [xup_n e2]
          by_cases e1 : q = 1
          · subst e1; rfl
          · rw [xup_n e1]
            by_cases e0 : q = 0
            · subst e0; rfl
            · rw [xup_n e0, xup_n hq.2]
              simp only [if_neg e0, if_neg e1, if_neg e2, if_neg e3, if_neg e4, if_neg e5]
theorem sSend_8 {s : xS} {n : Nat} {a b c : Int32} (hN : okX s n) (hn : n < 60) : sSend s a b c 8 = upd (s 8) (ix a) (s 8 (ix a) - c) ∧ sSend s a b c 12 = upd (s 12) 0 (nI (n + 1)) := by
  have hL : s 12 0 = nI n := hN.2
  have hok : okX (xup (sSend1 s a b c) 8 (ix a) ((sSend1 s a b c) 8 (ix a) - c)) (n + 1) := by
    refine (hN.send1 ?_).up (by decide)
    rw [hL, show (60 : Int32) = nI 60 from rfl, nI_ltI (by omega) (by decide)]
    exact hn
  unfold sSend fLay
  rw [hL, if_pos (PL_nI hok (Nat.lt_succ_self n)), ix_n (by omega)]
  unfold sSend1
  rw [hL]
  refine ⟨rfl, ?_⟩
  show upd (s 12) 0 (nI n + 1) = _
  rw [nI_1]
theorem qSend_at {u : xS} {n : Nat} {a b c : Int32} (h5 : u 5 0 = nI n) (hn : n < 60) : qSend0 u a b c 6 = upd (u 6) n a ∧ qSend0 u a b c 7 = upd (u 7) n b ∧ qSend0 u a b c 8 = upd (u 8) n c ∧ qSend0 u a b c 10 = upd (u 10) n (fHome a) ∧ qSend0 u a b c 11 = upd (u 11) n (fMark (fHome a)) ∧ qSend0 u a b c 2 = upd (u 2) (ix a) (u 2 (ix a) - c) ∧ qSend0 u a b c 5 = upd (u 5) 0 (nI (n + 1)) := by
  have hi : ix (u 5 0) = n := by rw [h5, ix_n (by omega)]
  refine ⟨?_, ?_, ?_, ?_, ?_, rfl, ?_⟩
  · show upd (u 6) (ix (u 5 0)) a = _; rw [hi]
  · show upd (u 7) (ix (u 5 0)) b = _; rw [hi]
  · show upd (u 8) (ix (u 5 0)) c = _; rw [hi]
  · show upd (u 10) (ix (u 5 0)) (a - a / 4 * 4) = _; rw [hi]; rfl
  · show upd (u 11) (ix (u 5 0)) (1 <<< ((a - a / 4 * 4) &&& 31)) = _; rw [hi]; rfl
  · show upd (u 5) 0 (u 5 0 + 1) = _; rw [h5, nI_1]
theorem RelG.send {s u : xS} {n k : Nat} {a b c : Int32} (R : Rel s u n k) (hn : n < 60) (ha : P8 a) (hb : P8 b) : Rel (sSend s a b c) (qSend0 u a b c) (n + 1) k := by
  obtain ⟨h1, h2, h3, ⟨e0, e1, e2, e3, e5, e6, e7, e8, e9, e10, e11, e13⟩, h5, h6, h6b, h7, ⟨t, t1, t2, t3⟩, h9⟩ := R
  obtain ⟨z3, z5⟩ := h6 n (Nat.le_refl n)
  have S := sSend_at (a := a) (b := b) (c := c) h1 hn z5
  obtain ⟨S8, S12⟩ := sSend_8 (a := a) (b := b) (c := c) h1 hn
  obtain ⟨Q6, Q7, Q8, Q10, Q11, Q2, Q5⟩ := qSend_at (a := a) (b := b) (c := c) h2.2.1 hn
  obtain ⟨sS, hsS⟩ : ∃ z, z = sSend s a b c := ⟨_, rfl⟩
  obtain ⟨uS, huS⟩ : ∃ z, z = qSend0 u a b c := ⟨_, rfl⟩
  have Q0 : uS 0 = u 0 := by rw [huS]; rfl
  have Q1 : uS 1 = u 1 := by rw [huS]; rfl
  have Q3 : uS 3 = u 3 := by rw [huS]; rfl
  have Q4 : uS 4 = u 4 := by rw [huS]; rfl
  have Q9 : uS 9 = u 9 := by rw [huS]; rfl
  have Q12 : uS 12 = u 12 := by rw [huS]; rfl
  have Q13 : uS 13 = u 13 := by rw [huS]; rfl
  have S0 : sS 0 = upd (s 0) n a := by rw [hsS]; exact S 0 rfl
  have S1 : sS 1 = upd (s 1) n b := by rw [hsS]; exact S 1 rfl
  have S2 : sS 2 = upd (s 2) n c := by rw [hsS]; exact S 2 rfl
  have S3 : sS 3 = s 3 := by
    rw [hsS]
    refine (S 3 rfl).trans ?_
    funext j
    show (if j = n then (0 : Int32) else s 3 j) = s 3 j
    by_cases e : j = n
    · rw [if_pos e, e, z3]
    · rw [if_neg e]
  have S4 : sS 4 = upd (s 4) n (fHome a) := by rw [hsS]; exact S 4 rfl
  have S5 : sS 5 = upd (s 5) n (fMark (fHome a)) := by rw [hsS]; exact S 5 rfl
  have S6 : sS 6 = s 6 := by rw [hsS]; exact S 6 rfl
  have S7 : sS 7 = s 7 := by rw [hsS]; exact S 7 rfl
  have S9 : sS 9 = s 9 := by rw [hsS]; exact S 9 rfl
  have S10 : sS 10 = s 10 := by rw [hsS]; exact S 10 rfl
  have S11 : sS 11 = s 11 := by rw [hsS]; exact S 11 rfl
  have S13 : sS 13 = s 13 := by rw [hsS]; exact S 13 rfl
  rw [← hsS] at S8 S12 ⊢
  rw [← huS] at Q6 Q7 Q8 Q10 Q11 Q2 Q5 ⊢
  have uy : ∀ (f : Nat → Int32) (v : Int32), upd f n v n = v := fun f v => if_pos rfl
  have un : ∀ (f : Nat → Int32) (v : Int32) (j : Nat), j ≠ n → upd f n v j = f j := fun f v j h => if_neg h
  obtain ⟨aj, ha8, hae⟩ := vp_in_of (P8_in ha) (by decide)
  obtain ⟨qh, qh4, qhe⟩ := home_tab aj ha8
  rw [← hae] at qhe
  refine ⟨⟨by omega, by rw [S12]; exact if_pos rfl⟩, ⟨by omega, by rw [Q5]; exact if_pos rfl, fun j hj => ?_, fun j hj => by rw [Q1]; exact h2.2.2.2 j hj⟩, h3, ⟨by rw [S0, Q6, e0], by rw [S1, Q7, e1], by rw [S2, Q8, e2], by rw [S3, Q9, e3], by rw [S5, Q11, e5], by rw [S6, Q12, e6], by rw [S7, Q13, e7], by rw [S8, Q2, e8], by rw [S9, Q4, e9], by rw [S10, Q3, e10], by rw [S11, Q1, e11], by rw [S13, Q0, e13]⟩, fun j hj => ?_, fun j hj => ?_, fun j => ?_, fun j hj => ?_, ⟨t, t1, by rw [S13]; exact t2, fun j hj h3j => ?_⟩, fun p hp => by rw [S9]; exact h9 p hp⟩
  · rw [Q6, Q7, Q10]
    by_cases e : j = n
    · subst e
      rw [uy, uy, uy, qhe]
      exact ⟨ha, hb, P4_nI qh4⟩
    · rw [un _ _ _ e, un _ _ _ e, un _ _ _ e]
      exact h2.2.2.1 j (by omega)
  · rw [S4, S3, Q10]
    by_cases e : j = n
    · subst e
      rw [uy, uy, z3, if_pos rfl]
    · rw [un _ _ _ e, un _ _ _ e]
      exact h5 j (by omega)
  · have e : j ≠ n := by omega
    rw [S3, S5, un _ _ _ e]
    exact h6 j (by omega)
  · rw [S5]
    by_cases e : j = n
    · subst e
      rw [uy, qhe]
      exact ⟨_, mark_tab qh qh4⟩
    · rw [un _ _ _ e]; exact h6b j
  · rw [S3] at hj
    rw [S7]; exact h7 j hj
  · rw [S3] at h3j
    rw [S6]
    by_cases e : j = n
    · subst e
      rw [z3] at h3j
      exact absurd h3j (by decide)
    · exact t3 j (by omega) h3j
theorem E_send {s u : xS} {n k : Nat} {a b c : Int32} (R : Rel s u n k) : (kSend s n a b c = 0 → wSend u n a b c = s 12 0) ∧ (∃ n', Rel (if kSend s n a b c = 0 then sSend s a b c else s) (qSend u n a b c) n' k) := by
  have hk := R.send_k (a := a) (b := b) (c := c)
  refine ⟨fun h => ?_, ?_⟩
  · obtain ⟨h1, h2, h3⟩ := kSend_0 h
    unfold wSend
    rw [if_pos (hk ▸ h)]
    show u 5 0 + 1 - 1 = s 12 0
    rw [R.1.2, R.2.1.2.1, nI_1, nI_pred]
  · unfold qSend
    by_cases h : kSend s n a b c = 0
    · obtain ⟨h1, h2, h3⟩ := kSend_0 h
      rw [if_pos h, if_pos (hk ▸ h)]
      exact ⟨n + 1, (R.thr 0).send (R.1.new h3).2.2 h1 h2⟩
    · rw [if_neg h, if_neg (hk ▸ h)]; exact ⟨n, R.thr _⟩
