/-! single writes keep the relation; the letters that expire; ticks -/
theorem RelG.bnd {b b' : Nat → Nat} {s u : xS} {n c : Nat} (R : RelG b s u n c) (h : ∀ k, k < n → b k ≤ b' k) : RelG b' s u n c := by
  obtain ⟨h1, h2, h3, h4, h5, h6, h6b, h7, ⟨t, t1, t2, t3⟩, h9⟩ := R
  exact ⟨h1, h2, h3, h4, h5, h6, h6b, h7, ⟨t, t1, t2, fun k hk h3 => (t3 k hk h3).elim fun d hd => ⟨d, hd.1, by have := h k hk; omega, hd.2.2⟩⟩, h9⟩
theorem RelG.coins {b : Nat → Nat} {s u : xS} {n c : Nat} (R : RelG b s u n c) (i : Nat) (v : Int32) : RelG b (xup s 8 i v) (xup u 2 i v) n c := by
  obtain ⟨h1, h2, h3, ⟨e0, e1, e2, e3, e5, e6, e7, e8, e9, e10, e11, e13⟩, h5⟩ := R
  exact ⟨h1.up (by decide), h2.up rfl, h3, ⟨e0, e1, e2, e3, e5, e6, e7, by rw [xup_s, xup_s, e8], e9, e10, e11, e13⟩, h5⟩
theorem RelG.pools {b : Nat → Nat} {s u : xS} {n c : Nat} (R : RelG b s u n c) (i : Nat) (v : Int32) : RelG b (xup s 10 i v) (xup u 3 i v) n c := by
  obtain ⟨h1, h2, h3, ⟨e0, e1, e2, e3, e5, e6, e7, e8, e9, e10, e11, e13⟩, h5⟩ := R
  exact ⟨h1.up (by decide), h2.up rfl, h3, ⟨e0, e1, e2, e3, e5, e6, e7, e8, e9, by rw [xup_s, xup_s, e10], e11, e13⟩, h5⟩
theorem RelG.route {b : Nat → Nat} {s u : xS} {n c : Nat} (R : RelG b s u n c) (i : Nat) {v : Int32} (hv : P4 v) : RelG b (xup s 11 i v) (xup u 1 i v) n c := by
  obtain ⟨h1, ⟨m1, m2, m3, m4⟩, h3, ⟨e0, e1, e2, e3, e5, e6, e7, e8, e9, e10, e11, e13⟩, h5⟩ := R
  refine ⟨h1.up (by decide), ⟨m1, m2, m3, fun j hj => ?_⟩, h3, ⟨e0, e1, e2, e3, e5, e6, e7, e8, e9, e10, by rw [xup_s, xup_s, e11], e13⟩, h5⟩
  by_cases e : j = i
  · rw [e, xup_ss]; exact hv
  · rw [xup_sn e]; exact m4 j hj
theorem RelG.falsely {b : Nat → Nat} {s u : xS} {n c : Nat} (R : RelG b s u n c) (i : Nat) (hc : c + 1 ≤ 512) : RelG b (xup s 9 i (s 9 i + 1)) (xup u 4 i (u 4 i + 1)) n (c + 1) := by
  obtain ⟨h1, h2, h3, ⟨e0, e1, e2, e3, e5, e6, e7, e8, e9, e10, e11, e13⟩, h5, h6, h6b, h7, h8, h9⟩ := R
  refine ⟨h1.up (by decide), h2.up rfl, hc, ⟨e0, e1, e2, e3, e5, e6, e7, e8, by rw [xup_s, xup_s, e9], e10, e11, e13⟩, h5, h6, h6b, h7, h8, fun p hp => ?_⟩
  obtain ⟨q, q1, q2⟩ := h9 p hp
  by_cases e : p = i
  · subst e
    rw [xup_ss, q2]
    exact ⟨q + 1, by omega, nI_1 q⟩
  · rw [xup_sn e]; exact ⟨q, by omega, q2⟩
theorem RelG.state {b b' : Nat → Nat} {s u : xS} {n c a : Nat} {x : Int32} (R : RelG b s u n c) (hb : ∀ k, k < n → k ≠ a → b k ≤ b' k) (ha : a < n) (hs : s 3 a = 1) (h0 : x ≠ 0) (h1x : x ≠ 1) : RelG b' (xup s 3 a x) (xup u 9 a x) n c := by
  obtain ⟨h1, h2, h3, ⟨e0, e1, e2, e3, e5, e6, e7, e8, e9, e10, e11, e13⟩, h5, h6, h6b, h7, ⟨t, t1, t2, t3⟩, h9⟩ := R
  refine ⟨h1.up (by decide), h2.up rfl, h3, ⟨e0, e1, e2, by rw [xup_s, xup_s, e3], e5, e6, e7, e8, e9, e10, e11, e13⟩, fun k hk => ?_, fun k hk => ?_, h6b, fun k hk => ?_, ⟨t, t1, t2, fun k hk h3k => ?_⟩, h9⟩
  · have h := h5 k hk
    by_cases e : k = a
    · subst e
      rw [xup_ss, if_neg h0]
      rw [hs, if_neg (by decide)] at h
      exact h
    · rw [xup_sn e]; exact h
  · have e : k ≠ a := by omega
    rw [xup_sn e]; exact h6 k hk
  · by_cases e : k = a
    · subst e; exact h7 k (by rw [hs]; decide)
    · rw [xup_sn e] at hk; exact h7 k hk
  · by_cases e : k = a
    · subst e; rw [xup_ss] at h3k; exact absurd h3k h1x
    · rw [xup_sn e] at h3k
      exact (t3 k hk h3k).elim fun d hd => ⟨d, hd.1, by have := hb k hk e; omega, hd.2.2⟩
theorem fGive_at {s : xS} {n a : Nat} (hN : okX s n) (ha : a < n) (h0 : P8 (s 0 a)) : fGive s (nI a) = xup s 8 (ix (s 0 a)) (s 8 (ix (s 0 a)) + s 2 a) := by
  have := hN.1
  unfold fGive
  rw [ix_n (by omega), if_pos ⟨PL_nI hN ha, h0⟩]
theorem sub_nI {a b : Nat} (h : b ≤ a) : nI a - nI b = nI (a - b) := pk_sub h
theorem RelG.exp {s u : xS} {n c : Nat} (R : RelG (fun _ => 21) s u n c) : ∀ m, m ≤ n → RelG (fun k => if k < m then 20 else 21) (fExp s m) (gExp u m) n c ∧ (fExp s m) 13 = s 13
  | 0, _ => ⟨R.bnd (fun k _ => by rw [if_neg (Nat.not_lt_zero k)]; exact Nat.le_refl _), rfl⟩
  | m + 1, hm => by
    obtain ⟨R1, e13a⟩ := RelG.exp R m (by omega)
    have R0 := R1
    obtain ⟨h1, h2, h3, ⟨e0, e1, e2, e3, e5, e6, e7, e8, e9, e10, e11, e13⟩, h5, h6, h6b, h7, ⟨t, t1, t2, t3⟩, h9⟩ := R1
    have hmn : m < n := by omega
    have hn := h1.1
    have hb : ∀ k, k < n → k ≠ m → (if k < m then 20 else 21) ≤ (if k < m + 1 then 20 else 21 : Nat) := fun k _ e => by
      by_cases x : k < m
      · rw [if_pos x, if_pos (by omega)]; exact Nat.le_refl _
      · rw [if_neg x, if_neg (by omega)]; exact Nat.le_refl _
    have skip : (∀ d, (fExp s m) 3 m = 1 → t < d + 21 → (fExp s m) 6 m = nI d → d ≤ t → t < d + 20) → RelG (fun k => if k < m + 1 then 20 else 21) (fExp s m) (gExp u m) n c := fun hsk => by
      refine ⟨h1, h2, h3, ⟨e0, e1, e2, e3, e5, e6, e7, e8, e9, e10, e11, e13⟩, h5, h6, h6b, h7, ⟨t, t1, t2, fun k hk h3k => ?_⟩, h9⟩
      obtain ⟨d, d1, d2, d3⟩ := t3 k hk h3k
      by_cases e : k = m
      · subst e
        dsimp only at d2
        rw [if_neg (Nat.lt_irrefl _)] at d2
        exact ⟨d, d1, by dsimp only; rw [if_pos (Nat.lt_succ_self _)]; exact hsk d h3k d2 d3 d1, d3⟩
      · exact ⟨d, d1, by have := hb k hk e; dsimp only at d2 ⊢; omega, d3⟩
    simp only [fExp, gExp]
    by_cases c1 : (fExp s m) 3 m = 1
    · have c1m : (gExp u m) 9 m = 1 := by rw [← e3]; exact c1
      rw [if_pos c1, if_pos c1m]
      obtain ⟨d, d1, d2, d3⟩ := t3 m hmn c1
      dsimp only at d2
      rw [if_neg (Nat.lt_irrefl _)] at d2
      have e20 : (20 : Int32) = nI 20 := rfl
      have x1 : (fExp s m) 13 0 - (fExp s m) 6 m = nI (t - d) := by rw [t2, d3, sub_nI d1]
      have x2 : (gExp u m) 0 0 - (gExp u m) 12 m = nI (t - d) := by rw [← e13, ← e6]; exact x1
      rw [x1, x2]
      by_cases c2 : t - d < 20
      · rw [if_pos (by rw [e20, nI_ltI (by omega) (by omega)]; exact c2), if_neg (by rw [e20, nI_eq (by omega) (by omega)]; omega)]
        refine ⟨skip (fun d' _ a2 a3 a4 => ?_), e13a⟩
        have : d' = d := by
          have a := a3.symm.trans d3
          exact (nI_eq (by omega) (by omega)).mp a
        omega
      · rw [if_neg (by rw [e20, nI_ltI (by omega) (by omega)]; exact c2), if_pos (by rw [e20, nI_eq (by omega) (by omega)]; omega)]
        have hp : P8 ((fExp s m) 0 m) := by rw [e0]; exact (h2.2.2.1 m hmn).1
        rw [fGive_at (s := xup (fExp s m) 3 m 5) (h1.up (by decide)) hmn hp]
        refine ⟨?_, e13a⟩
        have R2 : RelG (fun k => if k < m + 1 then 20 else 21) (xup (fExp s m) 3 m 5) (xup (gExp u m) 9 m 5) n c := R0.state hb hmn c1 (by decide) (by decide)
        have R3 := R2.coins (ix ((fExp s m) 0 m)) ((fExp s m) 8 (ix ((fExp s m) 0 m)) + (fExp s m) 2 m)
        have y : (gExp u m) 2 (ix ((gExp u m) 6 m)) + (gExp u m) 8 m = (fExp s m) 8 (ix ((fExp s m) 0 m)) + (fExp s m) 2 m := by rw [← e0, ← e2, ← e8]
        rw [y, ← e0]
        exact R3
    · have c1m : ¬ (gExp u m) 9 m = 1 := by rw [← e3]; exact c1
      rw [if_neg c1, if_neg c1m]
      exact ⟨skip (fun d h _ _ _ => absurd h c1), e13a⟩
theorem RelG.time {s u : xS} {n c t : Nat} (R : Rel s u n c) (ht : s 13 0 = nI t) (h1 : t + 1 ≤ 100000) : RelG (fun _ => 21) (xup s 13 0 (s 13 0 + 1)) (xup u 0 0 (u 0 0 + 1)) n c := by
  obtain ⟨h1x, h2, h3, ⟨e0, e1, e2, e3, e5, e6, e7, e8, e9, e10, e11, e13⟩, h5, h6, h6b, h7, ⟨t', t1, t2, t3⟩, h9⟩ := R
  have et : t' = t := (nI_eq (by omega) (by omega)).mp (t2.symm.trans ht)
  subst et
  refine ⟨h1x.up (by decide), h2.up rfl, h3, ⟨e0, e1, e2, e3, e5, e6, e7, e8, e9, e10, e11, by rw [xup_ss, xup_ss, e13]⟩, h5, h6, h6b, h7, ⟨t' + 1, h1, by rw [xup_ss, t2]; exact nI_1 t', fun k hk h3k => ?_⟩, h9⟩
  exact (t3 k hk h3k).elim fun d hd => ⟨d, by omega, by have := hd.2.1; dsimp only at this ⊢; omega, hd.2.2⟩
theorem RelG.tick {s u : xS} {n c t : Nat} (R : Rel s u n c) (ht : s 13 0 = nI t) (h1 : t + 1 ≤ 100000) : Rel (fTick s n) (gTick u n) n c ∧ fTickN s n = gTickN u n ∧ (fTick s n) 13 0 = nI (t + 1) := by
  have R1 := R.time ht h1
  obtain ⟨R2, hN, h13⟩ := R1.moves (fun _ => by decide)
  obtain ⟨R3, h13b⟩ := R2.exp n (Nat.le_refl n)
  unfold fTick gTick fTickN gTickN fTick0 gTick0
  refine ⟨R3.bnd (fun k hk => by rw [if_pos hk]; exact Nat.le_refl _), hN, ?_⟩
  rw [h13b, h13, xup_ss, ht]
  exact nI_1 t
theorem RelG.ticks {s u : xS} {n c t : Nat} (R : Rel s u n c) (ht : s 13 0 = nI t) : ∀ k, t + k ≤ 100000 → Rel (fTicks s n k) (gTicks u n k) n c ∧ fTicksN s n k = gTicksN u n k ∧ (fTicks s n k) 13 0 = nI (t + k)
  | 0, _ => ⟨R, rfl, ht⟩
  | k + 1, h => by
    obtain ⟨R1, h1, h2⟩ := RelG.ticks R ht k (by omega)
    obtain ⟨R2, h3, h4⟩ := R1.tick h2 (by omega)
    exact ⟨R2, by simp only [fTicksN, gTicksN, h1, h3], h4⟩
