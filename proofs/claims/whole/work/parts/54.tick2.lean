/-! a tick keeps the relation -/
theorem has_tab : ∀ j, j < 16 → ∀ q, q < 4 → ((¬ nI j &&& fMark (nI q) = 0) ↔ gHas (nI j) (nI q)) ∧ (j ||| 2 ^ q) < 16 ∧ nI j ||| fMark (nI q) = nI (j ||| 2 ^ q) := by decide +kernel
theorem fRank_at {s : xS} {n k : Nat} (hN : okX s n) (hk : k < n) (h0 : P8 (s 0 k)) : fRank s (nI k) = s 2 k + s 15 (ix (s 0 k)) := by
  have := hN.1
  unfold fRank
  rw [ix_n (by omega), if_pos ⟨PL_nI hN hk, h0⟩]
/-- all letters that move, at once -/
theorem RelG.moves {b : Nat → Nat} {s u : xS} {n c : Nat} (R : RelG b s u n c) (hb : ∀ k, 1 ≤ b k) :
    RelG b (fFour (fBegin s n) n 4) (gGos (gMv u n n) n) n c ∧ fFourN (fBegin s n) n 4 = gGosN (gMv u n n) n ∧ fFour (fBegin s n) n 4 13 = s 13 := by
  have hrep := fun p => R.rep p n (Nat.le_refl n)
  obtain ⟨h1, h2, h3, ⟨e0, e1, e2, e3, e5, e6, e7, e8, e9, e10, e11, e13⟩, h5, h6, h6b, h7, ⟨tm, ht1, ht2, ht3⟩, h9⟩ := R
  have hn := h1.1
  have hn31 : n < 2 ^ 31 := by omega
  have hp0 : ∀ k, k < n → P8 (s 0 k) := fun k hk => by rw [e0]; exact (h2.2.2.1 k hk).1
  obtain ⟨sB, hsB⟩ : ∃ z, z = fBegin s n := ⟨_, rfl⟩
  have hB : okX sB n := hsB ▸ h1.begin
  have hq : ∀ q, q ≠ 14 → q ≠ 15 → sB q = s q := fun q a c => by rw [hsB]; exact fBegin_q a c
  have h14 : ∀ k, k < n → sB 14 k = s 4 k := fun k hk => by rw [hsB]; exact fBegin_14 hk
  have h4 : ∀ k, k < n → sB 4 k = sB 14 k := fun k hk => by rw [h14 k hk, hq 4 (by decide) (by decide)]
  obtain ⟨v0, hv0⟩ : ∃ z, z = gMv u n n := ⟨_, rfl⟩
  have hvq : ∀ q, q ≠ 14 → v0 q = u q := fun q a => by rw [hv0]; exact gMv_q a n
  have hV : okM v0 n := hv0 ▸ h2.mv n
  rw [← hsB, ← hv0]
  obtain ⟨w, hw⟩ : ∃ w : Nat → Int32, w = fun k => fRank sB (nI k) := ⟨_, rfl⟩
  have hwx : ∀ k, k < n → fRank sB (nI k) = w k := fun k _ => by rw [hw]
  have hwm : ∀ k, k < n → gRank u n (nI k) = w k := fun k hk => by
    have hp := hp0 k hk
    rw [hw]
    show gRank u n (nI k) = fRank sB (nI k)
    have hq0 : sB 0 = s 0 := hq 0 (by decide) (by decide)
    have hi : ix (s 0 k) < 8 := Nat.not_le.mp fun q => (P8_in hp) (Or.inr q)
    rw [fRank_at hB hk (by rw [hq0]; exact hp), hq0, hq 2 (by decide) (by decide), hsB, fBegin_15 hp0 hi]
    have e : nI (ix (s 0 k)) = s 0 k := ((ix_inj8 hp hi).mp rfl).symm
    rw [e, hrep]
    unfold gRank
    rw [ix_n (by omega), e2, e0]
  obtain ⟨T, C, hcnt, hd, -, hr⟩ := IV_four hB h4 hwx 4 (Nat.le_refl 4)
  obtain ⟨CMv, hNM⟩ := gos_CM (u := v0) hn31 n (Nat.le_refl n)
  have hN4 := hB.four 4
  have hNg := hV.gos n (Nat.le_refl n)
  have hqr : ∀ j, j < n → sB 14 j = if u 9 j = 0 then u 10 j else -1 := fun j hj => by rw [h14 j hj, h5 j hj, e3]
  -- the same letters
  have hTT : T = mT v0 n := by
    funext k
    by_cases hk : k < n
    · have m14 : v0 14 k = if u 9 k = 0 then (if 2 ≤ gPlace u n (nI k) n then 0 else 1) else 0 := by rw [hv0]; exact gMv_14 n hk
      have hM : mT v0 n k = true ↔ ¬ v0 14 k = 0 := by simp [mT, hk]
      have key : T k = true ↔ mT v0 n k = true := by
        rw [hM, m14]
        by_cases c1 : u 9 k = 0
        · obtain ⟨r, hr4, hre⟩ := vp_in_of (P4_in (h2.2.2.1 k hk).2.2) (by decide)
          have hs14 : sB 14 k = nI r := by rw [hqr k hk, if_pos c1, hre]
          have hpl := place_eq h2 hk hqr hwm n (Nat.le_refl n)
          rw [if_pos c1, hd k hk r hr4 hs14, hpl, hre]
          have hle := aC_le (sB 14) w (nI r) k n
          have h2e : (2 : Int32) ≤ nI (aC (sB 14) w (nI r) k n) ↔ 2 ≤ aC (sB 14) w (nI r) k n := by
            rw [show (2 : Int32) = nI 2 from rfl, nI_leI (by decide) (by omega)]
          by_cases c2 : 2 ≤ aC (sB 14) w (nI r) k n
          · rw [if_pos (h2e.mpr c2)]
            exact ⟨fun h => by omega, fun h => absurd rfl h⟩
          · rw [if_neg (fun h => c2 (h2e.mp h))]
            exact ⟨fun _ => by decide, fun _ => by omega⟩
        · rw [if_neg c1]
          refine ⟨fun h => ?_, fun h => absurd rfl h⟩
          obtain ⟨r, hr1, hr2⟩ := hr k h
          rw [hqr k hk, if_neg c1] at hr2
          exact absurd hr2.symm (nI_m1 (by omega))
      cases a : T k with
      | true => exact (key.mp a).symm
      | false =>
        cases b2 : mT v0 n k with
        | true => rw [key.mpr b2] at a; cases a
        | false => rfl
    · have a : T k = false := by
        cases a : T k with
        | true => exact absurd (C.2.2.2.2.2.2.2 k a) hk
        | false => rfl
      rw [a]
      simp [mT, hk]
  rw [← hTT] at CMv hNM
  -- what is known of a letter that moves
  have hTk : ∀ k, T k = true → k < n ∧ u 9 k = 0 ∧ s 4 k = u 10 k ∧ P4 (u 10 k) := fun k h => by
    have hk := C.2.2.2.2.2.2.2 k h
    obtain ⟨r, hr1, hr2⟩ := hr k h
    have c1 : u 9 k = 0 := by
      apply Classical.byContradiction
      intro c1
      rw [hqr k hk, if_neg c1] at hr2
      exact absurd hr2.symm (nI_m1 (by omega))
    exact ⟨hk, c1, by rw [h5 k hk, e3, if_pos c1], (h2.2.2.1 k hk).2.2⟩
  have hdat : ∀ k, T k = true → (dl sB k ↔ gd v0 k) ∧ nx sB k = gx v0 k ∧ (ls sB k ↔ gl v0 k) ∧ ∃ j, j < 16 ∧ ∃ q, q < 4 ∧ s 5 k = nI j ∧ gx v0 k = nI q := fun k h => by
    obtain ⟨hk, c1, c2, c3⟩ := hTk k h
    have a1 : sB 1 = u 7 := (hq 1 (by decide) (by decide)).trans e1
    have a4 : sB 4 k = u 10 k := by rw [hq 4 (by decide) (by decide)]; exact c2
    have hmg : hm sB k = gh v0 k := by
      show fHome (sB 1 k) = v0 7 k - v0 7 k / 4 * 4
      rw [a1, hvq 7 (by decide)]; rfl
    have hp4 : P4 (gh v0 k) := by
      show P4 (v0 7 k - v0 7 k / 4 * 4)
      rw [hvq 7 (by decide)]; exact P8_home (h2.2.2.1 k hk).2.1
    have hv10 : v0 10 k = u 10 k := by rw [hvq 10 (by decide)]
    have hnx : nx sB k = gx v0 k := by
      show fNext sB (sB 4 k) (hm sB k) = v0 1 (ix (4 * v0 10 k + gh v0 k))
      rw [hmg, a4, hv10]
      unfold fNext
      rw [if_pos ⟨c3, hp4⟩, hq 11 (by decide) (by decide), e11, hvq 1 (by decide), Int32.mul_comm]
    have hdl : dl sB k ↔ gd v0 k := by
      show sB 4 k = hm sB k ↔ v0 10 k = gh v0 k
      rw [hmg, a4, hv10]
    obtain ⟨j, hj, hje⟩ := h6b k
    have hi := P4_in16m c3 hp4
    have hgx4 : P4 (gx v0 k) := by
      show P4 (v0 1 (ix (4 * v0 10 k + gh v0 k)))
      rw [hv10, hvq 1 (by decide)]
      exact h2.2.2.2 _ (Nat.not_le.mp fun q => hi (Or.inr q))
    obtain ⟨q, hq4, hqe⟩ := vp_in_of (P4_in hgx4) (by decide)
    have hs5 : sB 5 k = nI j := by rw [hq 5 (by decide) (by decide)]; exact hje
    have hu11 : v0 11 k = nI j := by rw [hvq 11 (by decide), ← e5]; exact hje
    have hls : ls sB k ↔ gl v0 k := by
      show (¬ dl sB k ∧ ¬ sB 5 k &&& fMark (nx sB k) = 0) ↔ (¬ gd v0 k ∧ gHas (v0 11 k) (gx v0 k))
      rw [hdl, hnx, hqe, hs5, hu11, (has_tab j hj q hq4).1]
    exact ⟨hdl, hnx, hls, j, hj, q, hq4, hje, hqe⟩
  have hTf : ∀ k, n ≤ k → ¬ T k = true := fun k hk h => absurd (hTk k h).1 (by omega)
  obtain ⟨t, ht⟩ : ∃ z, z = fFour sB n 4 := ⟨_, rfl⟩
  obtain ⟨v, hv⟩ : ∃ z, z = gGos v0 n := ⟨_, rfl⟩
  rw [← ht] at C hN4 ⊢
  rw [← hv] at CMv hNg ⊢
  obtain ⟨c0, c3, c4, c5, c6, c10, -, -⟩ := C
  obtain ⟨m0, m9, m10, m11, m12, m3⟩ := CMv
  have t_ : ∀ q, (q != 3 && q != 4 && q != 5 && q != 6 && q != 10 && q != 14 && q != 15) = true → t q = s q := fun q a => by
    simp at a
    rw [c0 q (by omega) (by omega) (by omega) (by omega) (by omega) (by omega)]
    exact hq q (by omega) (by omega)
  have v_ : ∀ q, (q != 3 && q != 9 && q != 10 && q != 11 && q != 12 && q != 14) = true → v q = u q := fun q a => by
    simp at a
    rw [m0 q (by omega) (by omega) (by omega) (by omega) (by omega)]
    exact hvq q (by omega)
  have b3 : sB 3 = u 9 := (hq 3 (by decide) (by decide)).trans e3
  have b5 : sB 5 = u 11 := (hq 5 (by decide) (by decide)).trans e5
  have b6 : sB 6 = u 12 := (hq 6 (by decide) (by decide)).trans e6
  have f3 : t 3 = v 9 := by
    funext k
    rw [c3, m9, b3, hvq 9 (by decide)]
    by_cases c : T k = true
    · obtain ⟨d1, d2, d3, -⟩ := hdat k c
      simp only [if_pos c, d1, d3]
    · rw [if_neg c, if_neg c]
  have f5 : t 5 = v 11 := by
    funext k
    rw [c5, m11]
    have x5 : sB 5 k = u 11 k := congrFun b5 k
    have y5 : v0 11 k = u 11 k := congrFun (hvq 11 (by decide)) k
    by_cases c : T k = true
    · obtain ⟨d1, d2, d3, -⟩ := hdat k c
      simp only [if_pos c]
      by_cases x1 : dl sB k
      · rw [if_pos x1, if_pos (d1.mp x1), x5, y5]
      · by_cases x2 : ls sB k
        · rw [if_neg x1, if_pos x2, if_neg (fun h => x1 (d1.mpr h)), if_pos (d3.mp x2), x5, y5]
        · rw [if_neg x1, if_neg x2, if_neg (fun h => x1 (d1.mpr h)), if_neg (fun h => x2 (d3.mpr h)), x5, y5, d2]
          rfl
    · rw [if_neg c, if_neg c, x5, y5]
  have f6 : t 6 = v 12 := by
    funext k
    rw [c6, m12, b6, hvq 12 (by decide), hq 13 (by decide) (by decide), e13, hvq 0 (by decide)]
    by_cases c : T k = true
    · obtain ⟨d1, d2, d3, -⟩ := hdat k c
      simp only [if_pos c, d1]
    · rw [if_neg c, if_neg c]
  have f10 : t 10 = v 3 := by
    funext j
    rw [c10, m3, hq 10 (by decide) (by decide), e10, hvq 3 (by decide)]
    congr 1
    refine sumP_congr n (fun k hk => ⟨rfl, fun c => ?_⟩)
    obtain ⟨d1, d2, d3, -⟩ := hdat k c
    obtain ⟨-, -, g3, -⟩ := hTk k c
    simp only [d3, hq 4 (by decide) (by decide), g3, hvq 10 (by decide), hq 2 (by decide) (by decide), e2, hvq 8 (by decide)]
  refine ⟨⟨hN4, hNg, h3, ⟨?_, ?_, ?_, f3, f5, f6, ?_, ?_, ?_, f10, ?_, ?_⟩, fun k hk => ?_, fun k hk => ?_, fun k => ?_, fun k hk => ?_, ⟨tm, ht1, ?_, fun k hk hk3 => ?_⟩, fun p hp => ?_⟩, ?_, t_ 13 rfl⟩
  · rw [t_ 0 rfl, v_ 6 rfl]; exact e0
  · rw [t_ 1 rfl, v_ 7 rfl]; exact e1
  · rw [t_ 2 rfl, v_ 8 rfl]; exact e2
  · rw [t_ 7 rfl, v_ 13 rfl]; exact e7
  · rw [t_ 8 rfl, v_ 2 rfl]; exact e8
  · rw [t_ 9 rfl, v_ 4 rfl]; exact e9
  · rw [t_ 11 rfl, v_ 1 rfl]; exact e11
  · rw [t_ 13 rfl, v_ 0 rfl]; exact e13
  · -- places
    rw [c4, c3, m10]
    have x3 : sB 3 k = u 9 k := congrFun b3 k
    have y10 : v0 10 k = u 10 k := congrFun (hvq 10 (by decide)) k
    by_cases c : T k = true
    · obtain ⟨d1, d2, d3, -⟩ := hdat k c
      obtain ⟨-, g2, -⟩ := hTk k c
      simp only [if_pos c]
      by_cases x1 : dl sB k
      · simp only [if_pos x1, if_neg (by decide : ¬ (1 : Int32) = 0)]
      · by_cases x2 : ls sB k
        · simp only [if_neg x1, if_pos x2, if_neg (by decide : ¬ (4 : Int32) = 0)]
        · simp only [if_neg x1, if_neg x2]
          rw [x3, if_pos g2, if_neg (fun h => x1 (d1.mpr h)), if_neg (fun h => x2 (d3.mpr h))]
          exact d2
    · simp only [if_neg c]
      rw [x3, y10, hq 4 (by decide) (by decide), h5 k hk, e3]
  · rw [c3, c5, if_neg (hTf k hk), if_neg (hTf k hk), hq 3 (by decide) (by decide), hq 5 (by decide) (by decide)]
    exact h6 k hk
  · rw [c5]
    by_cases c : T k = true
    · obtain ⟨d1, d2, d3, j, hj, q, hq4, hje, hqe⟩ := hdat k c
      have x5 : sB 5 k = nI j := by rw [hq 5 (by decide) (by decide)]; exact hje
      rw [if_pos c]
      by_cases x1 : dl sB k
      · rw [if_pos x1, x5]; exact ⟨j, hj, rfl⟩
      · by_cases x2 : ls sB k
        · rw [if_neg x1, if_pos x2, x5]; exact ⟨j, hj, rfl⟩
        · rw [if_neg x1, if_neg x2, d2, hqe, x5]
          exact ⟨_, (has_tab j hj q hq4).2⟩
    · rw [if_neg c, hq 5 (by decide) (by decide)]; exact h6b k
  · rw [t_ 7 rfl]
    by_cases c : T k = true
    · obtain ⟨-, g2, -⟩ := hTk k c
      exact h7 k (by rw [e3, g2]; decide)
    · rw [c3, if_neg c, hq 3 (by decide) (by decide)] at hk
      exact h7 k hk
  · rw [t_ 13 rfl]; exact ht2
  · rw [c6]
    rw [c3] at hk3
    by_cases c : T k = true
    · obtain ⟨-, g2, -⟩ := hTk k c
      rw [if_pos c] at hk3 ⊢
      by_cases x1 : dl sB k
      · rw [if_pos x1, hq 13 (by decide) (by decide)]
        exact ⟨tm, Nat.le_refl _, by have := hb k; omega, ht2⟩
      · exfalso
        rw [if_neg x1, b3, g2] at hk3
        by_cases x2 : ls sB k
        · rw [if_pos x2] at hk3; exact absurd hk3 (by decide)
        · rw [if_neg x2] at hk3; exact absurd hk3 (by decide)
    · rw [if_neg c] at hk3 ⊢
      rw [hq 3 (by decide) (by decide)] at hk3
      rw [hq 6 (by decide) (by decide)]
      exact ht3 k hk hk3
  · rw [t_ 9 rfl]; exact h9 p hp
  · rw [hcnt, hNM]
    refine sumP_congr n (fun k hk => ⟨rfl, fun c => ?_⟩)
    simp only [(hdat k c).1]
