/-! a tick: the letters that the class takes are those that the reference marks as moving -/
theorem nI_ne {a b : Nat} (ha : a < 2 ^ 31) (hb : b < 2 ^ 31) (h : a ≠ b) : nI a ≠ nI b := fun e => h ((nI_eq ha hb).mp e)
theorem nI_m1 {a : Nat} (ha : a < 2 ^ 31) : nI a ≠ -1 := by
  intro h
  have h2 := congrArg Int32.toInt h
  rw [nI_toInt ha] at h2
  have : (-1 : Int32).toInt = -1 := rfl
  omega
theorem P4_nI {a : Nat} (h : a < 4) : P4 (nI a) := ⟨nI_pos' (by omega), nI_lt h (by decide)⟩
def IV (s : xS) (w : Nat → Int32) (n p i : Nat) (t : xS) (c : Int32) : Prop :=
  ∃ T, CX s t T n ∧ c = sumP T (fun k => if dl s k then 1 else 0) n ∧
    (∀ k, k < n → ∀ r, r < p → s 14 k = nI r → (T k = true ↔ aC (s 14) w (nI r) k n < 2)) ∧
    aI (s 14) (t 14) w (nI p) n i ∧
    (∀ k, T k = true → ∃ r, (r < p ∨ (r = p ∧ 0 < i)) ∧ s 14 k = nI r)
theorem IV_0 {s : xS} {w : Nat → Int32} {n : Nat} : IV s w n 0 0 s 0 :=
  ⟨fun _ => false, CX_0, (sumP_0 n (fun _ _ => rfl)).symm, fun k _ r hr => absurd hr (Nat.not_lt_zero r), aI_0, fun k h => by cases h⟩
theorem CX.rank {s t : xS} {T : Nat → Bool} {n : Nat} (C : CX s t T n) (v : Int32) : fRank t v = fRank s v := by
  obtain ⟨c0, -⟩ := C
  have e := fun q (a : (q != 3 && q != 4 && q != 5 && q != 6 && q != 10 && q != 14) = true) => c0 q (by simp at a; omega) (by simp at a; omega) (by simp at a; omega) (by simp at a; omega) (by simp at a; omega) (by simp at a; omega)
  unfold fRank PL
  rw [e 12 rfl, e 0 rfl, e 2 rfl, e 15 rfl]
theorem IV_step {s t : xS} {w : Nat → Int32} {n p i : Nat} {c : Int32} (h4 : ∀ k, k < n → s 4 k = s 14 k) (hw : ∀ k, k < n → fRank s (nI k) = w k) (ht : okX t n) (hp : p < 4) (I : IV s w n p i t c) : IV s w n p (i + 1) (fStep t n (nI p)) (c + fStepN t n (nI p)) := by
  obtain ⟨T, C, hc, hd, ha, hr⟩ := I
  have hn31 : n < 2 ^ 31 := by have := ht.1; omega
  have hwt : ∀ k, k < n → fRank t (nI k) = w k := fun k hk => (C.rank _).trans (hw k hk)
  have hpm : nI p ≠ -1 := nI_m1 (by omega)
  rcases best_spec hn31 hwt n (Nat.le_refl n) with ⟨b1, b2⟩ | ⟨b, hb, b1, b2, b3⟩
  · obtain ⟨e1, e2⟩ := step_none (n := n) (r := nI p) b1
    rw [e1, e2, i32_z]
    exact ⟨T, C, hc, hd, (aI_none ha b2).2, fun k hk => (hr k hk).elim fun r h => ⟨r, h.1.elim Or.inl (fun h => Or.inr ⟨h.1, Nat.succ_pos i⟩), h.2⟩⟩
  · have c14 := C.2.2.2.2.2.2.1
    have hT : T b = false := by
      cases e : T b with
      | false => rfl
      | true =>
        have := c14 b
        rw [e, if_pos rfl, b2] at this
        exact absurd this hpm
    have hs14 : s 14 b = nI p := by
      have := c14 b
      rw [hT, if_neg (by decide), b2] at this
      exact this.symm
    obtain ⟨C2, e2⟩ := step_some ht C hb hT b1 ((h4 b hb).trans hs14) (P4_nI hp)
    have hu : (fStep t n (nI p)) 14 = upd (t 14) b (-1) := by
      funext k
      rw [C2.2.2.2.2.2.2.1 k]
      by_cases e : k = b
      · subst e
        rw [if_pos (show addT T k k = true from if_pos rfl)]
        exact (if_pos rfl).symm
      · rw [show addT T b k = T k from if_neg e, show upd (t 14) b (-1) k = t 14 k from if_neg e, c14 k]
    refine ⟨addT T b, C2, ?_, fun k hk r hr2 h0 => ?_, ?_, fun k hk => ?_⟩
    · rw [sumP_add hT n, if_pos hb, ← hc, e2]
    · have : k ≠ b := fun e => nI_ne (by omega) (by omega) (Nat.ne_of_lt hr2) (by rw [← h0, e, hs14])
      rw [show addT T b k = T k from if_neg this]
      exact hd k hk r hr2 h0
    · rw [hu]
      exact (aI_next hpm ha hb hs14 b2 b3).2
    · by_cases e : k = b
      · exact ⟨p, Or.inr ⟨rfl, Nat.succ_pos i⟩, e ▸ hs14⟩
      · rw [show addT T b k = T k from if_neg e] at hk
        exact (hr k hk).elim fun r h => ⟨r, h.1.elim Or.inl (fun h => Or.inr ⟨h.1, Nat.succ_pos i⟩), h.2⟩
theorem IV_next {s t : xS} {w : Nat → Int32} {n p : Nat} {c : Int32} (hp : p < 4) (I : IV s w n p 2 t c) : IV s w n (p + 1) 0 t c := by
  obtain ⟨T, C, hc, hd, ha, hr⟩ := I
  have c14 := C.2.2.2.2.2.2.1
  have hpm : nI p ≠ -1 := nI_m1 (by omega)
  refine ⟨T, C, hc, fun k hk r hr2 h0 => ?_, fun k hk h0 => ?_, fun k hk => ?_⟩
  · by_cases e : r = p
    · subst e
      have h14 := c14 k
      rcases ha k hk h0 with ⟨a1, a2⟩ | ⟨a1, a2⟩
      · refine ⟨fun _ => a2, fun _ => ?_⟩
        cases e2 : T k with
        | true => rfl
        | false =>
          rw [e2, if_neg (by decide), h0] at h14
          exact absurd h14 a1
      · refine ⟨fun e2 => ?_, fun h => by omega⟩
        rw [e2, if_pos rfl] at h14
        exact absurd (a1.symm.trans h14) hpm
    · exact hd k hk r (by omega) h0
  · have hk2 : ∀ j, j < n → (s 14 j = nI (p + 1) ↔ t 14 j = nI (p + 1)) := fun j hj => by
      have h14 := c14 j
      cases e2 : T j with
      | true =>
        rw [e2, if_pos rfl] at h14
        obtain ⟨r, h1, h2⟩ := hr j e2
        exact ⟨fun h => absurd (h2.symm.trans h) (nI_ne (by omega) (by omega) (by omega)), fun h => absurd (h.symm.trans h14) (nI_m1 (by omega))⟩
      | false =>
        rw [e2, if_neg (by decide)] at h14
        rw [h14]
    exact Or.inr ⟨(hk2 k hk).mp h0, by rw [aC_congr n hk2]; omega⟩
  · exact (hr k hk).elim fun r h => ⟨r, Or.inl (by omega), h.2⟩
theorem IV_four {s : xS} {w : Nat → Int32} {n : Nat} (hs : okX s n) (h4 : ∀ k, k < n → s 4 k = s 14 k) (hw : ∀ k, k < n → fRank s (nI k) = w k) : ∀ p, p ≤ 4 → IV s w n p 0 (fFour s n p) (fFourN s n p)
  | 0, _ => IV_0
  | p + 1, hp => by
    have I := IV_four hs h4 hw p (by omega)
    have ht := hs.four p
    have I1 := IV_step h4 hw ht (by omega) I
    have I2 := IV_step h4 hw (ht.take.move) (by omega) I1
    exact IV_next (by omega) I2
/-- the reference's moves -/
theorem gName_q {u v : xS} (h : ∀ q, q ≠ 0 → q ≠ 14 → q ≠ 15 → v q = u q) (p : Int32) : ∀ k, gName v p k = gName u p k
  | 0 => rfl
  | k + 1 => by
    have e := fun q (a : (q != 0 && q != 14 && q != 15) = true) => h q (by simp at a; omega) (by simp at a; omega) (by simp at a; omega)
    simp only [gName, gA, gB, gWeight, gName_q h p k, e 6 rfl, e 9 rfl, e 13 rfl, e 7 rfl, e 4 rfl]
theorem gRank_q {u v : xS} (h : ∀ q, q ≠ 0 → q ≠ 14 → q ≠ 15 → v q = u q) (n : Nat) (a : Int32) : gRank v n a = gRank u n a := by
  unfold gRank
  rw [gName_q h, h 8 (by decide) (by decide) (by decide), h 6 (by decide) (by decide) (by decide)]
theorem gPlace_q {u v : xS} (h : ∀ q, q ≠ 0 → q ≠ 14 → q ≠ 15 → v q = u q) (n : Nat) (a : Int32) : ∀ k, gPlace v n a k = gPlace u n a k
  | 0 => rfl
  | k + 1 => by
    simp only [gPlace, gPlace_q h n a k, gLies, gAhead, gRank_q h, h 9 (by decide) (by decide) (by decide), h 10 (by decide) (by decide) (by decide)]
theorem gMv_q {u : xS} {n q : Nat} (hq : q ≠ 14) : ∀ k, gMv u n k q = u q
  | 0 => rfl
  | k + 1 => by
    unfold gMv
    split
    · split
      · rw [xup_n hq]; exact gMv_q hq k
      · rw [xup_n hq]; exact gMv_q hq k
    · rw [xup_n hq]; exact gMv_q hq k
theorem nar_1 : vp_nar .boolean 1 = 1 := by decide +kernel
theorem nar_0 : vp_nar .boolean 0 = 0 := by decide +kernel
theorem gMv_14 {u : xS} {n j : Nat} : ∀ k, j < k → gMv u n k 14 j = if u 9 j = 0 then (if 2 ≤ gPlace u n (nI j) n then 0 else 1) else 0
  | 0, h => absurd h (Nat.not_lt_zero _)
  | k + 1, h => by
    have e9 : gMv u n k 9 = u 9 := gMv_q (by decide) k
    have ep : ∀ a m, gPlace (gMv u n k) n a m = gPlace u n a m := fun a m => gPlace_q (fun q _ h _ => gMv_q h k) n a m
    unfold gMv
    rw [e9, ep]
    by_cases e : j = k
    · subst e
      by_cases c1 : u 9 j = 0
      · rw [if_pos c1, if_pos c1]
        by_cases c2 : 2 ≤ gPlace u n (nI j) n
        · rw [if_pos c2, if_pos c2, xup_ss, nar_0]
        · rw [if_neg c2, if_neg c2, xup_ss, nar_1]
      · rw [if_neg c1, if_neg c1, xup_ss, nar_0]
    · have ih := gMv_14 (u := u) (n := n) (j := j) k (by omega)
      split
      · split
        · rw [xup_sn e]; exact ih
        · rw [xup_sn e]; exact ih
      · rw [xup_sn e]; exact ih
/-- the letters below m that are marked -/
def mT (u : xS) (m : Nat) : Nat → Bool := fun k => decide (k < m) && !(decide (u 14 k = 0))
theorem mT_1 {u : xS} {m : Nat} (h : u 14 m = 0) : mT u (m + 1) = mT u m := by
  funext k
  unfold mT
  by_cases e : k = m
  · subst e; simp [h]
  · have : (k < m + 1) = (k < m) := propext ⟨fun h => by omega, fun h => by omega⟩
    simp only [this]
theorem mT_2 {u : xS} {m : Nat} (h : ¬ u 14 m = 0) : mT u (m + 1) = addT (mT u m) m := by
  funext k
  unfold mT addT
  by_cases e : k = m
  · subst e; simp [h]
  · have : (k < m + 1) = (k < m) := propext ⟨fun h => by omega, fun h => by omega⟩
    simp only [this, if_neg e]
theorem mT_m {u : xS} {m : Nat} : mT u m m = false := by simp [mT]
theorem gos_CM {u : xS} {n : Nat} (hn : n < 2 ^ 31) : ∀ m, m ≤ n → CM u (gGos u m) (mT u m) n ∧ gGosN u m = sumP (mT u m) (fun k => if gd u k then 1 else 0) n
  | 0, _ => by
    have e : ∀ k, mT u 0 k = false := fun k => by simp [mT]
    refine ⟨⟨fun q _ _ _ _ _ => rfl, fun k => ?_, fun k => ?_, fun k => ?_, fun k => ?_, fun j => ?_⟩, ?_⟩
    · rw [e]; rfl
    · rw [e]; rfl
    · rw [e]; rfl
    · rw [e]; rfl
    · rw [sumP_0 n (fun k _ => e k), i32_z]; rfl
    · rw [sumP_0 n (fun k _ => e k)]; rfl
  | m + 1, hm => by
    obtain ⟨C, hN⟩ := gos_CM (u := u) hn m (by omega)
    have e14 : (gGos u m) 14 m = u 14 m := by rw [C.1 14 (by decide) (by decide) (by decide) (by decide) (by decide)]
    by_cases c : u 14 m = 0
    · rw [mT_1 c]
      simp only [gGos, gGosN, e14, if_pos c, i32_z]
      exact ⟨C, hN⟩
    · obtain ⟨C2, hd⟩ := go_some C (b := m) (by omega) (by omega) mT_m
      rw [mT_2 c]
      simp only [gGos, gGosN, e14, if_neg c]
      refine ⟨C2, ?_⟩
      rw [sumP_add mT_m n, if_pos (show m < n by omega), ← hN]
      by_cases d : gd u m
      · rw [if_pos (hd.mpr d), if_pos d]
      · rw [if_neg (fun h => d (hd.mp h)), if_neg d]
/-- how many are ahead: both count the same -/
theorem place_eq {u : xS} {q w : Nat → Int32} {n k : Nat} (hM : okM u n) (hk : k < n) (hq : ∀ j, j < n → q j = if u 9 j = 0 then u 10 j else -1) (hw : ∀ j, j < n → gRank u n (nI j) = w j) : ∀ m, m ≤ n → gPlace u n (nI k) m = nI (aC q w (u 10 k) k m)
  | 0, _ => rfl
  | m + 1, hm => by
    have hn := hM.lt
    have hmn : m < n := by omega
    have h10 := (hM.2.2.1 k hk).2.2
    have hm1 : u 10 k ≠ -1 := fun e => by
      rw [e] at h10
      exact absurd h10.1 (by decide)
    rw [gPlace, place_eq hM hk hq hw m (by omega), aC, ix_n (by omega)]
    have e1 : gLies u (nI m) (u 10 k) ↔ q m = u 10 k := by
      unfold gLies
      rw [ix_n (by omega), hq m hmn]
      by_cases c : u 9 m = 0
      · rw [if_pos c]; exact ⟨fun h => h.2, fun h => ⟨c, h⟩⟩
      · rw [if_neg c]; exact ⟨fun h => absurd h.1 c, fun h => absurd h.symm hm1⟩
    have e2 : gAhead u n (nI m) (nI k) ↔ aA w m k := by
      unfold gAhead aA
      rw [hw m hmn, hw k hk, nI_ltI (by omega) (by omega)]
    by_cases e : m = k
    · subst e
      rw [if_pos rfl, if_neg (fun h => aA_irr h.2)]
      exact i32_z _
    · rw [if_neg (nI_ne (by omega) (by omega) e)]
      by_cases c1 : q m = u 10 k
      · rw [if_pos (e1.mpr c1)]
        by_cases c2 : aA w m k
        · rw [if_pos (e2.mpr c2), if_pos ⟨c1, c2⟩]; exact nI_1 _
        · rw [if_neg (fun h => c2 (e2.mp h)), if_neg (fun h => c2 h.2)]; exact i32_z _
      · rw [if_neg (fun h => c1 (e1.mp h)), if_neg (fun h => c1 h.1)]; exact i32_z _
