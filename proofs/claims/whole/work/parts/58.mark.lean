/-! queueAt and mark: class beside reference -/
theorem fTake_q {t : xS} {n q : Nat} {r : Int32} (hq : q ≠ 14) : fTake t n r q = t q := by
  unfold fTake
  split
  · exact xup_n hq
  · rfl
theorem fTakes_q {t : xS} {n q : Nat} {r : Int32} (hq : q ≠ 14) : ∀ k, fTakes t n r k q = t q
  | 0 => rfl
  | k + 1 => (fTake_q hq).trans (fTakes_q hq k)
theorem fRank_q {s t : xS} (h : ∀ q, q ≠ 14 → t q = s q) (v : Int32) : fRank t v = fRank s v := by
  unfold fRank PL
  rw [h 12 (by decide), h 0 (by decide), h 2 (by decide), h 15 (by decide)]
theorem takes_aI {s : xS} {w : Nat → Int32} {n : Nat} {r : Int32} (hs : okX s n) (hw : ∀ k, k < n → fRank s (nI k) = w k) (hr : r ≠ -1) : ∀ i, aI (s 14) ((fTakes s n r i) 14) w r n i ∧ ∀ k, k < n → (fTakes s n r i) 14 k = r → s 14 k = r
  | 0 => ⟨aI_0, fun _ _ h => h⟩
  | i + 1 => by
    obtain ⟨ih, hsub⟩ := takes_aI hs hw hr i
    have ht := hs.takes (r := r) i
    have hn31 : n < 2 ^ 31 := by have := hs.1; omega
    have hwt : ∀ k, k < n → fRank (fTakes s n r i) (nI k) = w k := fun k hk => (fRank_q (fun q hq => fTakes_q hq i) _).trans (hw k hk)
    rcases best_spec hn31 hwt n (Nat.le_refl n) with ⟨b1, b2⟩ | ⟨b, hb, b1, b2, b3⟩
    · have e : fTakes s n r (i + 1) = fTakes s n r i := by
        show fTake _ n r = _
        unfold fTake
        rw [b1, if_neg PL_m1]
      rw [e]
      exact ⟨(aI_none ih b2).2, hsub⟩
    · have e : fTakes s n r (i + 1) = xup (fTakes s n r i) 14 b (-1) := by
        show fTake _ n r = _
        unfold fTake
        rw [b1, if_pos (PL_nI ht hb), ix_n (by omega)]
      rw [e, xup_s]
      refine ⟨(aI_next hr ih hb (hsub b hb b2) b2 b3).2, fun k hk h => ?_⟩
      by_cases x : k = b
      · subst x; exact hsub k hk b2
      · rw [show upd ((fTakes s n r i) 14) b (-1) k = (fTakes s n r i) 14 k from if_neg x] at h
        exact hsub k hk h
theorem gFind_no {u : xS} {n : Nat} {r p : Int32} : ∀ m, (∀ k, k < m → gLies u (nI k) r → gPlace u n (nI k) n ≠ p) → gFind u n r p m = -1
  | 0, _ => rfl
  | m + 1, h => by
    have ih := gFind_no (u := u) (n := n) (r := r) (p := p) m (fun k hk => h k (by omega))
    rw [gFind, ih]
    by_cases c1 : gLies u (nI m) r
    · rw [if_pos c1, if_neg (h m (Nat.lt_succ_self m) c1)]
    · rw [if_neg c1]
theorem gFind_one {u : xS} {n b : Nat} {r p : Int32} (hb1 : gLies u (nI b) r) (hb2 : gPlace u n (nI b) n = p) (hu : ∀ k, k < n → k ≠ b → gLies u (nI k) r → gPlace u n (nI k) n ≠ p) : ∀ m, m ≤ n → gFind u n r p m = if b < m then nI b else -1
  | 0, _ => rfl
  | m + 1, hm => by
    rw [gFind, gFind_one hb1 hb2 hu m (by omega)]
    by_cases e : m = b
    · subst e
      rw [if_pos hb1, if_pos hb2, if_pos (Nat.lt_succ_self m)]
    · have hx : (b < m + 1) = (b < m) := propext ⟨fun h => by omega, fun h => by omega⟩
      simp only [hx]
      by_cases c1 : gLies u (nI m) r
      · rw [if_pos c1, if_neg (hu m (by omega) e c1)]
      · rw [if_neg c1]
theorem fLen_n (s : xS) (r : Int32) : ∀ k, ∃ j, j ≤ k ∧ fLen s r k = nI j
  | 0 => ⟨0, Nat.le_refl 0, rfl⟩
  | k + 1 => by
    obtain ⟨j, h1, h2⟩ := fLen_n s r k
    rw [fLen, h2]
    by_cases c : s 4 k = r
    · rw [if_pos c]; exact ⟨j + 1, by omega, nI_1 j⟩
    · rw [if_neg c]; exact ⟨j, by omega, rfl⟩
theorem RelG.at_k {s u : xS} {n c : Nat} {a b : Int32} (R : Rel s u n c) : kAt s n a b = jAt u n a b := by
  unfold kAt jAt
  by_cases c1 : P4 a
  · obtain ⟨j, j1, j2⟩ := fLen_n s a n
    have hn := R.1.1
    have e : b ≤ nI j - 1 ↔ b < nI j := le_pred (by omega)
    rw [if_pos c1, if_pos c1, R.len c1 n (Nat.le_refl n), j2]
    by_cases c2 : b < 0
    · rw [if_pos c2, if_neg (fun h => absurd c2 (Int32.not_lt.mpr h.1))]
    · rw [if_neg c2]
      by_cases c3 : b < nI j
      · rw [if_pos c3, if_pos ⟨Int32.not_lt.mp c2, e.mpr c3⟩]
      · rw [if_neg c3, if_neg (fun h => c3 (e.mp h.2))]
  · rw [if_neg c1, if_neg c1]
theorem kAt_0 {s : xS} {n : Nat} {a b : Int32} (h : kAt s n a b = 0) : P4 a ∧ ¬ b < 0 := by
  unfold kAt at h
  by_cases c1 : P4 a
  · rw [if_pos c1] at h
    by_cases c2 : b < 0
    · rw [if_pos c2] at h; exact absurd h (by decide)
    · exact ⟨c1, c2⟩
  · rw [if_neg c1] at h; exact absurd h (by decide)
theorem E_at {s u : xS} {n c : Nat} {a b : Int32} (R : Rel s u n c) (h : kAt s n a b = 0) : gFind u n a b n = fBest (fTakes (fBegin s n) n a (ix b)) a n := by
  obtain ⟨ha, hb⟩ := kAt_0 h
  obtain ⟨g1, g2⟩ := ix_nI hb
  obtain ⟨p, hp⟩ : ∃ p, p = ix b := ⟨_, rfl⟩
  rw [← hp] at g1 g2 ⊢
  have hrep := fun p => R.rep p n (Nat.le_refl n)
  have R9 := R
  obtain ⟨h1, h2, h3, ⟨e0, e1, e2, e3, e5, e6, e7, e8, e9, e10, e11, e13⟩, h5, -⟩ := R
  have hn := h1.1
  have hn31 : n < 2 ^ 31 := by omega
  have hp0 : ∀ k, k < n → P8 (s 0 k) := fun k hk => by rw [e0]; exact (h2.2.2.1 k hk).1
  have hm1 : a ≠ -1 := fun e => by rw [e] at ha; exact absurd ha.1 (by decide)
  obtain ⟨sB, hsB⟩ : ∃ z, z = fBegin s n := ⟨_, rfl⟩
  have hB : okX sB n := hsB ▸ h1.begin
  have hq : ∀ q, q ≠ 14 → q ≠ 15 → sB q = s q := fun q a c => by rw [hsB]; exact fBegin_q a c
  have h14 : ∀ k, k < n → sB 14 k = s 4 k := fun k hk => by rw [hsB]; exact fBegin_14 hk
  rw [← hsB]
  obtain ⟨w, hw⟩ : ∃ w : Nat → Int32, w = fun k => fRank sB (nI k) := ⟨_, rfl⟩
  have hwx : ∀ k, k < n → fRank sB (nI k) = w k := fun k _ => by rw [hw]
  have hwm : ∀ k, k < n → gRank u n (nI k) = w k := fun k hk => by
    have hp := hp0 k hk
    rw [hw]
    show gRank u n (nI k) = fRank sB (nI k)
    have hq0 : sB 0 = s 0 := hq 0 (by decide) (by decide)
    have hi : ix (s 0 k) < 8 := Nat.not_le.mp fun q => (P8_in hp) (Or.inr q)
    rw [fRank_at hB hk (by rw [hq0]; exact hp), hq0, hq 2 (by decide) (by decide), hsB, fBegin_15 hp0 hi]
    have e : nI (ix (s 0 k)) = s 0 k := ((ix_inj8 hp hi).mp rfl).symm
    rw [e, hrep]
    unfold gRank
    rw [ix_n (by omega), e2, e0]
  have hqr : ∀ j, j < n → sB 14 j = if u 9 j = 0 then u 10 j else -1 := fun j hj => by rw [h14 j hj, h5 j hj, e3]
  have hpl : ∀ k, k < n → gLies u (nI k) a → sB 14 k = a ∧ gPlace u n (nI k) n = nI (aC (sB 14) w a k n) := fun k hk hl => by
    have hs4 := (lies_at R9 hk ha).mp hl
    have e10k : u 10 k = a := by
      have := hl.2
      rw [ix_n (by omega)] at this
      exact this
    have := place_eq h2 hk hqr hwm n (Nat.le_refl n)
    rw [e10k] at this
    exact ⟨(h14 k hk).trans hs4, this⟩
  obtain ⟨I, hsub⟩ := takes_aI hB hwx hm1 p
  have ht := hB.takes (r := a) p
  have hwt : ∀ k, k < n → fRank (fTakes sB n a p) (nI k) = w k := fun k hk => (fRank_q (fun q hq => fTakes_q hq p) _).trans (hwx k hk)
  have hle := fun k => aC_le (sB 14) w a k n
  rw [g1]
  rcases best_spec hn31 hwt n (Nat.le_refl n) with ⟨b1, b2⟩ | ⟨b0, hb0, b1, b2, b3⟩
  · rw [b1]
    refine gFind_no n (fun k hk hl => ?_)
    obtain ⟨q1, q2⟩ := hpl k hk hl
    have := (aI_none I b2).1 k hk q1
    rw [q2]
    exact nI_ne (by have := hle k; omega) g2 (by omega)
  · rw [b1]
    have hs14 := hsub b0 hb0 b2
    have hl0 : gLies u (nI b0) a := (lies_at R9 hb0 ha).mpr ((h14 b0 hb0).symm.trans hs14)
    have h0 := (aI_next hm1 I hb0 hs14 b2 b3).1
    have := gFind_one (u := u) (n := n) (b := b0) (r := a) (p := nI p) hl0 (by rw [(hpl b0 hb0 hl0).2, h0]) (fun k hk hne hl => by
      obtain ⟨q1, q2⟩ := hpl k hk hl
      rw [q2]
      refine nI_ne (by have := hle k; omega) g2 ?_
      rcases I k hk q1 with ⟨-, x⟩ | ⟨x1, x2⟩
      · omega
      · have hl2 := aC_less (w := w) (k := k) hm1 b2 (b3 k hk hne x1) n
        rw [if_pos hb0] at hl2
        omega) n (Nat.le_refl n)
    rw [this, if_pos hb0]
theorem E_atR {s u : xS} {n c : Nat} {a b : Int32} (R : Rel s u n c) (v : Int32) : Rel (if kAt s n a b = 0 then fTakes (fBegin s n) n a (ix b + 1) else s) (xup u 15 0 v) n c := by
  by_cases h : kAt s n a b = 0
  · rw [if_pos h]
    exact (R.thr v).work (fun q q1 q2 => (fTakes_q q1 _).trans (fBegin_q q1 q2))
  · rw [if_neg h]; exact R.thr v
theorem gFind_thr {u : xS} {n : Nat} {r p v : Int32} : ∀ m, gFind (xup u 15 0 v) n r p m = gFind u n r p m
  | 0 => rfl
  | m + 1 => by
    rw [gFind, gFind, gFind_thr m, gPlace_q (u := u) (fun q _ _ h => xup_n h) n (nI m) n]
    rfl
/-! mark -/
def cntH (x : Int32) : Nat → Int32
  | 0 => 0
  | k + 1 => cntH x k + (if gHas x (nI k) then 1 else 0)
theorem gCnt_H {u : xS} {n : Nat} {a : Int32} : ∀ k, gCnt u n a k = cntH (gWho u a n) k
  | 0 => rfl
  | k + 1 => by rw [gCnt, cntH, gCnt_H k]
set_option maxRecDepth 100000 in
theorem bits_tab : ∀ j, j < 256 → fBits (nI j) = cntH (nI j) 8 := by decide +kernel
set_option maxRecDepth 100000 in
theorem or_tab : ∀ j, j < 256 → ∀ q, q < 8 → (j ||| 2 ^ q) < 256 ∧ nI j ||| 1 <<< (nI q &&& 31) = nI (j ||| 2 ^ q) := by decide +kernel
theorem or_0r (x : Int32) : x ||| 0 = x := Int32.or_zero
theorem who_eq {s t u : xS} {n a : Nat} (hM : okM u n) (han : a < n) (h0 : t 0 = u 6) (h1 : t 1 = u 7) (h3 : ∀ k, t 3 k = 2 ↔ u 9 k = 2) : ∀ k, k ≤ n → fWho t (t 0 a) (t 1 a) k = gWho u (nI a) k ∧ ∃ j, j < 256 ∧ gWho u (nI a) k = nI j
  | 0, _ => ⟨rfl, 0, by decide, rfl⟩
  | k + 1, hk => by
    obtain ⟨ih, j, hj, hje⟩ := who_eq (s := s) hM han h0 h1 h3 k (by omega)
    have hn := hM.1
    obtain ⟨q, hq, hqe⟩ := vp_in_of (P8_in (hM.2.2.1 k (by omega)).2.1) (by decide)
    have T := or_tab j hj q hq
    rw [fWho, gWho, ih, ix_n (by omega), or_0r, h0, h1, hje, hqe, T.2]
    by_cases c1 : u 6 k = u 6 a
    · by_cases c2 : u 9 k = 2
      · by_cases c3 : nI q = u 7 a
        · simp only [if_pos ((h3 k).mpr c2), if_pos c1, if_pos c3, if_pos c2]; exact ⟨trivial, j, hj, rfl⟩
        · simp only [if_pos ((h3 k).mpr c2), if_pos c1, if_neg c3, if_pos c2]; exact ⟨trivial, _, T.1, rfl⟩
      · simp only [if_neg (fun h => c2 ((h3 k).mp h)), if_pos c1, if_neg c2]; exact ⟨trivial, j, hj, rfl⟩
    · simp only [if_neg c1, ite_self]
      exact ⟨trivial, j, hj, rfl⟩
theorem xup_comm (s : xS) {j j' : Nat} (i i' : Nat) (v v' : Int32) (h : j ≠ j') : xup (xup s j i v) j' i' v' = xup (xup s j' i' v') j i v := by
  funext q
  by_cases a : q = j
  · subst a
    rw [xup_n h, xup_s, xup_s, xup_n h]
  · by_cases b : q = j'
    · subst b
      rw [xup_s, xup_n a, xup_n a, xup_s]
    · rw [xup_n b, xup_n a, xup_n a, xup_n b]
theorem xup_id (s : xS) (j i : Nat) : xup s j i (s j i) = s := by
  funext q
  by_cases a : q = j
  · subst a
    rw [xup_s]
    funext p
    by_cases e : p = i
    · rw [e]; exact if_pos rfl
    · exact if_neg e
  · exact xup_n a
theorem RelG.isf {b : Nat → Nat} {s u : xS} {n c a : Nat} (R : RelG b s u n c) (v : Int32) (h : s 3 a = 3) : RelG b (xup s 7 a v) (xup u 13 a v) n c := by
  obtain ⟨h1, h2, h3, ⟨e0, e1, e2, e3, e5, e6, e7, e8, e9, e10, e11, e13⟩, h5, h6, h6b, h7, h8, h9⟩ := R
  refine ⟨h1.up (by decide), h2.up rfl, h3, ⟨e0, e1, e2, e3, e5, e6, by rw [xup_s, xup_s, e7], e8, e9, e10, e11, e13⟩, h5, h6, h6b, fun k hk => ?_, h8, h9⟩
  by_cases e : k = a
  · subst e; exact absurd h hk
  · rw [xup_sn e]; exact h7 k hk
