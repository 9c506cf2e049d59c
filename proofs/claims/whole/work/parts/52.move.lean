/-! what a set of moved letters makes of a state: in the class (CX), in the reference (CM) -/
def sumP (T : Nat → Bool) (w : Nat → Int32) : Nat → Int32
  | 0 => 0
  | k + 1 => sumP T w k + (if T k = true then w k else 0)
theorem i32_ac (a b c : Int32) : a + b + c = a + c + b := by grind
theorem sumP_congr {T T' : Nat → Bool} {w w' : Nat → Int32} : ∀ m, (∀ k, k < m → T k = T' k ∧ (T k = true → w k = w' k)) → sumP T w m = sumP T' w' m
  | 0, _ => rfl
  | m + 1, h => by
    unfold sumP
    rw [sumP_congr m (fun k hk => h k (by omega)), (h m (Nat.lt_succ_self m)).1]
    by_cases c : T' m = true
    · rw [if_pos c, if_pos c, (h m (Nat.lt_succ_self m)).2 ((h m (Nat.lt_succ_self m)).1 ▸ c)]
    · rw [if_neg c, if_neg c]
theorem sumP_0 {T : Nat → Bool} {w : Nat → Int32} : ∀ m, (∀ k, k < m → T k = false) → sumP T w m = 0
  | 0, _ => rfl
  | m + 1, h => by
    unfold sumP
    rw [sumP_0 m (fun k hk => h k (by omega)), if_neg (by rw [h m (Nat.lt_succ_self m)]; decide)]
    rfl
/-- one more -/
def addT (T : Nat → Bool) (b : Nat) : Nat → Bool := fun k => if k = b then true else T k
theorem sumP_add {T : Nat → Bool} {w : Nat → Int32} {b : Nat} (hb : T b = false) : ∀ m, sumP (addT T b) w m = sumP T w m + (if b < m then w b else 0)
  | 0 => rfl
  | m + 1 => by
    unfold sumP
    rw [sumP_add hb m]
    by_cases e : m = b
    · subst e
      rw [if_pos (show addT T m m = true from if_pos rfl), if_neg (show ¬ m < m by omega), if_pos (show m < m + 1 by omega), hb, if_neg (by decide)]
    · rw [show addT T b m = T m from if_neg e]
      by_cases h1 : b < m
      · rw [if_pos h1, if_pos (show b < m + 1 by omega)]; exact i32_ac _ _ _
      · rw [if_neg h1, if_neg (show ¬ b < m + 1 by omega)]; exact i32_ac _ _ _
abbrev hm (s : xS) (k : Nat) : Int32 := fHome (s 1 k)
abbrev nx (s : xS) (k : Nat) : Int32 := fNext s (s 4 k) (hm s k)
abbrev dl (s : xS) (k : Nat) : Prop := s 4 k = hm s k
abbrev ls (s : xS) (k : Nat) : Prop := ¬ dl s k ∧ ¬ s 5 k &&& fMark (nx s k) = 0
def CX (s t : xS) (T : Nat → Bool) (n : Nat) : Prop :=
  (∀ q, q ≠ 3 → q ≠ 4 → q ≠ 5 → q ≠ 6 → q ≠ 10 → q ≠ 14 → t q = s q) ∧
  (∀ k, t 3 k = if T k = true then (if dl s k then 1 else if ls s k then 4 else s 3 k) else s 3 k) ∧
  (∀ k, t 4 k = if T k = true then (if dl s k then -1 else if ls s k then -1 else nx s k) else s 4 k) ∧
  (∀ k, t 5 k = if T k = true then (if dl s k then s 5 k else if ls s k then s 5 k else s 5 k ||| fMark (nx s k)) else s 5 k) ∧
  (∀ k, t 6 k = if T k = true then (if dl s k then s 13 0 else s 6 k) else s 6 k) ∧
  (∀ j, t 10 j = s 10 j + sumP T (fun k => if ls s k ∧ ix (s 4 k) = j then s 2 k else 0) n) ∧
  (∀ k, t 14 k = if T k = true then -1 else s 14 k) ∧
  (∀ k, T k = true → k < n)
theorem i32_z (x : Int32) : x + 0 = x := by grind
theorem CX_0 {s : xS} {n : Nat} : CX s s (fun _ => false) n := by
  refine ⟨fun q _ _ _ _ _ _ => rfl, fun k => rfl, fun k => rfl, fun k => rfl, fun k => rfl, fun j => ?_, fun k => rfl, fun k h => by cases h⟩
  rw [sumP_0 n (fun _ _ => rfl), i32_z]
theorem PL_m1 {s : xS} : ¬ PL s (-1) := fun h => absurd h.1 (by decide)
theorem step_none {t : xS} {n : Nat} {r : Int32} (h : fBest t r n = -1) : fStep t n r = t ∧ fStepN t n r = 0 := by
  have e : fTake t n r = t := by unfold fTake; rw [h, if_neg PL_m1]
  unfold fStep fStepN
  rw [e, h]
  exact ⟨by unfold fMove; rw [if_neg PL_m1], by unfold fMoveN; rw [if_neg (fun h => PL_m1 h.1)]⟩
theorem step_some {s t : xS} {T : Nat → Bool} {n b : Nat} {r : Int32} (ht : okX t n) (C : CX s t T n) (hb : b < n) (hT : T b = false) (hbest : fBest t r n = nI b) (hr : s 4 b = r) (hr4 : P4 r) : CX s (fStep t n r) (addT T b) n ∧ fStepN t n r = if dl s b then 1 else 0 := by
  have hb31 : b < 2 ^ 31 := by have := ht.1; omega
  have hpl : PL t (nI b) := PL_nI ht hb
  have e : fTake t n r = xup t 14 b (-1) := by unfold fTake; rw [hbest, if_pos hpl, ix_n hb31]
  obtain ⟨c0, c3, c4, c5, c6, c10, c14, cT⟩ := C
  have t1 : t 1 = s 1 := c0 1 (by decide) (by decide) (by decide) (by decide) (by decide) (by decide)
  have t2 : t 2 = s 2 := c0 2 (by decide) (by decide) (by decide) (by decide) (by decide) (by decide)
  have t11 : t 11 = s 11 := c0 11 (by decide) (by decide) (by decide) (by decide) (by decide) (by decide)
  have t12 : t 12 = s 12 := c0 12 (by decide) (by decide) (by decide) (by decide) (by decide) (by decide)
  have t13 : t 13 = s 13 := c0 13 (by decide) (by decide) (by decide) (by decide) (by decide) (by decide)
  have t5b : t 5 b = s 5 b := by rw [c5 b, hT]; rfl
  have hpl2 : PL (xup t 14 b (-1)) (nI b) := hpl
  have hn2 : fNext (xup t 14 b (-1)) r (fHome (s 1 b)) = nx s b := by
    show fNext _ _ _ = fNext s (s 4 b) (fHome (s 1 b))
    rw [hr]; unfold fNext
    rw [show (xup t 14 b (-1)) 11 = s 11 from t11]
  have hN : fStepN t n r = if dl s b then 1 else 0 := by
    unfold fStepN fMoveN
    rw [e, hbest, ix_n hb31, show (xup t 14 b (-1)) 1 = s 1 from t1]
    by_cases c : dl s b
    · rw [if_pos c, if_pos ⟨hpl2, by rw [← hr]; exact c⟩]
    · rw [if_neg c, if_neg (fun h => c (by rw [← hr] at h; exact h.2))]
  refine ⟨?_, hN⟩
  have hadd : ∀ k, (addT T b k = true) = (k = b ∨ T k = true) := fun k => by
    unfold addT; by_cases h : k = b <;> simp [h]
  have hsum : ∀ w : Nat → Int32, sumP (addT T b) w n = sumP T w n + w b := fun w => by rw [sumP_add hT n, if_pos hb]
  have hcT : ∀ k, addT T b k = true → k < n := fun k h => by
    rw [hadd] at h
    exact h.elim (fun h => h ▸ hb) (cT k)
  have hTb : ¬ T b = true := by rw [hT]; decide
  unfold fStep
  rw [e, hbest]
  unfold fMove
  rw [if_pos hpl2, ix_n hb31, show (xup t 14 b (-1)) 1 = s 1 from t1, show (xup t 14 b (-1)) 5 = t 5 from rfl, t5b, hn2]
  by_cases d : dl s b
  · rw [if_pos (show r = fHome (s 1 b) by rw [← hr]; exact d)]
    unfold fLeave
    rw [if_pos hpl2, ix_n hb31]
    refine ⟨fun q h3 h4 h5 h6 h10 h14 => ?_, fun k => ?_, fun k => ?_, fun k => ?_, fun k => ?_, fun j => ?_, fun k => ?_, hcT⟩
    · rw [xup_n h6, xup_n h3, xup_n h4, xup_n h14]; exact c0 q h3 h4 h5 h6 h10 h14
    all_goals try (by_cases hk : k = b)
    all_goals try subst hk
    all_goals try simp only [hadd]
    · simp [xup, upd, d]
    · simp [xup, upd, hk, c3]
    · simp [xup, upd, d]
    · simp [xup, upd, hk, c4]
    · simp [xup, upd, d, t5b]
    · simp [xup, upd, hk, c5]
    · simp [xup, upd, d, t13]
    · simp [xup, upd, hk, c6]
    · rw [hsum, if_neg (fun h => h.1.1 d), i32_z]; exact c10 j
    · simp [xup, upd]
    · simp [xup, upd, hk, c14]
  · rw [if_neg (show ¬ r = fHome (s 1 b) by rw [← hr]; exact d)]
    by_cases l : s 5 b &&& fMark (nx s b) = 0
    · have nl : ¬ ls s b := fun h => h.2 l
      rw [if_pos l]
      unfold fLay
      rw [if_pos hpl2, ix_n hb31]
      refine ⟨fun q h3 h4 h5 h6 h10 h14 => ?_, fun k => ?_, fun k => ?_, fun k => ?_, fun k => ?_, fun j => ?_, fun k => ?_, hcT⟩
      · rw [xup_n h5, xup_n h4, xup_n h14]; exact c0 q h3 h4 h5 h6 h10 h14
      all_goals try (by_cases hk : k = b)
      all_goals try subst hk
      all_goals try simp only [hadd]
      · simp only [true_or, if_true, if_neg d, if_neg nl]; exact (c3 k).trans (if_neg hTb)
      · simp [xup, upd, hk, c3]
      · simp only [true_or, if_true, if_neg d, if_neg nl]; simp [xup, upd]
      · simp [xup, upd, hk, c4]
      · simp only [true_or, if_true, if_neg d, if_neg nl]; simp [xup, upd, t5b]
      · simp [xup, upd, hk, c5]
      · simp only [true_or, if_true, if_neg d]; exact (c6 k).trans (if_neg hTb)
      · simp [xup, upd, hk, c6]
      · rw [hsum, if_neg (fun h => nl h.1), i32_z]; exact c10 j
      · simp [xup, upd]
      · simp [xup, upd, hk, c14]
    · have yl : ls s b := ⟨d, l⟩
      rw [if_neg l]
      unfold fPool fLeave
      rw [if_pos hpl2, ix_n hb31, if_pos (show PL (xup (xup (xup t 14 b (-1)) 4 b (-1)) 3 b 4) (nI b) ∧ P4 r from ⟨hpl, hr4⟩)]
      refine ⟨fun q h3 h4 h5 h6 h10 h14 => ?_, fun k => ?_, fun k => ?_, fun k => ?_, fun k => ?_, fun j => ?_, fun k => ?_, hcT⟩
      · rw [xup_n h10, xup_n h3, xup_n h4, xup_n h14]; exact c0 q h3 h4 h5 h6 h10 h14
      all_goals try (by_cases hk : k = b)
      all_goals try subst hk
      all_goals try simp only [hadd]
      · simp only [true_or, if_true, if_neg d, if_pos yl]; simp [xup, upd]
      · simp [xup, upd, hk, c3]
      · simp only [true_or, if_true, if_neg d, if_pos yl]; simp [xup, upd]
      · simp [xup, upd, hk, c4]
      · simp only [true_or, if_true, if_neg d, if_pos yl]; exact t5b
      · simp [xup, upd, hk, c5]
      · simp only [true_or, if_true, if_neg d]; exact (c6 k).trans (if_neg hTb)
      · simp [xup, upd, hk, c6]
      · rw [hsum]
        by_cases hj : ix r = j
        · subst hj
          rw [if_pos ⟨yl, by rw [hr]⟩, xup_ss]
          show t 10 (ix r) + t 2 b = _
          rw [c10, t2]
          exact Int32.add_assoc _ _ _
        · rw [if_neg (fun h => hj (by rw [← h.2, hr])), i32_z, xup_sn (Ne.symm hj)]
          exact c10 j
      · simp [xup, upd]
      · simp [xup, upd, hk, c14]
/-- the reference's letters -/
abbrev gh (u : xS) (k : Nat) : Int32 := u 7 k - u 7 k / 4 * 4
abbrev gx (u : xS) (k : Nat) : Int32 := u 1 (ix (4 * u 10 k + gh u k))
abbrev gd (u : xS) (k : Nat) : Prop := u 10 k = gh u k
abbrev gl (u : xS) (k : Nat) : Prop := ¬ gd u k ∧ gHas (u 11 k) (gx u k)
def CM (u v : xS) (T : Nat → Bool) (n : Nat) : Prop :=
  (∀ q, q ≠ 3 → q ≠ 9 → q ≠ 10 → q ≠ 11 → q ≠ 12 → v q = u q) ∧
  (∀ k, v 9 k = if T k = true then (if gd u k then 1 else if gl u k then 4 else u 9 k) else u 9 k) ∧
  (∀ k, v 10 k = if T k = true then (if gd u k then u 10 k else if gl u k then u 10 k else gx u k) else u 10 k) ∧
  (∀ k, v 11 k = if T k = true then (if gd u k then u 11 k else if gl u k then u 11 k else u 11 k ||| 1 <<< (gx u k &&& 31)) else u 11 k) ∧
  (∀ k, v 12 k = if T k = true then (if gd u k then u 0 0 else u 12 k) else u 12 k) ∧
  (∀ j, v 3 j = u 3 j + sumP T (fun k => if gl u k ∧ ix (u 10 k) = j then u 8 k else 0) n)
theorem go_some {u v : xS} {T : Nat → Bool} {n b : Nat} (C : CM u v T n) (hb : b < n) (hb31 : b < 2 ^ 31) (hT : T b = false) : CM u (gGo v (nI b)) (addT T b) n ∧ (v 10 (ix (nI b)) = gHome v (nI b) ↔ gd u b) := by
  obtain ⟨c0, c9, c10, c11, c12, c3⟩ := C
  have u7 : v 7 = u 7 := c0 7 (by decide) (by decide) (by decide) (by decide) (by decide)
  have u1 : v 1 = u 1 := c0 1 (by decide) (by decide) (by decide) (by decide) (by decide)
  have u0 : v 0 = u 0 := c0 0 (by decide) (by decide) (by decide) (by decide) (by decide)
  have u8 : v 8 = u 8 := c0 8 (by decide) (by decide) (by decide) (by decide) (by decide)
  have v10 : v 10 b = u 10 b := by rw [c10 b, hT]; rfl
  have v11 : v 11 b = u 11 b := by rw [c11 b, hT]; rfl
  have eh : gHome v (nI b) = gh u b := by unfold gHome; rw [ix_n hb31, u7]
  have en : gNext v (nI b) = gx u b := by unfold gNext; rw [ix_n hb31, eh, u1, v10]
  have hd : v 10 (ix (nI b)) = gHome v (nI b) ↔ gd u b := by rw [ix_n hb31, eh, v10]
  refine ⟨?_, hd⟩
  have hadd : ∀ k, (addT T b k = true) = (k = b ∨ T k = true) := fun k => by
    unfold addT; by_cases h : k = b <;> simp [h]
  have hsum : ∀ w : Nat → Int32, sumP (addT T b) w n = sumP T w n + w b := fun w => by rw [sumP_add hT n, if_pos hb]
  have hTb : ¬ T b = true := by rw [hT]; decide
  unfold gGo
  rw [en, eh, ix_n hb31, v10, v11, u0, u8]
  by_cases d : gd u b
  · rw [if_pos d]
    refine ⟨fun q h3 h9 h10 h11 h12 => ?_, fun k => ?_, fun k => ?_, fun k => ?_, fun k => ?_, fun j => ?_⟩
    · rw [xup_n h12, xup_n h9]; exact c0 q h3 h9 h10 h11 h12
    all_goals try (by_cases hk : k = b)
    all_goals try subst hk
    all_goals try simp only [hadd]
    · simp only [true_or, if_true, if_pos d]; simp [xup, upd]
    · simp [xup, upd, hk, c9]
    · simp only [true_or, if_true, if_pos d]; exact v10
    · simp [xup, upd, hk, c10]
    · simp only [true_or, if_true, if_pos d]; exact v11
    · simp [xup, upd, hk, c11]
    · simp only [true_or, if_true, if_pos d]; simp [xup, upd]
    · simp [xup, upd, hk, c12]
    · rw [hsum, if_neg (fun h => h.1.1 d), i32_z]; exact c3 j
  · rw [if_neg d]
    by_cases l : gHas (u 11 b) (gx u b)
    · have yl : gl u b := ⟨d, l⟩
      rw [if_pos l]
      refine ⟨fun q h3 h9 h10 h11 h12 => ?_, fun k => ?_, fun k => ?_, fun k => ?_, fun k => ?_, fun j => ?_⟩
      · rw [xup_n h3, xup_n h9]; exact c0 q h3 h9 h10 h11 h12
      all_goals try (by_cases hk : k = b)
      all_goals try subst hk
      all_goals try simp only [hadd]
      · simp only [true_or, if_true, if_neg d, if_pos yl]; simp [xup, upd]
      · simp [xup, upd, hk, c9]
      · simp only [true_or, if_true, if_neg d, if_pos yl]; exact v10
      · simp [xup, upd, hk, c10]
      · simp only [true_or, if_true, if_neg d, if_pos yl]; exact v11
      · simp [xup, upd, hk, c11]
      · simp only [true_or, if_true, if_neg d]; exact (c12 k).trans (if_neg hTb)
      · simp [xup, upd, hk, c12]
      · rw [hsum]
        by_cases hj : ix (u 10 b) = j
        · subst hj
          rw [if_pos ⟨yl, rfl⟩, xup_ss, c3]
          exact Int32.add_assoc _ _ _
        · rw [if_neg (fun h => hj h.2), i32_z, xup_sn (Ne.symm hj)]
          exact c3 j
    · have nl : ¬ gl u b := fun h => l h.2
      rw [if_neg l]
      refine ⟨fun q h3 h9 h10 h11 h12 => ?_, fun k => ?_, fun k => ?_, fun k => ?_, fun k => ?_, fun j => ?_⟩
      · rw [xup_n h11, xup_n h10]; exact c0 q h3 h9 h10 h11 h12
      all_goals try (by_cases hk : k = b)
      all_goals try subst hk
      all_goals try simp only [hadd]
      · simp only [true_or, if_true, if_neg d, if_neg nl]; exact (c9 k).trans (if_neg hTb)
      · simp [xup, upd, hk, c9]
      · simp only [true_or, if_true, if_neg d, if_neg nl]; simp [xup, upd]
      · simp [xup, upd, hk, c10]
      · simp only [true_or, if_true, if_neg d, if_neg nl]; simp [xup, upd]
      · simp [xup, upd, hk, c11]
      · simp only [true_or, if_true, if_neg d]; exact (c12 k).trans (if_neg hTb)
      · simp [xup, upd, hk, c12]
      · rw [hsum, if_neg (fun h => nl h.1), i32_z]; exact c3 j
