/-! the order of a queue: who is ahead, how many, and the first that still waits -/
/-- j is looked at ahead of k -/
abbrev aA (w : Nat → Int32) (j k : Nat) : Prop := w k < w j ∨ (w j = w k ∧ j < k)
theorem aA_total {w : Nat → Int32} {j k : Nat} (h : j ≠ k) : aA w j k ∨ aA w k j := by
  simp only [aA, i32_lt, ← Int32.toInt_inj]
  omega
theorem aA_trans {w : Nat → Int32} {i j k : Nat} (h1 : aA w i j) (h2 : aA w j k) : aA w i k := by
  simp only [aA, i32_lt, ← Int32.toInt_inj] at *
  omega
theorem aA_asym {w : Nat → Int32} {j k : Nat} (h1 : aA w j k) : ¬ aA w k j := by
  simp only [aA, i32_lt, ← Int32.toInt_inj] at *
  omega
theorem aA_irr {w : Nat → Int32} {j : Nat} : ¬ aA w j j := by
  simp only [aA, i32_lt, ← Int32.toInt_inj]
  omega
/-- how many below m wait at r (in the row q) and are ahead of k -/
def aC (q w : Nat → Int32) (r : Int32) (k : Nat) : Nat → Nat
  | 0 => 0
  | m + 1 => aC q w r k m + (if q m = r ∧ aA w m k then 1 else 0)
theorem aC_le (q w : Nat → Int32) (r : Int32) (k : Nat) : ∀ m, aC q w r k m ≤ m
  | 0 => Nat.le_refl 0
  | m + 1 => by
    have := aC_le q w r k m
    unfold aC
    split <;> omega
theorem aC_congr {q q' w : Nat → Int32} {r : Int32} {k : Nat} : ∀ m, (∀ j, j < m → (q j = r ↔ q' j = r)) → aC q w r k m = aC q' w r k m
  | 0, _ => rfl
  | m + 1, h => by
    unfold aC
    rw [aC_congr m (fun j hj => h j (by omega))]
    simp only [h m (Nat.lt_succ_self m)]
theorem aC_zero {q w : Nat → Int32} {r : Int32} {k : Nat} : ∀ m, (∀ j, j < m → q j = r → ¬ aA w j k) → aC q w r k m = 0
  | 0, _ => rfl
  | m + 1, h => by
    unfold aC
    rw [aC_zero m (fun j hj => h j (by omega)), if_neg (fun a => h m (Nat.lt_succ_self m) a.1 a.2)]
/-- one fewer waits -/
theorem aC_less {q w : Nat → Int32} {r : Int32} {k b : Nat} (hr : r ≠ -1) (hb : q b = r) (ha : aA w b k) : ∀ m, aC q w r k m = aC (upd q b (-1)) w r k m + (if b < m then 1 else 0)
  | 0 => rfl
  | m + 1 => by
    unfold aC
    rw [aC_less hr hb ha m]
    by_cases e : m = b
    · subst e
      have : ¬ ((upd q m (-1)) m = r ∧ aA w m k) := fun h => hr (by rw [← h.1]; exact if_pos rfl)
      rw [if_neg this, if_pos (show q m = r ∧ aA w m k from ⟨hb, ha⟩), if_neg (show ¬ m < m by omega), if_pos (show m < m + 1 by omega)]
    · have : (upd q b (-1)) m = q m := if_neg e
      rw [this]
      by_cases h1 : b < m
      · rw [if_pos h1, if_pos (show b < m + 1 by omega)]; omega
      · rw [if_neg h1, if_neg (show ¬ b < m + 1 by omega)]; omega
/-- the first of those that wait -/
theorem best_spec {t : xS} {r : Int32} {w : Nat → Int32} {n : Nat} (hn : n < 2 ^ 31) (hw : ∀ k, k < n → fRank t (nI k) = w k) : ∀ m, m ≤ n → (fBest t r m = -1 ∧ ∀ k, k < m → t 14 k ≠ r) ∨ ∃ b, b < m ∧ fBest t r m = nI b ∧ t 14 b = r ∧ ∀ j, j < m → j ≠ b → t 14 j = r → aA w b j := by
  have hm1 : ∀ b, b < n → nI b ≠ -1 := by
    intro b hb h
    have h2 := congrArg Int32.toInt h
    rw [nI_toInt (by omega)] at h2
    have : (-1 : Int32).toInt = -1 := rfl
    omega
  intro m
  induction m with
  | zero => intro _; exact Or.inl ⟨rfl, fun k hk => absurd hk (Nat.not_lt_zero k)⟩
  | succ m ih =>
    intro hm
    have step : ∀ (P : Prop), (P → P) := fun _ h => h
    by_cases c : t 14 m = r
    · rcases ih (by omega) with ⟨h1, h2⟩ | ⟨b, hb, h1, h2, h3⟩
      · refine Or.inr ⟨m, Nat.lt_succ_self m, by simp only [fBest, if_pos c, h1, if_true], c, fun j hj hne hq => ?_⟩
        exact absurd hq (h2 j (by omega))
      · have hbn : b < n := by omega
        have e : fBest t r (m + 1) = if w m ≤ w b then nI b else nI m := by
          simp only [fBest, if_pos c, h1, if_neg (hm1 b hbn)]
          rw [hw m (by omega), hw b hbn]
        by_cases d : w m ≤ w b
        · rw [if_pos d] at e
          refine Or.inr ⟨b, by omega, e, h2, fun j hj hne hq => ?_⟩
          by_cases e2 : j = m
          · subst e2
            simp only [aA, i32_lt, ← Int32.toInt_inj]
            rw [i32_le] at d
            omega
          · exact h3 j (by omega) hne hq
        · rw [if_neg d] at e
          refine Or.inr ⟨m, Nat.lt_succ_self m, e, c, fun j hj hne hq => ?_⟩
          have hmb : aA w m b := by
            simp only [aA, i32_lt, ← Int32.toInt_inj]
            rw [i32_le] at d
            omega
          by_cases e2 : j = b
          · subst e2; exact hmb
          · exact aA_trans hmb (h3 j (by omega) e2 hq)
    · have e : fBest t r (m + 1) = fBest t r m := by simp only [fBest, if_neg c]
      rcases ih (by omega) with ⟨h1, h2⟩ | ⟨b, hb, h1, h2, h3⟩
      · refine Or.inl ⟨e.trans h1, fun k hk => ?_⟩
        by_cases e2 : k = m
        · subst e2; exact c
        · exact h2 k (by omega)
      · refine Or.inr ⟨b, by omega, e.trans h1, h2, fun j hj hne hq => ?_⟩
        by_cases e2 : j = m
        · subst e2; exact absurd hq c
        · exact h3 j (by omega) hne hq
/-- a queue of which i letters have been taken: the row q is what still waits of the row q0 -/
def aI (q0 q w : Nat → Int32) (r : Int32) (n i : Nat) : Prop :=
  ∀ k, k < n → q0 k = r → (q k ≠ r ∧ aC q0 w r k n < i) ∨ (q k = r ∧ aC q0 w r k n = i + aC q w r k n)
theorem aI_0 {q0 w : Nat → Int32} {r : Int32} {n : Nat} : aI q0 q0 w r n 0 := fun k _ h => Or.inr ⟨h, by omega⟩
/-- the next is taken: it is the one that i are ahead of -/
theorem aI_next {q0 q w : Nat → Int32} {r : Int32} {n i b : Nat} (hr : r ≠ -1) (h : aI q0 q w r n i) (hb : b < n) (hq0 : q0 b = r) (hq : q b = r) (hbest : ∀ j, j < n → j ≠ b → q j = r → aA w b j) : aC q0 w r b n = i ∧ aI q0 (upd q b (-1)) w r n (i + 1) := by
  have hz : aC q w r b n = 0 := aC_zero n (fun j hj hqj => by
    by_cases e : j = b
    · subst e; exact aA_irr
    · exact aA_asym (hbest j hj e hqj))
  have h1 : aC q0 w r b n = i := by
    rcases h b hb hq0 with ⟨h2, -⟩ | ⟨-, h2⟩
    · exact absurd hq h2
    · omega
  refine ⟨h1, fun k hk hk0 => ?_⟩
  by_cases e : k = b
  · subst e
    exact Or.inl ⟨fun h => hr (by rw [← h]; exact (if_pos rfl)), by omega⟩
  · have hu : upd q b (-1) k = q k := if_neg e
    rw [hu]
    rcases h k hk hk0 with ⟨h2, h3⟩ | ⟨h2, h3⟩
    · exact Or.inl ⟨h2, by omega⟩
    · refine Or.inr ⟨h2, ?_⟩
      have := aC_less (w := w) (k := k) hr hq (hbest k hk e h2) n
      rw [if_pos hb] at this
      omega
/-- none is left: no letter has i or more ahead -/
theorem aI_none {q0 q w : Nat → Int32} {r : Int32} {n i : Nat} (h : aI q0 q w r n i) (hn : ∀ k, k < n → q k ≠ r) : (∀ k, k < n → q0 k = r → aC q0 w r k n < i) ∧ aI q0 q w r n (i + 1) := by
  have h1 : ∀ k, k < n → q0 k = r → aC q0 w r k n < i := fun k hk h0 => by
    rcases h k hk h0 with ⟨-, h3⟩ | ⟨h2, -⟩
    · exact h3
    · exact absurd h2 (hn k hk)
  exact ⟨h1, fun k hk h0 => Or.inl ⟨hn k hk, by have := h1 k hk h0; omega⟩⟩
