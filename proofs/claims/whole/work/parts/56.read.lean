/-! the public methods, class beside reference: the reading ones; setRoute, steps, pass, answer -/
theorem RelG.pl {b : Nat → Nat} {s u : xS} {n c : Nat} (R : RelG b s u n c) (a : Int32) : PL s a ↔ PM u a := by
  obtain ⟨h1, h2, -⟩ := R
  unfold PL PM
  rw [h1.2, h2.2.1]
theorem RelG.PLx {b : Nat → Nat} {s u : xS} {n c : Nat} (R : RelG b s u n c) {a : Int32} (h : PL s a) : ix a < n ∧ a = nI (ix a) := PM_ix R.2.1 ((R.pl a).mp h)
theorem RelG.klet {b : Nat → Nat} {s u : xS} {n c : Nat} (R : RelG b s u n c) (a : Int32) : kLet s a = jLet u a := by
  unfold kLet jLet
  simp only [R.pl a]
theorem RelG.del {b : Nat → Nat} {s u : xS} {n c : Nat} (R : RelG b s u n c) (a : Int32) : kDel s a = jDel u a := by
  have e3 := R.2.2.2.1.2.2.2.1
  unfold kDel jDel
  simp only [R.pl a, e3]
theorem kLet_0 {s : xS} {a : Int32} (h : kLet s a = 0) : PL s a := by
  apply Classical.byContradiction
  intro c
  unfold kLet at h
  rw [if_neg c] at h
  exact absurd h (by decide)
theorem k4_0 {a : Int32} (h : k4 a = 0) : P4 a := by
  apply Classical.byContradiction
  intro c
  unfold k4 at h
  rw [if_neg c] at h
  exact absurd h (by decide)
theorem k8_0 {a : Int32} (h : k8 a = 0) : P8 a := by
  apply Classical.byContradiction
  intro c
  unfold k8 at h
  rw [if_neg c] at h
  exact absurd h (by decide)
theorem kDel_0 {s : xS} {a : Int32} (h : kDel s a = 0) : PL s a ∧ s 3 (ix a) = 1 := by
  unfold kDel at h
  by_cases c : PL s a
  · rw [if_pos c] at h
    by_cases d : s 3 (ix a) = 1
    · exact ⟨c, d⟩
    · rw [if_neg d] at h; exact absurd h (by decide)
  · rw [if_neg c] at h; exact absurd h (by decide)
theorem E_w9 {b : Nat → Nat} {s u : xS} {n c : Nat} (R : RelG b s u n c) {a : Int32} (h : kLet s a = 0) : w9 u a = s 3 (ix a) := by
  have e3 := R.2.2.2.1.2.2.2.1
  unfold w9
  rw [if_pos ((R.pl a).mp (kLet_0 h)), e3]
  rfl
theorem E_w10 {b : Nat → Nat} {s u : xS} {n c : Nat} (R : RelG b s u n c) {a : Int32} (h : kLet s a = 0) : w10 u a = s 4 (ix a) := by
  have hp := kLet_0 h
  have hk := (R.PLx hp).1
  have e3 := R.2.2.2.1.2.2.2.1
  have h5 := R.2.2.2.2.1 _ hk
  unfold w10
  rw [if_pos ((R.pl a).mp hp), h5, e3]
  rfl
theorem E_w11 {b : Nat → Nat} {s u : xS} {n c : Nat} (R : RelG b s u n c) {a : Int32} (h : kLet s a = 0) : w11 u a = s 5 (ix a) := by
  have e5 := R.2.2.2.1.2.2.2.2.1
  unfold w11
  rw [if_pos ((R.pl a).mp (kLet_0 h)), e5]
  rfl
theorem lies_at {b : Nat → Nat} {s u : xS} {n c k : Nat} (R : RelG b s u n c) (hk : k < n) {r : Int32} (hr : P4 r) : gLies u (nI k) r ↔ s 4 k = r := by
  have e3 := R.2.2.2.1.2.2.2.1
  have hn := R.1.1
  have hm1 : r ≠ -1 := fun e => by rw [e] at hr; exact absurd hr.1 (by decide)
  unfold gLies
  rw [ix_n (by omega), R.2.2.2.2.1 k hk, e3]
  by_cases c : u 9 k = 0
  · rw [if_pos c]; exact ⟨fun h => h.2, fun h => ⟨c, h⟩⟩
  · rw [if_neg c]; exact ⟨fun h => absurd h.1 c, fun h => absurd h.symm hm1⟩
theorem RelG.len {b : Nat → Nat} {s u : xS} {n c : Nat} (R : RelG b s u n c) {r : Int32} (hr : P4 r) : ∀ k, k ≤ n → gLen u r k = fLen s r k
  | 0, _ => rfl
  | k + 1, h => by
    rw [gLen, fLen, RelG.len R hr k (by omega)]
    by_cases x : s 4 k = r
    · rw [if_pos ((lies_at R (by omega) hr).mpr x), if_pos x]
    · rw [if_neg (fun z => x ((lies_at R (by omega) hr).mp z)), if_neg x]; exact i32_z _
theorem RelG.esc {b : Nat → Nat} {s u : xS} {n c : Nat} (R : RelG b s u n c) : ∀ k, gEsc u k = fEscrow s k
  | 0 => rfl
  | k + 1 => by
    have e3 := R.2.2.2.1.2.2.2.1
    have e2 := R.2.2.2.1.2.2.1
    simp only [gEsc, fEscrow, RelG.esc R k, e3, e2, i32_z]
theorem RelG.atOnce {b : Nat → Nat} {s u : xS} {n c : Nat} (R : RelG b s u n c) {a : Int32} (ha : P8 a) : (fAll s n) 15 (ix a) = gName u a n := by
  have e0 := R.2.2.2.1.1
  have hi : ix a < 8 := Nat.not_le.mp fun q => (P8_in ha) (Or.inr q)
  rw [fAll_15 (fun k hk => by rw [e0]; exact (R.2.1.2.2.1 k hk).1) hi, ← (ix_inj8 ha hi).mp rfl, R.rep a n (Nat.le_refl n)]
theorem kRoute_0 {a b c : Int32} (h : kRoute a b c = 0) : P4 a ∧ P4 b ∧ P4 c := by
  unfold kRoute at h
  by_cases x : P4 a
  · by_cases y : P4 b
    · by_cases z : P4 c
      · exact ⟨x, y, z⟩
      · rw [if_pos x, if_pos y, if_neg z] at h; exact absurd h (by decide)
    · rw [if_pos x, if_neg y] at h; exact absurd h (by decide)
  · rw [if_neg x] at h; exact absurd h (by decide)
theorem kTwo4_0 {a b : Int32} (h : kTwo4 a b = 0) : P4 a ∧ P4 b := by
  unfold kTwo4 at h
  by_cases x : P4 a
  · by_cases y : P4 b
    · exact ⟨x, y⟩
    · rw [if_pos x, if_neg y] at h; exact absurd h (by decide)
  · rw [if_neg x] at h; exact absurd h (by decide)
theorem E_route {s u : xS} {n k : Nat} {a b c : Int32} (R : Rel s u n k) : (kRoute a b c = 0 → wRoute u a b c = vRoute s a b) ∧ Rel (if kRoute a b c = 0 then sRoute s a b c else s) (qRoute u a b c) n k ∧ (qRoute u a b c) 15 0 = kRoute a b c := by
  have e11 := R.2.2.2.1.2.2.2.2.2.2.2.2.2.2.1
  refine ⟨fun h => ?_, ?_, ?_⟩
  · unfold wRoute vRoute
    rw [if_pos h, e11, Int32.mul_comm]; rfl
  · unfold qRoute sRoute
    by_cases h : kRoute a b c = 0
    · rw [if_pos h, if_pos h, Int32.mul_comm 4 a]
      exact (R.thr 0).route _ (kRoute_0 h).2.2
    · rw [if_neg h, if_neg h]; exact R.thr _
  · unfold qRoute
    by_cases h : kRoute a b c = 0
    · rw [if_pos h, h, xup_n (by decide), xup_ss]
    · rw [if_neg h, xup_ss]
/-- steps and ways over the numbers of relays -/
def nS (c : Nat → Nat) (t : Nat) : Nat → Nat → Nat → Int32
  | 0, _, _ => -1
  | m + 1, x, k => if x = t then nI k else nS c t m (c x) (k + 1)
def nW (c : Nat → Nat) (t : Nat) : Nat → Nat → Nat → Nat → Int32
  | 0, _, _, _ => 0
  | m + 1, x, w, k => if x = t then nI k else if (w / 2 ^ c x) % 2 = 1 then -1 else nW c t m (c x) (w ||| 2 ^ c x) (k + 1)
def cL (c0 c1 c2 c3 : Nat) : Nat → Nat := fun i => if i = 0 then c0 else if i = 1 then c1 else if i = 2 then c2 else c3
set_option maxRecDepth 100000 in
theorem nSW : ∀ c0, c0 < 4 → ∀ c1, c1 < 4 → ∀ c2, c2 < 4 → ∀ c3, c3 < 4 → ∀ t, t < 4 → ∀ x, x < 4 → nS (cL c0 c1 c2 c3) t 4 x 0 = nW (cL c0 c1 c2 c3) t 4 x (2 ^ x) 0 := by decide +kernel
theorem has_bit : ∀ w, w < 16 → ∀ q, q < 4 → (gHas (nI w) (nI q) ↔ (w / 2 ^ q) % 2 = 1) ∧ (w ||| 2 ^ q) < 16 ∧ nI w ||| 1 <<< (nI q &&& 31) = nI (w ||| 2 ^ q) := by decide +kernel
theorem bit_init : ∀ q, q < 4 → 2 ^ q < 16 ∧ (1 : Int32) <<< (nI q &&& 31) = nI (2 ^ q) := by decide +kernel
theorem fSteps_n {s : xS} {c : Nat → Nat} {t : Nat} {a : Int32} (ht : t < 4) (hc : ∀ x, x < 4 → c x < 4 ∧ s 11 (x * 4 + t) = nI (c x)) : ∀ (m k x : Nat), x < 4 → fAt s a (nI t) k = nI x → fSteps s a (nI t) m k = nS c t m x k
  | 0, _, _, _, _ => rfl
  | m + 1, k, x, hx, e => by
    have e2 : fAt s a (nI t) (k + 1) = nI (c x) := by
      rw [fAt, e]
      unfold fNext
      rw [if_pos ⟨P4_nI hx, P4_nI ht⟩, show (4 : Int32) = nI 4 from rfl, pk_mul, nI_add, ix_n (by omega)]
      exact (hc x hx).2
    rw [fSteps, nS, e, fSteps_n ht hc m (k + 1) (c x) (hc x hx).1 e2]
    by_cases h : x = t
    · rw [if_pos h, if_pos (by rw [h])]
    · rw [if_neg h, if_neg (nI_ne (by omega) (by omega) h)]
theorem gWay_n {u : xS} {c : Nat → Nat} {t : Nat} (ht : t < 4) (hc : ∀ x, x < 4 → c x < 4 ∧ u 1 (x * 4 + t) = nI (c x)) : ∀ (m k x w : Nat), x < 4 → w < 16 → gWay u (nI t) m (nI x) (nI w) (nI k) = nW c t m x w k
  | 0, _, _, _, _, _ => rfl
  | m + 1, k, x, w, hx, hw => by
    obtain ⟨h1, h2, h3⟩ := has_bit w hw (c x) (hc x hx).1
    have e : u 1 (ix (4 * nI x + nI t)) = nI (c x) := by
      rw [show (4 : Int32) = nI 4 from rfl, pk_mul, nI_add, ix_n (by omega), Nat.mul_comm]
      exact (hc x hx).2
    rw [gWay, nW, e, h3, nI_1, gWay_n ht hc m (k + 1) (c x) _ (hc x hx).1 h2]
    simp only [h1]
    by_cases h : x = t
    · rw [if_pos h, if_pos (by rw [h])]
    · rw [if_neg h, if_neg (nI_ne (by omega) (by omega) h)]
theorem E_steps {s u : xS} {n k : Nat} {a b : Int32} (R : Rel s u n k) (h : kTwo4 a b = 0) : wSteps u a b = fSteps s a b 4 0 := by
  have e11 := R.2.2.2.1.2.2.2.2.2.2.2.2.2.2.1
  obtain ⟨ha, hb⟩ := kTwo4_0 h
  unfold wSteps
  rw [if_pos h]
  obtain ⟨x, hx, rfl⟩ := vp_in_of (P4_in ha) (by decide)
  obtain ⟨t, ht, rfl⟩ := vp_in_of (P4_in hb) (by decide)
  have hr : ∀ i, i < 4 → ∃ q, q < 4 ∧ u 1 (i * 4 + t) = nI q := fun i hi => vp_in_of (P4_in (R.2.1.2.2.2 (i * 4 + t) (by omega))) (by decide)
  obtain ⟨c0, g0, f0⟩ := hr 0 (by decide)
  obtain ⟨c1, g1, f1⟩ := hr 1 (by decide)
  obtain ⟨c2, g2, f2⟩ := hr 2 (by decide)
  obtain ⟨c3, g3, f3⟩ := hr 3 (by decide)
  have hc : ∀ i, i < 4 → cL c0 c1 c2 c3 i < 4 ∧ u 1 (i * 4 + t) = nI (cL c0 c1 c2 c3 i) := fun i hi => by
    rcases (by omega : i = 0 ∨ i = 1 ∨ i = 2 ∨ i = 3) with rfl | rfl | rfl | rfl
    · exact ⟨g0, f0⟩
    · exact ⟨g1, f1⟩
    · exact ⟨g2, f2⟩
    · exact ⟨g3, f3⟩
  rw [fSteps_n (a := nI x) ht (c := cL c0 c1 c2 c3) (by rw [e11]; exact hc) 4 0 x hx rfl, nSW c0 g0 c1 g1 c2 g2 c3 g3 t ht x hx, (bit_init x hx).2]
  exact gWay_n (u := xup u 15 0 0) ht hc 4 0 x (2 ^ x) hx (bit_init x hx).1
theorem pass_eq : ∀ T, 1 ≤ T → T ≤ 50 → ∀ t, t ≤ 100000 → (nI t ≤ 100000 - nI T ↔ nI t + nI T ≤ 100000) ∧ (nI t ≤ 100000 - nI T → t + T ≤ 100000) := by
  intro T h1 h2 t h3
  rw [show (100000 : Int32) = nI 100000 from rfl, pk_sub (by omega), nI_add, nI_leI (by omega) (by omega), nI_leI (by omega) (by omega)]
  omega
theorem E_pass {s u : xS} {n k : Nat} {a : Int32} (R : Rel s u n k) : kPass s a = jPass u a ∧ (kPass s a = 0 → wPass u n a = fTicksN s n (ix a)) ∧ Rel (if kPass s a = 0 then fTicks s n (ix a) else s) (qPass u n a) n k := by
  have e13 := R.2.2.2.1.2.2.2.2.2.2.2.2.2.2.2
  obtain ⟨t, t1, t2, -⟩ := R.2.2.2.2.2.2.2.2.1
  have hin : gIn a 1 50 ↔ ¬ a < 1 ∧ a ≤ 50 := by unfold gIn; rw [Int32.not_lt]
  have hk : kPass s a = jPass u a := by
    unfold kPass jPass
    by_cases c1 : a < 1
    · rw [if_pos c1, if_neg (fun h => (hin.mp h).1 c1)]
    · by_cases c2 : a ≤ 50
      · obtain ⟨g1, g2⟩ := ix_nI (lt1_lt0 c1)
        have h1 : 1 ≤ ix a := by
          rw [g1, i32_lt, nI_toInt g2, show (1 : Int32).toInt = 1 from rfl] at c1; omega
        have h50 : ix a ≤ 50 := by
          rw [g1, i32_le, nI_toInt g2, show (50 : Int32).toInt = 50 from rfl] at c2; omega
        have := (pass_eq (ix a) h1 h50 t t1).1
        rw [← g1] at this
        rw [if_neg c1, if_pos c2, if_pos (hin.mpr ⟨c1, c2⟩), ← e13, t2]
        simp only [this]
      · rw [if_neg c1, if_neg c2, if_neg (fun h => c2 (hin.mp h).2)]
  have hgo : kPass s a = 0 → t + ix a ≤ 100000 := fun h => by
    unfold kPass at h
    by_cases c1 : a < 1
    · rw [if_pos c1] at h; exact absurd h (by decide)
    · by_cases c2 : a ≤ 50
      · obtain ⟨g1, g2⟩ := ix_nI (lt1_lt0 c1)
        have h1 : 1 ≤ ix a := by
          rw [g1, i32_lt, nI_toInt g2, show (1 : Int32).toInt = 1 from rfl] at c1; omega
        have h50 : ix a ≤ 50 := by
          rw [g1, i32_le, nI_toInt g2, show (50 : Int32).toInt = 50 from rfl] at c2; omega
        rw [if_neg c1, if_pos c2] at h
        by_cases c3 : s 13 0 ≤ 100000 - a
        · rw [t2, g1] at c3
          exact (pass_eq (ix a) h1 h50 t t1).2 c3
        · rw [if_neg c3] at h; exact absurd h (by decide)
      · rw [if_neg c1, if_neg c2] at h; exact absurd h (by decide)
  refine ⟨hk, fun h => ?_, ?_⟩
  · unfold wPass
    rw [if_pos (hk ▸ h)]
    exact ((R.thr 0).ticks t2 (ix a) (hgo h)).2.1.symm
  · unfold qPass
    by_cases h : kPass s a = 0
    · rw [if_pos h, if_pos (hk ▸ h)]
      exact ((R.thr 0).ticks t2 (ix a) (hgo h)).1
    · rw [if_neg h, if_neg (hk ▸ h)]; exact R.thr _
/-- answer -/
theorem ans_s {s : xS} {n a : Nat} (hN : okX s n) (ha : a < n) (h0 : P8 (s 0 a)) : sAns s (nI a) = xup (xup s 3 a 2) 8 (ix (s 0 a)) (s 8 (ix (s 0 a)) + s 2 a) := by
  have := hN.1
  unfold sAns
  rw [ix_n (by omega)]
  exact fGive_at (s := xup s 3 a 2) (hN.up (by decide)) ha h0
theorem ans_q {u : xS} {a : Nat} (ha : a < 2 ^ 31) : qAns0 u (nI a) = xup (xup u 9 a 2) 2 (ix (u 6 a)) (u 2 (ix (u 6 a)) + u 8 a) := by
  unfold qAns0
  rw [ix_n ha]
  rfl
theorem ans_key {s u : xS} {n k : Nat} {a : Int32} (R : Rel s u n k) (h : kDel s a = 0) : Rel (sAns s a) (qAns0 (xup u 15 0 0) a) n k := by
  obtain ⟨hp, h1⟩ := kDel_0 h
  obtain ⟨hk, he⟩ := R.PLx hp
  obtain ⟨j, hj⟩ : ∃ j, j = ix a := ⟨_, rfl⟩
  rw [← hj] at hk he h1
  rw [he]
  have R0 := R.thr 0
  have e0 := R0.2.2.2.1.1
  have e2 := R0.2.2.2.1.2.2.1
  have e8 := R0.2.2.2.1.2.2.2.2.2.2.2.1
  rw [ans_s R.1 hk (by rw [e0]; exact (R0.2.1.2.2.1 _ hk).1), ans_q (by have := R.1.1; omega), ← e0, ← e2, ← e8]
  exact (R0.state (fun _ _ _ => Nat.le_refl _) hk h1 (by decide) (by decide)).coins _ _
theorem E_ans {s u : xS} {n k : Nat} {a : Int32} (R : Rel s u n k) : (kDel s a = 0 → wAns u n a = fRep (sAns s a) ((sAns s a) 0 (ix a)) n) ∧ Rel (if kDel s a = 0 then sAns s a else s) (qAns u a) n k := by
  have hd := R.del a
  refine ⟨fun h => ?_, ?_⟩
  · have R2 := ans_key R h
    have e := R2.2.2.2.1.1
    unfold wAns
    rw [if_pos (hd ▸ h), e]
    exact (R2.rep _ n (Nat.le_refl n)).symm
  · unfold qAns
    by_cases h : kDel s a = 0
    · rw [if_pos h, if_pos (hd ▸ h)]; exact ans_key R h
    · rw [if_neg h, if_neg (hd ▸ h)]; exact R.thr _
