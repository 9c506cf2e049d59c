/-! the law, from its entry -/
theorem fs_0 : ∀ j, j < 16 → defaultValue (tyX0 j) = vp_V [.null, .null, .null, .null, .null, .null, .null, .null, .null, .null, .null, .null, .int 0, .int 0, .null, .null] j := by
  intro j hj
  rcases (by omega : j = 0 ∨ j = 1 ∨ j = 2 ∨ j = 3 ∨ j = 4 ∨ j = 5 ∨ j = 6 ∨ j = 7 ∨ j = 8 ∨ j = 9 ∨ j = 10 ∨ j = 11 ∨ j = 12 ∨ j = 13 ∨ j = 14 ∨ j = 15) with rfl | rfl | rfl | rfl | rfl | rfl | rfl | rfl | rfl | rfl | rfl | rfl | rfl | rfl | rfl | rfl <;> rfl
theorem fs_1 : ∀ j, j < 16 → defaultValue (tyX1 j) = vp_V [.int 0, .null, .null, .null, .null, .int 0, .null, .null, .null, .null, .null, .null, .null, .null, .null, .int 0] j := by
  intro j hj
  rcases (by omega : j = 0 ∨ j = 1 ∨ j = 2 ∨ j = 3 ∨ j = 4 ∨ j = 5 ∨ j = 6 ∨ j = 7 ∨ j = 8 ∨ j = 9 ∨ j = 10 ∨ j = 11 ∨ j = 12 ∨ j = 13 ∨ j = 14 ∨ j = 15) with rfl | rfl | rfl | rfl | rfl | rfl | rfl | rfl | rfl | rfl | rfl | rfl | rfl | rfl | rfl | rfl <;> rfl
set_option maxRecDepth 100000 in
set_option maxHeartbeats 4000000 in
theorem law_go (l : Launch) (hfl : l.stackTraces = false) {D : va_G} {cx : xC} {X : xX} (hX : xOK l D cx room_1 X cL_law 7 RL wsL_law) (hTh : xTh X.2.2.2.2.2 X.2.1.1 X.2.1.1.heap) {b0 L : Nat} {xs : Nat → Int32} (hs : xSc X b0 L xs) (hL : L ≤ 2048) (hret : ∀ (k n pc : Nat) (ws : va_W) (lv : List (Nat × Value)), k ≤ 1077 → n ≤ 9523 → decode cL_law pc = .ok (.ireturn, 1) → xV X 7 k n ws pc lv [.int 1]) : xV X 7 0 0 [] 0 [(0, .ref b0)] [] := by
  refine x_new hX (ws' := fun q => [(q, .inr (0, [.null, .null, .null, .null, .null, .null, .null, .null, .null, .null, .null, .null, .int 0, .int 0, .null, .null]))]) dL_law_0 inlX0 tyX0 tyX0_ok (by decide +kernel) (by decide +kernel) (by decide +kernel) rfl fs_0 ⟨Nat.le_of_ble_eq_true rfl, Nat.le_of_ble_eq_true rfl⟩ (fun _ => rfl) (fun q0 => ?_)
  refine x_dup hX dL_law_3 rfl ?_
  refine x_ctor [] (wf' := fun h => wX cx h zX0) hX dL_law_4 (kX0_init l D cx q0) rfl (fun _ => by rw [List.append_nil]; rfl) gL_law_X0_init rfl (by decide +kernel) (by decide +kernel) (by decide +kernel) rfl ⟨by decide, by decide, by decide +kernel⟩ ⟨Nat.le_of_ble_eq_true rfl, Nat.le_of_ble_eq_true rfl, Nat.le_of_ble_eq_true rfl, Nat.le_of_ble_eq_true rfl⟩ (Nat.le_of_ble_eq_true rfl) (fun h hh => ?_)
  subst hh
  refine x_astore_n hX (lv' := [_, _]) dL_law_7 1 rfl (by decide) rfl rfl ?_
  refine x_new hX (ws' := fun q => wX cx h zX0 ++ [(q, .inr (1, [.int 0, .null, .null, .null, .null, .int 0, .null, .null, .null, .null, .null, .null, .null, .null, .null, .int 0]))]) dL_law_8 inlX1 tyX1 tyX1_ok (by decide +kernel) (by decide +kernel) (by decide +kernel) rfl fs_1 ⟨Nat.le_of_ble_eq_true rfl, Nat.le_of_ble_eq_true rfl⟩ (fun _ => rfl) (fun q1 => ?_)
  refine x_dup hX dL_law_11 rfl ?_
  refine x_ctor (wX cx h zX0) (wf' := fun h' => wX cx h zX0 ++ wM cx h' zM0) hX dL_law_12 (kX1_init l D cx q1) rfl (fun _ => by rw [List.append_nil]) gL_law_X1_init rfl (by decide +kernel) (by decide +kernel) (by decide +kernel) rfl ⟨by decide, by decide, by decide +kernel⟩ ⟨Nat.le_of_ble_eq_true rfl, Nat.le_of_ble_eq_true rfl, Nat.le_of_ble_eq_true rfl, Nat.le_of_ble_eq_true rfl⟩ (Nat.le_of_ble_eq_true rfl) (fun h' hh => ?_)
  subst hh
  refine x_astore_n hX (lv' := [_, _, _]) dL_law_15 2 rfl (by decide) rfl rfl ?_
  refine x_iconstv hX dL_law_16 1 (by decide) ?_
  refine x_newl hX (N := 1) (ws' := fun q => (wX cx h zX0 ++ wM cx h' zM0) ++ [(q, .inl (cx.2.2, 1, .inr (.inl (fun _ => 0))))]) (by decide +kernel) dL_law_17 ⟨by decide, by decide, by decide⟩ ⟨Nat.le_of_ble_eq_true rfl, Nat.le_of_ble_eq_true rfl⟩ (fun _ => rfl) (fun o => ?_)
  refine x_astore_n hX (lv' := [_, _, _, _]) dL_law_19 3 rfl (by decide) rfl rfl ?_
  refine x_iconstv hX dL_law_20 (nI (4 * 0)) (by decide) ?_
  refine x_istore hX (lv' := [_, _, _, _, _]) dL_law_21 (by decide) rfl rfl ?_
  refine x_rot ?_
  exact x_widen (k' := 30 + 0) (n' := 1193 + 6 * 0) (Nat.le_of_ble_eq_true rfl) (Nat.le_of_ble_eq_true rfl) (law_loop l hfl hX hTh hs hL hret 512 0 rfl (fun _ => 0) zX0 zM0 0 rel_0)
theorem whole_start {p : Program} {e : Env} {s : State} {m : MethodId} {below : List Frame} {meth : Method} {c : Code} (l : Launch) (hflags : l.flags = flags0) {b L : Nat} {xs : Nat → Int32} (hL : L ≤ 2048) (C0 : lw_At p s m meth c b L xs) : W p l e room_1 s m #[Value.ref b] below meth c s.heap [] 0 0 (lw_Z below #[Value.ref b] s) (entryFrame m ([Value.ref b] : List Value).toArray 7) := by
  obtain ⟨hx, hb, hr, hml, hown, hts, hXs, hbl, hlocks, hgv⟩ := id C0
  have ht : ∀ w ∈ lwW, w.before #[Value.ref b] s = true := fun w h => hts w (lwW_in w h)
  have hfl : l.stackTraces = false := by
    unfold Launch.stackTraces
    rw [hflags]
    decide
  obtain ⟨c0, iS0, hKn0⟩ := u_known (C := RX0) (T := TX0) (N := 16) (n := 16) (fun w h => hts w (wsL_law_in w h)) inlX0 (ht (.instantiable RX0 16) (by decide +kernel))
  obtain ⟨c1, iS1, hKn1⟩ := u_known (C := RX1) (T := TX1) (N := 16) (n := 16) (fun w h => hts w (wsL_law_in w h)) inlX1 (ht (.instantiable RX1 16) (by decide +kernel))
  obtain ⟨dC, dI, hKc⟩ : ∃ (dC : Nat → ClassId) (dI : Nat → Nat → Nat), ∀ (k : Nat) (q : vw_C), vwCl[k]? = some q → u_Kn s q.1 q.2.1 q.2.2 (dC k) (dI k) := by
    refine ⟨fun k => if k = 0 then c0 else c1, fun k => if k = 0 then iS0 else iS1, ?_⟩
    intro k q hq
    match k, hq with
    | 0, hq => cases hq; exact hKn0
    | 1, hq => cases hq; exact hKn1
    | k + 2, hq => simp [vwCl] at hq
  obtain ⟨cI, i1, i2⟩ := lw_arr (ht (.arrayClass .int) (by decide +kernel)) rfl
  obtain ⟨cZ, z1, z2⟩ := lw_arr (ht (.arrayClass .boolean) (by decide +kernel)) rfl
  obtain ⟨cJ, j1, j2⟩ := lw_arr (ht (.arrayClass .long) (by decide +kernel)) rfl
  have hK : va_K (dC, dI) vwCl (xTy (cI, cZ, cJ)) s := by
    refine ⟨hKc, fun k q hq => ?_⟩
    match k, hq with
    | 0, hq => cases hq; exact ⟨i1, i2⟩
    | 1, hq => cases hq; exact ⟨z1, z2⟩
    | 2, hq => cases hq; exact ⟨j1, j2⟩
    | k + 3, hq => simp [xTy] at hq
  have hTh := lw_xTh (b := b) hKn0.2.1 hts hgv
  rw [lg_entry_eq]
  have hl := lv_entry ([.ref b]) (n := 7) (Nat.le_of_ble_eq_true rfl)
  refine law_go (D := (dC, dI)) (cx := (cI, cZ, cJ)) (X := ((p, l, e, room_1), (s, m, #[Value.ref b], below), (meth, c, lw_Z below #[Value.ref b] s), ((dC, dI), (cI, cZ, cJ), fun q : Nat => s.heap.size ≤ q))) l hfl ⟨hx, hb, hml, hown, fun w h => hts w (wsL_law_in w h), hK, fun _ h => h, rfl, rfl, rfl, rfl⟩ hTh ⟨hXs, hbl, Nat.not_le.mpr hbl⟩ hL ?_ s.heap [] _ (fun k q h => by simp at h) ⟨fun i j p q h => by simp at h, fun k q h => by simp at h⟩ va_S.rf hl
  intro k n pc ws lv hk hn d H locs ls hP hD hS hl
  exact va_forget (fun q hq => hS.2.2 q hq) (W.widen hk hn (lw_ret hx hb hr hlocks d))
