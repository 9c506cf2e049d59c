/-! the law's loop: one row of the script after another -/
theorem law_end {L cn : Nat} (hL : L ≤ 2048) (hcn : cn ≤ 512) (c : ¬ nI L - 4 < nI (4 * cn)) : 4 * cn + 4 ≤ L := by
  rw [show (4 : Int32) = nI 4 from rfl, i32_lt, pk_sub_toInt (by omega) (by decide), nI_toInt (by omega)] at c
  omega
set_option maxRecDepth 100000 in
set_option maxHeartbeats 4000000 in
theorem law_loop (l : Launch) (hfl : l.stackTraces = false) {D : va_G} {cx : xC} {X : xX} (hX : xOK l D cx room_1 X cL_law 7 RL wsL_law) (hTh : xTh X.2.2.2.2.2 X.2.1.1 X.2.1.1.heap) {b0 L : Nat} {xs : Nat → Int32} (hs : xSc X b0 L xs) (hL : L ≤ 2048) (hret : ∀ (k n pc : Nat) (ws : va_W) (lv : List (Nat × Value)), k ≤ 1077 → n ≤ 9523 → decode cL_law pc = .ok (.ireturn, 1) → xV X 7 k n ws pc lv [.int 1]) {o : Nat} {h h' : Nat → Nat} : ∀ (m cn : Nat), cn + m = 512 → ∀ (f : Nat → Int64) (s u : xS) (n : Nat), Rel s u n cn → xV X 7 (30 + cn) (1193 + 6 * cn) (wLM cx o f h s h' u) 23 [(0, .ref b0), (1, .ref (h 0)), (2, .ref (h' 0)), (3, .ref o), (4, .int (nI (4 * cn)))] [] := by
  intro m
  induction m with
  | zero =>
    intro cn hm f s u n R
    refine x_iload hX dL_law_23 4 rfl ?_
    refine x_aload_n hX dL_law_25 0 rfl ?_
    refine x_slen hX hs dL_law_26 ?_
    refine x_iconstv hX dL_law_27 4 (by decide) ?_
    refine x_isub hX dL_law_28 ?_
    refine x_icmp_gt hX 1201 dL_law_29 (by decide) (fun _ => ?_) (fun c9 => ?_)
    · refine x_iconstv hX dL_law_1201 1 (by decide) ?_
      exact hret _ _ _ _ _ (by omega) (by omega) dL_law_1202
    · have := law_end hL (by omega) c9
      omega
  | succ m ih =>
    intro cn hm f s u n R
    refine x_iload hX dL_law_23 4 rfl ?_
    refine x_aload_n hX dL_law_25 0 rfl ?_
    refine x_slen hX hs dL_law_26 ?_
    refine x_iconstv hX dL_law_27 4 (by decide) ?_
    refine x_isub hX dL_law_28 ?_
    refine x_icmp_gt hX 1201 dL_law_29 (by decide) (fun _ => ?_) (fun c9 => ?_)
    · refine x_iconstv hX dL_law_1201 1 (by decide) ?_
      exact hret _ _ _ _ _ (by omega) (by omega) dL_law_1202
    · have hj := law_end hL (by omega) c9
      have hi0 : vp_in (nI (4 * cn)) L := vp_in_nI (by omega) (by omega)
      have cont : ∀ (f : Nat → Int64) (s u : xS) (n : Nat), Rel s u n (cn + 1) → xV X 7 (30 + cn + 1) (1193 + 6 * cn + 6) (wLM cx o f h s h' u) 1195 [(0, .ref b0), (1, .ref (h 0)), (2, .ref (h' 0)), (3, .ref o), (4, .int (nI (4 * cn)))] [] := fun f s u n R9 => by
        refine x_iinc hX (lv' := [_, _, _, _, _]) (v := nI (4 * (cn + 1))) dL_law_1195 4 rfl (by rw [show Int32.ofInt 4 = nI 4 from rfl, nI_add]; rfl) (by decide) rfl rfl ?_
        refine x_goto hX 23 dL_law_1198 (by decide) ?_
        exact ih (cn + 1) (by omega) f s u n R9
      refine x_aload_n hX dL_law_32 0 rfl ?_
      refine x_iload hX dL_law_33 4 rfl ?_
      refine x_sld hX hs dL_law_35 hi0 rfl ?_
      refine x_bipushv hX dL_law_36 31 (by decide) ?_
      refine x_iand hX dL_law_38 ?_
      obtain ⟨q, hq, e9⟩ := and_31 (xs (nI (4 * cn)).toNatClampNeg)
      rw [e9]
      have hk : 30 + cn + 1 ≤ room_1.cells ∧ 1193 + 6 * cn + 6 ≤ room_1.slots := ⟨show 30 + cn + 1 ≤ 1077 by omega, show 1193 + 6 * cn + 6 ≤ 9523 by omega⟩
      rcases (by omega : q = 0 ∨ q = 1 ∨ q = 2 ∨ q = 3 ∨ q = 4 ∨ q = 5 ∨ q = 6 ∨ q = 7 ∨ q = 8 ∨ q = 9 ∨ q = 10 ∨ q = 11 ∨ q = 12 ∨ q = 13 ∨ q = 14 ∨ q = 15 ∨ q = 16 ∨ q = 17 ∨ q = 18 ∨ q = 19 ∨ 20 ≤ q) with rfl | rfl | rfl | rfl | rfl | rfl | rfl | rfl | rfl | rfl | rfl | rfl | rfl | rfl | rfl | rfl | rfl | rfl | rfl | rfl | h20
      · exact x_tabIn hX dL_law_39 (off := 93) (tgt := 132) (by decide) (by decide) rfl (by decide) (law_setRoute l hfl hX hTh hs R (by omega) hj hL hk cont)
      · exact x_tabIn hX dL_law_39 (off := 173) (tgt := 212) (by decide) (by decide) rfl (by decide) (law_steps l hfl hX hTh hs R (by omega) hj hL hk cont)
      · exact x_tabIn hX dL_law_39 (off := 241) (tgt := 280) (by decide) (by decide) rfl (by decide) (law_send l hfl hX hTh hs R (by omega) hj hL hk cont)
      · exact x_tabIn hX dL_law_39 (off := 321) (tgt := 360) (by decide) (by decide) rfl (by decide) (law_pass l hfl hX hTh hs R (by omega) hj hL hk cont)
      · exact x_tabIn hX dL_law_39 (off := 377) (tgt := 416) (by decide) (by decide) rfl (by decide) (law_answer l hfl hX hTh hs R (by omega) hj hL hk cont)
      · exact x_tabIn hX dL_law_39 (off := 433) (tgt := 472) (by decide) (by decide) rfl (by decide) (law_mark l hfl hX hTh hs R (by omega) hj hL hk cont)
      · exact x_tabIn hX dL_law_39 (off := 489) (tgt := 528) (by decide) (by decide) rfl (by decide) (law_letters l hfl hX hTh hs R (by omega) hj hL hk cont)
      · exact x_tabIn hX dL_law_39 (off := 502) (tgt := 541) (by decide) (by decide) rfl (by decide) (law_time l hfl hX hTh hs R (by omega) hj hL hk cont)
      · exact x_tabIn hX dL_law_39 (off := 515) (tgt := 554) (by decide) (by decide) rfl (by decide) (law_stateOf l hfl hX hTh hs R (by omega) hj hL hk cont)
      · exact x_tabIn hX dL_law_39 (off := 571) (tgt := 610) (by decide) (by decide) rfl (by decide) (law_relayOf l hfl hX hTh hs R (by omega) hj hL hk cont)
      · exact x_tabIn hX dL_law_39 (off := 627) (tgt := 666) (by decide) (by decide) rfl (by decide) (law_marksOn l hfl hX hTh hs R (by omega) hj hL hk cont)
      · exact x_tabIn hX dL_law_39 (off := 683) (tgt := 722) (by decide) (by decide) rfl (by decide) (law_queue l hfl hX hTh hs R (by omega) hj hL hk cont)
      · exact x_tabIn hX dL_law_39 (off := 739) (tgt := 778) (by decide) (by decide) rfl (by decide) (law_queueAt l hfl hX hTh hs R (by omega) hj hL hk cont)
      · exact x_tabIn hX dL_law_39 (off := 807) (tgt := 846) (by decide) (by decide) rfl (by decide) (law_coins l hfl hX hTh hs R (by omega) hj hL hk cont)
      · exact x_tabIn hX dL_law_39 (off := 863) (tgt := 902) (by decide) (by decide) rfl (by decide) (law_pool l hfl hX hTh hs R (by omega) hj hL hk cont)
      · exact x_tabIn hX dL_law_39 (off := 919) (tgt := 958) (by decide) (by decide) rfl (by decide) (law_escrow l hfl hX hTh hs R (by omega) hj hL hk cont)
      · exact x_tabIn hX dL_law_39 (off := 932) (tgt := 971) (by decide) (by decide) rfl (by decide) (law_reputation l hfl hX hTh hs R (by omega) hj hL hk cont)
      · exact x_tabIn hX dL_law_39 (off := 988) (tgt := 1027) (by decide) (by decide) rfl (by decide) (law_reputationAtOnce l hfl hX hTh hs R (by omega) hj hL hk cont)
      · exact x_tabIn hX dL_law_39 (off := 1044) (tgt := 1083) (by decide) (by decide) rfl (by decide) (law_leastStake l hfl hX hTh hs R (by omega) hj hL hk cont)
      · exact x_tabIn hX dL_law_39 (off := 1100) (tgt := 1139) (by decide) (by decide) rfl (by decide) (law_falseMarks l hfl hX hTh hs R (by omega) hj hL hk cont)
      · refine x_tabOut hX (tgt := 1195) dL_law_39 (Or.inr (by rw [nI_toInt (by omega)]; omega)) (by decide) ?_
        exact x_widen (Nat.le_succ _) (Nat.le_add_right _ 6) (cont f s u n (R.mono (Nat.le_succ cn) (by omega)))
