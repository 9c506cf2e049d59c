/-! the law's own methods: each calls the class, and catches -/
def wL (c : xC) (o : Nat) (f : Nat → Int64) (h : Nat → Nat) (s : xS) : va_W := (o, .inl (c.2.2, 1, .inr (.inl f))) :: wX c h s
set_option maxRecDepth 100000 in
set_option maxHeartbeats 4000000 in
theorem kL_stateOf (l : Launch) (hfl : l.stackTraces = false) (D : va_G) (cx : xC) (o : Nat) (f : Nat → Int64) (h : Nat → Nat) (s : xS) {n : Nat} (hN : okX s n) (a : Int32) : xL l yL_stateOf wsL_stateOf (xRT 7 103) D cx [.ref (h 0), .int a, .ref o] (wL cx o f h s) (fun _ : Unit => wL cx o (if kLet s a = 0 then vp_updL f 0 (s 3 (ix a)).toInt64 else f) h (if kLet s a = 0 then s else s)) (fun r _ => r = kLet s a) := by
  refine x_enterL (own := RL) (hh := [(0, 9, 12, 13)]) (by decide) rfl rfl (Nat.le_of_ble_eq_true rfl) (fun X hX hTh htab hret => ?_)
  change xV X 4 0 0 (wL cx o f h s) 0 [(0, .ref (h 0)), (1, .int a), (2, .ref o)] []
  refine x_aload_n hX dL_stateOf_0 2 rfl ?_
  refine x_iconstv hX dL_stateOf_1 0 (by decide) ?_
  refine x_aload_n hX dL_stateOf_2 0 rfl ?_
  refine x_iload_n hX dL_stateOf_3 1 rfl ?_
  refine x_bvt [(o, .inl (cx.2.2, 1, .inr (.inl f)))] [] (wf' := fun _ => wL cx o f h (s)) hX hTh dL_stateOf_4 1 rfl (kX0_stateOf l hfl D cx h s hN _) rfl (fun _ => rfl) gL_stateOf_X0_stateOf rfl ⟨rfl, by decide, by decide, by decide +kernel⟩ ⟨rfl, rfl, Nat.le_of_ble_eq_true rfl, Nat.le_of_ble_eq_true rfl, Nat.le_refl 1, Nat.le_refl 6⟩ rfl rfl (Nat.le_of_ble_eq_true rfl) rfl (fun E hpx => ?_) (fun r _ hq => ?_)
  · obtain ⟨c9, hc9, hK9⟩ := hpx
    simp only [List.mem_cons, Prod.mk.injEq, List.not_mem_nil, or_false] at hc9
    obtain ⟨rfl, rfl⟩ := hc9
    refine x_catch hX hTh htab (by decide) [] ⟨0, 9, 12, 13⟩ [] rfl (fun _ h => absurd h List.not_mem_nil) rfl (by decide) (by decide +kernel) (fun q => ?_)
    refine x_astore_n hX (lv' := [_, _, _, _]) dL_stateOf_12 3 rfl (by decide) rfl rfl ?_
    refine x_iconstv hX dL_stateOf_13 1 (by decide) ?_
    exact x_asr (by simp only [hK9, z10, if_false]) rfl (hret _ () _ _ (hK9.symm) dL_stateOf_14)
  · obtain ⟨hK9, rfl⟩ := hq
    refine x_i2l hX dL_stateOf_7 ?_
    refine x_last hX (ws' := wL cx o (vp_updL f 0 _) h _) dL_stateOf_8 0 rfl (vp_in_nI (n := 0) (by decide : 0 < 1) (by decide)) rfl ?_
    refine x_goto hX 15 dL_stateOf_9 (by decide) ?_
    refine x_iconstv hX dL_stateOf_15 0 (by decide) ?_
    exact x_asr (by simp only [hK9, if_true]) rfl (hret _ () _ _ (hK9.symm) dL_stateOf_16)
set_option maxRecDepth 100000 in
set_option maxHeartbeats 4000000 in
theorem kL_relayOf (l : Launch) (hfl : l.stackTraces = false) (D : va_G) (cx : xC) (o : Nat) (f : Nat → Int64) (h : Nat → Nat) (s : xS) {n : Nat} (hN : okX s n) (a : Int32) : xL l yL_relayOf wsL_relayOf (xRT 7 103) D cx [.ref (h 0), .int a, .ref o] (wL cx o f h s) (fun _ : Unit => wL cx o (if kLet s a = 0 then vp_updL f 0 (s 4 (ix a)).toInt64 else f) h (if kLet s a = 0 then s else s)) (fun r _ => r = kLet s a) := by
  refine x_enterL (own := RL) (hh := [(0, 9, 12, 13)]) (by decide) rfl rfl (Nat.le_of_ble_eq_true rfl) (fun X hX hTh htab hret => ?_)
  change xV X 4 0 0 (wL cx o f h s) 0 [(0, .ref (h 0)), (1, .int a), (2, .ref o)] []
  refine x_aload_n hX dL_relayOf_0 2 rfl ?_
  refine x_iconstv hX dL_relayOf_1 0 (by decide) ?_
  refine x_aload_n hX dL_relayOf_2 0 rfl ?_
  refine x_iload_n hX dL_relayOf_3 1 rfl ?_
  refine x_bvt [(o, .inl (cx.2.2, 1, .inr (.inl f)))] [] (wf' := fun _ => wL cx o f h (s)) hX hTh dL_relayOf_4 1 rfl (kX0_relayOf l hfl D cx h s hN _) rfl (fun _ => rfl) gL_relayOf_X0_relayOf rfl ⟨rfl, by decide, by decide, by decide +kernel⟩ ⟨rfl, rfl, Nat.le_of_ble_eq_true rfl, Nat.le_of_ble_eq_true rfl, Nat.le_refl 1, Nat.le_refl 6⟩ rfl rfl (Nat.le_of_ble_eq_true rfl) rfl (fun E hpx => ?_) (fun r _ hq => ?_)
  · obtain ⟨c9, hc9, hK9⟩ := hpx
    simp only [List.mem_cons, Prod.mk.injEq, List.not_mem_nil, or_false] at hc9
    obtain ⟨rfl, rfl⟩ := hc9
    refine x_catch hX hTh htab (by decide) [] ⟨0, 9, 12, 13⟩ [] rfl (fun _ h => absurd h List.not_mem_nil) rfl (by decide) (by decide +kernel) (fun q => ?_)
    refine x_astore_n hX (lv' := [_, _, _, _]) dL_relayOf_12 3 rfl (by decide) rfl rfl ?_
    refine x_iconstv hX dL_relayOf_13 1 (by decide) ?_
    exact x_asr (by simp only [hK9, z10, if_false]) rfl (hret _ () _ _ (hK9.symm) dL_relayOf_14)
  · obtain ⟨hK9, rfl⟩ := hq
    refine x_i2l hX dL_relayOf_7 ?_
    refine x_last hX (ws' := wL cx o (vp_updL f 0 _) h _) dL_relayOf_8 0 rfl (vp_in_nI (n := 0) (by decide : 0 < 1) (by decide)) rfl ?_
    refine x_goto hX 15 dL_relayOf_9 (by decide) ?_
    refine x_iconstv hX dL_relayOf_15 0 (by decide) ?_
    exact x_asr (by simp only [hK9, if_true]) rfl (hret _ () _ _ (hK9.symm) dL_relayOf_16)
set_option maxRecDepth 100000 in
set_option maxHeartbeats 4000000 in
theorem kL_marksOn (l : Launch) (hfl : l.stackTraces = false) (D : va_G) (cx : xC) (o : Nat) (f : Nat → Int64) (h : Nat → Nat) (s : xS) {n : Nat} (hN : okX s n) (a : Int32) : xL l yL_marksOn wsL_marksOn (xRT 7 103) D cx [.ref (h 0), .int a, .ref o] (wL cx o f h s) (fun _ : Unit => wL cx o (if kLet s a = 0 then vp_updL f 0 (s 5 (ix a)).toInt64 else f) h (if kLet s a = 0 then s else s)) (fun r _ => r = kLet s a) := by
  refine x_enterL (own := RL) (hh := [(0, 9, 12, 13)]) (by decide) rfl rfl (Nat.le_of_ble_eq_true rfl) (fun X hX hTh htab hret => ?_)
  change xV X 4 0 0 (wL cx o f h s) 0 [(0, .ref (h 0)), (1, .int a), (2, .ref o)] []
  refine x_aload_n hX dL_marksOn_0 2 rfl ?_
  refine x_iconstv hX dL_marksOn_1 0 (by decide) ?_
  refine x_aload_n hX dL_marksOn_2 0 rfl ?_
  refine x_iload_n hX dL_marksOn_3 1 rfl ?_
  refine x_bvt [(o, .inl (cx.2.2, 1, .inr (.inl f)))] [] (wf' := fun _ => wL cx o f h (s)) hX hTh dL_marksOn_4 1 rfl (kX0_marksOn l hfl D cx h s hN _) rfl (fun _ => rfl) gL_marksOn_X0_marksOn rfl ⟨rfl, by decide, by decide, by decide +kernel⟩ ⟨rfl, rfl, Nat.le_of_ble_eq_true rfl, Nat.le_of_ble_eq_true rfl, Nat.le_refl 1, Nat.le_refl 6⟩ rfl rfl (Nat.le_of_ble_eq_true rfl) rfl (fun E hpx => ?_) (fun r _ hq => ?_)
  · obtain ⟨c9, hc9, hK9⟩ := hpx
    simp only [List.mem_cons, Prod.mk.injEq, List.not_mem_nil, or_false] at hc9
    obtain ⟨rfl, rfl⟩ := hc9
    refine x_catch hX hTh htab (by decide) [] ⟨0, 9, 12, 13⟩ [] rfl (fun _ h => absurd h List.not_mem_nil) rfl (by decide) (by decide +kernel) (fun q => ?_)
    refine x_astore_n hX (lv' := [_, _, _, _]) dL_marksOn_12 3 rfl (by decide) rfl rfl ?_
    refine x_iconstv hX dL_marksOn_13 1 (by decide) ?_
    exact x_asr (by simp only [hK9, z10, if_false]) rfl (hret _ () _ _ (hK9.symm) dL_marksOn_14)
  · obtain ⟨hK9, rfl⟩ := hq
    refine x_i2l hX dL_marksOn_7 ?_
    refine x_last hX (ws' := wL cx o (vp_updL f 0 _) h _) dL_marksOn_8 0 rfl (vp_in_nI (n := 0) (by decide : 0 < 1) (by decide)) rfl ?_
    refine x_goto hX 15 dL_marksOn_9 (by decide) ?_
    refine x_iconstv hX dL_marksOn_15 0 (by decide) ?_
    exact x_asr (by simp only [hK9, if_true]) rfl (hret _ () _ _ (hK9.symm) dL_marksOn_16)
set_option maxRecDepth 100000 in
set_option maxHeartbeats 4000000 in
theorem kL_queue (l : Launch) (hfl : l.stackTraces = false) (D : va_G) (cx : xC) (o : Nat) (f : Nat → Int64) (h : Nat → Nat) (s : xS) {n : Nat} (hN : okX s n) (a : Int32) : xL l yL_queue wsL_queue (xRT 7 103) D cx [.ref (h 0), .int a, .ref o] (wL cx o f h s) (fun _ : Unit => wL cx o (if k4 a = 0 then vp_updL f 0 (fLen s a n).toInt64 else f) h (if k4 a = 0 then s else s)) (fun r _ => r = k4 a) := by
  refine x_enterL (own := RL) (hh := [(0, 9, 12, 13)]) (by decide) rfl rfl (Nat.le_of_ble_eq_true rfl) (fun X hX hTh htab hret => ?_)
  change xV X 4 0 0 (wL cx o f h s) 0 [(0, .ref (h 0)), (1, .int a), (2, .ref o)] []
  refine x_aload_n hX dL_queue_0 2 rfl ?_
  refine x_iconstv hX dL_queue_1 0 (by decide) ?_
  refine x_aload_n hX dL_queue_2 0 rfl ?_
  refine x_iload_n hX dL_queue_3 1 rfl ?_
  refine x_bvt [(o, .inl (cx.2.2, 1, .inr (.inl f)))] [] (wf' := fun _ => wL cx o f h (s)) hX hTh dL_queue_4 1 rfl (kX0_queue l hfl D cx h s hN _) rfl (fun _ => rfl) gL_queue_X0_queue rfl ⟨rfl, by decide, by decide, by decide +kernel⟩ ⟨rfl, rfl, Nat.le_of_ble_eq_true rfl, Nat.le_of_ble_eq_true rfl, Nat.le_refl 1, Nat.le_refl 6⟩ rfl rfl (Nat.le_of_ble_eq_true rfl) rfl (fun E hpx => ?_) (fun r _ hq => ?_)
  · obtain ⟨c9, hc9, hK9⟩ := hpx
    simp only [List.mem_cons, Prod.mk.injEq, List.not_mem_nil, or_false] at hc9
    obtain ⟨rfl, rfl⟩ := hc9
    refine x_catch hX hTh htab (by decide) [] ⟨0, 9, 12, 13⟩ [] rfl (fun _ h => absurd h List.not_mem_nil) rfl (by decide) (by decide +kernel) (fun q => ?_)
    refine x_astore_n hX (lv' := [_, _, _, _]) dL_queue_12 3 rfl (by decide) rfl rfl ?_
    refine x_iconstv hX dL_queue_13 1 (by decide) ?_
    exact x_asr (by simp only [hK9, z10, if_false]) rfl (hret _ () _ _ (hK9.symm) dL_queue_14)
  · obtain ⟨hK9, rfl⟩ := hq
    refine x_i2l hX dL_queue_7 ?_
    refine x_last hX (ws' := wL cx o (vp_updL f 0 _) h _) dL_queue_8 0 rfl (vp_in_nI (n := 0) (by decide : 0 < 1) (by decide)) rfl ?_
    refine x_goto hX 15 dL_queue_9 (by decide) ?_
    refine x_iconstv hX dL_queue_15 0 (by decide) ?_
    exact x_asr (by simp only [hK9, if_true]) rfl (hret _ () _ _ (hK9.symm) dL_queue_16)
set_option maxRecDepth 100000 in
set_option maxHeartbeats 4000000 in
theorem kL_coins (l : Launch) (hfl : l.stackTraces = false) (D : va_G) (cx : xC) (o : Nat) (f : Nat → Int64) (h : Nat → Nat) (s : xS) {n : Nat} (hN : okX s n) (a : Int32) : xL l yL_coins wsL_coins (xRT 7 103) D cx [.ref (h 0), .int a, .ref o] (wL cx o f h s) (fun _ : Unit => wL cx o (if k8 a = 0 then vp_updL f 0 (s 8 (ix a)).toInt64 else f) h (if k8 a = 0 then s else s)) (fun r _ => r = k8 a) := by
  refine x_enterL (own := RL) (hh := [(0, 9, 12, 13)]) (by decide) rfl rfl (Nat.le_of_ble_eq_true rfl) (fun X hX hTh htab hret => ?_)
  change xV X 4 0 0 (wL cx o f h s) 0 [(0, .ref (h 0)), (1, .int a), (2, .ref o)] []
  refine x_aload_n hX dL_coins_0 2 rfl ?_
  refine x_iconstv hX dL_coins_1 0 (by decide) ?_
  refine x_aload_n hX dL_coins_2 0 rfl ?_
  refine x_iload_n hX dL_coins_3 1 rfl ?_
  refine x_bvt [(o, .inl (cx.2.2, 1, .inr (.inl f)))] [] (wf' := fun _ => wL cx o f h (s)) hX hTh dL_coins_4 1 rfl (kX0_coins l hfl D cx h s hN _) rfl (fun _ => rfl) gL_coins_X0_coins rfl ⟨rfl, by decide, by decide, by decide +kernel⟩ ⟨rfl, rfl, Nat.le_of_ble_eq_true rfl, Nat.le_of_ble_eq_true rfl, Nat.le_refl 1, Nat.le_refl 6⟩ rfl rfl (Nat.le_of_ble_eq_true rfl) rfl (fun E hpx => ?_) (fun r _ hq => ?_)
  · obtain ⟨c9, hc9, hK9⟩ := hpx
    simp only [List.mem_cons, Prod.mk.injEq, List.not_mem_nil, or_false] at hc9
    obtain ⟨rfl, rfl⟩ := hc9
    refine x_catch hX hTh htab (by decide) [] ⟨0, 9, 12, 13⟩ [] rfl (fun _ h => absurd h List.not_mem_nil) rfl (by decide) (by decide +kernel) (fun q => ?_)
    refine x_astore_n hX (lv' := [_, _, _, _]) dL_coins_12 3 rfl (by decide) rfl rfl ?_
    refine x_iconstv hX dL_coins_13 1 (by decide) ?_
    exact x_asr (by simp only [hK9, z10, if_false]) rfl (hret _ () _ _ (hK9.symm) dL_coins_14)
  · obtain ⟨hK9, rfl⟩ := hq
    refine x_i2l hX dL_coins_7 ?_
    refine x_last hX (ws' := wL cx o (vp_updL f 0 _) h _) dL_coins_8 0 rfl (vp_in_nI (n := 0) (by decide : 0 < 1) (by decide)) rfl ?_
    refine x_goto hX 15 dL_coins_9 (by decide) ?_
    refine x_iconstv hX dL_coins_15 0 (by decide) ?_
    exact x_asr (by simp only [hK9, if_true]) rfl (hret _ () _ _ (hK9.symm) dL_coins_16)
set_option maxRecDepth 100000 in
set_option maxHeartbeats 4000000 in
theorem kL_pool (l : Launch) (hfl : l.stackTraces = false) (D : va_G) (cx : xC) (o : Nat) (f : Nat → Int64) (h : Nat → Nat) (s : xS) {n : Nat} (hN : okX s n) (a : Int32) : xL l yL_pool wsL_pool (xRT 7 103) D cx [.ref (h 0), .int a, .ref o] (wL cx o f h s) (fun _ : Unit => wL cx o (if k4 a = 0 then vp_updL f 0 (s 10 (ix a)).toInt64 else f) h (if k4 a = 0 then s else s)) (fun r _ => r = k4 a) := by
  refine x_enterL (own := RL) (hh := [(0, 9, 12, 13)]) (by decide) rfl rfl (Nat.le_of_ble_eq_true rfl) (fun X hX hTh htab hret => ?_)
  change xV X 4 0 0 (wL cx o f h s) 0 [(0, .ref (h 0)), (1, .int a), (2, .ref o)] []
  refine x_aload_n hX dL_pool_0 2 rfl ?_
  refine x_iconstv hX dL_pool_1 0 (by decide) ?_
  refine x_aload_n hX dL_pool_2 0 rfl ?_
  refine x_iload_n hX dL_pool_3 1 rfl ?_
  refine x_bvt [(o, .inl (cx.2.2, 1, .inr (.inl f)))] [] (wf' := fun _ => wL cx o f h (s)) hX hTh dL_pool_4 1 rfl (kX0_pool l hfl D cx h s hN _) rfl (fun _ => rfl) gL_pool_X0_pool rfl ⟨rfl, by decide, by decide, by decide +kernel⟩ ⟨rfl, rfl, Nat.le_of_ble_eq_true rfl, Nat.le_of_ble_eq_true rfl, Nat.le_refl 1, Nat.le_refl 6⟩ rfl rfl (Nat.le_of_ble_eq_true rfl) rfl (fun E hpx => ?_) (fun r _ hq => ?_)
  · obtain ⟨c9, hc9, hK9⟩ := hpx
    simp only [List.mem_cons, Prod.mk.injEq, List.not_mem_nil, or_false] at hc9
    obtain ⟨rfl, rfl⟩ := hc9
    refine x_catch hX hTh htab (by decide) [] ⟨0, 9, 12, 13⟩ [] rfl (fun _ h => absurd h List.not_mem_nil) rfl (by decide) (by decide +kernel) (fun q => ?_)
    refine x_astore_n hX (lv' := [_, _, _, _]) dL_pool_12 3 rfl (by decide) rfl rfl ?_
    refine x_iconstv hX dL_pool_13 1 (by decide) ?_
    exact x_asr (by simp only [hK9, z10, if_false]) rfl (hret _ () _ _ (hK9.symm) dL_pool_14)
  · obtain ⟨hK9, rfl⟩ := hq
    refine x_i2l hX dL_pool_7 ?_
    refine x_last hX (ws' := wL cx o (vp_updL f 0 _) h _) dL_pool_8 0 rfl (vp_in_nI (n := 0) (by decide : 0 < 1) (by decide)) rfl ?_
    refine x_goto hX 15 dL_pool_9 (by decide) ?_
    refine x_iconstv hX dL_pool_15 0 (by decide) ?_
    exact x_asr (by simp only [hK9, if_true]) rfl (hret _ () _ _ (hK9.symm) dL_pool_16)
set_option maxRecDepth 100000 in
set_option maxHeartbeats 4000000 in
theorem kL_reputation (l : Launch) (hfl : l.stackTraces = false) (D : va_G) (cx : xC) (o : Nat) (f : Nat → Int64) (h : Nat → Nat) (s : xS) {n : Nat} (hN : okX s n) (a : Int32) : xL l yL_reputation wsL_reputation (xRT 7 107) D cx [.ref (h 0), .int a, .ref o] (wL cx o f h s) (fun _ : Unit => wL cx o (if k8 a = 0 then vp_updL f 0 (fRep s a n).toInt64 else f) h (if k8 a = 0 then s else s)) (fun r _ => r = k8 a) := by
  refine x_enterL (own := RL) (hh := [(0, 9, 12, 13)]) (by decide) rfl rfl (Nat.le_of_ble_eq_true rfl) (fun X hX hTh htab hret => ?_)
  change xV X 4 0 0 (wL cx o f h s) 0 [(0, .ref (h 0)), (1, .int a), (2, .ref o)] []
  refine x_aload_n hX dL_reputation_0 2 rfl ?_
  refine x_iconstv hX dL_reputation_1 0 (by decide) ?_
  refine x_aload_n hX dL_reputation_2 0 rfl ?_
  refine x_iload_n hX dL_reputation_3 1 rfl ?_
  refine x_bvt [(o, .inl (cx.2.2, 1, .inr (.inl f)))] [] (wf' := fun _ => wL cx o f h (s)) hX hTh dL_reputation_4 1 rfl (kX0_reputation l hfl D cx h s hN _) rfl (fun _ => rfl) gL_reputation_X0_reputation rfl ⟨rfl, by decide, by decide, by decide +kernel⟩ ⟨rfl, rfl, Nat.le_of_ble_eq_true rfl, Nat.le_of_ble_eq_true rfl, Nat.le_refl 1, Nat.le_refl 6⟩ rfl rfl (Nat.le_of_ble_eq_true rfl) rfl (fun E hpx => ?_) (fun r _ hq => ?_)
  · obtain ⟨c9, hc9, hK9⟩ := hpx
    simp only [List.mem_cons, Prod.mk.injEq, List.not_mem_nil, or_false] at hc9
    obtain ⟨rfl, rfl⟩ := hc9
    refine x_catch hX hTh htab (by decide) [] ⟨0, 9, 12, 13⟩ [] rfl (fun _ h => absurd h List.not_mem_nil) rfl (by decide) (by decide +kernel) (fun q => ?_)
    refine x_astore_n hX (lv' := [_, _, _, _]) dL_reputation_12 3 rfl (by decide) rfl rfl ?_
    refine x_iconstv hX dL_reputation_13 1 (by decide) ?_
    exact x_asr (by simp only [hK9, z10, if_false]) rfl (hret _ () _ _ (hK9.symm) dL_reputation_14)
  · obtain ⟨hK9, rfl⟩ := hq
    refine x_i2l hX dL_reputation_7 ?_
    refine x_last hX (ws' := wL cx o (vp_updL f 0 _) h _) dL_reputation_8 0 rfl (vp_in_nI (n := 0) (by decide : 0 < 1) (by decide)) rfl ?_
    refine x_goto hX 15 dL_reputation_9 (by decide) ?_
    refine x_iconstv hX dL_reputation_15 0 (by decide) ?_
    exact x_asr (by simp only [hK9, if_true]) rfl (hret _ () _ _ (hK9.symm) dL_reputation_16)
set_option maxRecDepth 100000 in
set_option maxHeartbeats 4000000 in
theorem kL_reputationAtOnce (l : Launch) (hfl : l.stackTraces = false) (D : va_G) (cx : xC) (o : Nat) (f : Nat → Int64) (h : Nat → Nat) (s : xS) {n : Nat} (hN : okX s n) (a : Int32) : xL l yL_reputationAtOnce wsL_reputationAtOnce (xRT 7 105) D cx [.ref (h 0), .int a, .ref o] (wL cx o f h s) (fun _ : Unit => wL cx o (if k8 a = 0 then vp_updL f 0 ((fAll s n) 15 (ix a)).toInt64 else f) h (if k8 a = 0 then fAll s n else s)) (fun r _ => r = k8 a) := by
  refine x_enterL (own := RL) (hh := [(0, 9, 12, 13)]) (by decide) rfl rfl (Nat.le_of_ble_eq_true rfl) (fun X hX hTh htab hret => ?_)
  change xV X 4 0 0 (wL cx o f h s) 0 [(0, .ref (h 0)), (1, .int a), (2, .ref o)] []
  refine x_aload_n hX dL_reputationAtOnce_0 2 rfl ?_
  refine x_iconstv hX dL_reputationAtOnce_1 0 (by decide) ?_
  refine x_aload_n hX dL_reputationAtOnce_2 0 rfl ?_
  refine x_iload_n hX dL_reputationAtOnce_3 1 rfl ?_
  refine x_bvt [(o, .inl (cx.2.2, 1, .inr (.inl f)))] [] (wf' := fun _ => wL cx o f h (fAll s n)) hX hTh dL_reputationAtOnce_4 1 rfl (kX0_reputationAtOnce l hfl D cx h s hN _) rfl (fun _ => rfl) gL_reputationAtOnce_X0_reputationAtOnce rfl ⟨rfl, by decide, by decide, by decide +kernel⟩ ⟨rfl, rfl, Nat.le_of_ble_eq_true rfl, Nat.le_of_ble_eq_true rfl, Nat.le_refl 1, Nat.le_refl 6⟩ rfl rfl (Nat.le_of_ble_eq_true rfl) rfl (fun E hpx => ?_) (fun r _ hq => ?_)
  · obtain ⟨c9, hc9, hK9⟩ := hpx
    simp only [List.mem_cons, Prod.mk.injEq, List.not_mem_nil, or_false] at hc9
    obtain ⟨rfl, rfl⟩ := hc9
    refine x_catch hX hTh htab (by decide) [] ⟨0, 9, 12, 13⟩ [] rfl (fun _ h => absurd h List.not_mem_nil) rfl (by decide) (by decide +kernel) (fun q => ?_)
    refine x_astore_n hX (lv' := [_, _, _, _]) dL_reputationAtOnce_12 3 rfl (by decide) rfl rfl ?_
    refine x_iconstv hX dL_reputationAtOnce_13 1 (by decide) ?_
    exact x_asr (by simp only [hK9, z10, if_false]) rfl (hret _ () _ _ (hK9.symm) dL_reputationAtOnce_14)
  · obtain ⟨hK9, rfl⟩ := hq
    refine x_i2l hX dL_reputationAtOnce_7 ?_
    refine x_last hX (ws' := wL cx o (vp_updL f 0 _) h _) dL_reputationAtOnce_8 0 rfl (vp_in_nI (n := 0) (by decide : 0 < 1) (by decide)) rfl ?_
    refine x_goto hX 15 dL_reputationAtOnce_9 (by decide) ?_
    refine x_iconstv hX dL_reputationAtOnce_15 0 (by decide) ?_
    exact x_asr (by simp only [hK9, if_true]) rfl (hret _ () _ _ (hK9.symm) dL_reputationAtOnce_16)
set_option maxRecDepth 100000 in
set_option maxHeartbeats 4000000 in
theorem kL_leastStake (l : Launch) (hfl : l.stackTraces = false) (D : va_G) (cx : xC) (o : Nat) (f : Nat → Int64) (h : Nat → Nat) (s : xS) {n : Nat} (hN : okX s n) (a : Int32) : xL l yL_leastStake wsL_leastStake (xRT 7 128) D cx [.ref (h 0), .int a, .ref o] (wL cx o f h s) (fun _ : Unit => wL cx o (if k8 a = 0 then vp_updL f 0 (fLeast s n a).toInt64 else f) h (if k8 a = 0 then s else s)) (fun r _ => r = k8 a) := by
  refine x_enterL (own := RL) (hh := [(0, 9, 12, 13)]) (by decide) rfl rfl (Nat.le_of_ble_eq_true rfl) (fun X hX hTh htab hret => ?_)
  change xV X 4 0 0 (wL cx o f h s) 0 [(0, .ref (h 0)), (1, .int a), (2, .ref o)] []
  refine x_aload_n hX dL_leastStake_0 2 rfl ?_
  refine x_iconstv hX dL_leastStake_1 0 (by decide) ?_
  refine x_aload_n hX dL_leastStake_2 0 rfl ?_
  refine x_iload_n hX dL_leastStake_3 1 rfl ?_
  refine x_bvt [(o, .inl (cx.2.2, 1, .inr (.inl f)))] [] (wf' := fun _ => wL cx o f h (s)) hX hTh dL_leastStake_4 1 rfl (kX0_leastStake l hfl D cx h s hN _) rfl (fun _ => rfl) gL_leastStake_X0_leastStake rfl ⟨rfl, by decide, by decide, by decide +kernel⟩ ⟨rfl, rfl, Nat.le_of_ble_eq_true rfl, Nat.le_of_ble_eq_true rfl, Nat.le_refl 1, Nat.le_refl 6⟩ rfl rfl (Nat.le_of_ble_eq_true rfl) rfl (fun E hpx => ?_) (fun r _ hq => ?_)
  · obtain ⟨c9, hc9, hK9⟩ := hpx
    simp only [List.mem_cons, Prod.mk.injEq, List.not_mem_nil, or_false] at hc9
    obtain ⟨rfl, rfl⟩ := hc9
    refine x_catch hX hTh htab (by decide) [] ⟨0, 9, 12, 13⟩ [] rfl (fun _ h => absurd h List.not_mem_nil) rfl (by decide) (by decide +kernel) (fun q => ?_)
    refine x_astore_n hX (lv' := [_, _, _, _]) dL_leastStake_12 3 rfl (by decide) rfl rfl ?_
    refine x_iconstv hX dL_leastStake_13 1 (by decide) ?_
    exact x_asr (by simp only [hK9, z10, if_false]) rfl (hret _ () _ _ (hK9.symm) dL_leastStake_14)
  · obtain ⟨hK9, rfl⟩ := hq
    refine x_i2l hX dL_leastStake_7 ?_
    refine x_last hX (ws' := wL cx o (vp_updL f 0 _) h _) dL_leastStake_8 0 rfl (vp_in_nI (n := 0) (by decide : 0 < 1) (by decide)) rfl ?_
    refine x_goto hX 15 dL_leastStake_9 (by decide) ?_
    refine x_iconstv hX dL_leastStake_15 0 (by decide) ?_
    exact x_asr (by simp only [hK9, if_true]) rfl (hret _ () _ _ (hK9.symm) dL_leastStake_16)
set_option maxRecDepth 100000 in
set_option maxHeartbeats 4000000 in
theorem kL_falseMarks (l : Launch) (hfl : l.stackTraces = false) (D : va_G) (cx : xC) (o : Nat) (f : Nat → Int64) (h : Nat → Nat) (s : xS) {n : Nat} (hN : okX s n) (a : Int32) : xL l yL_falseMarks wsL_falseMarks (xRT 7 103) D cx [.ref (h 0), .int a, .ref o] (wL cx o f h s) (fun _ : Unit => wL cx o (if k8 a = 0 then vp_updL f 0 (s 9 (ix a)).toInt64 else f) h (if k8 a = 0 then s else s)) (fun r _ => r = k8 a) := by
  refine x_enterL (own := RL) (hh := [(0, 9, 12, 13)]) (by decide) rfl rfl (Nat.le_of_ble_eq_true rfl) (fun X hX hTh htab hret => ?_)
  change xV X 4 0 0 (wL cx o f h s) 0 [(0, .ref (h 0)), (1, .int a), (2, .ref o)] []
  refine x_aload_n hX dL_falseMarks_0 2 rfl ?_
  refine x_iconstv hX dL_falseMarks_1 0 (by decide) ?_
  refine x_aload_n hX dL_falseMarks_2 0 rfl ?_
  refine x_iload_n hX dL_falseMarks_3 1 rfl ?_
  refine x_bvt [(o, .inl (cx.2.2, 1, .inr (.inl f)))] [] (wf' := fun _ => wL cx o f h (s)) hX hTh dL_falseMarks_4 1 rfl (kX0_falseMarks l hfl D cx h s hN _) rfl (fun _ => rfl) gL_falseMarks_X0_falseMarks rfl ⟨rfl, by decide, by decide, by decide +kernel⟩ ⟨rfl, rfl, Nat.le_of_ble_eq_true rfl, Nat.le_of_ble_eq_true rfl, Nat.le_refl 1, Nat.le_refl 6⟩ rfl rfl (Nat.le_of_ble_eq_true rfl) rfl (fun E hpx => ?_) (fun r _ hq => ?_)
  · obtain ⟨c9, hc9, hK9⟩ := hpx
    simp only [List.mem_cons, Prod.mk.injEq, List.not_mem_nil, or_false] at hc9
    obtain ⟨rfl, rfl⟩ := hc9
    refine x_catch hX hTh htab (by decide) [] ⟨0, 9, 12, 13⟩ [] rfl (fun _ h => absurd h List.not_mem_nil) rfl (by decide) (by decide +kernel) (fun q => ?_)
    refine x_astore_n hX (lv' := [_, _, _, _]) dL_falseMarks_12 3 rfl (by decide) rfl rfl ?_
    refine x_iconstv hX dL_falseMarks_13 1 (by decide) ?_
    exact x_asr (by simp only [hK9, z10, if_false]) rfl (hret _ () _ _ (hK9.symm) dL_falseMarks_14)
  · obtain ⟨hK9, rfl⟩ := hq
    refine x_i2l hX dL_falseMarks_7 ?_
    refine x_last hX (ws' := wL cx o (vp_updL f 0 _) h _) dL_falseMarks_8 0 rfl (vp_in_nI (n := 0) (by decide : 0 < 1) (by decide)) rfl ?_
    refine x_goto hX 15 dL_falseMarks_9 (by decide) ?_
    refine x_iconstv hX dL_falseMarks_15 0 (by decide) ?_
    exact x_asr (by simp only [hK9, if_true]) rfl (hret _ () _ _ (hK9.symm) dL_falseMarks_16)
set_option maxRecDepth 100000 in
set_option maxHeartbeats 4000000 in
theorem kL_setRoute (l : Launch) (hfl : l.stackTraces = false) (D : va_G) (cx : xC) (o : Nat) (f : Nat → Int64) (h : Nat → Nat) (s : xS) {n : Nat} (hN : okX s n) (a b c : Int32) : xL l yL_setRoute wsL_setRoute (xRT 7 107) D cx [.ref (h 0), .int a, .int b, .int c, .ref o] (wL cx o f h s) (fun _ : Unit => wL cx o (if kRoute a b c = 0 then vp_updL f 0 (vRoute s a b).toInt64 else f) h (if kRoute a b c = 0 then sRoute s a b c else s)) (fun r _ => r = kRoute a b c) := by
  refine x_enterL (own := RL) (hh := [(0, 12, 15, 13), (0, 12, 19, 15)]) (by decide) rfl rfl (Nat.le_of_ble_eq_true rfl) (fun X hX hTh htab hret => ?_)
  change xV X 6 0 0 (wL cx o f h s) 0 [(0, .ref (h 0)), (1, .int a), (2, .int b), (3, .int c), (4, .ref o)] []
  refine x_aload hX dL_setRoute_0 4 rfl ?_
  refine x_iconstv hX dL_setRoute_2 0 (by decide) ?_
  refine x_aload_n hX dL_setRoute_3 0 rfl ?_
  refine x_iload_n hX dL_setRoute_4 1 rfl ?_
  refine x_iload_n hX dL_setRoute_5 2 rfl ?_
  refine x_iload_n hX dL_setRoute_6 3 rfl ?_
  refine x_bvt [(o, .inl (cx.2.2, 1, .inr (.inl f)))] [] (wf' := fun _ => wL cx o f h (sRoute s a b c)) hX hTh dL_setRoute_7 3 rfl (kX0_setRoute l hfl D cx h s hN _ _ _) rfl (fun _ => rfl) gL_setRoute_X0_setRoute rfl ⟨rfl, by decide, by decide, by decide +kernel⟩ ⟨rfl, rfl, Nat.le_of_ble_eq_true rfl, Nat.le_of_ble_eq_true rfl, Nat.le_refl 1, Nat.le_refl 6⟩ rfl rfl (Nat.le_of_ble_eq_true rfl) rfl (fun E hpx => ?_) (fun r _ hq => ?_)
  · obtain ⟨c9, hc9, hK9⟩ := hpx
    simp only [List.mem_cons, Prod.mk.injEq, List.not_mem_nil, or_false] at hc9
    rcases hc9 with ⟨rfl, rfl⟩ | ⟨rfl, rfl⟩
    · refine x_catch hX hTh htab (by decide) [] ⟨0, 12, 15, 13⟩ [⟨0, 12, 19, 15⟩] rfl (fun _ h => absurd h List.not_mem_nil) rfl (by decide) (by decide +kernel) (fun q => ?_)
      refine x_astore hX (lv' := [_, _, _, _, _, _]) dL_setRoute_15  (by decide) rfl rfl ?_
      refine x_iconstv hX dL_setRoute_17 1 (by decide) ?_
      exact x_asr (by simp only [hK9, z10, if_false]) rfl (hret _ () _ _ (hK9.symm) dL_setRoute_18)
    · refine x_catch hX hTh htab (by decide) [⟨0, 12, 15, 13⟩] ⟨0, 12, 19, 15⟩ [] rfl (List.forall_mem_cons.mpr ⟨⟨by decide, "java/lang/IndexOutOfBoundsException", by decide +kernel, by decide, by decide⟩, fun _ h => absurd h List.not_mem_nil⟩) rfl (by decide) (by decide +kernel) (fun q => ?_)
      refine x_astore hX (lv' := [_, _, _, _, _, _]) dL_setRoute_19  (by decide) rfl rfl ?_
      refine x_iconstv hX dL_setRoute_21 2 (by decide) ?_
      exact x_asr (by simp only [hK9, z20, if_false]) rfl (hret _ () _ _ (hK9.symm) dL_setRoute_22)
  · obtain ⟨hK9, rfl⟩ := hq
    refine x_i2l hX dL_setRoute_10 ?_
    refine x_last hX (ws' := wL cx o (vp_updL f 0 _) h _) dL_setRoute_11 0 rfl (vp_in_nI (n := 0) (by decide : 0 < 1) (by decide)) rfl ?_
    refine x_goto hX 23 dL_setRoute_12 (by decide) ?_
    refine x_iconstv hX dL_setRoute_23 0 (by decide) ?_
    exact x_asr (by simp only [hK9, if_true]) rfl (hret _ () _ _ (hK9.symm) dL_setRoute_24)
set_option maxRecDepth 100000 in
set_option maxHeartbeats 4000000 in
theorem kL_answer (l : Launch) (hfl : l.stackTraces = false) (D : va_G) (cx : xC) (o : Nat) (f : Nat → Int64) (h : Nat → Nat) (s : xS) {n : Nat} (hN : okX s n) (a : Int32) : xL l yL_answer wsL_answer (xRT 7 107) D cx [.ref (h 0), .int a, .ref o] (wL cx o f h s) (fun _ : Unit => wL cx o (if kDel s a = 0 then vp_updL f 0 (fRep (sAns s a) ((sAns s a) 0 (ix a)) n).toInt64 else f) h (if kDel s a = 0 then sAns s a else s)) (fun r _ => r = kDel s a) := by
  refine x_enterL (own := RL) (hh := [(0, 9, 12, 13), (0, 9, 15, 24)]) (by decide) rfl rfl (Nat.le_of_ble_eq_true rfl) (fun X hX hTh htab hret => ?_)
  change xV X 4 0 0 (wL cx o f h s) 0 [(0, .ref (h 0)), (1, .int a), (2, .ref o)] []
  refine x_aload_n hX dL_answer_0 2 rfl ?_
  refine x_iconstv hX dL_answer_1 0 (by decide) ?_
  refine x_aload_n hX dL_answer_2 0 rfl ?_
  refine x_iload_n hX dL_answer_3 1 rfl ?_
  refine x_bvt [(o, .inl (cx.2.2, 1, .inr (.inl f)))] [] (wf' := fun _ => wL cx o f h (sAns s a)) hX hTh dL_answer_4 1 rfl (kX0_answer l hfl D cx h s hN _) rfl (fun _ => rfl) gL_answer_X0_answer rfl ⟨rfl, by decide, by decide, by decide +kernel⟩ ⟨rfl, rfl, Nat.le_of_ble_eq_true rfl, Nat.le_of_ble_eq_true rfl, Nat.le_refl 1, Nat.le_refl 6⟩ rfl rfl (Nat.le_of_ble_eq_true rfl) rfl (fun E hpx => ?_) (fun r _ hq => ?_)
  · obtain ⟨c9, hc9, hK9⟩ := hpx
    simp only [List.mem_cons, Prod.mk.injEq, List.not_mem_nil, or_false] at hc9
    rcases hc9 with ⟨rfl, rfl⟩ | ⟨rfl, rfl⟩
    · refine x_catch hX hTh htab (by decide) [] ⟨0, 9, 12, 13⟩ [⟨0, 9, 15, 24⟩] rfl (fun _ h => absurd h List.not_mem_nil) rfl (by decide) (by decide +kernel) (fun q => ?_)
      refine x_astore_n hX (lv' := [_, _, _, _]) dL_answer_12 3 rfl (by decide) rfl rfl ?_
      refine x_iconstv hX dL_answer_13 1 (by decide) ?_
      exact x_asr (by simp only [hK9, z10, if_false]) rfl (hret _ () _ _ (hK9.symm) dL_answer_14)
    · refine x_catch hX hTh htab (by decide) [⟨0, 9, 12, 13⟩] ⟨0, 9, 15, 24⟩ [] rfl (List.forall_mem_cons.mpr ⟨⟨by decide, "java/lang/IndexOutOfBoundsException", by decide +kernel, by decide, by decide⟩, fun _ h => absurd h List.not_mem_nil⟩) rfl (by decide) (by decide +kernel) (fun q => ?_)
      refine x_astore_n hX (lv' := [_, _, _, _]) dL_answer_15 3 rfl (by decide) rfl rfl ?_
      refine x_iconstv hX dL_answer_16 2 (by decide) ?_
      exact x_asr (by simp only [hK9, z20, if_false]) rfl (hret _ () _ _ (hK9.symm) dL_answer_17)
  · obtain ⟨hK9, rfl⟩ := hq
    refine x_i2l hX dL_answer_7 ?_
    refine x_last hX (ws' := wL cx o (vp_updL f 0 _) h _) dL_answer_8 0 rfl (vp_in_nI (n := 0) (by decide : 0 < 1) (by decide)) rfl ?_
    refine x_goto hX 18 dL_answer_9 (by decide) ?_
    refine x_iconstv hX dL_answer_18 0 (by decide) ?_
    exact x_asr (by simp only [hK9, if_true]) rfl (hret _ () _ _ (hK9.symm) dL_answer_19)
set_option maxRecDepth 100000 in
set_option maxHeartbeats 4000000 in
theorem kL_mark (l : Launch) (hfl : l.stackTraces = false) (D : va_G) (cx : xC) (o : Nat) (f : Nat → Int64) (h : Nat → Nat) (s : xS) {n : Nat} (hN : okX s n) (a : Int32) : xL l yL_mark wsL_mark (xRT 7 103) D cx [.ref (h 0), .int a, .ref o] (wL cx o f h s) (fun _ : Unit => wL cx o (if kDel s a = 0 then vp_updL f 0 (vMark s n a).toInt64 else f) h (if kDel s a = 0 then sMark s n a else s)) (fun r _ => r = kDel s a) := by
  refine x_enterL (own := RL) (hh := [(0, 9, 12, 13), (0, 9, 15, 24)]) (by decide) rfl rfl (Nat.le_of_ble_eq_true rfl) (fun X hX hTh htab hret => ?_)
  change xV X 4 0 0 (wL cx o f h s) 0 [(0, .ref (h 0)), (1, .int a), (2, .ref o)] []
  refine x_aload_n hX dL_mark_0 2 rfl ?_
  refine x_iconstv hX dL_mark_1 0 (by decide) ?_
  refine x_aload_n hX dL_mark_2 0 rfl ?_
  refine x_iload_n hX dL_mark_3 1 rfl ?_
  refine x_bvt [(o, .inl (cx.2.2, 1, .inr (.inl f)))] [] (wf' := fun _ => wL cx o f h (sMark s n a)) hX hTh dL_mark_4 1 rfl (kX0_mark l hfl D cx h s hN _) rfl (fun _ => rfl) gL_mark_X0_mark rfl ⟨rfl, by decide, by decide, by decide +kernel⟩ ⟨rfl, rfl, Nat.le_of_ble_eq_true rfl, Nat.le_of_ble_eq_true rfl, Nat.le_refl 1, Nat.le_refl 6⟩ rfl rfl (Nat.le_of_ble_eq_true rfl) rfl (fun E hpx => ?_) (fun r _ hq => ?_)
  · obtain ⟨c9, hc9, hK9⟩ := hpx
    simp only [List.mem_cons, Prod.mk.injEq, List.not_mem_nil, or_false] at hc9
    rcases hc9 with ⟨rfl, rfl⟩ | ⟨rfl, rfl⟩
    · refine x_catch hX hTh htab (by decide) [] ⟨0, 9, 12, 13⟩ [⟨0, 9, 15, 24⟩] rfl (fun _ h => absurd h List.not_mem_nil) rfl (by decide) (by decide +kernel) (fun q => ?_)
      refine x_astore_n hX (lv' := [_, _, _, _]) dL_mark_12 3 rfl (by decide) rfl rfl ?_
      refine x_iconstv hX dL_mark_13 1 (by decide) ?_
      exact x_asr (by simp only [hK9, z10, if_false]) rfl (hret _ () _ _ (hK9.symm) dL_mark_14)
    · refine x_catch hX hTh htab (by decide) [⟨0, 9, 12, 13⟩] ⟨0, 9, 15, 24⟩ [] rfl (List.forall_mem_cons.mpr ⟨⟨by decide, "java/lang/IndexOutOfBoundsException", by decide +kernel, by decide, by decide⟩, fun _ h => absurd h List.not_mem_nil⟩) rfl (by decide) (by decide +kernel) (fun q => ?_)
      refine x_astore_n hX (lv' := [_, _, _, _]) dL_mark_15 3 rfl (by decide) rfl rfl ?_
      refine x_iconstv hX dL_mark_16 2 (by decide) ?_
      exact x_asr (by simp only [hK9, z20, if_false]) rfl (hret _ () _ _ (hK9.symm) dL_mark_17)
  · obtain ⟨hK9, rfl⟩ := hq
    refine x_i2l hX dL_mark_7 ?_
    refine x_last hX (ws' := wL cx o (vp_updL f 0 _) h _) dL_mark_8 0 rfl (vp_in_nI (n := 0) (by decide : 0 < 1) (by decide)) rfl ?_
    refine x_goto hX 18 dL_mark_9 (by decide) ?_
    refine x_iconstv hX dL_mark_18 0 (by decide) ?_
    exact x_asr (by simp only [hK9, if_true]) rfl (hret _ () _ _ (hK9.symm) dL_mark_19)
set_option maxRecDepth 100000 in
set_option maxHeartbeats 4000000 in
theorem kL_send (l : Launch) (hfl : l.stackTraces = false) (D : va_G) (cx : xC) (o : Nat) (f : Nat → Int64) (h : Nat → Nat) (s : xS) {n : Nat} (hN : okX s n) (a b c : Int32) : xL l yL_send wsL_send (xRT 7 131) D cx [.ref (h 0), .int a, .int b, .int c, .ref o] (wL cx o f h s) (fun _ : Unit => wL cx o (if kSend s n a b c = 0 then vp_updL f 0 (s 12 0).toInt64 else f) h (if kSend s n a b c = 0 then sSend s a b c else s)) (fun r _ => r = kSend s n a b c) := by
  refine x_enterL (own := RL) (hh := [(0, 12, 15, 13), (0, 12, 19, 15), (0, 12, 23, 24)]) (by decide) rfl rfl (Nat.le_of_ble_eq_true rfl) (fun X hX hTh htab hret => ?_)
  change xV X 6 0 0 (wL cx o f h s) 0 [(0, .ref (h 0)), (1, .int a), (2, .int b), (3, .int c), (4, .ref o)] []
  refine x_aload hX dL_send_0 4 rfl ?_
  refine x_iconstv hX dL_send_2 0 (by decide) ?_
  refine x_aload_n hX dL_send_3 0 rfl ?_
  refine x_iload_n hX dL_send_4 1 rfl ?_
  refine x_iload_n hX dL_send_5 2 rfl ?_
  refine x_iload_n hX dL_send_6 3 rfl ?_
  refine x_bvt [(o, .inl (cx.2.2, 1, .inr (.inl f)))] [] (wf' := fun _ => wL cx o f h (sSend s a b c)) hX hTh dL_send_7 3 rfl (kX0_send l hfl D cx h s hN _ _ _) rfl (fun _ => rfl) gL_send_X0_send rfl ⟨rfl, by decide, by decide, by decide +kernel⟩ ⟨rfl, rfl, Nat.le_of_ble_eq_true rfl, Nat.le_of_ble_eq_true rfl, Nat.le_refl 1, Nat.le_refl 6⟩ rfl rfl (Nat.le_of_ble_eq_true rfl) rfl (fun E hpx => ?_) (fun r _ hq => ?_)
  · obtain ⟨c9, hc9, hK9⟩ := hpx
    simp only [List.mem_cons, Prod.mk.injEq, List.not_mem_nil, or_false] at hc9
    rcases hc9 with ⟨rfl, rfl⟩ | ⟨rfl, rfl⟩ | ⟨rfl, rfl⟩
    · refine x_catch hX hTh htab (by decide) [] ⟨0, 12, 15, 13⟩ [⟨0, 12, 19, 15⟩, ⟨0, 12, 23, 24⟩] rfl (fun _ h => absurd h List.not_mem_nil) rfl (by decide) (by decide +kernel) (fun q => ?_)
      refine x_astore hX (lv' := [_, _, _, _, _, _]) dL_send_15  (by decide) rfl rfl ?_
      refine x_iconstv hX dL_send_17 1 (by decide) ?_
      exact x_asr (by simp only [hK9, z10, if_false]) rfl (hret _ () _ _ (hK9.symm) dL_send_18)
    · refine x_catch hX hTh htab (by decide) [⟨0, 12, 15, 13⟩] ⟨0, 12, 19, 15⟩ [⟨0, 12, 23, 24⟩] rfl (List.forall_mem_cons.mpr ⟨⟨by decide, "java/lang/IndexOutOfBoundsException", by decide +kernel, by decide, by decide⟩, fun _ h => absurd h List.not_mem_nil⟩) rfl (by decide) (by decide +kernel) (fun q => ?_)
      refine x_astore hX (lv' := [_, _, _, _, _, _]) dL_send_19  (by decide) rfl rfl ?_
      refine x_iconstv hX dL_send_21 2 (by decide) ?_
      exact x_asr (by simp only [hK9, z20, if_false]) rfl (hret _ () _ _ (hK9.symm) dL_send_22)
    · refine x_catch hX hTh htab (by decide) [⟨0, 12, 15, 13⟩, ⟨0, 12, 19, 15⟩] ⟨0, 12, 23, 24⟩ [] rfl (List.forall_mem_cons.mpr ⟨⟨by decide, "java/lang/IndexOutOfBoundsException", by decide +kernel, by decide, by decide⟩, List.forall_mem_cons.mpr ⟨⟨by decide, "java/lang/IllegalArgumentException", by decide +kernel, by decide, by decide⟩, fun _ h => absurd h List.not_mem_nil⟩⟩) rfl (by decide) (by decide +kernel) (fun q => ?_)
      refine x_astore hX (lv' := [_, _, _, _, _, _]) dL_send_23  (by decide) rfl rfl ?_
      refine x_iconstv hX dL_send_25 3 (by decide) ?_
      exact x_asr (by simp only [hK9, z30, if_false]) rfl (hret _ () _ _ (hK9.symm) dL_send_26)
  · obtain ⟨hK9, rfl⟩ := hq
    refine x_i2l hX dL_send_10 ?_
    refine x_last hX (ws' := wL cx o (vp_updL f 0 _) h _) dL_send_11 0 rfl (vp_in_nI (n := 0) (by decide : 0 < 1) (by decide)) rfl ?_
    refine x_goto hX 27 dL_send_12 (by decide) ?_
    refine x_iconstv hX dL_send_27 0 (by decide) ?_
    exact x_asr (by simp only [hK9, if_true]) rfl (hret _ () _ _ (hK9.symm) dL_send_28)
set_option maxRecDepth 100000 in
set_option maxHeartbeats 4000000 in
theorem kL_steps (l : Launch) (hfl : l.stackTraces = false) (D : va_G) (cx : xC) (o : Nat) (f : Nat → Int64) (h : Nat → Nat) (s : xS) {n : Nat} (hN : okX s n) (a b : Int32) : xL l yL_steps wsL_steps (xRT 7 106) D cx [.ref (h 0), .int a, .int b, .ref o] (wL cx o f h s) (fun _ : Unit => wL cx o (if kTwo4 a b = 0 then vp_updL f 0 (fSteps s a b 4 0).toInt64 else f) h (if kTwo4 a b = 0 then s else s)) (fun r _ => r = kTwo4 a b) := by
  refine x_enterL (own := RL) (hh := [(0, 10, 13, 13)]) (by decide) rfl rfl (Nat.le_of_ble_eq_true rfl) (fun X hX hTh htab hret => ?_)
  change xV X 5 0 0 (wL cx o f h s) 0 [(0, .ref (h 0)), (1, .int a), (2, .int b), (3, .ref o)] []
  refine x_aload_n hX dL_steps_0 3 rfl ?_
  refine x_iconstv hX dL_steps_1 0 (by decide) ?_
  refine x_aload_n hX dL_steps_2 0 rfl ?_
  refine x_iload_n hX dL_steps_3 1 rfl ?_
  refine x_iload_n hX dL_steps_4 2 rfl ?_
  refine x_bvt [(o, .inl (cx.2.2, 1, .inr (.inl f)))] [] (wf' := fun _ => wL cx o f h (s)) hX hTh dL_steps_5 2 rfl (kX0_steps l hfl D cx h s hN _ _) rfl (fun _ => rfl) gL_steps_X0_steps rfl ⟨rfl, by decide, by decide, by decide +kernel⟩ ⟨rfl, rfl, Nat.le_of_ble_eq_true rfl, Nat.le_of_ble_eq_true rfl, Nat.le_refl 1, Nat.le_refl 6⟩ rfl rfl (Nat.le_of_ble_eq_true rfl) rfl (fun E hpx => ?_) (fun r _ hq => ?_)
  · obtain ⟨c9, hc9, hK9⟩ := hpx
    simp only [List.mem_cons, Prod.mk.injEq, List.not_mem_nil, or_false] at hc9
    obtain ⟨rfl, rfl⟩ := hc9
    refine x_catch hX hTh htab (by decide) [] ⟨0, 10, 13, 13⟩ [] rfl (fun _ h => absurd h List.not_mem_nil) rfl (by decide) (by decide +kernel) (fun q => ?_)
    refine x_astore hX (lv' := [_, _, _, _, _]) dL_steps_13  (by decide) rfl rfl ?_
    refine x_iconstv hX dL_steps_15 1 (by decide) ?_
    exact x_asr (by simp only [hK9, z10, if_false]) rfl (hret _ () _ _ (hK9.symm) dL_steps_16)
  · obtain ⟨hK9, rfl⟩ := hq
    refine x_i2l hX dL_steps_8 ?_
    refine x_last hX (ws' := wL cx o (vp_updL f 0 _) h _) dL_steps_9 0 rfl (vp_in_nI (n := 0) (by decide : 0 < 1) (by decide)) rfl ?_
    refine x_goto hX 17 dL_steps_10 (by decide) ?_
    refine x_iconstv hX dL_steps_17 0 (by decide) ?_
    exact x_asr (by simp only [hK9, if_true]) rfl (hret _ () _ _ (hK9.symm) dL_steps_18)
set_option maxRecDepth 100000 in
set_option maxHeartbeats 4000000 in
theorem kL_pass (l : Launch) (hfl : l.stackTraces = false) (D : va_G) (cx : xC) (o : Nat) (f : Nat → Int64) (h : Nat → Nat) (s : xS) {n : Nat} (hN : okX s n) (a : Int32) : xL l yL_pass wsL_pass (xRT 7 151) D cx [.ref (h 0), .int a, .ref o] (wL cx o f h s) (fun _ : Unit => wL cx o (if kPass s a = 0 then vp_updL f 0 (fTicksN s n (ix a)).toInt64 else f) h (if kPass s a = 0 then fTicks s n (ix a) else s)) (fun r _ => r = kPass s a) := by
  refine x_enterL (own := RL) (hh := [(0, 9, 12, 15), (0, 9, 15, 24)]) (by decide) rfl rfl (Nat.le_of_ble_eq_true rfl) (fun X hX hTh htab hret => ?_)
  change xV X 4 0 0 (wL cx o f h s) 0 [(0, .ref (h 0)), (1, .int a), (2, .ref o)] []
  refine x_aload_n hX dL_pass_0 2 rfl ?_
  refine x_iconstv hX dL_pass_1 0 (by decide) ?_
  refine x_aload_n hX dL_pass_2 0 rfl ?_
  refine x_iload_n hX dL_pass_3 1 rfl ?_
  refine x_bvt [(o, .inl (cx.2.2, 1, .inr (.inl f)))] [] (wf' := fun _ => wL cx o f h (fTicks s n (ix a))) hX hTh dL_pass_4 1 rfl (kX0_pass l hfl D cx h s hN _) rfl (fun _ => rfl) gL_pass_X0_pass rfl ⟨rfl, by decide, by decide, by decide +kernel⟩ ⟨rfl, rfl, Nat.le_of_ble_eq_true rfl, Nat.le_of_ble_eq_true rfl, Nat.le_refl 1, Nat.le_refl 6⟩ rfl rfl (Nat.le_of_ble_eq_true rfl) rfl (fun E hpx => ?_) (fun r _ hq => ?_)
  · obtain ⟨c9, hc9, hK9⟩ := hpx
    simp only [List.mem_cons, Prod.mk.injEq, List.not_mem_nil, or_false] at hc9
    rcases hc9 with ⟨rfl, rfl⟩ | ⟨rfl, rfl⟩
    · refine x_catch hX hTh htab (by decide) [] ⟨0, 9, 12, 15⟩ [⟨0, 9, 15, 24⟩] rfl (fun _ h => absurd h List.not_mem_nil) rfl (by decide) (by decide +kernel) (fun q => ?_)
      refine x_astore_n hX (lv' := [_, _, _, _]) dL_pass_12 3 rfl (by decide) rfl rfl ?_
      refine x_iconstv hX dL_pass_13 1 (by decide) ?_
      exact x_asr (by simp only [hK9, z10, if_false]) rfl (hret _ () _ _ (hK9.symm) dL_pass_14)
    · refine x_catch hX hTh htab (by decide) [⟨0, 9, 12, 15⟩] ⟨0, 9, 15, 24⟩ [] rfl (List.forall_mem_cons.mpr ⟨⟨by decide, "java/lang/IllegalArgumentException", by decide +kernel, by decide, by decide⟩, fun _ h => absurd h List.not_mem_nil⟩) rfl (by decide) (by decide +kernel) (fun q => ?_)
      refine x_astore_n hX (lv' := [_, _, _, _]) dL_pass_15 3 rfl (by decide) rfl rfl ?_
      refine x_iconstv hX dL_pass_16 2 (by decide) ?_
      exact x_asr (by simp only [hK9, z20, if_false]) rfl (hret _ () _ _ (hK9.symm) dL_pass_17)
  · obtain ⟨hK9, rfl⟩ := hq
    refine x_i2l hX dL_pass_7 ?_
    refine x_last hX (ws' := wL cx o (vp_updL f 0 _) h _) dL_pass_8 0 rfl (vp_in_nI (n := 0) (by decide : 0 < 1) (by decide)) rfl ?_
    refine x_goto hX 18 dL_pass_9 (by decide) ?_
    refine x_iconstv hX dL_pass_18 0 (by decide) ?_
    exact x_asr (by simp only [hK9, if_true]) rfl (hret _ () _ _ (hK9.symm) dL_pass_19)
set_option maxRecDepth 100000 in
set_option maxHeartbeats 4000000 in
theorem kL_queueAt (l : Launch) (hfl : l.stackTraces = false) (D : va_G) (cx : xC) (o : Nat) (f : Nat → Int64) (h : Nat → Nat) (s : xS) {n : Nat} (hN : okX s n) (a b : Int32) : xL l yL_queueAt wsL_queueAt (xRT 7 128) D cx [.ref (h 0), .int a, .int b, .ref o] (wL cx o f h s) (fun _ : Unit => wL cx o (if kAt s n a b = 0 then vp_updL f 0 (fBest (fTakes (fBegin s n) n a (ix b)) a n).toInt64 else f) h (if kAt s n a b = 0 then fTakes (fBegin s n) n a (ix b + 1) else s)) (fun r _ => r = kAt s n a b) := by
  refine x_enterL (own := RL) (hh := [(0, 10, 13, 13)]) (by decide) rfl rfl (Nat.le_of_ble_eq_true rfl) (fun X hX hTh htab hret => ?_)
  change xV X 5 0 0 (wL cx o f h s) 0 [(0, .ref (h 0)), (1, .int a), (2, .int b), (3, .ref o)] []
  refine x_aload_n hX dL_queueAt_0 3 rfl ?_
  refine x_iconstv hX dL_queueAt_1 0 (by decide) ?_
  refine x_aload_n hX dL_queueAt_2 0 rfl ?_
  refine x_iload_n hX dL_queueAt_3 1 rfl ?_
  refine x_iload_n hX dL_queueAt_4 2 rfl ?_
  refine x_bvt [(o, .inl (cx.2.2, 1, .inr (.inl f)))] [] (wf' := fun _ => wL cx o f h (fTakes (fBegin s n) n a (ix b + 1))) hX hTh dL_queueAt_5 2 rfl (kX0_queueAt l hfl D cx h s hN _ _) rfl (fun _ => rfl) gL_queueAt_X0_queueAt rfl ⟨rfl, by decide, by decide, by decide +kernel⟩ ⟨rfl, rfl, Nat.le_of_ble_eq_true rfl, Nat.le_of_ble_eq_true rfl, Nat.le_refl 1, Nat.le_refl 6⟩ rfl rfl (Nat.le_of_ble_eq_true rfl) rfl (fun E hpx => ?_) (fun r _ hq => ?_)
  · obtain ⟨c9, hc9, hK9⟩ := hpx
    simp only [List.mem_cons, Prod.mk.injEq, List.not_mem_nil, or_false] at hc9
    obtain ⟨rfl, rfl⟩ := hc9
    refine x_catch hX hTh htab (by decide) [] ⟨0, 10, 13, 13⟩ [] rfl (fun _ h => absurd h List.not_mem_nil) rfl (by decide) (by decide +kernel) (fun q => ?_)
    refine x_astore hX (lv' := [_, _, _, _, _]) dL_queueAt_13  (by decide) rfl rfl ?_
    refine x_iconstv hX dL_queueAt_15 1 (by decide) ?_
    exact x_asr (by simp only [hK9, z10, if_false]) rfl (hret _ () _ _ (hK9.symm) dL_queueAt_16)
  · obtain ⟨hK9, rfl⟩ := hq
    refine x_i2l hX dL_queueAt_8 ?_
    refine x_last hX (ws' := wL cx o (vp_updL f 0 _) h _) dL_queueAt_9 0 rfl (vp_in_nI (n := 0) (by decide : 0 < 1) (by decide)) rfl ?_
    refine x_goto hX 17 dL_queueAt_10 (by decide) ?_
    refine x_iconstv hX dL_queueAt_17 0 (by decide) ?_
    exact x_asr (by simp only [hK9, if_true]) rfl (hret _ () _ _ (hK9.symm) dL_queueAt_18)
