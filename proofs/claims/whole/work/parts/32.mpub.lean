theorem in_X1_letters : ∀ w ∈ wsX10, w ∈ wsX1_letters := by decide +kernel
set_option maxRecDepth 100000 in
set_option maxHeartbeats 4000000 in
theorem kX1_letters (l : Launch) (D : va_G) (cx : xC) (h : Nat → Nat) (s : xS) : xI l yX1_letters wsX1_letters (xR 0 0) D cx [.ref (h 0)] (wM cx h s) (fun _ : Unit => wM cx h (xup s 15 0 0)) (fun r _ => r = s 5 0) := by
  refine x_enterI (own := RX1) (by decide) rfl rfl (fun v u hv => ?_) (Nat.le_of_ble_eq_true rfl) (fun X hX hret => ?_)
  · rfl
  have hin := in_X1_letters
  change xV X 1 0 0 (wM cx h s) 0 [(0, .ref (h 0))] []
  refine x_aload_n hX dX1_letters_0 0 rfl ?_
  refine x_iconstv hX dX1_letters_1 0 (by decide) ?_
  refine pM15 hX hin (by decide +kernel) dX1_letters_2 ?_
  refine x_aload_n hX dX1_letters_5 0 rfl ?_
  refine gM5 hX hin (by decide +kernel) dX1_letters_6 ?_
  exact hret _ () _ _ (rfl) dX1_letters_9
theorem in_X1_time : ∀ w ∈ wsX10, w ∈ wsX1_time := by decide +kernel
set_option maxRecDepth 100000 in
set_option maxHeartbeats 4000000 in
theorem kX1_time (l : Launch) (D : va_G) (cx : xC) (h : Nat → Nat) (s : xS) : xI l yX1_time wsX1_time (xR 0 0) D cx [.ref (h 0)] (wM cx h s) (fun _ : Unit => wM cx h (xup s 15 0 0)) (fun r _ => r = s 0 0) := by
  refine x_enterI (own := RX1) (by decide) rfl rfl (fun v u hv => ?_) (Nat.le_of_ble_eq_true rfl) (fun X hX hret => ?_)
  · rfl
  have hin := in_X1_time
  change xV X 1 0 0 (wM cx h s) 0 [(0, .ref (h 0))] []
  refine x_aload_n hX dX1_time_0 0 rfl ?_
  refine x_iconstv hX dX1_time_1 0 (by decide) ?_
  refine pM15 hX hin (by decide +kernel) dX1_time_2 ?_
  refine x_aload_n hX dX1_time_5 0 rfl ?_
  refine gM0 hX hin (by decide +kernel) dX1_time_6 ?_
  exact hret _ () _ _ (rfl) dX1_time_9
theorem in_X1_isAsked : ∀ w ∈ wsX10, w ∈ wsX1_isAsked := by decide +kernel
set_option maxRecDepth 100000 in
set_option maxHeartbeats 4000000 in
theorem kX1_isAsked (l : Launch) (D : va_G) (cx : xC) (h : Nat → Nat) (s : xS) {n : Nat} (hM : okM s n) (a : Int32) : xI l yX1_isAsked wsX1_isAsked (xR 2 43) D cx [.ref (h 0), .int a] (wM cx h s) (fun _ : Unit => wM cx h (xup s 15 0 (jLet s a))) (fun r _ => r = if PM s a then 1 else 0) := by
  refine x_enterI (own := RX1) (by decide) rfl rfl (fun v u hv => ?_) (Nat.le_of_ble_eq_true rfl) (fun X hX hret => ?_)
  · rw [hv]; split <;> rfl
  have hin := in_X1_isAsked
  change xV X 2 0 0 (wM cx h s) 0 [(0, .ref (h 0)), (1, .int a)] []
  refine x_aload_n hX dX1_isAsked_0 0 rfl ?_
  refine x_aload_n hX dX1_isAsked_1 0 rfl ?_
  refine x_iload_n hX dX1_isAsked_2 1 rfl ?_
  refine x_cvi hX dX1_isAsked_3 1 rfl (kX1_isLetter l D cx h _ hM _) gX1_isAsked_X1_isLetter rfl ⟨rfl, by decide, by decide, by decide +kernel⟩ ⟨rfl, rfl, Nat.le_of_ble_eq_true rfl, Nat.le_of_ble_eq_true rfl, Nat.zero_le _, Nat.zero_le _⟩ rfl rfl (Nat.le_of_ble_eq_true rfl) rfl (fun r_3 _ hq_3 => ?_)
  obtain rfl := hq_3
  refine x_if_eq hX 13 dX1_isAsked_6 (by decide) (fun c_6 => ?_) (fun c_6 => ?_)
  · replace c_6 := xb_f.mp c_6
    refine x_iconstv hX dX1_isAsked_13 1 (by decide) ?_
    refine x_cvi hX dX1_isAsked_14 1 rfl (kX1_can l D cx h _ _) gX1_isAsked_X1_can rfl ⟨rfl, by decide, by decide, by decide +kernel⟩ ⟨rfl, rfl, Nat.le_of_ble_eq_true rfl, Nat.le_of_ble_eq_true rfl, Nat.zero_le _, Nat.zero_le _⟩ rfl rfl (Nat.le_of_ble_eq_true rfl) rfl (fun r_14 _ hq_14 => ?_)
    obtain rfl : r_14 = 0 := hq_14.trans (by decide)
    exact x_asr (congrArg (wM cx h) (by simp only [jLet, if_neg c_6])) rfl (hret _ () _ _ (by simp only [if_neg c_6]) dX1_isAsked_17)
  · replace c_6 := xb_t.mp c_6
    refine x_iconstv hX dX1_isAsked_9 0 (by decide) ?_
    refine x_goto hX 14 dX1_isAsked_10 (by decide) ?_
    refine x_cvi hX dX1_isAsked_14 1 rfl (kX1_can l D cx h _ _) gX1_isAsked_X1_can rfl ⟨rfl, by decide, by decide, by decide +kernel⟩ ⟨rfl, rfl, Nat.le_of_ble_eq_true rfl, Nat.le_of_ble_eq_true rfl, Nat.zero_le _, Nat.zero_le _⟩ rfl rfl (Nat.le_of_ble_eq_true rfl) rfl (fun r_14 _ hq_14 => ?_)
    obtain rfl : r_14 = 1 := hq_14.trans (by decide)
    exact x_asr (congrArg (wM cx h) (by simp only [jLet, if_pos c_6])) rfl (hret _ () _ _ (by simp only [if_pos c_6]) dX1_isAsked_17)
theorem in_X1_isKnown : ∀ w ∈ wsX10, w ∈ wsX1_isKnown := by decide +kernel
set_option maxRecDepth 100000 in
set_option maxHeartbeats 4000000 in
theorem kX1_isKnown (l : Launch) (D : va_G) (cx : xC) (h : Nat → Nat) (s : xS) (a : Int32) : xI l yX1_isKnown wsX1_isKnown (xR 2 42) D cx [.ref (h 0), .int a] (wM cx h s) (fun _ : Unit => wM cx h (xup s 15 0 (k8 a))) (fun r _ => r = if P8 a then 1 else 0) := by
  refine x_enterI (own := RX1) (by decide) rfl rfl (fun v u hv => ?_) (Nat.le_of_ble_eq_true rfl) (fun X hX hret => ?_)
  · rw [hv]; split <;> rfl
  have hin := in_X1_isKnown
  change xV X 2 0 0 (wM cx h s) 0 [(0, .ref (h 0)), (1, .int a)] []
  refine x_aload_n hX dX1_isKnown_0 0 rfl ?_
  refine x_iload_n hX dX1_isKnown_1 1 rfl ?_
  refine x_csi hX dX1_isKnown_2 1 rfl (kX1_isPerson l D cx _) gX1_isKnown_X1_isPerson rfl ⟨by decide, by decide, by decide +kernel⟩ ⟨rfl, rfl, Nat.le_of_ble_eq_true rfl, Nat.le_of_ble_eq_true rfl, Nat.zero_le _, Nat.zero_le _⟩ (Nat.le_of_ble_eq_true rfl) rfl (fun r_2 _ hq_2 => ?_)
  obtain rfl := hq_2
  refine x_if_eq hX 12 dX1_isKnown_5 (by decide) (fun c_5 => ?_) (fun c_5 => ?_)
  · replace c_5 := xb_f.mp c_5
    refine x_iconstv hX dX1_isKnown_12 1 (by decide) ?_
    refine x_cvi hX dX1_isKnown_13 1 rfl (kX1_can l D cx h _ _) gX1_isKnown_X1_can rfl ⟨rfl, by decide, by decide, by decide +kernel⟩ ⟨rfl, rfl, Nat.le_of_ble_eq_true rfl, Nat.le_of_ble_eq_true rfl, Nat.zero_le _, Nat.zero_le _⟩ rfl rfl (Nat.le_of_ble_eq_true rfl) rfl (fun r_13 _ hq_13 => ?_)
    obtain rfl : r_13 = 0 := hq_13.trans (by decide)
    exact x_asr (congrArg (wM cx h) (by simp only [k8, if_neg c_5])) rfl (hret _ () _ _ (by simp only [if_neg c_5]) dX1_isKnown_16)
  · replace c_5 := xb_t.mp c_5
    refine x_iconstv hX dX1_isKnown_8 0 (by decide) ?_
    refine x_goto hX 13 dX1_isKnown_9 (by decide) ?_
    refine x_cvi hX dX1_isKnown_13 1 rfl (kX1_can l D cx h _ _) gX1_isKnown_X1_can rfl ⟨rfl, by decide, by decide, by decide +kernel⟩ ⟨rfl, rfl, Nat.le_of_ble_eq_true rfl, Nat.le_of_ble_eq_true rfl, Nat.zero_le _, Nat.zero_le _⟩ rfl rfl (Nat.le_of_ble_eq_true rfl) rfl (fun r_13 _ hq_13 => ?_)
    obtain rfl : r_13 = 1 := hq_13.trans (by decide)
    exact x_asr (congrArg (wM cx h) (by simp only [k8, if_pos c_5])) rfl (hret _ () _ _ (by simp only [if_pos c_5]) dX1_isKnown_16)
theorem in_X1_stateOf : ∀ w ∈ wsX10, w ∈ wsX1_stateOf := by decide +kernel
set_option maxRecDepth 100000 in
set_option maxHeartbeats 4000000 in
theorem kX1_stateOf (l : Launch) (D : va_G) (cx : xC) (h : Nat → Nat) (s : xS) {n : Nat} (hM : okM s n) (a : Int32) : xI l yX1_stateOf wsX1_stateOf (xR 3 64) D cx [.ref (h 0), .int a] (wM cx h s) (fun _ : Unit => wM cx h (xup s 15 0 (jLet s a))) (fun r _ => r = w9 s a) := by
  refine x_enterI (own := RX1) (by decide) rfl rfl (fun v u hv => ?_) (Nat.le_of_ble_eq_true rfl) (fun X hX hret => ?_)
  · rfl
  have hin := in_X1_stateOf
  change xV X 2 0 0 (wM cx h s) 0 [(0, .ref (h 0)), (1, .int a)] []
  refine x_aload_n hX dX1_stateOf_0 0 rfl ?_
  refine x_iload_n hX dX1_stateOf_1 1 rfl ?_
  refine x_cvi hX dX1_stateOf_2 1 rfl (kX1_isAsked l D cx h _ hM _) gX1_stateOf_X1_isAsked rfl ⟨rfl, by decide, by decide, by decide +kernel⟩ ⟨rfl, rfl, Nat.le_of_ble_eq_true rfl, Nat.le_of_ble_eq_true rfl, Nat.zero_le _, Nat.zero_le _⟩ rfl rfl (Nat.le_of_ble_eq_true rfl) rfl (fun r_2 _ hq_2 => ?_)
  obtain rfl := hq_2
  refine x_if_eq hX 17 dX1_stateOf_5 (by decide) (fun c_5 => ?_) (fun c_5 => ?_)
  · replace c_5 := xb_f.mp c_5
    refine x_iconstv hX dX1_stateOf_17 0 (by decide) ?_
    exact hret _ () _ _ (by simp only [w9, if_neg c_5]; try rfl) dX1_stateOf_18
  · replace c_5 := xb_t.mp c_5
    refine x_aload_n hX dX1_stateOf_8 0 rfl ?_
    refine gM9 hX hin (by decide +kernel) dX1_stateOf_9 ?_
    refine x_iload_n hX dX1_stateOf_12 1 rfl ?_
    refine lM9 hX dX1_stateOf_13 (PM_in hM c_5) rfl ?_
    refine x_goto hX 18 dX1_stateOf_14 (by decide) ?_
    exact hret _ () _ _ (by simp only [w9, if_pos c_5]; try rfl) dX1_stateOf_18
theorem in_X1_relayOf : ∀ w ∈ wsX10, w ∈ wsX1_relayOf := by decide +kernel
set_option maxRecDepth 100000 in
set_option maxHeartbeats 4000000 in
theorem kX1_relayOf (l : Launch) (D : va_G) (cx : xC) (h : Nat → Nat) (s : xS) {n : Nat} (hM : okM s n) (a : Int32) : xI l yX1_relayOf wsX1_relayOf (xR 3 64) D cx [.ref (h 0), .int a] (wM cx h s) (fun _ : Unit => wM cx h (xup s 15 0 (jLet s a))) (fun r _ => r = w10 s a) := by
  refine x_enterI (own := RX1) (by decide) rfl rfl (fun v u hv => ?_) (Nat.le_of_ble_eq_true rfl) (fun X hX hret => ?_)
  · rfl
  have hin := in_X1_relayOf
  change xV X 2 0 0 (wM cx h s) 0 [(0, .ref (h 0)), (1, .int a)] []
  refine x_aload_n hX dX1_relayOf_0 0 rfl ?_
  refine x_iload_n hX dX1_relayOf_1 1 rfl ?_
  refine x_cvi hX dX1_relayOf_2 1 rfl (kX1_isAsked l D cx h _ hM _) gX1_relayOf_X1_isAsked rfl ⟨rfl, by decide, by decide, by decide +kernel⟩ ⟨rfl, rfl, Nat.le_of_ble_eq_true rfl, Nat.le_of_ble_eq_true rfl, Nat.zero_le _, Nat.zero_le _⟩ rfl rfl (Nat.le_of_ble_eq_true rfl) rfl (fun r_2 _ hq_2 => ?_)
  obtain rfl := hq_2
  refine x_if_eq hX 30 dX1_relayOf_5 (by decide) (fun c_5 => ?_) (fun c_5 => ?_)
  · replace c_5 := xb_f.mp c_5
    refine x_iconstv hX dX1_relayOf_30 0 (by decide) ?_
    exact hret _ () _ _ (by simp only [w10, if_neg c_5]; try rfl) dX1_relayOf_31
  · replace c_5 := xb_t.mp c_5
    refine x_aload_n hX dX1_relayOf_8 0 rfl ?_
    refine gM9 hX hin (by decide +kernel) dX1_relayOf_9 ?_
    refine x_iload_n hX dX1_relayOf_12 1 rfl ?_
    refine lM9 hX dX1_relayOf_13 (PM_in hM c_5) rfl ?_
    refine x_if_ne hX 26 dX1_relayOf_14 (by decide) (fun c_14 => ?_) (fun c_14 => ?_)
    · refine x_iconstv hX dX1_relayOf_26 (-1) (by decide) ?_
      refine x_goto hX 31 dX1_relayOf_27 (by decide) ?_
      exact hret _ () _ _ (by simp only [w10, if_pos c_5, if_neg c_14]; try rfl) dX1_relayOf_31
    · refine x_aload_n hX dX1_relayOf_17 0 rfl ?_
      refine gM10 hX hin (by decide +kernel) dX1_relayOf_18 ?_
      refine x_iload_n hX dX1_relayOf_21 1 rfl ?_
      refine lM10 hX dX1_relayOf_22 (PM_in hM c_5) rfl ?_
      refine x_goto hX 31 dX1_relayOf_23 (by decide) ?_
      exact hret _ () _ _ (by simp only [w10, if_pos c_5, if_pos c_14]; try rfl) dX1_relayOf_31
theorem in_X1_marksOn : ∀ w ∈ wsX10, w ∈ wsX1_marksOn := by decide +kernel
set_option maxRecDepth 100000 in
set_option maxHeartbeats 4000000 in
theorem kX1_marksOn (l : Launch) (D : va_G) (cx : xC) (h : Nat → Nat) (s : xS) {n : Nat} (hM : okM s n) (a : Int32) : xI l yX1_marksOn wsX1_marksOn (xR 3 64) D cx [.ref (h 0), .int a] (wM cx h s) (fun _ : Unit => wM cx h (xup s 15 0 (jLet s a))) (fun r _ => r = w11 s a) := by
  refine x_enterI (own := RX1) (by decide) rfl rfl (fun v u hv => ?_) (Nat.le_of_ble_eq_true rfl) (fun X hX hret => ?_)
  · rfl
  have hin := in_X1_marksOn
  change xV X 2 0 0 (wM cx h s) 0 [(0, .ref (h 0)), (1, .int a)] []
  refine x_aload_n hX dX1_marksOn_0 0 rfl ?_
  refine x_iload_n hX dX1_marksOn_1 1 rfl ?_
  refine x_cvi hX dX1_marksOn_2 1 rfl (kX1_isAsked l D cx h _ hM _) gX1_marksOn_X1_isAsked rfl ⟨rfl, by decide, by decide, by decide +kernel⟩ ⟨rfl, rfl, Nat.le_of_ble_eq_true rfl, Nat.le_of_ble_eq_true rfl, Nat.zero_le _, Nat.zero_le _⟩ rfl rfl (Nat.le_of_ble_eq_true rfl) rfl (fun r_2 _ hq_2 => ?_)
  obtain rfl := hq_2
  refine x_if_eq hX 17 dX1_marksOn_5 (by decide) (fun c_5 => ?_) (fun c_5 => ?_)
  · replace c_5 := xb_f.mp c_5
    refine x_iconstv hX dX1_marksOn_17 0 (by decide) ?_
    exact hret _ () _ _ (by simp only [w11, if_neg c_5]; try rfl) dX1_marksOn_18
  · replace c_5 := xb_t.mp c_5
    refine x_aload_n hX dX1_marksOn_8 0 rfl ?_
    refine gM11 hX hin (by decide +kernel) dX1_marksOn_9 ?_
    refine x_iload_n hX dX1_marksOn_12 1 rfl ?_
    refine lM11 hX dX1_marksOn_13 (PM_in hM c_5) rfl ?_
    refine x_goto hX 18 dX1_marksOn_14 (by decide) ?_
    exact hret _ () _ _ (by simp only [w11, if_pos c_5]; try rfl) dX1_marksOn_18
theorem in_X1_queue : ∀ w ∈ wsX10, w ∈ wsX1_queue := by decide +kernel
set_option maxRecDepth 100000 in
set_option maxHeartbeats 4000000 in
theorem kX1_queue (l : Launch) (D : va_G) (cx : xC) (h : Nat → Nat) (s : xS) {n : Nat} (hM : okM s n) (a : Int32) : xI l yX1_queue wsX1_queue (xR 2 45) D cx [.ref (h 0), .int a] (wM cx h s) (fun _ : Unit => wM cx h (xup s 15 0 (k4 a))) (fun r _ => r = if P4 a then gLen (xup s 15 0 (k4 a)) a n else 0) := by
  refine x_enterI (own := RX1) (by decide) rfl rfl (fun v u hv => ?_) (Nat.le_of_ble_eq_true rfl) (fun X hX hret => ?_)
  · rfl
  have hin := in_X1_queue
  change xV X 2 0 0 (wM cx h s) 0 [(0, .ref (h 0)), (1, .int a)] []
  refine x_aload_n hX dX1_queue_0 0 rfl ?_
  refine x_iload_n hX dX1_queue_1 1 rfl ?_
  refine x_csi hX dX1_queue_2 1 rfl (kX1_isRelay l D cx _) gX1_queue_X1_isRelay rfl ⟨by decide, by decide, by decide +kernel⟩ ⟨rfl, rfl, Nat.le_of_ble_eq_true rfl, Nat.le_of_ble_eq_true rfl, Nat.zero_le _, Nat.zero_le _⟩ (Nat.le_of_ble_eq_true rfl) rfl (fun r_2 _ hq_2 => ?_)
  obtain rfl := hq_2
  refine x_if_eq hX 12 dX1_queue_5 (by decide) (fun c_5 => ?_) (fun c_5 => ?_)
  · replace c_5 := xb_f.mp c_5
    refine x_iconstv hX dX1_queue_12 1 (by decide) ?_
    refine x_cvi hX dX1_queue_13 1 rfl (kX1_can l D cx h _ _) gX1_queue_X1_can rfl ⟨rfl, by decide, by decide, by decide +kernel⟩ ⟨rfl, rfl, Nat.le_of_ble_eq_true rfl, Nat.le_of_ble_eq_true rfl, Nat.zero_le _, Nat.zero_le _⟩ rfl rfl (Nat.le_of_ble_eq_true rfl) rfl (fun r_13 _ hq_13 => ?_)
    obtain rfl : r_13 = 0 := hq_13.trans (by decide)
    refine x_if_eq hX 27 dX1_queue_16 (by decide) (fun _ => ?_) (fun c => absurd c (by decide))
    refine x_iconstv hX dX1_queue_27 0 (by decide) ?_
    exact x_asr (congrArg (wM cx h) (by simp only [k4, if_neg c_5])) rfl (hret _ () _ _ (by simp only [k4, if_neg c_5]; try rfl) dX1_queue_28)
  · replace c_5 := xb_t.mp c_5
    refine x_iconstv hX dX1_queue_8 0 (by decide) ?_
    refine x_goto hX 13 dX1_queue_9 (by decide) ?_
    refine x_cvi hX dX1_queue_13 1 rfl (kX1_can l D cx h _ _) gX1_queue_X1_can rfl ⟨rfl, by decide, by decide, by decide +kernel⟩ ⟨rfl, rfl, Nat.le_of_ble_eq_true rfl, Nat.le_of_ble_eq_true rfl, Nat.zero_le _, Nat.zero_le _⟩ rfl rfl (Nat.le_of_ble_eq_true rfl) rfl (fun r_13 _ hq_13 => ?_)
    obtain rfl : r_13 = 1 := hq_13.trans (by decide)
    refine x_if_eq hX 27 dX1_queue_16 (by decide) (fun c => absurd c (by decide)) (fun _ => ?_)
    refine x_aload_n hX dX1_queue_19 0 rfl ?_
    refine x_iload_n hX dX1_queue_20 1 rfl ?_
    refine x_cvi hX dX1_queue_21 1 rfl (kX1_lengthOf l D cx h _ (hM.up rfl) _) gX1_queue_X1_lengthOf rfl ⟨rfl, by decide, by decide, by decide +kernel⟩ ⟨rfl, rfl, Nat.le_of_ble_eq_true rfl, Nat.le_of_ble_eq_true rfl, Nat.zero_le _, Nat.zero_le _⟩ rfl rfl (Nat.le_of_ble_eq_true rfl) rfl (fun r_21 _ hq_21 => ?_)
    obtain rfl := hq_21
    refine x_goto hX 28 dX1_queue_24 (by decide) ?_
    exact x_asr (congrArg (wM cx h) (by simp only [k4, if_pos c_5])) rfl (hret _ () _ _ (by simp only [k4, if_pos c_5]; try rfl) dX1_queue_28)
theorem in_X1_pool : ∀ w ∈ wsX10, w ∈ wsX1_pool := by decide +kernel
set_option maxRecDepth 100000 in
set_option maxHeartbeats 4000000 in
theorem kX1_pool (l : Launch) (D : va_G) (cx : xC) (h : Nat → Nat) (s : xS) {n : Nat} (hM : okM s n) (a : Int32) : xI l yX1_pool wsX1_pool (xR 2 42) D cx [.ref (h 0), .int a] (wM cx h s) (fun _ : Unit => wM cx h (xup s 15 0 (k4 a))) (fun r _ => r = if P4 a then (xup s 15 0 (k4 a)) 3 (ix a) else 0) := by
  refine x_enterI (own := RX1) (by decide) rfl rfl (fun v u hv => ?_) (Nat.le_of_ble_eq_true rfl) (fun X hX hret => ?_)
  · rfl
  have hin := in_X1_pool
  change xV X 2 0 0 (wM cx h s) 0 [(0, .ref (h 0)), (1, .int a)] []
  refine x_aload_n hX dX1_pool_0 0 rfl ?_
  refine x_iload_n hX dX1_pool_1 1 rfl ?_
  refine x_csi hX dX1_pool_2 1 rfl (kX1_isRelay l D cx _) gX1_pool_X1_isRelay rfl ⟨by decide, by decide, by decide +kernel⟩ ⟨rfl, rfl, Nat.le_of_ble_eq_true rfl, Nat.le_of_ble_eq_true rfl, Nat.zero_le _, Nat.zero_le _⟩ (Nat.le_of_ble_eq_true rfl) rfl (fun r_2 _ hq_2 => ?_)
  obtain rfl := hq_2
  refine x_if_eq hX 12 dX1_pool_5 (by decide) (fun c_5 => ?_) (fun c_5 => ?_)
  · replace c_5 := xb_f.mp c_5
    refine x_iconstv hX dX1_pool_12 1 (by decide) ?_
    refine x_cvi hX dX1_pool_13 1 rfl (kX1_can l D cx h _ _) gX1_pool_X1_can rfl ⟨rfl, by decide, by decide, by decide +kernel⟩ ⟨rfl, rfl, Nat.le_of_ble_eq_true rfl, Nat.le_of_ble_eq_true rfl, Nat.zero_le _, Nat.zero_le _⟩ rfl rfl (Nat.le_of_ble_eq_true rfl) rfl (fun r_13 _ hq_13 => ?_)
    obtain rfl : r_13 = 0 := hq_13.trans (by decide)
    refine x_if_eq hX 28 dX1_pool_16 (by decide) (fun _ => ?_) (fun c => absurd c (by decide))
    refine x_iconstv hX dX1_pool_28 0 (by decide) ?_
    exact x_asr (congrArg (wM cx h) (by simp only [k4, if_neg c_5])) rfl (hret _ () _ _ (by simp only [k4, if_neg c_5]; try rfl) dX1_pool_29)
  · replace c_5 := xb_t.mp c_5
    refine x_iconstv hX dX1_pool_8 0 (by decide) ?_
    refine x_goto hX 13 dX1_pool_9 (by decide) ?_
    refine x_cvi hX dX1_pool_13 1 rfl (kX1_can l D cx h _ _) gX1_pool_X1_can rfl ⟨rfl, by decide, by decide, by decide +kernel⟩ ⟨rfl, rfl, Nat.le_of_ble_eq_true rfl, Nat.le_of_ble_eq_true rfl, Nat.zero_le _, Nat.zero_le _⟩ rfl rfl (Nat.le_of_ble_eq_true rfl) rfl (fun r_13 _ hq_13 => ?_)
    obtain rfl : r_13 = 1 := hq_13.trans (by decide)
    refine x_if_eq hX 28 dX1_pool_16 (by decide) (fun c => absurd c (by decide)) (fun _ => ?_)
    refine x_aload_n hX dX1_pool_19 0 rfl ?_
    refine gM3 hX hin (by decide +kernel) dX1_pool_20 ?_
    refine x_iload_n hX dX1_pool_23 1 rfl ?_
    refine lM3 hX dX1_pool_24 (P4_in c_5) rfl ?_
    refine x_goto hX 29 dX1_pool_25 (by decide) ?_
    exact x_asr (congrArg (wM cx h) (by simp only [k4, if_pos c_5])) rfl (hret _ () _ _ (by simp only [k4, if_pos c_5]; try rfl) dX1_pool_29)
theorem in_X1_coins : ∀ w ∈ wsX10, w ∈ wsX1_coins := by decide +kernel
set_option maxRecDepth 100000 in
set_option maxHeartbeats 4000000 in
theorem kX1_coins (l : Launch) (D : va_G) (cx : xC) (h : Nat → Nat) (s : xS) {n : Nat} (hM : okM s n) (a : Int32) : xI l yX1_coins wsX1_coins (xR 3 63) D cx [.ref (h 0), .int a] (wM cx h s) (fun _ : Unit => wM cx h (xup s 15 0 (k8 a))) (fun r _ => r = if P8 a then (xup s 15 0 (k8 a)) 2 (ix a) else 0) := by
  refine x_enterI (own := RX1) (by decide) rfl rfl (fun v u hv => ?_) (Nat.le_of_ble_eq_true rfl) (fun X hX hret => ?_)
  · rfl
  have hin := in_X1_coins
  change xV X 2 0 0 (wM cx h s) 0 [(0, .ref (h 0)), (1, .int a)] []
  refine x_aload_n hX dX1_coins_0 0 rfl ?_
  refine x_iload_n hX dX1_coins_1 1 rfl ?_
  refine x_cvi hX dX1_coins_2 1 rfl (kX1_isKnown l D cx h _ _) gX1_coins_X1_isKnown rfl ⟨rfl, by decide, by decide, by decide +kernel⟩ ⟨rfl, rfl, Nat.le_of_ble_eq_true rfl, Nat.le_of_ble_eq_true rfl, Nat.zero_le _, Nat.zero_le _⟩ rfl rfl (Nat.le_of_ble_eq_true rfl) rfl (fun r_2 _ hq_2 => ?_)
  obtain rfl := hq_2
  refine x_if_eq hX 17 dX1_coins_5 (by decide) (fun c_5 => ?_) (fun c_5 => ?_)
  · replace c_5 := xb_f.mp c_5
    refine x_iconstv hX dX1_coins_17 0 (by decide) ?_
    exact hret _ () _ _ (by simp only [if_neg c_5]; try rfl) dX1_coins_18
  · replace c_5 := xb_t.mp c_5
    refine x_aload_n hX dX1_coins_8 0 rfl ?_
    refine gM2 hX hin (by decide +kernel) dX1_coins_9 ?_
    refine x_iload_n hX dX1_coins_12 1 rfl ?_
    refine lM2 hX dX1_coins_13 (P8_in c_5) rfl ?_
    refine x_goto hX 18 dX1_coins_14 (by decide) ?_
    exact hret _ () _ _ (by simp only [if_pos c_5]; try rfl) dX1_coins_18
theorem in_X1_falseMarks : ∀ w ∈ wsX10, w ∈ wsX1_falseMarks := by decide +kernel
set_option maxRecDepth 100000 in
set_option maxHeartbeats 4000000 in
theorem kX1_falseMarks (l : Launch) (D : va_G) (cx : xC) (h : Nat → Nat) (s : xS) {n : Nat} (hM : okM s n) (a : Int32) : xI l yX1_falseMarks wsX1_falseMarks (xR 3 63) D cx [.ref (h 0), .int a] (wM cx h s) (fun _ : Unit => wM cx h (xup s 15 0 (k8 a))) (fun r _ => r = if P8 a then (xup s 15 0 (k8 a)) 4 (ix a) else 0) := by
  refine x_enterI (own := RX1) (by decide) rfl rfl (fun v u hv => ?_) (Nat.le_of_ble_eq_true rfl) (fun X hX hret => ?_)
  · rfl
  have hin := in_X1_falseMarks
  change xV X 2 0 0 (wM cx h s) 0 [(0, .ref (h 0)), (1, .int a)] []
  refine x_aload_n hX dX1_falseMarks_0 0 rfl ?_
  refine x_iload_n hX dX1_falseMarks_1 1 rfl ?_
  refine x_cvi hX dX1_falseMarks_2 1 rfl (kX1_isKnown l D cx h _ _) gX1_falseMarks_X1_isKnown rfl ⟨rfl, by decide, by decide, by decide +kernel⟩ ⟨rfl, rfl, Nat.le_of_ble_eq_true rfl, Nat.le_of_ble_eq_true rfl, Nat.zero_le _, Nat.zero_le _⟩ rfl rfl (Nat.le_of_ble_eq_true rfl) rfl (fun r_2 _ hq_2 => ?_)
  obtain rfl := hq_2
  refine x_if_eq hX 17 dX1_falseMarks_5 (by decide) (fun c_5 => ?_) (fun c_5 => ?_)
  · replace c_5 := xb_f.mp c_5
    refine x_iconstv hX dX1_falseMarks_17 0 (by decide) ?_
    exact hret _ () _ _ (by simp only [if_neg c_5]; try rfl) dX1_falseMarks_18
  · replace c_5 := xb_t.mp c_5
    refine x_aload_n hX dX1_falseMarks_8 0 rfl ?_
    refine gM4 hX hin (by decide +kernel) dX1_falseMarks_9 ?_
    refine x_iload_n hX dX1_falseMarks_12 1 rfl ?_
    refine lM4 hX dX1_falseMarks_13 (P8_in c_5) rfl ?_
    refine x_goto hX 18 dX1_falseMarks_14 (by decide) ?_
    exact hret _ () _ _ (by simp only [if_pos c_5]; try rfl) dX1_falseMarks_18
theorem in_X1_reputation : ∀ w ∈ wsX10, w ∈ wsX1_reputation := by decide +kernel
set_option maxRecDepth 100000 in
set_option maxHeartbeats 4000000 in
theorem kX1_reputation (l : Launch) (D : va_G) (cx : xC) (h : Nat → Nat) (s : xS) {n : Nat} (hM : okM s n) (a : Int32) : xI l yX1_reputation wsX1_reputation (xR 3 63) D cx [.ref (h 0), .int a] (wM cx h s) (fun _ : Unit => wM cx h (xup s 15 0 (k8 a))) (fun r _ => r = if P8 a then gName (xup s 15 0 (k8 a)) a n else 0) := by
  refine x_enterI (own := RX1) (by decide) rfl rfl (fun v u hv => ?_) (Nat.le_of_ble_eq_true rfl) (fun X hX hret => ?_)
  · rfl
  have hin := in_X1_reputation
  change xV X 2 0 0 (wM cx h s) 0 [(0, .ref (h 0)), (1, .int a)] []
  refine x_aload_n hX dX1_reputation_0 0 rfl ?_
  refine x_iload_n hX dX1_reputation_1 1 rfl ?_
  refine x_cvi hX dX1_reputation_2 1 rfl (kX1_isKnown l D cx h _ _) gX1_reputation_X1_isKnown rfl ⟨rfl, by decide, by decide, by decide +kernel⟩ ⟨rfl, rfl, Nat.le_of_ble_eq_true rfl, Nat.le_of_ble_eq_true rfl, Nat.zero_le _, Nat.zero_le _⟩ rfl rfl (Nat.le_of_ble_eq_true rfl) rfl (fun r_2 _ hq_2 => ?_)
  obtain rfl := hq_2
  refine x_if_eq hX 16 dX1_reputation_5 (by decide) (fun c_5 => ?_) (fun c_5 => ?_)
  · replace c_5 := xb_f.mp c_5
    refine x_iconstv hX dX1_reputation_16 0 (by decide) ?_
    exact hret _ () _ _ (by simp only [if_neg c_5]; try rfl) dX1_reputation_17
  · replace c_5 := xb_t.mp c_5
    refine x_aload_n hX dX1_reputation_8 0 rfl ?_
    refine x_iload_n hX dX1_reputation_9 1 rfl ?_
    refine x_cvi hX dX1_reputation_10 1 rfl (kX1_nameOf l D cx h _ (hM.up rfl) _) gX1_reputation_X1_nameOf rfl ⟨rfl, by decide, by decide, by decide +kernel⟩ ⟨rfl, rfl, Nat.le_of_ble_eq_true rfl, Nat.le_of_ble_eq_true rfl, Nat.zero_le _, Nat.zero_le _⟩ rfl rfl (Nat.le_of_ble_eq_true rfl) rfl (fun r_10 _ hq_10 => ?_)
    obtain rfl := hq_10
    refine x_goto hX 17 dX1_reputation_13 (by decide) ?_
    exact hret _ () _ _ (by simp only [if_pos c_5]; try rfl) dX1_reputation_17
theorem in_X1_reputationAtOnce : ∀ w ∈ wsX10, w ∈ wsX1_reputationAtOnce := by decide +kernel
set_option maxRecDepth 100000 in
set_option maxHeartbeats 4000000 in
theorem kX1_reputationAtOnce (l : Launch) (D : va_G) (cx : xC) (h : Nat → Nat) (s : xS) {n : Nat} (hM : okM s n) (a : Int32) : xI l yX1_reputationAtOnce wsX1_reputationAtOnce (xR 3 63) D cx [.ref (h 0), .int a] (wM cx h s) (fun _ : Unit => wM cx h (xup s 15 0 (k8 a))) (fun r _ => r = if P8 a then gName (xup s 15 0 (k8 a)) a n else 0) := by
  refine x_enterI (own := RX1) (by decide) rfl rfl (fun v u hv => ?_) (Nat.le_of_ble_eq_true rfl) (fun X hX hret => ?_)
  · rfl
  have hin := in_X1_reputationAtOnce
  change xV X 2 0 0 (wM cx h s) 0 [(0, .ref (h 0)), (1, .int a)] []
  refine x_aload_n hX dX1_reputationAtOnce_0 0 rfl ?_
  refine x_iload_n hX dX1_reputationAtOnce_1 1 rfl ?_
  refine x_cvi hX dX1_reputationAtOnce_2 1 rfl (kX1_isKnown l D cx h _ _) gX1_reputationAtOnce_X1_isKnown rfl ⟨rfl, by decide, by decide, by decide +kernel⟩ ⟨rfl, rfl, Nat.le_of_ble_eq_true rfl, Nat.le_of_ble_eq_true rfl, Nat.zero_le _, Nat.zero_le _⟩ rfl rfl (Nat.le_of_ble_eq_true rfl) rfl (fun r_2 _ hq_2 => ?_)
  obtain rfl := hq_2
  refine x_if_eq hX 16 dX1_reputationAtOnce_5 (by decide) (fun c_5 => ?_) (fun c_5 => ?_)
  · replace c_5 := xb_f.mp c_5
    refine x_iconstv hX dX1_reputationAtOnce_16 0 (by decide) ?_
    exact hret _ () _ _ (by simp only [if_neg c_5]; try rfl) dX1_reputationAtOnce_17
  · replace c_5 := xb_t.mp c_5
    refine x_aload_n hX dX1_reputationAtOnce_8 0 rfl ?_
    refine x_iload_n hX dX1_reputationAtOnce_9 1 rfl ?_
    refine x_cvi hX dX1_reputationAtOnce_10 1 rfl (kX1_nameOf l D cx h _ (hM.up rfl) _) gX1_reputationAtOnce_X1_nameOf rfl ⟨rfl, by decide, by decide, by decide +kernel⟩ ⟨rfl, rfl, Nat.le_of_ble_eq_true rfl, Nat.le_of_ble_eq_true rfl, Nat.zero_le _, Nat.zero_le _⟩ rfl rfl (Nat.le_of_ble_eq_true rfl) rfl (fun r_10 _ hq_10 => ?_)
    obtain rfl := hq_10
    refine x_goto hX 17 dX1_reputationAtOnce_13 (by decide) ?_
    exact hret _ () _ _ (by simp only [if_pos c_5]; try rfl) dX1_reputationAtOnce_17
theorem in_X1_leastStake : ∀ w ∈ wsX10, w ∈ wsX1_leastStake := by decide +kernel
set_option maxRecDepth 100000 in
set_option maxHeartbeats 4000000 in
theorem kX1_leastStake (l : Launch) (D : va_G) (cx : xC) (h : Nat → Nat) (s : xS) {n : Nat} (hM : okM s n) (a : Int32) : xI l yX1_leastStake wsX1_leastStake (xR 3 67) D cx [.ref (h 0), .int a] (wM cx h s) (fun _ : Unit => wM cx h (xup s 15 0 (k8 a))) (fun r _ => r = if P8 a then gLeast (xup s 15 0 (k8 a)) n a else 0) := by
  refine x_enterI (own := RX1) (by decide) rfl rfl (fun v u hv => ?_) (Nat.le_of_ble_eq_true rfl) (fun X hX hret => ?_)
  · rfl
  have hin := in_X1_leastStake
  change xV X 2 0 0 (wM cx h s) 0 [(0, .ref (h 0)), (1, .int a)] []
  refine x_aload_n hX dX1_leastStake_0 0 rfl ?_
  refine x_iload_n hX dX1_leastStake_1 1 rfl ?_
  refine x_cvi hX dX1_leastStake_2 1 rfl (kX1_isKnown l D cx h _ _) gX1_leastStake_X1_isKnown rfl ⟨rfl, by decide, by decide, by decide +kernel⟩ ⟨rfl, rfl, Nat.le_of_ble_eq_true rfl, Nat.le_of_ble_eq_true rfl, Nat.zero_le _, Nat.zero_le _⟩ rfl rfl (Nat.le_of_ble_eq_true rfl) rfl (fun r_2 _ hq_2 => ?_)
  obtain rfl := hq_2
  refine x_if_eq hX 16 dX1_leastStake_5 (by decide) (fun c_5 => ?_) (fun c_5 => ?_)
  · replace c_5 := xb_f.mp c_5
    refine x_iconstv hX dX1_leastStake_16 0 (by decide) ?_
    exact hret _ () _ _ (by simp only [if_neg c_5]; try rfl) dX1_leastStake_17
  · replace c_5 := xb_t.mp c_5
    refine x_aload_n hX dX1_leastStake_8 0 rfl ?_
    refine x_iload_n hX dX1_leastStake_9 1 rfl ?_
    refine x_cvi hX dX1_leastStake_10 1 rfl (kX1_least l D cx h _ (hM.up rfl) _) gX1_leastStake_X1_least rfl ⟨rfl, by decide, by decide, by decide +kernel⟩ ⟨rfl, rfl, Nat.le_of_ble_eq_true rfl, Nat.le_of_ble_eq_true rfl, Nat.zero_le _, Nat.zero_le _⟩ rfl rfl (Nat.le_of_ble_eq_true rfl) rfl (fun r_10 _ hq_10 => ?_)
    obtain rfl := hq_10
    refine x_goto hX 17 dX1_leastStake_13 (by decide) ?_
    exact hret _ () _ _ (by simp only [if_pos c_5]; try rfl) dX1_leastStake_17
theorem in_X1_escrow : ∀ w ∈ wsX10, w ∈ wsX1_escrow := by decide +kernel
set_option maxRecDepth 100000 in
set_option maxHeartbeats 4000000 in
theorem kX1_escrow (l : Launch) (D : va_G) (cx : xC) (h : Nat → Nat) (s : xS) {n : Nat} (hM : okM s n) : xI l yX1_escrow wsX1_escrow (xR 0 0) D cx [.ref (h 0)] (wM cx h s) (fun _ : Unit => wM cx h (xup s 15 0 0)) (fun r _ => r = gEsc (xup s 15 0 0) n) := by
  refine x_enterI (own := RX1) (by decide) rfl rfl (fun v u hv => ?_) (Nat.le_of_ble_eq_true rfl) (fun X hX hret => ?_)
  · rfl
  have hin := in_X1_escrow
  change xV X 3 0 0 (wM cx h s) 0 [(0, .ref (h 0))] []
  have loop : ∀ (m k : Nat), k + m = n → xV X 3 0 0 (wM cx h (xup s 15 0 0)) 9 [(0, .ref (h 0)), (1, .int (gEsc (xup s 15 0 0) k)), (2, .int (nI k))] [] := by
    intro m
    induction m with
    | zero =>
      intro k hk
      obtain rfl : n = k := hk.symm
      refine x_iload_n hX dX1_escrow_9 2 rfl ?_
      refine x_aload_n hX dX1_escrow_10 0 rfl ?_
      refine gM5 hX hin (by decide +kernel) dX1_escrow_11 ?_
      refine x_icmp_ge hX 55 dX1_escrow_14 (by decide) (fun c_14 => ?_) (fun c_14 => ?_)
      · refine x_iload_n hX dX1_escrow_55 1 rfl ?_
        exact hret _ () _ _ (rfl) dX1_escrow_56
      · exact absurd (lp_yes hM.2.1 hM.lt rfl) c_14
    | succ m ih =>
      intro k hk
      have hkn : k < n := by omega
      have e9 : (nI k).toNatClampNeg = k := nI_clamp (by have := hM.lt; omega)
      refine x_iload_n hX dX1_escrow_9 2 rfl ?_
      refine x_aload_n hX dX1_escrow_10 0 rfl ?_
      refine gM5 hX hin (by decide +kernel) dX1_escrow_11 ?_
      refine x_icmp_ge hX 55 dX1_escrow_14 (by decide) (fun c_14 => ?_) (fun c_14 => ?_)
      · exact absurd c_14 (lp_no hM.2.1 hM.lt hkn)
      · refine x_iload_n hX dX1_escrow_17 1 rfl ?_
        refine x_aload_n hX dX1_escrow_18 0 rfl ?_
        refine gM9 hX hin (by decide +kernel) dX1_escrow_19 ?_
        refine x_iload_n hX dX1_escrow_22 2 rfl ?_
        refine lM9 hX dX1_escrow_23 (okM_in hM hkn) e9 ?_
        refine x_if_eq hX 37 dX1_escrow_24 (by decide) (fun c_24 => ?_) (fun c_24 => ?_)
        · refine x_aload_n hX dX1_escrow_37 0 rfl ?_
          refine gM8 hX hin (by decide +kernel) dX1_escrow_38 ?_
          refine x_iload_n hX dX1_escrow_41 2 rfl ?_
          refine lM8 hX dX1_escrow_42 (okM_in hM hkn) e9 ?_
          refine x_goto hX 47 dX1_escrow_43 (by decide) ?_
          refine x_iadd hX dX1_escrow_47 ?_
          refine x_istore_n hX (lv' := [_, _, _]) dX1_escrow_48 1 rfl (by decide) rfl rfl ?_
          refine x_iinc hX (lv' := [_, _, _]) dX1_escrow_49 2 rfl (nI_i1 k) (by decide) rfl rfl ?_
          refine x_goto hX 9 dX1_escrow_52 (by decide) ?_
          exact x_as rfl (by simp only [gEsc, if_neg c_14, if_pos c_24]) (ih (k + 1) (by omega))
        · refine x_aload_n hX dX1_escrow_27 0 rfl ?_
          refine gM9 hX hin (by decide +kernel) dX1_escrow_28 ?_
          refine x_iload_n hX dX1_escrow_31 2 rfl ?_
          refine lM9 hX dX1_escrow_32 (okM_in hM hkn) e9 ?_
          refine x_iconstv hX dX1_escrow_33 1 (by decide) ?_
          refine x_icmp_ne hX 46 dX1_escrow_34 (by decide) (fun c_34 => ?_) (fun c_34 => ?_)
          · refine x_iconstv hX dX1_escrow_46 0 (by decide) ?_
            refine x_iadd hX dX1_escrow_47 ?_
            refine x_istore_n hX (lv' := [_, _, _]) dX1_escrow_48 1 rfl (by decide) rfl rfl ?_
            refine x_iinc hX (lv' := [_, _, _]) dX1_escrow_49 2 rfl (nI_i1 k) (by decide) rfl rfl ?_
            refine x_goto hX 9 dX1_escrow_52 (by decide) ?_
            exact x_as rfl (by simp only [gEsc, if_neg c_14, if_neg c_24, if_neg c_34]) (ih (k + 1) (by omega))
          · refine x_aload_n hX dX1_escrow_37 0 rfl ?_
            refine gM8 hX hin (by decide +kernel) dX1_escrow_38 ?_
            refine x_iload_n hX dX1_escrow_41 2 rfl ?_
            refine lM8 hX dX1_escrow_42 (okM_in hM hkn) e9 ?_
            refine x_goto hX 47 dX1_escrow_43 (by decide) ?_
            refine x_iadd hX dX1_escrow_47 ?_
            refine x_istore_n hX (lv' := [_, _, _]) dX1_escrow_48 1 rfl (by decide) rfl rfl ?_
            refine x_iinc hX (lv' := [_, _, _]) dX1_escrow_49 2 rfl (nI_i1 k) (by decide) rfl rfl ?_
            refine x_goto hX 9 dX1_escrow_52 (by decide) ?_
            exact x_as rfl (by simp only [gEsc, if_neg c_14, if_neg c_24, if_pos c_34]) (ih (k + 1) (by omega))
  refine x_aload_n hX dX1_escrow_0 0 rfl ?_
  refine x_iconstv hX dX1_escrow_1 0 (by decide) ?_
  refine pM15 hX hin (by decide +kernel) dX1_escrow_2 ?_
  refine x_iconstv hX dX1_escrow_5 0 (by decide) ?_
  refine x_istore_n hX (lv' := [_, _]) dX1_escrow_6 1 rfl (by decide) rfl rfl ?_
  refine x_iconstv hX dX1_escrow_7 0 (by decide) ?_
  refine x_istore_n hX (lv' := [_, _, _]) dX1_escrow_8 2 rfl (by decide) rfl rfl ?_
  exact x_as rfl (by simp [gEsc, nI_0]) (loop n 0 (by omega))
theorem in_X1_setRoute : ∀ w ∈ wsX10, w ∈ wsX1_setRoute := by decide +kernel
set_option maxRecDepth 100000 in
set_option maxHeartbeats 4000000 in
theorem kX1_setRoute (l : Launch) (D : va_G) (cx : xC) (h : Nat → Nat) (s : xS) (a b c : Int32) : xI l yX1_setRoute wsX1_setRoute (xR 2 42) D cx [.ref (h 0), .int a, .int b, .int c] (wM cx h s) (fun _ : Unit => wM cx h (qRoute s a b c)) (fun r _ => r = wRoute s a b c) := by
  refine x_enterI (own := RX1) (by decide) rfl rfl (fun v u hv => ?_) (Nat.le_of_ble_eq_true rfl) (fun X hX hret => ?_)
  · rfl
  have hin := in_X1_setRoute
  change xV X 6 0 0 (wM cx h s) 0 [(0, .ref (h 0)), (1, .int a), (2, .int b), (3, .int c)] []
  refine x_iload_n hX dX1_setRoute_0 1 rfl ?_
  refine x_csi hX dX1_setRoute_1 1 rfl (kX1_isRelay l D cx _) gX1_setRoute_X1_isRelay rfl ⟨by decide, by decide, by decide +kernel⟩ ⟨rfl, rfl, Nat.le_of_ble_eq_true rfl, Nat.le_of_ble_eq_true rfl, Nat.zero_le _, Nat.zero_le _⟩ (Nat.le_of_ble_eq_true rfl) rfl (fun r_1 _ hq_1 => ?_)
  obtain rfl := hq_1
  refine x_if_eq hX 25 dX1_setRoute_4 (by decide) (fun c_4 => ?_) (fun c_4 => ?_)
  · replace c_4 := xb_f.mp c_4
    refine x_iconstv hX dX1_setRoute_25 0 (by decide) ?_
    refine x_istore hX (lv' := [_, _, _, _, _]) dX1_setRoute_26  (by decide) rfl rfl ?_
    refine x_aload_n hX dX1_setRoute_28 0 rfl ?_
    refine x_iload hX dX1_setRoute_29 4 rfl ?_
    refine x_if_ne hX 38 dX1_setRoute_31 (by decide) (fun c => absurd c (by decide)) (fun _ => ?_)
    refine x_iconstv hX dX1_setRoute_34 1 (by decide) ?_
    refine x_goto hX 53 dX1_setRoute_35 (by decide) ?_
    refine x_cvi hX dX1_setRoute_53 1 rfl (kX1_can l D cx h _ _) gX1_setRoute_X1_can rfl ⟨rfl, by decide, by decide, by decide +kernel⟩ ⟨rfl, rfl, Nat.le_of_ble_eq_true rfl, Nat.le_of_ble_eq_true rfl, Nat.zero_le _, Nat.zero_le _⟩ rfl rfl (Nat.le_of_ble_eq_true rfl) rfl (fun r_53 _ hq_53 => ?_)
    obtain rfl : r_53 = 0 := hq_53.trans (by decide)
    refine x_if_ne hX 61 dX1_setRoute_56 (by decide) (fun c => absurd c (by decide)) (fun _ => ?_)
    refine x_iconstv hX dX1_setRoute_59 0 (by decide) ?_
    exact x_asr (congrArg (wM cx h) (by simp only [qRoute, kRoute, if_neg c_4, z00, z10, z20, z30, if_true, if_false]; try rfl)) rfl (hret _ () _ _ (by simp only [wRoute, kRoute, if_neg c_4, z00, z10, z20, z30, if_true, if_false]; try rfl) dX1_setRoute_60)
  · replace c_4 := xb_t.mp c_4
    refine x_iload_n hX dX1_setRoute_7 2 rfl ?_
    refine x_csi hX dX1_setRoute_8 1 rfl (kX1_isRelay l D cx _) gX1_setRoute_X1_isRelay rfl ⟨by decide, by decide, by decide +kernel⟩ ⟨rfl, rfl, Nat.le_of_ble_eq_true rfl, Nat.le_of_ble_eq_true rfl, Nat.zero_le _, Nat.zero_le _⟩ (Nat.le_of_ble_eq_true rfl) rfl (fun r_8 _ hq_8 => ?_)
    obtain rfl := hq_8
    refine x_if_eq hX 25 dX1_setRoute_11 (by decide) (fun c_11 => ?_) (fun c_11 => ?_)
    · replace c_11 := xb_f.mp c_11
      refine x_iconstv hX dX1_setRoute_25 0 (by decide) ?_
      refine x_istore hX (lv' := [_, _, _, _, _]) dX1_setRoute_26  (by decide) rfl rfl ?_
      refine x_aload_n hX dX1_setRoute_28 0 rfl ?_
      refine x_iload hX dX1_setRoute_29 4 rfl ?_
      refine x_if_ne hX 38 dX1_setRoute_31 (by decide) (fun c => absurd c (by decide)) (fun _ => ?_)
      refine x_iconstv hX dX1_setRoute_34 1 (by decide) ?_
      refine x_goto hX 53 dX1_setRoute_35 (by decide) ?_
      refine x_cvi hX dX1_setRoute_53 1 rfl (kX1_can l D cx h _ _) gX1_setRoute_X1_can rfl ⟨rfl, by decide, by decide, by decide +kernel⟩ ⟨rfl, rfl, Nat.le_of_ble_eq_true rfl, Nat.le_of_ble_eq_true rfl, Nat.zero_le _, Nat.zero_le _⟩ rfl rfl (Nat.le_of_ble_eq_true rfl) rfl (fun r_53 _ hq_53 => ?_)
      obtain rfl : r_53 = 0 := hq_53.trans (by decide)
      refine x_if_ne hX 61 dX1_setRoute_56 (by decide) (fun c => absurd c (by decide)) (fun _ => ?_)
      refine x_iconstv hX dX1_setRoute_59 0 (by decide) ?_
      exact x_asr (congrArg (wM cx h) (by simp only [qRoute, kRoute, if_pos c_4, if_neg c_11, z00, z10, z20, z30, if_true, if_false]; try rfl)) rfl (hret _ () _ _ (by simp only [wRoute, kRoute, if_pos c_4, if_neg c_11, z00, z10, z20, z30, if_true, if_false]; try rfl) dX1_setRoute_60)
    · replace c_11 := xb_t.mp c_11
      refine x_iload_n hX dX1_setRoute_14 3 rfl ?_
      refine x_csi hX dX1_setRoute_15 1 rfl (kX1_isRelay l D cx _) gX1_setRoute_X1_isRelay rfl ⟨by decide, by decide, by decide +kernel⟩ ⟨rfl, rfl, Nat.le_of_ble_eq_true rfl, Nat.le_of_ble_eq_true rfl, Nat.zero_le _, Nat.zero_le _⟩ (Nat.le_of_ble_eq_true rfl) rfl (fun r_15 _ hq_15 => ?_)
      obtain rfl := hq_15
      refine x_if_eq hX 25 dX1_setRoute_18 (by decide) (fun c_18 => ?_) (fun c_18 => ?_)
      · replace c_18 := xb_f.mp c_18
        refine x_iconstv hX dX1_setRoute_25 0 (by decide) ?_
        refine x_istore hX (lv' := [_, _, _, _, _]) dX1_setRoute_26  (by decide) rfl rfl ?_
        refine x_aload_n hX dX1_setRoute_28 0 rfl ?_
        refine x_iload hX dX1_setRoute_29 4 rfl ?_
        refine x_if_ne hX 38 dX1_setRoute_31 (by decide) (fun c => absurd c (by decide)) (fun _ => ?_)
        refine x_iconstv hX dX1_setRoute_34 1 (by decide) ?_
        refine x_goto hX 53 dX1_setRoute_35 (by decide) ?_
        refine x_cvi hX dX1_setRoute_53 1 rfl (kX1_can l D cx h _ _) gX1_setRoute_X1_can rfl ⟨rfl, by decide, by decide, by decide +kernel⟩ ⟨rfl, rfl, Nat.le_of_ble_eq_true rfl, Nat.le_of_ble_eq_true rfl, Nat.zero_le _, Nat.zero_le _⟩ rfl rfl (Nat.le_of_ble_eq_true rfl) rfl (fun r_53 _ hq_53 => ?_)
        obtain rfl : r_53 = 0 := hq_53.trans (by decide)
        refine x_if_ne hX 61 dX1_setRoute_56 (by decide) (fun c => absurd c (by decide)) (fun _ => ?_)
        refine x_iconstv hX dX1_setRoute_59 0 (by decide) ?_
        exact x_asr (congrArg (wM cx h) (by simp only [qRoute, kRoute, if_pos c_4, if_pos c_11, if_neg c_18, z00, z10, z20, z30, if_true, if_false]; try rfl)) rfl (hret _ () _ _ (by simp only [wRoute, kRoute, if_pos c_4, if_pos c_11, if_neg c_18, z00, z10, z20, z30, if_true, if_false]; try rfl) dX1_setRoute_60)
      · replace c_18 := xb_t.mp c_18
        refine x_iconstv hX dX1_setRoute_21 1 (by decide) ?_
        refine x_goto hX 26 dX1_setRoute_22 (by decide) ?_
        refine x_istore hX (lv' := [_, _, _, _, _]) dX1_setRoute_26  (by decide) rfl rfl ?_
        refine x_aload_n hX dX1_setRoute_28 0 rfl ?_
        refine x_iload hX dX1_setRoute_29 4 rfl ?_
        refine x_if_ne hX 38 dX1_setRoute_31 (by decide) (fun _ => ?_) (fun c => absurd c (by decide))
        refine x_iload_n hX dX1_setRoute_38 2 rfl ?_
        refine x_iload_n hX dX1_setRoute_39 1 rfl ?_
        refine x_icmp_eq hX 48 dX1_setRoute_40 (by decide) (fun c_40 => ?_) (fun c_40 => ?_)
        · refine x_iconstv hX dX1_setRoute_48 2 (by decide) ?_
          refine x_goto hX 53 dX1_setRoute_49 (by decide) ?_
          refine x_cvi hX dX1_setRoute_53 1 rfl (kX1_can l D cx h _ _) gX1_setRoute_X1_can rfl ⟨rfl, by decide, by decide, by decide +kernel⟩ ⟨rfl, rfl, Nat.le_of_ble_eq_true rfl, Nat.le_of_ble_eq_true rfl, Nat.zero_le _, Nat.zero_le _⟩ rfl rfl (Nat.le_of_ble_eq_true rfl) rfl (fun r_53 _ hq_53 => ?_)
          obtain rfl : r_53 = 0 := hq_53.trans (by decide)
          refine x_if_ne hX 61 dX1_setRoute_56 (by decide) (fun c => absurd c (by decide)) (fun _ => ?_)
          refine x_iconstv hX dX1_setRoute_59 0 (by decide) ?_
          exact x_asr (congrArg (wM cx h) (by simp only [qRoute, kRoute, if_pos c_4, if_pos c_11, if_pos c_18, if_pos c_40, z00, z10, z20, z30, if_true, if_false]; try rfl)) rfl (hret _ () _ _ (by simp only [wRoute, kRoute, if_pos c_4, if_pos c_11, if_pos c_18, if_pos c_40, z00, z10, z20, z30, if_true, if_false]; try rfl) dX1_setRoute_60)
        · refine x_iload_n hX dX1_setRoute_43 3 rfl ?_
          refine x_iload_n hX dX1_setRoute_44 1 rfl ?_
          refine x_icmp_ne hX 52 dX1_setRoute_45 (by decide) (fun c_45 => ?_) (fun c_45 => ?_)
          · refine x_iconstv hX dX1_setRoute_52 0 (by decide) ?_
            refine x_cvi hX dX1_setRoute_53 1 rfl (kX1_can l D cx h _ _) gX1_setRoute_X1_can rfl ⟨rfl, by decide, by decide, by decide +kernel⟩ ⟨rfl, rfl, Nat.le_of_ble_eq_true rfl, Nat.le_of_ble_eq_true rfl, Nat.zero_le _, Nat.zero_le _⟩ rfl rfl (Nat.le_of_ble_eq_true rfl) rfl (fun r_53 _ hq_53 => ?_)
            obtain rfl : r_53 = 1 := hq_53.trans (by decide)
            refine x_if_ne hX 61 dX1_setRoute_56 (by decide) (fun _ => ?_) (fun c => absurd c (by decide))
            refine x_aload_n hX dX1_setRoute_61 0 rfl ?_
            refine gM1 hX hin (by decide +kernel) dX1_setRoute_62 ?_
            refine x_iconstv hX dX1_setRoute_65 4 (by decide) ?_
            refine x_iload_n hX dX1_setRoute_66 1 rfl ?_
            refine x_imul hX dX1_setRoute_67 ?_
            refine x_iload_n hX dX1_setRoute_68 2 rfl ?_
            refine x_iadd hX dX1_setRoute_69 ?_
            refine lM1 hX dX1_setRoute_70 (P4_in16m c_4 c_11) rfl ?_
            refine x_istore hX (lv' := [_, _, _, _, _, _]) dX1_setRoute_71  (by decide) rfl rfl ?_
            refine x_aload_n hX dX1_setRoute_73 0 rfl ?_
            refine gM1 hX hin (by decide +kernel) dX1_setRoute_74 ?_
            refine x_iconstv hX dX1_setRoute_77 4 (by decide) ?_
            refine x_iload_n hX dX1_setRoute_78 1 rfl ?_
            refine x_imul hX dX1_setRoute_79 ?_
            refine x_iload_n hX dX1_setRoute_80 2 rfl ?_
            refine x_iadd hX dX1_setRoute_81 ?_
            refine x_iload_n hX dX1_setRoute_82 3 rfl ?_
            refine sM1 hX dX1_setRoute_83 (P4_in16m c_4 c_11) rfl ?_
            refine x_iload hX dX1_setRoute_84 5 rfl ?_
            exact x_asr (congrArg (wM cx h) (by simp only [qRoute, kRoute, if_pos c_4, if_pos c_11, if_pos c_18, if_neg c_40, if_neg c_45, z00, z10, z20, z30, if_true, if_false]; try rfl)) rfl (hret _ () _ _ (by simp only [wRoute, kRoute, if_pos c_4, if_pos c_11, if_pos c_18, if_neg c_40, if_neg c_45, z00, z10, z20, z30, if_true, if_false]; try rfl) dX1_setRoute_86)
          · refine x_iconstv hX dX1_setRoute_48 2 (by decide) ?_
            refine x_goto hX 53 dX1_setRoute_49 (by decide) ?_
            refine x_cvi hX dX1_setRoute_53 1 rfl (kX1_can l D cx h _ _) gX1_setRoute_X1_can rfl ⟨rfl, by decide, by decide, by decide +kernel⟩ ⟨rfl, rfl, Nat.le_of_ble_eq_true rfl, Nat.le_of_ble_eq_true rfl, Nat.zero_le _, Nat.zero_le _⟩ rfl rfl (Nat.le_of_ble_eq_true rfl) rfl (fun r_53 _ hq_53 => ?_)
            obtain rfl : r_53 = 0 := hq_53.trans (by decide)
            refine x_if_ne hX 61 dX1_setRoute_56 (by decide) (fun c => absurd c (by decide)) (fun _ => ?_)
            refine x_iconstv hX dX1_setRoute_59 0 (by decide) ?_
            exact x_asr (congrArg (wM cx h) (by simp only [qRoute, kRoute, if_pos c_4, if_pos c_11, if_pos c_18, if_neg c_40, if_pos c_45, z00, z10, z20, z30, if_true, if_false]; try rfl)) rfl (hret _ () _ _ (by simp only [wRoute, kRoute, if_pos c_4, if_pos c_11, if_pos c_18, if_neg c_40, if_pos c_45, z00, z10, z20, z30, if_true, if_false]; try rfl) dX1_setRoute_60)
theorem in_X1_steps : ∀ w ∈ wsX10, w ∈ wsX1_steps := by decide +kernel
set_option maxRecDepth 100000 in
set_option maxHeartbeats 4000000 in
theorem kX1_steps (l : Launch) (D : va_G) (cx : xC) (h : Nat → Nat) (s : xS) {n : Nat} (hM : okM s n) (a b : Int32) : xI l yX1_steps wsX1_steps (xR 2 46) D cx [.ref (h 0), .int a, .int b] (wM cx h s) (fun _ : Unit => wM cx h (xup s 15 0 (kTwo4 a b))) (fun r _ => r = wSteps s a b) := by
  refine x_enterI (own := RX1) (by decide) rfl rfl (fun v u hv => ?_) (Nat.le_of_ble_eq_true rfl) (fun X hX hret => ?_)
  · rfl
  have hin := in_X1_steps
  change xV X 3 0 0 (wM cx h s) 0 [(0, .ref (h 0)), (1, .int a), (2, .int b)] []
  refine x_aload_n hX dX1_steps_0 0 rfl ?_
  refine x_iload_n hX dX1_steps_1 1 rfl ?_
  refine x_csi hX dX1_steps_2 1 rfl (kX1_isRelay l D cx _) gX1_steps_X1_isRelay rfl ⟨by decide, by decide, by decide +kernel⟩ ⟨rfl, rfl, Nat.le_of_ble_eq_true rfl, Nat.le_of_ble_eq_true rfl, Nat.zero_le _, Nat.zero_le _⟩ (Nat.le_of_ble_eq_true rfl) rfl (fun r_2 _ hq_2 => ?_)
  obtain rfl := hq_2
  refine x_if_eq hX 19 dX1_steps_5 (by decide) (fun c_5 => ?_) (fun c_5 => ?_)
  · replace c_5 := xb_f.mp c_5
    refine x_iconstv hX dX1_steps_19 1 (by decide) ?_
    refine x_cvi hX dX1_steps_20 1 rfl (kX1_can l D cx h _ _) gX1_steps_X1_can rfl ⟨rfl, by decide, by decide, by decide +kernel⟩ ⟨rfl, rfl, Nat.le_of_ble_eq_true rfl, Nat.le_of_ble_eq_true rfl, Nat.zero_le _, Nat.zero_le _⟩ rfl rfl (Nat.le_of_ble_eq_true rfl) rfl (fun r_20 _ hq_20 => ?_)
    obtain rfl : r_20 = 0 := hq_20.trans (by decide)
    refine x_if_eq hX 35 dX1_steps_23 (by decide) (fun _ => ?_) (fun c => absurd c (by decide))
    refine x_iconstv hX dX1_steps_35 0 (by decide) ?_
    exact x_asr (congrArg (wM cx h) (by simp only [kTwo4, if_neg c_5, z00, z10, z20, z30, if_true, if_false]; try rfl)) rfl (hret _ () _ _ (by simp only [wSteps, kTwo4, if_neg c_5, z00, z10, z20, z30, if_true, if_false]; try rfl) dX1_steps_36)
  · replace c_5 := xb_t.mp c_5
    refine x_iload_n hX dX1_steps_8 2 rfl ?_
    refine x_csi hX dX1_steps_9 1 rfl (kX1_isRelay l D cx _) gX1_steps_X1_isRelay rfl ⟨by decide, by decide, by decide +kernel⟩ ⟨rfl, rfl, Nat.le_of_ble_eq_true rfl, Nat.le_of_ble_eq_true rfl, Nat.zero_le _, Nat.zero_le _⟩ (Nat.le_of_ble_eq_true rfl) rfl (fun r_9 _ hq_9 => ?_)
    obtain rfl := hq_9
    refine x_if_eq hX 19 dX1_steps_12 (by decide) (fun c_12 => ?_) (fun c_12 => ?_)
    · replace c_12 := xb_f.mp c_12
      refine x_iconstv hX dX1_steps_19 1 (by decide) ?_
      refine x_cvi hX dX1_steps_20 1 rfl (kX1_can l D cx h _ _) gX1_steps_X1_can rfl ⟨rfl, by decide, by decide, by decide +kernel⟩ ⟨rfl, rfl, Nat.le_of_ble_eq_true rfl, Nat.le_of_ble_eq_true rfl, Nat.zero_le _, Nat.zero_le _⟩ rfl rfl (Nat.le_of_ble_eq_true rfl) rfl (fun r_20 _ hq_20 => ?_)
      obtain rfl : r_20 = 0 := hq_20.trans (by decide)
      refine x_if_eq hX 35 dX1_steps_23 (by decide) (fun _ => ?_) (fun c => absurd c (by decide))
      refine x_iconstv hX dX1_steps_35 0 (by decide) ?_
      exact x_asr (congrArg (wM cx h) (by simp only [kTwo4, if_pos c_5, if_neg c_12, z00, z10, z20, z30, if_true, if_false]; try rfl)) rfl (hret _ () _ _ (by simp only [wSteps, kTwo4, if_pos c_5, if_neg c_12, z00, z10, z20, z30, if_true, if_false]; try rfl) dX1_steps_36)
    · replace c_12 := xb_t.mp c_12
      refine x_iconstv hX dX1_steps_15 0 (by decide) ?_
      refine x_goto hX 20 dX1_steps_16 (by decide) ?_
      refine x_cvi hX dX1_steps_20 1 rfl (kX1_can l D cx h _ _) gX1_steps_X1_can rfl ⟨rfl, by decide, by decide, by decide +kernel⟩ ⟨rfl, rfl, Nat.le_of_ble_eq_true rfl, Nat.le_of_ble_eq_true rfl, Nat.zero_le _, Nat.zero_le _⟩ rfl rfl (Nat.le_of_ble_eq_true rfl) rfl (fun r_20 _ hq_20 => ?_)
      obtain rfl : r_20 = 1 := hq_20.trans (by decide)
      refine x_if_eq hX 35 dX1_steps_23 (by decide) (fun c => absurd c (by decide)) (fun _ => ?_)
      refine x_aload_n hX dX1_steps_26 0 rfl ?_
      refine x_iload_n hX dX1_steps_27 1 rfl ?_
      refine x_iload_n hX dX1_steps_28 2 rfl ?_
      refine x_cvi hX dX1_steps_29 2 rfl (kX1_way l D cx h _ (hM.up rfl) _ _ c_5 c_12) gX1_steps_X1_way rfl ⟨rfl, by decide, by decide, by decide +kernel⟩ ⟨rfl, rfl, Nat.le_of_ble_eq_true rfl, Nat.le_of_ble_eq_true rfl, Nat.zero_le _, Nat.zero_le _⟩ rfl rfl (Nat.le_of_ble_eq_true rfl) rfl (fun r_29 _ hq_29 => ?_)
      obtain rfl := hq_29
      refine x_goto hX 36 dX1_steps_32 (by decide) ?_
      exact x_asr (congrArg (wM cx h) (by simp only [kTwo4, if_pos c_5, if_pos c_12, z00, z10, z20, z30, if_true, if_false]; try rfl)) rfl (hret _ () _ _ (by simp only [wSteps, kTwo4, if_pos c_5, if_pos c_12, z00, z10, z20, z30, if_true, if_false]; try rfl) dX1_steps_36)
theorem in_X1_send : ∀ w ∈ wsX10, w ∈ wsX1_send := by decide +kernel
set_option maxRecDepth 100000 in
set_option maxHeartbeats 4000000 in
theorem kX1_send (l : Launch) (D : va_G) (cx : xC) (h : Nat → Nat) (s : xS) {n : Nat} (hM : okM s n) (a b c : Int32) : xI l yX1_send wsX1_send (xR 3 67) D cx [.ref (h 0), .int a, .int b, .int c] (wM cx h s) (fun _ : Unit => wM cx h (qSend s n a b c)) (fun r _ => r = wSend s n a b c) := by
  refine x_enterI (own := RX1) (by decide) rfl rfl (fun v u hv => ?_) (Nat.le_of_ble_eq_true rfl) (fun X hX hret => ?_)
  · rfl
  have hin := in_X1_send
  change xV X 7 0 0 (wM cx h s) 0 [(0, .ref (h 0)), (1, .int a), (2, .int b), (3, .int c)] []
  refine x_iload_n hX dX1_send_0 1 rfl ?_
  refine x_csi hX dX1_send_1 1 rfl (kX1_isPerson l D cx _) gX1_send_X1_isPerson rfl ⟨by decide, by decide, by decide +kernel⟩ ⟨rfl, rfl, Nat.le_of_ble_eq_true rfl, Nat.le_of_ble_eq_true rfl, Nat.zero_le _, Nat.zero_le _⟩ (Nat.le_of_ble_eq_true rfl) rfl (fun r_1 _ hq_1 => ?_)
  obtain rfl := hq_1
  refine x_if_eq hX 18 dX1_send_4 (by decide) (fun c_4 => ?_) (fun c_4 => ?_)
  · replace c_4 := xb_f.mp c_4
    refine x_iconstv hX dX1_send_18 0 (by decide) ?_
    refine x_istore hX (lv' := [_, _, _, _, _]) dX1_send_19  (by decide) rfl rfl ?_
    refine x_iload_n hX dX1_send_21 1 rfl ?_
    refine x_iload_n hX dX1_send_22 2 rfl ?_
    refine x_icmp_eq hX 40 dX1_send_23 (by decide) (fun c_23 => ?_) (fun c_23 => ?_)
    · refine x_iconstv hX dX1_send_40 0 (by decide) ?_
      refine x_istore hX (lv' := [_, _, _, _, _, _]) dX1_send_41  (by decide) rfl rfl ?_
      refine x_iload hX dX1_send_43 4 rfl ?_
      refine x_if_eq hX 85 dX1_send_45 (by decide) (fun _ => ?_) (fun c => absurd c (by decide))
      refine x_iconstv hX dX1_send_85 0 (by decide) ?_
      refine x_istore hX (lv' := [_, _, _, _, _, _, _]) dX1_send_86  (by decide) rfl rfl ?_
      refine x_aload_n hX dX1_send_88 0 rfl ?_
      refine x_iload hX dX1_send_89 4 rfl ?_
      refine x_if_ne hX 98 dX1_send_91 (by decide) (fun c => absurd c (by decide)) (fun _ => ?_)
      refine x_iconstv hX dX1_send_94 1 (by decide) ?_
      refine x_goto hX 117 dX1_send_95 (by decide) ?_
      refine x_cvi hX dX1_send_117 1 rfl (kX1_can l D cx h _ _) gX1_send_X1_can rfl ⟨rfl, by decide, by decide, by decide +kernel⟩ ⟨rfl, rfl, Nat.le_of_ble_eq_true rfl, Nat.le_of_ble_eq_true rfl, Nat.zero_le _, Nat.zero_le _⟩ rfl rfl (Nat.le_of_ble_eq_true rfl) rfl (fun r_117 _ hq_117 => ?_)
      obtain rfl : r_117 = 0 := hq_117.trans (by decide)
      refine x_if_ne hX 125 dX1_send_120 (by decide) (fun c => absurd c (by decide)) (fun _ => ?_)
      refine x_iconstv hX dX1_send_123 0 (by decide) ?_
      exact x_asr (congrArg (wM cx h) (by simp only [qSend, jSend, if_neg c_4, if_pos c_23, z00, z10, z20, z30, if_true, if_false]; try rfl)) rfl (hret _ () _ _ (by simp only [wSend, jSend, if_neg c_4, if_pos c_23, z00, z10, z20, z30, if_true, if_false]; try rfl) dX1_send_124)
    · refine x_iload_n hX dX1_send_26 3 rfl ?_
      refine x_iconstv hX dX1_send_27 0 (by decide) ?_
      refine x_bipushv hX dX1_send_28 20 (by decide) ?_
      refine x_csi hX dX1_send_30 3 rfl (kX1_isIn l D cx _ _ _) gX1_send_X1_isIn rfl ⟨by decide, by decide, by decide +kernel⟩ ⟨rfl, rfl, Nat.le_of_ble_eq_true rfl, Nat.le_of_ble_eq_true rfl, Nat.zero_le _, Nat.zero_le _⟩ (Nat.le_of_ble_eq_true rfl) rfl (fun r_30 _ hq_30 => ?_)
      obtain rfl := hq_30
      refine x_if_eq hX 40 dX1_send_33 (by decide) (fun c_33 => ?_) (fun c_33 => ?_)
      · replace c_33 := xb_f.mp c_33
        refine x_iconstv hX dX1_send_40 0 (by decide) ?_
        refine x_istore hX (lv' := [_, _, _, _, _, _]) dX1_send_41  (by decide) rfl rfl ?_
        refine x_iload hX dX1_send_43 4 rfl ?_
        refine x_if_eq hX 85 dX1_send_45 (by decide) (fun _ => ?_) (fun c => absurd c (by decide))
        refine x_iconstv hX dX1_send_85 0 (by decide) ?_
        refine x_istore hX (lv' := [_, _, _, _, _, _, _]) dX1_send_86  (by decide) rfl rfl ?_
        refine x_aload_n hX dX1_send_88 0 rfl ?_
        refine x_iload hX dX1_send_89 4 rfl ?_
        refine x_if_ne hX 98 dX1_send_91 (by decide) (fun c => absurd c (by decide)) (fun _ => ?_)
        refine x_iconstv hX dX1_send_94 1 (by decide) ?_
        refine x_goto hX 117 dX1_send_95 (by decide) ?_
        refine x_cvi hX dX1_send_117 1 rfl (kX1_can l D cx h _ _) gX1_send_X1_can rfl ⟨rfl, by decide, by decide, by decide +kernel⟩ ⟨rfl, rfl, Nat.le_of_ble_eq_true rfl, Nat.le_of_ble_eq_true rfl, Nat.zero_le _, Nat.zero_le _⟩ rfl rfl (Nat.le_of_ble_eq_true rfl) rfl (fun r_117 _ hq_117 => ?_)
        obtain rfl : r_117 = 0 := hq_117.trans (by decide)
        refine x_if_ne hX 125 dX1_send_120 (by decide) (fun c => absurd c (by decide)) (fun _ => ?_)
        refine x_iconstv hX dX1_send_123 0 (by decide) ?_
        exact x_asr (congrArg (wM cx h) (by simp only [qSend, jSend, if_neg c_4, if_neg c_23, if_neg c_33, z00, z10, z20, z30, if_true, if_false]; try rfl)) rfl (hret _ () _ _ (by simp only [wSend, jSend, if_neg c_4, if_neg c_23, if_neg c_33, z00, z10, z20, z30, if_true, if_false]; try rfl) dX1_send_124)
      · replace c_33 := xb_t.mp c_33
        refine x_iconstv hX dX1_send_36 1 (by decide) ?_
        refine x_goto hX 41 dX1_send_37 (by decide) ?_
        refine x_istore hX (lv' := [_, _, _, _, _, _]) dX1_send_41  (by decide) rfl rfl ?_
        refine x_iload hX dX1_send_43 4 rfl ?_
        refine x_if_eq hX 85 dX1_send_45 (by decide) (fun _ => ?_) (fun c => absurd c (by decide))
        refine x_iconstv hX dX1_send_85 0 (by decide) ?_
        refine x_istore hX (lv' := [_, _, _, _, _, _, _]) dX1_send_86  (by decide) rfl rfl ?_
        refine x_aload_n hX dX1_send_88 0 rfl ?_
        refine x_iload hX dX1_send_89 4 rfl ?_
        refine x_if_ne hX 98 dX1_send_91 (by decide) (fun c => absurd c (by decide)) (fun _ => ?_)
        refine x_iconstv hX dX1_send_94 1 (by decide) ?_
        refine x_goto hX 117 dX1_send_95 (by decide) ?_
        refine x_cvi hX dX1_send_117 1 rfl (kX1_can l D cx h _ _) gX1_send_X1_can rfl ⟨rfl, by decide, by decide, by decide +kernel⟩ ⟨rfl, rfl, Nat.le_of_ble_eq_true rfl, Nat.le_of_ble_eq_true rfl, Nat.zero_le _, Nat.zero_le _⟩ rfl rfl (Nat.le_of_ble_eq_true rfl) rfl (fun r_117 _ hq_117 => ?_)
        obtain rfl : r_117 = 0 := hq_117.trans (by decide)
        refine x_if_ne hX 125 dX1_send_120 (by decide) (fun c => absurd c (by decide)) (fun _ => ?_)
        refine x_iconstv hX dX1_send_123 0 (by decide) ?_
        exact x_asr (congrArg (wM cx h) (by simp only [qSend, jSend, if_neg c_4, if_neg c_23, if_pos c_33, z00, z10, z20, z30, if_true, if_false]; try rfl)) rfl (hret _ () _ _ (by simp only [wSend, jSend, if_neg c_4, if_neg c_23, if_pos c_33, z00, z10, z20, z30, if_true, if_false]; try rfl) dX1_send_124)
  · replace c_4 := xb_t.mp c_4
    refine x_iload_n hX dX1_send_7 2 rfl ?_
    refine x_csi hX dX1_send_8 1 rfl (kX1_isPerson l D cx _) gX1_send_X1_isPerson rfl ⟨by decide, by decide, by decide +kernel⟩ ⟨rfl, rfl, Nat.le_of_ble_eq_true rfl, Nat.le_of_ble_eq_true rfl, Nat.zero_le _, Nat.zero_le _⟩ (Nat.le_of_ble_eq_true rfl) rfl (fun r_8 _ hq_8 => ?_)
    obtain rfl := hq_8
    refine x_if_eq hX 18 dX1_send_11 (by decide) (fun c_11 => ?_) (fun c_11 => ?_)
    · replace c_11 := xb_f.mp c_11
      refine x_iconstv hX dX1_send_18 0 (by decide) ?_
      refine x_istore hX (lv' := [_, _, _, _, _]) dX1_send_19  (by decide) rfl rfl ?_
      refine x_iload_n hX dX1_send_21 1 rfl ?_
      refine x_iload_n hX dX1_send_22 2 rfl ?_
      refine x_icmp_eq hX 40 dX1_send_23 (by decide) (fun c_23 => ?_) (fun c_23 => ?_)
      · refine x_iconstv hX dX1_send_40 0 (by decide) ?_
        refine x_istore hX (lv' := [_, _, _, _, _, _]) dX1_send_41  (by decide) rfl rfl ?_
        refine x_iload hX dX1_send_43 4 rfl ?_
        refine x_if_eq hX 85 dX1_send_45 (by decide) (fun _ => ?_) (fun c => absurd c (by decide))
        refine x_iconstv hX dX1_send_85 0 (by decide) ?_
        refine x_istore hX (lv' := [_, _, _, _, _, _, _]) dX1_send_86  (by decide) rfl rfl ?_
        refine x_aload_n hX dX1_send_88 0 rfl ?_
        refine x_iload hX dX1_send_89 4 rfl ?_
        refine x_if_ne hX 98 dX1_send_91 (by decide) (fun c => absurd c (by decide)) (fun _ => ?_)
        refine x_iconstv hX dX1_send_94 1 (by decide) ?_
        refine x_goto hX 117 dX1_send_95 (by decide) ?_
        refine x_cvi hX dX1_send_117 1 rfl (kX1_can l D cx h _ _) gX1_send_X1_can rfl ⟨rfl, by decide, by decide, by decide +kernel⟩ ⟨rfl, rfl, Nat.le_of_ble_eq_true rfl, Nat.le_of_ble_eq_true rfl, Nat.zero_le _, Nat.zero_le _⟩ rfl rfl (Nat.le_of_ble_eq_true rfl) rfl (fun r_117 _ hq_117 => ?_)
        obtain rfl : r_117 = 0 := hq_117.trans (by decide)
        refine x_if_ne hX 125 dX1_send_120 (by decide) (fun c => absurd c (by decide)) (fun _ => ?_)
        refine x_iconstv hX dX1_send_123 0 (by decide) ?_
        exact x_asr (congrArg (wM cx h) (by simp only [qSend, jSend, if_pos c_4, if_neg c_11, if_pos c_23, z00, z10, z20, z30, if_true, if_false]; try rfl)) rfl (hret _ () _ _ (by simp only [wSend, jSend, if_pos c_4, if_neg c_11, if_pos c_23, z00, z10, z20, z30, if_true, if_false]; try rfl) dX1_send_124)
      · refine x_iload_n hX dX1_send_26 3 rfl ?_
        refine x_iconstv hX dX1_send_27 0 (by decide) ?_
        refine x_bipushv hX dX1_send_28 20 (by decide) ?_
        refine x_csi hX dX1_send_30 3 rfl (kX1_isIn l D cx _ _ _) gX1_send_X1_isIn rfl ⟨by decide, by decide, by decide +kernel⟩ ⟨rfl, rfl, Nat.le_of_ble_eq_true rfl, Nat.le_of_ble_eq_true rfl, Nat.zero_le _, Nat.zero_le _⟩ (Nat.le_of_ble_eq_true rfl) rfl (fun r_30 _ hq_30 => ?_)
        obtain rfl := hq_30
        refine x_if_eq hX 40 dX1_send_33 (by decide) (fun c_33 => ?_) (fun c_33 => ?_)
        · replace c_33 := xb_f.mp c_33
          refine x_iconstv hX dX1_send_40 0 (by decide) ?_
          refine x_istore hX (lv' := [_, _, _, _, _, _]) dX1_send_41  (by decide) rfl rfl ?_
          refine x_iload hX dX1_send_43 4 rfl ?_
          refine x_if_eq hX 85 dX1_send_45 (by decide) (fun _ => ?_) (fun c => absurd c (by decide))
          refine x_iconstv hX dX1_send_85 0 (by decide) ?_
          refine x_istore hX (lv' := [_, _, _, _, _, _, _]) dX1_send_86  (by decide) rfl rfl ?_
          refine x_aload_n hX dX1_send_88 0 rfl ?_
          refine x_iload hX dX1_send_89 4 rfl ?_
          refine x_if_ne hX 98 dX1_send_91 (by decide) (fun c => absurd c (by decide)) (fun _ => ?_)
          refine x_iconstv hX dX1_send_94 1 (by decide) ?_
          refine x_goto hX 117 dX1_send_95 (by decide) ?_
          refine x_cvi hX dX1_send_117 1 rfl (kX1_can l D cx h _ _) gX1_send_X1_can rfl ⟨rfl, by decide, by decide, by decide +kernel⟩ ⟨rfl, rfl, Nat.le_of_ble_eq_true rfl, Nat.le_of_ble_eq_true rfl, Nat.zero_le _, Nat.zero_le _⟩ rfl rfl (Nat.le_of_ble_eq_true rfl) rfl (fun r_117 _ hq_117 => ?_)
          obtain rfl : r_117 = 0 := hq_117.trans (by decide)
          refine x_if_ne hX 125 dX1_send_120 (by decide) (fun c => absurd c (by decide)) (fun _ => ?_)
          refine x_iconstv hX dX1_send_123 0 (by decide) ?_
          exact x_asr (congrArg (wM cx h) (by simp only [qSend, jSend, if_pos c_4, if_neg c_11, if_neg c_23, if_neg c_33, z00, z10, z20, z30, if_true, if_false]; try rfl)) rfl (hret _ () _ _ (by simp only [wSend, jSend, if_pos c_4, if_neg c_11, if_neg c_23, if_neg c_33, z00, z10, z20, z30, if_true, if_false]; try rfl) dX1_send_124)
        · replace c_33 := xb_t.mp c_33
          refine x_iconstv hX dX1_send_36 1 (by decide) ?_
          refine x_goto hX 41 dX1_send_37 (by decide) ?_
          refine x_istore hX (lv' := [_, _, _, _, _, _]) dX1_send_41  (by decide) rfl rfl ?_
          refine x_iload hX dX1_send_43 4 rfl ?_
          refine x_if_eq hX 85 dX1_send_45 (by decide) (fun _ => ?_) (fun c => absurd c (by decide))
          refine x_iconstv hX dX1_send_85 0 (by decide) ?_
          refine x_istore hX (lv' := [_, _, _, _, _, _, _]) dX1_send_86  (by decide) rfl rfl ?_
          refine x_aload_n hX dX1_send_88 0 rfl ?_
          refine x_iload hX dX1_send_89 4 rfl ?_
          refine x_if_ne hX 98 dX1_send_91 (by decide) (fun c => absurd c (by decide)) (fun _ => ?_)
          refine x_iconstv hX dX1_send_94 1 (by decide) ?_
          refine x_goto hX 117 dX1_send_95 (by decide) ?_
          refine x_cvi hX dX1_send_117 1 rfl (kX1_can l D cx h _ _) gX1_send_X1_can rfl ⟨rfl, by decide, by decide, by decide +kernel⟩ ⟨rfl, rfl, Nat.le_of_ble_eq_true rfl, Nat.le_of_ble_eq_true rfl, Nat.zero_le _, Nat.zero_le _⟩ rfl rfl (Nat.le_of_ble_eq_true rfl) rfl (fun r_117 _ hq_117 => ?_)
          obtain rfl : r_117 = 0 := hq_117.trans (by decide)
          refine x_if_ne hX 125 dX1_send_120 (by decide) (fun c => absurd c (by decide)) (fun _ => ?_)
          refine x_iconstv hX dX1_send_123 0 (by decide) ?_
          exact x_asr (congrArg (wM cx h) (by simp only [qSend, jSend, if_pos c_4, if_neg c_11, if_neg c_23, if_pos c_33, z00, z10, z20, z30, if_true, if_false]; try rfl)) rfl (hret _ () _ _ (by simp only [wSend, jSend, if_pos c_4, if_neg c_11, if_neg c_23, if_pos c_33, z00, z10, z20, z30, if_true, if_false]; try rfl) dX1_send_124)
    · replace c_11 := xb_t.mp c_11
      refine x_iconstv hX dX1_send_14 1 (by decide) ?_
      refine x_goto hX 19 dX1_send_15 (by decide) ?_
      refine x_istore hX (lv' := [_, _, _, _, _]) dX1_send_19  (by decide) rfl rfl ?_
      refine x_iload_n hX dX1_send_21 1 rfl ?_
      refine x_iload_n hX dX1_send_22 2 rfl ?_
      refine x_icmp_eq hX 40 dX1_send_23 (by decide) (fun c_23 => ?_) (fun c_23 => ?_)
      · refine x_iconstv hX dX1_send_40 0 (by decide) ?_
        refine x_istore hX (lv' := [_, _, _, _, _, _]) dX1_send_41  (by decide) rfl rfl ?_
        refine x_iload hX dX1_send_43 4 rfl ?_
        refine x_if_eq hX 85 dX1_send_45 (by decide) (fun c => absurd c (by decide)) (fun _ => ?_)
        refine x_iload hX dX1_send_48 5 rfl ?_
        refine x_if_eq hX 85 dX1_send_50 (by decide) (fun _ => ?_) (fun c => absurd c (by decide))
        refine x_iconstv hX dX1_send_85 0 (by decide) ?_
        refine x_istore hX (lv' := [_, _, _, _, _, _, _]) dX1_send_86  (by decide) rfl rfl ?_
        refine x_aload_n hX dX1_send_88 0 rfl ?_
        refine x_iload hX dX1_send_89 4 rfl ?_
        refine x_if_ne hX 98 dX1_send_91 (by decide) (fun _ => ?_) (fun c => absurd c (by decide))
        refine x_iload hX dX1_send_98 5 rfl ?_
        refine x_if_ne hX 107 dX1_send_100 (by decide) (fun c => absurd c (by decide)) (fun _ => ?_)
        refine x_iconstv hX dX1_send_103 2 (by decide) ?_
        refine x_goto hX 117 dX1_send_104 (by decide) ?_
        refine x_cvi hX dX1_send_117 1 rfl (kX1_can l D cx h _ _) gX1_send_X1_can rfl ⟨rfl, by decide, by decide, by decide +kernel⟩ ⟨rfl, rfl, Nat.le_of_ble_eq_true rfl, Nat.le_of_ble_eq_true rfl, Nat.zero_le _, Nat.zero_le _⟩ rfl rfl (Nat.le_of_ble_eq_true rfl) rfl (fun r_117 _ hq_117 => ?_)
        obtain rfl : r_117 = 0 := hq_117.trans (by decide)
        refine x_if_ne hX 125 dX1_send_120 (by decide) (fun c => absurd c (by decide)) (fun _ => ?_)
        refine x_iconstv hX dX1_send_123 0 (by decide) ?_
        exact x_asr (congrArg (wM cx h) (by simp only [qSend, jSend, if_pos c_4, if_pos c_11, if_pos c_23, z00, z10, z20, z30, if_true, if_false]; try rfl)) rfl (hret _ () _ _ (by simp only [wSend, jSend, if_pos c_4, if_pos c_11, if_pos c_23, z00, z10, z20, z30, if_true, if_false]; try rfl) dX1_send_124)
      · refine x_iload_n hX dX1_send_26 3 rfl ?_
        refine x_iconstv hX dX1_send_27 0 (by decide) ?_
        refine x_bipushv hX dX1_send_28 20 (by decide) ?_
        refine x_csi hX dX1_send_30 3 rfl (kX1_isIn l D cx _ _ _) gX1_send_X1_isIn rfl ⟨by decide, by decide, by decide +kernel⟩ ⟨rfl, rfl, Nat.le_of_ble_eq_true rfl, Nat.le_of_ble_eq_true rfl, Nat.zero_le _, Nat.zero_le _⟩ (Nat.le_of_ble_eq_true rfl) rfl (fun r_30 _ hq_30 => ?_)
        obtain rfl := hq_30
        refine x_if_eq hX 40 dX1_send_33 (by decide) (fun c_33 => ?_) (fun c_33 => ?_)
        · replace c_33 := xb_f.mp c_33
          refine x_iconstv hX dX1_send_40 0 (by decide) ?_
          refine x_istore hX (lv' := [_, _, _, _, _, _]) dX1_send_41  (by decide) rfl rfl ?_
          refine x_iload hX dX1_send_43 4 rfl ?_
          refine x_if_eq hX 85 dX1_send_45 (by decide) (fun c => absurd c (by decide)) (fun _ => ?_)
          refine x_iload hX dX1_send_48 5 rfl ?_
          refine x_if_eq hX 85 dX1_send_50 (by decide) (fun _ => ?_) (fun c => absurd c (by decide))
          refine x_iconstv hX dX1_send_85 0 (by decide) ?_
          refine x_istore hX (lv' := [_, _, _, _, _, _, _]) dX1_send_86  (by decide) rfl rfl ?_
          refine x_aload_n hX dX1_send_88 0 rfl ?_
          refine x_iload hX dX1_send_89 4 rfl ?_
          refine x_if_ne hX 98 dX1_send_91 (by decide) (fun _ => ?_) (fun c => absurd c (by decide))
          refine x_iload hX dX1_send_98 5 rfl ?_
          refine x_if_ne hX 107 dX1_send_100 (by decide) (fun c => absurd c (by decide)) (fun _ => ?_)
          refine x_iconstv hX dX1_send_103 2 (by decide) ?_
          refine x_goto hX 117 dX1_send_104 (by decide) ?_
          refine x_cvi hX dX1_send_117 1 rfl (kX1_can l D cx h _ _) gX1_send_X1_can rfl ⟨rfl, by decide, by decide, by decide +kernel⟩ ⟨rfl, rfl, Nat.le_of_ble_eq_true rfl, Nat.le_of_ble_eq_true rfl, Nat.zero_le _, Nat.zero_le _⟩ rfl rfl (Nat.le_of_ble_eq_true rfl) rfl (fun r_117 _ hq_117 => ?_)
          obtain rfl : r_117 = 0 := hq_117.trans (by decide)
          refine x_if_ne hX 125 dX1_send_120 (by decide) (fun c => absurd c (by decide)) (fun _ => ?_)
          refine x_iconstv hX dX1_send_123 0 (by decide) ?_
          exact x_asr (congrArg (wM cx h) (by simp only [qSend, jSend, if_pos c_4, if_pos c_11, if_neg c_23, if_neg c_33, z00, z10, z20, z30, if_true, if_false]; try rfl)) rfl (hret _ () _ _ (by simp only [wSend, jSend, if_pos c_4, if_pos c_11, if_neg c_23, if_neg c_33, z00, z10, z20, z30, if_true, if_false]; try rfl) dX1_send_124)
        · replace c_33 := xb_t.mp c_33
          refine x_iconstv hX dX1_send_36 1 (by decide) ?_
          refine x_goto hX 41 dX1_send_37 (by decide) ?_
          refine x_istore hX (lv' := [_, _, _, _, _, _]) dX1_send_41  (by decide) rfl rfl ?_
          refine x_iload hX dX1_send_43 4 rfl ?_
          refine x_if_eq hX 85 dX1_send_45 (by decide) (fun c => absurd c (by decide)) (fun _ => ?_)
          refine x_iload hX dX1_send_48 5 rfl ?_
          refine x_if_eq hX 85 dX1_send_50 (by decide) (fun c => absurd c (by decide)) (fun _ => ?_)
          refine x_iload_n hX dX1_send_53 3 rfl ?_
          refine x_aload_n hX dX1_send_54 0 rfl ?_
          refine x_iload_n hX dX1_send_55 1 rfl ?_
          refine x_cvi hX dX1_send_56 1 rfl (kX1_least l D cx h _ hM _) gX1_send_X1_least rfl ⟨rfl, by decide, by decide, by decide +kernel⟩ ⟨rfl, rfl, Nat.le_of_ble_eq_true rfl, Nat.le_of_ble_eq_true rfl, Nat.zero_le _, Nat.zero_le _⟩ rfl rfl (Nat.le_of_ble_eq_true rfl) rfl (fun r_56 _ hq_56 => ?_)
          obtain rfl := hq_56
          refine x_icmp_lt hX 85 dX1_send_59 (by decide) (fun c_59 => ?_) (fun c_59 => ?_)
          · refine x_iconstv hX dX1_send_85 0 (by decide) ?_
            refine x_istore hX (lv' := [_, _, _, _, _, _, _]) dX1_send_86  (by decide) rfl rfl ?_
            refine x_aload_n hX dX1_send_88 0 rfl ?_
            refine x_iload hX dX1_send_89 4 rfl ?_
            refine x_if_ne hX 98 dX1_send_91 (by decide) (fun _ => ?_) (fun c => absurd c (by decide))
            refine x_iload hX dX1_send_98 5 rfl ?_
            refine x_if_ne hX 107 dX1_send_100 (by decide) (fun _ => ?_) (fun c => absurd c (by decide))
            refine x_iload hX dX1_send_107 6 rfl ?_
            refine x_if_eq hX 116 dX1_send_109 (by decide) (fun _ => ?_) (fun c => absurd c (by decide))
            refine x_iconstv hX dX1_send_116 3 (by decide) ?_
            refine x_cvi hX dX1_send_117 1 rfl (kX1_can l D cx h _ _) gX1_send_X1_can rfl ⟨rfl, by decide, by decide, by decide +kernel⟩ ⟨rfl, rfl, Nat.le_of_ble_eq_true rfl, Nat.le_of_ble_eq_true rfl, Nat.zero_le _, Nat.zero_le _⟩ rfl rfl (Nat.le_of_ble_eq_true rfl) rfl (fun r_117 _ hq_117 => ?_)
            obtain rfl : r_117 = 0 := hq_117.trans (by decide)
            refine x_if_ne hX 125 dX1_send_120 (by decide) (fun c => absurd c (by decide)) (fun _ => ?_)
            refine x_iconstv hX dX1_send_123 0 (by decide) ?_
            exact x_asr (congrArg (wM cx h) (by simp only [qSend, jSend, if_pos c_4, if_pos c_11, if_neg c_23, if_pos c_33, if_pos c_59, z00, z10, z20, z30, if_true, if_false]; try rfl)) rfl (hret _ () _ _ (by simp only [wSend, jSend, if_pos c_4, if_pos c_11, if_neg c_23, if_pos c_33, if_pos c_59, z00, z10, z20, z30, if_true, if_false]; try rfl) dX1_send_124)
          · refine x_aload_n hX dX1_send_62 0 rfl ?_
            refine gM2 hX hin (by decide +kernel) dX1_send_63 ?_
            refine x_iload_n hX dX1_send_66 1 rfl ?_
            refine lM2 hX dX1_send_67 (P8_in c_4) rfl ?_
            refine x_iload_n hX dX1_send_68 3 rfl ?_
            refine x_icmp_lt hX 85 dX1_send_69 (by decide) (fun c_69 => ?_) (fun c_69 => ?_)
            · refine x_iconstv hX dX1_send_85 0 (by decide) ?_
              refine x_istore hX (lv' := [_, _, _, _, _, _, _]) dX1_send_86  (by decide) rfl rfl ?_
              refine x_aload_n hX dX1_send_88 0 rfl ?_
              refine x_iload hX dX1_send_89 4 rfl ?_
              refine x_if_ne hX 98 dX1_send_91 (by decide) (fun _ => ?_) (fun c => absurd c (by decide))
              refine x_iload hX dX1_send_98 5 rfl ?_
              refine x_if_ne hX 107 dX1_send_100 (by decide) (fun _ => ?_) (fun c => absurd c (by decide))
              refine x_iload hX dX1_send_107 6 rfl ?_
              refine x_if_eq hX 116 dX1_send_109 (by decide) (fun _ => ?_) (fun c => absurd c (by decide))
              refine x_iconstv hX dX1_send_116 3 (by decide) ?_
              refine x_cvi hX dX1_send_117 1 rfl (kX1_can l D cx h _ _) gX1_send_X1_can rfl ⟨rfl, by decide, by decide, by decide +kernel⟩ ⟨rfl, rfl, Nat.le_of_ble_eq_true rfl, Nat.le_of_ble_eq_true rfl, Nat.zero_le _, Nat.zero_le _⟩ rfl rfl (Nat.le_of_ble_eq_true rfl) rfl (fun r_117 _ hq_117 => ?_)
              obtain rfl : r_117 = 0 := hq_117.trans (by decide)
              refine x_if_ne hX 125 dX1_send_120 (by decide) (fun c => absurd c (by decide)) (fun _ => ?_)
              refine x_iconstv hX dX1_send_123 0 (by decide) ?_
              exact x_asr (congrArg (wM cx h) (by simp only [qSend, jSend, if_pos c_4, if_pos c_11, if_neg c_23, if_pos c_33, if_neg c_59, if_pos c_69, z00, z10, z20, z30, if_true, if_false]; try rfl)) rfl (hret _ () _ _ (by simp only [wSend, jSend, if_pos c_4, if_pos c_11, if_neg c_23, if_pos c_33, if_neg c_59, if_pos c_69, z00, z10, z20, z30, if_true, if_false]; try rfl) dX1_send_124)
            · refine x_aload_n hX dX1_send_72 0 rfl ?_
              refine gM5 hX hin (by decide +kernel) dX1_send_73 ?_
              refine x_bipushv hX dX1_send_76 60 (by decide) ?_
              refine x_icmp_ge hX 85 dX1_send_78 (by decide) (fun c_78 => ?_) (fun c_78 => ?_)
              · refine x_iconstv hX dX1_send_85 0 (by decide) ?_
                refine x_istore hX (lv' := [_, _, _, _, _, _, _]) dX1_send_86  (by decide) rfl rfl ?_
                refine x_aload_n hX dX1_send_88 0 rfl ?_
                refine x_iload hX dX1_send_89 4 rfl ?_
                refine x_if_ne hX 98 dX1_send_91 (by decide) (fun _ => ?_) (fun c => absurd c (by decide))
                refine x_iload hX dX1_send_98 5 rfl ?_
                refine x_if_ne hX 107 dX1_send_100 (by decide) (fun _ => ?_) (fun c => absurd c (by decide))
                refine x_iload hX dX1_send_107 6 rfl ?_
                refine x_if_eq hX 116 dX1_send_109 (by decide) (fun _ => ?_) (fun c => absurd c (by decide))
                refine x_iconstv hX dX1_send_116 3 (by decide) ?_
                refine x_cvi hX dX1_send_117 1 rfl (kX1_can l D cx h _ _) gX1_send_X1_can rfl ⟨rfl, by decide, by decide, by decide +kernel⟩ ⟨rfl, rfl, Nat.le_of_ble_eq_true rfl, Nat.le_of_ble_eq_true rfl, Nat.zero_le _, Nat.zero_le _⟩ rfl rfl (Nat.le_of_ble_eq_true rfl) rfl (fun r_117 _ hq_117 => ?_)
                obtain rfl : r_117 = 0 := hq_117.trans (by decide)
                refine x_if_ne hX 125 dX1_send_120 (by decide) (fun c => absurd c (by decide)) (fun _ => ?_)
                refine x_iconstv hX dX1_send_123 0 (by decide) ?_
                exact x_asr (congrArg (wM cx h) (by simp only [qSend, jSend, if_pos c_4, if_pos c_11, if_neg c_23, if_pos c_33, if_neg c_59, if_neg c_69, if_pos c_78, z00, z10, z20, z30, if_true, if_false]; try rfl)) rfl (hret _ () _ _ (by simp only [wSend, jSend, if_pos c_4, if_pos c_11, if_neg c_23, if_pos c_33, if_neg c_59, if_neg c_69, if_pos c_78, z00, z10, z20, z30, if_true, if_false]; try rfl) dX1_send_124)
              · refine x_iconstv hX dX1_send_81 1 (by decide) ?_
                refine x_goto hX 86 dX1_send_82 (by decide) ?_
                refine x_istore hX (lv' := [_, _, _, _, _, _, _]) dX1_send_86  (by decide) rfl rfl ?_
                refine x_aload_n hX dX1_send_88 0 rfl ?_
                refine x_iload hX dX1_send_89 4 rfl ?_
                refine x_if_ne hX 98 dX1_send_91 (by decide) (fun _ => ?_) (fun c => absurd c (by decide))
                refine x_iload hX dX1_send_98 5 rfl ?_
                refine x_if_ne hX 107 dX1_send_100 (by decide) (fun _ => ?_) (fun c => absurd c (by decide))
                refine x_iload hX dX1_send_107 6 rfl ?_
                refine x_if_eq hX 116 dX1_send_109 (by decide) (fun c => absurd c (by decide)) (fun _ => ?_)
                refine x_iconstv hX dX1_send_112 0 (by decide) ?_
                refine x_goto hX 117 dX1_send_113 (by decide) ?_
                refine x_cvi hX dX1_send_117 1 rfl (kX1_can l D cx h _ _) gX1_send_X1_can rfl ⟨rfl, by decide, by decide, by decide +kernel⟩ ⟨rfl, rfl, Nat.le_of_ble_eq_true rfl, Nat.le_of_ble_eq_true rfl, Nat.zero_le _, Nat.zero_le _⟩ rfl rfl (Nat.le_of_ble_eq_true rfl) rfl (fun r_117 _ hq_117 => ?_)
                obtain rfl : r_117 = 1 := hq_117.trans (by decide)
                refine x_if_ne hX 125 dX1_send_120 (by decide) (fun _ => ?_) (fun c => absurd c (by decide))
                refine x_aload_n hX dX1_send_125 0 rfl ?_
                refine gM6 hX hin (by decide +kernel) dX1_send_126 ?_
                refine x_aload_n hX dX1_send_129 0 rfl ?_
                refine gM5 hX hin (by decide +kernel) dX1_send_130 ?_
                refine x_iload_n hX dX1_send_133 1 rfl ?_
                refine sM6 hX dX1_send_134 (hM.new c_78).1 rfl ?_
                refine x_aload_n hX dX1_send_135 0 rfl ?_
                refine gM7 hX hin (by decide +kernel) dX1_send_136 ?_
                refine x_aload_n hX dX1_send_139 0 rfl ?_
                refine gM5 hX hin (by decide +kernel) dX1_send_140 ?_
                refine x_iload_n hX dX1_send_143 2 rfl ?_
                refine sM7 hX dX1_send_144 (hM.new c_78).1 rfl ?_
                refine x_aload_n hX dX1_send_145 0 rfl ?_
                refine gM8 hX hin (by decide +kernel) dX1_send_146 ?_
                refine x_aload_n hX dX1_send_149 0 rfl ?_
                refine gM5 hX hin (by decide +kernel) dX1_send_150 ?_
                refine x_iload_n hX dX1_send_153 3 rfl ?_
                refine sM8 hX dX1_send_154 (hM.new c_78).1 rfl ?_
                refine x_aload_n hX dX1_send_155 0 rfl ?_
                refine gM10 hX hin (by decide +kernel) dX1_send_156 ?_
                refine x_aload_n hX dX1_send_159 0 rfl ?_
                refine gM5 hX hin (by decide +kernel) dX1_send_160 ?_
                refine x_iload_n hX dX1_send_163 1 rfl ?_
                refine x_iconstv hX dX1_send_164 4 (by decide) ?_
                refine x_irem hX dX1_send_165 (by decide) ?_
                refine sM10 hX dX1_send_166 (hM.new c_78).1 rfl ?_
                refine x_aload_n hX dX1_send_167 0 rfl ?_
                refine gM11 hX hin (by decide +kernel) dX1_send_168 ?_
                refine x_aload_n hX dX1_send_171 0 rfl ?_
                refine gM5 hX hin (by decide +kernel) dX1_send_172 ?_
                refine x_iconstv hX dX1_send_175 1 (by decide) ?_
                refine x_iload_n hX dX1_send_176 1 rfl ?_
                refine x_iconstv hX dX1_send_177 4 (by decide) ?_
                refine x_irem hX dX1_send_178 (by decide) ?_
                refine x_ishl hX dX1_send_179 ?_
                refine sM11 hX dX1_send_180 (hM.new c_78).1 rfl ?_
                refine x_aload_n hX dX1_send_181 0 rfl ?_
                refine gM2 hX hin (by decide +kernel) dX1_send_182 ?_
                refine x_iload_n hX dX1_send_185 1 rfl ?_
                refine x_dup2 hX dX1_send_186 rfl rfl ?_
                refine lM2 hX dX1_send_187 (P8_in c_4) rfl ?_
                refine x_iload_n hX dX1_send_188 3 rfl ?_
                refine x_isub hX dX1_send_189 ?_
                refine sM2 hX dX1_send_190 (P8_in c_4) rfl ?_
                refine x_aload_n hX dX1_send_191 0 rfl ?_
                refine x_dup hX dX1_send_192 rfl ?_
                refine gM5 hX hin (by decide +kernel) dX1_send_193 ?_
                refine x_iconstv hX dX1_send_196 1 (by decide) ?_
                refine x_iadd hX dX1_send_197 ?_
                refine pM5 hX hin (by decide +kernel) dX1_send_198 ?_
                refine x_aload_n hX dX1_send_201 0 rfl ?_
                refine gM5 hX hin (by decide +kernel) dX1_send_202 ?_
                refine x_iconstv hX dX1_send_205 1 (by decide) ?_
                refine x_isub hX dX1_send_206 ?_
                exact x_asr (congrArg (wM cx h) (by simp only [qSend, jSend, if_pos c_4, if_pos c_11, if_neg c_23, if_pos c_33, if_neg c_59, if_neg c_69, if_neg c_78, z00, z10, z20, z30, if_true, if_false]; try rfl)) rfl (hret _ () _ _ (by simp only [wSend, jSend, if_pos c_4, if_pos c_11, if_neg c_23, if_pos c_33, if_neg c_59, if_neg c_69, if_neg c_78, z00, z10, z20, z30, if_true, if_false]; try rfl) dX1_send_207)
theorem in_X1_answer : ∀ w ∈ wsX10, w ∈ wsX1_answer := by decide +kernel
set_option maxRecDepth 100000 in
set_option maxHeartbeats 4000000 in
theorem kX1_answer (l : Launch) (D : va_G) (cx : xC) (h : Nat → Nat) (s : xS) {n : Nat} (hM : okM s n) (a : Int32) : xI l yX1_answer wsX1_answer (xR 2 45) D cx [.ref (h 0), .int a] (wM cx h s) (fun _ : Unit => wM cx h (qAns s a)) (fun r _ => r = wAns s n a) := by
  refine x_enterI (own := RX1) (by decide) rfl rfl (fun v u hv => ?_) (Nat.le_of_ble_eq_true rfl) (fun X hX hret => ?_)
  · rfl
  have hin := in_X1_answer
  change xV X 2 0 0 (wM cx h s) 0 [(0, .ref (h 0)), (1, .int a)] []
  refine x_aload_n hX dX1_answer_0 0 rfl ?_
  refine x_aload_n hX dX1_answer_1 0 rfl ?_
  refine x_iload_n hX dX1_answer_2 1 rfl ?_
  refine x_cvi hX dX1_answer_3 1 rfl (kX1_isLetter l D cx h _ hM _) gX1_answer_X1_isLetter rfl ⟨rfl, by decide, by decide, by decide +kernel⟩ ⟨rfl, rfl, Nat.le_of_ble_eq_true rfl, Nat.le_of_ble_eq_true rfl, Nat.zero_le _, Nat.zero_le _⟩ rfl rfl (Nat.le_of_ble_eq_true rfl) rfl (fun r_3 _ hq_3 => ?_)
  obtain rfl := hq_3
  refine x_if_ne hX 13 dX1_answer_6 (by decide) (fun c_6 => ?_) (fun c_6 => ?_)
  · replace c_6 := xb_t.mp c_6
    refine x_aload_n hX dX1_answer_13 0 rfl ?_
    refine gM9 hX hin (by decide +kernel) dX1_answer_14 ?_
    refine x_iload_n hX dX1_answer_17 1 rfl ?_
    refine lM9 hX dX1_answer_18 (PM_in hM c_6) rfl ?_
    refine x_iconstv hX dX1_answer_19 1 (by decide) ?_
    refine x_icmp_ne hX 27 dX1_answer_20 (by decide) (fun c_20 => ?_) (fun c_20 => ?_)
    · refine x_iconstv hX dX1_answer_27 2 (by decide) ?_
      refine x_cvi hX dX1_answer_28 1 rfl (kX1_can l D cx h _ _) gX1_answer_X1_can rfl ⟨rfl, by decide, by decide, by decide +kernel⟩ ⟨rfl, rfl, Nat.le_of_ble_eq_true rfl, Nat.le_of_ble_eq_true rfl, Nat.zero_le _, Nat.zero_le _⟩ rfl rfl (Nat.le_of_ble_eq_true rfl) rfl (fun r_28 _ hq_28 => ?_)
      obtain rfl : r_28 = 0 := hq_28.trans (by decide)
      refine x_if_ne hX 36 dX1_answer_31 (by decide) (fun c => absurd c (by decide)) (fun _ => ?_)
      refine x_iconstv hX dX1_answer_34 0 (by decide) ?_
      exact x_asr (congrArg (wM cx h) (by simp only [qAns, jDel, if_pos c_6, if_neg c_20, z00, z10, z20, z30, if_true, if_false]; try rfl)) rfl (hret _ () _ _ (by simp only [wAns, jDel, if_pos c_6, if_neg c_20, z00, z10, z20, z30, if_true, if_false]; try rfl) dX1_answer_35)
    · refine x_iconstv hX dX1_answer_23 0 (by decide) ?_
      refine x_goto hX 28 dX1_answer_24 (by decide) ?_
      refine x_cvi hX dX1_answer_28 1 rfl (kX1_can l D cx h _ _) gX1_answer_X1_can rfl ⟨rfl, by decide, by decide, by decide +kernel⟩ ⟨rfl, rfl, Nat.le_of_ble_eq_true rfl, Nat.le_of_ble_eq_true rfl, Nat.zero_le _, Nat.zero_le _⟩ rfl rfl (Nat.le_of_ble_eq_true rfl) rfl (fun r_28 _ hq_28 => ?_)
      obtain rfl : r_28 = 1 := hq_28.trans (by decide)
      refine x_if_ne hX 36 dX1_answer_31 (by decide) (fun _ => ?_) (fun c => absurd c (by decide))
      refine x_aload_n hX dX1_answer_36 0 rfl ?_
      refine gM9 hX hin (by decide +kernel) dX1_answer_37 ?_
      refine x_iload_n hX dX1_answer_40 1 rfl ?_
      refine x_iconstv hX dX1_answer_41 2 (by decide) ?_
      refine sM9 hX dX1_answer_42 (PM_in hM c_6) rfl ?_
      refine x_aload_n hX dX1_answer_43 0 rfl ?_
      refine gM2 hX hin (by decide +kernel) dX1_answer_44 ?_
      refine x_aload_n hX dX1_answer_47 0 rfl ?_
      refine gM6 hX hin (by decide +kernel) dX1_answer_48 ?_
      refine x_iload_n hX dX1_answer_51 1 rfl ?_
      refine lM6 hX dX1_answer_52 (PM_in hM c_6) rfl ?_
      refine x_dup2 hX dX1_answer_53 rfl rfl ?_
      refine lM2 hX dX1_answer_54 (P8_in (hM.2.2.1 _ (PM_ix hM c_6).1).1) rfl ?_
      refine x_aload_n hX dX1_answer_55 0 rfl ?_
      refine gM8 hX hin (by decide +kernel) dX1_answer_56 ?_
      refine x_iload_n hX dX1_answer_59 1 rfl ?_
      refine lM8 hX dX1_answer_60 (PM_in hM c_6) rfl ?_
      refine x_iadd hX dX1_answer_61 ?_
      refine sM2 hX dX1_answer_62 (P8_in (hM.2.2.1 _ (PM_ix hM c_6).1).1) rfl ?_
      refine x_aload_n hX dX1_answer_63 0 rfl ?_
      refine x_aload_n hX dX1_answer_64 0 rfl ?_
      refine gM6 hX hin (by decide +kernel) dX1_answer_65 ?_
      refine x_iload_n hX dX1_answer_68 1 rfl ?_
      refine lM6 hX dX1_answer_69 (PM_in hM c_6) rfl ?_
      refine x_cvi hX dX1_answer_70 1 rfl (kX1_nameOf l D cx h _ (hM.up (j := 15) (i := 0) (v := 0) rfl).ans _) gX1_answer_X1_nameOf rfl ⟨rfl, by decide, by decide, by decide +kernel⟩ ⟨rfl, rfl, Nat.le_of_ble_eq_true rfl, Nat.le_of_ble_eq_true rfl, Nat.zero_le _, Nat.zero_le _⟩ rfl rfl (Nat.le_of_ble_eq_true rfl) rfl (fun r_70 _ hq_70 => ?_)
      obtain rfl := hq_70
      exact x_asr (congrArg (wM cx h) (by simp only [qAns, jDel, if_pos c_6, if_pos c_20, z00, z10, z20, z30, if_true, if_false]; try rfl)) rfl (hret _ () _ _ (by simp only [wAns, jDel, if_pos c_6, if_pos c_20, z00, z10, z20, z30, if_true, if_false]; try rfl) dX1_answer_73)
  · replace c_6 := xb_f.mp c_6
    refine x_iconstv hX dX1_answer_9 1 (by decide) ?_
    refine x_goto hX 28 dX1_answer_10 (by decide) ?_
    refine x_cvi hX dX1_answer_28 1 rfl (kX1_can l D cx h _ _) gX1_answer_X1_can rfl ⟨rfl, by decide, by decide, by decide +kernel⟩ ⟨rfl, rfl, Nat.le_of_ble_eq_true rfl, Nat.le_of_ble_eq_true rfl, Nat.zero_le _, Nat.zero_le _⟩ rfl rfl (Nat.le_of_ble_eq_true rfl) rfl (fun r_28 _ hq_28 => ?_)
    obtain rfl : r_28 = 0 := hq_28.trans (by decide)
    refine x_if_ne hX 36 dX1_answer_31 (by decide) (fun c => absurd c (by decide)) (fun _ => ?_)
    refine x_iconstv hX dX1_answer_34 0 (by decide) ?_
    exact x_asr (congrArg (wM cx h) (by simp only [qAns, jDel, if_neg c_6, z00, z10, z20, z30, if_true, if_false]; try rfl)) rfl (hret _ () _ _ (by simp only [wAns, jDel, if_neg c_6, z00, z10, z20, z30, if_true, if_false]; try rfl) dX1_answer_35)
theorem in_X1_pass : ∀ w ∈ wsX10, w ∈ wsX1_pass := by decide +kernel
set_option maxRecDepth 100000 in
set_option maxHeartbeats 4000000 in
theorem kX1_pass (l : Launch) (D : va_G) (cx : xC) (h : Nat → Nat) (s : xS) {n : Nat} (hM : okM s n) (a : Int32) : xI l yX1_pass wsX1_pass (xR 5 114) D cx [.ref (h 0), .int a] (wM cx h s) (fun _ : Unit => wM cx h (qPass s n a)) (fun r _ => r = wPass s n a) := by
  refine x_enterI (own := RX1) (by decide) rfl rfl (fun v u hv => ?_) (Nat.le_of_ble_eq_true rfl) (fun X hX hret => ?_)
  · rfl
  have hin := in_X1_pass
  change xV X 4 0 0 (wM cx h s) 0 [(0, .ref (h 0)), (1, .int a)] []
  have loop : ∀ (T : Nat), a = nI T → T < 2 ^ 31 → ix a = T → jPass s a = 0 → ∀ (m k : Nat), k + m = T → xV X 4 0 0 (wM cx h (gTicks (xup s 15 0 0) n k)) 43 [(0, .ref (h 0)), (1, .int a), (2, .int (gTicksN (xup s 15 0 0) n k)), (3, .int (nI k))] [] := by
    intro T hT hT2 hT3 h0 m
    induction m with
    | zero =>
      intro k hk
      obtain rfl : T = k := hk.symm
      refine x_iload_n hX dX1_pass_43 3 rfl ?_
      refine x_iload_n hX dX1_pass_44 1 rfl ?_
      refine x_icmp_ge hX 61 dX1_pass_45 (by decide) (fun c_45 => ?_) (fun c_45 => ?_)
      · refine x_iload_n hX dX1_pass_61 2 rfl ?_
        exact x_asr (congrArg (wM cx h) (by rw [qPass, if_pos h0, hT3])) rfl (hret _ () _ _ (by rw [wPass, if_pos h0, hT3]) dX1_pass_62)
      · exact absurd (lp_yes hT hT2 rfl) c_45
    | succ m ih =>
      intro k hk
      have hkn : k < T := by omega
      have hMk := (hM.up (j := 15) (i := 0) (v := 0) rfl).ticks k
      refine x_iload_n hX dX1_pass_43 3 rfl ?_
      refine x_iload_n hX dX1_pass_44 1 rfl ?_
      refine x_icmp_ge hX 61 dX1_pass_45 (by decide) (fun c_45 => ?_) (fun c_45 => ?_)
      · exact absurd c_45 (lp_no hT hT2 hkn)
      · refine x_iload_n hX dX1_pass_48 2 rfl ?_
        refine x_aload_n hX dX1_pass_49 0 rfl ?_
        refine x_cvi hX dX1_pass_50 0 rfl (kX1_ticks l D cx h _ hMk) gX1_pass_X1_ticks rfl ⟨rfl, by decide, by decide, by decide +kernel⟩ ⟨rfl, rfl, Nat.le_of_ble_eq_true rfl, Nat.le_of_ble_eq_true rfl, Nat.zero_le _, Nat.zero_le _⟩ rfl rfl (Nat.le_of_ble_eq_true rfl) rfl (fun r_50 _ hq_50 => ?_)
        obtain rfl := hq_50
        refine x_iadd hX dX1_pass_53 ?_
        refine x_istore_n hX (lv' := [_, _, _, _]) dX1_pass_54 2 rfl (by decide) rfl rfl ?_
        refine x_iinc hX (lv' := [_, _, _, _]) dX1_pass_55 3 rfl (nI_i1 k) (by decide) rfl rfl ?_
        refine x_goto hX 43 dX1_pass_58 (by decide) ?_
        exact ih (k + 1) (by omega)
  refine x_aload_n hX dX1_pass_0 0 rfl ?_
  refine x_iload_n hX dX1_pass_1 1 rfl ?_
  refine x_iconstv hX dX1_pass_2 1 (by decide) ?_
  refine x_bipushv hX dX1_pass_3 50 (by decide) ?_
  refine x_csi hX dX1_pass_5 3 rfl (kX1_isIn l D cx _ _ _) gX1_pass_X1_isIn rfl ⟨by decide, by decide, by decide +kernel⟩ ⟨rfl, rfl, Nat.le_of_ble_eq_true rfl, Nat.le_of_ble_eq_true rfl, Nat.zero_le _, Nat.zero_le _⟩ (Nat.le_of_ble_eq_true rfl) rfl (fun r_5 _ hq_5 => ?_)
  obtain rfl := hq_5
  refine x_if_ne hX 15 dX1_pass_8 (by decide) (fun c_8 => ?_) (fun c_8 => ?_)
  · replace c_8 := xb_t.mp c_8
    refine x_aload_n hX dX1_pass_15 0 rfl ?_
    refine gM0 hX hin (by decide +kernel) dX1_pass_16 ?_
    refine x_iload_n hX dX1_pass_19 1 rfl ?_
    refine x_iadd hX dX1_pass_20 ?_
    refine x_ldc hX (v := 100000) dX1_pass_21 (by decide +kernel) ?_
    refine x_icmp_le hX 30 dX1_pass_23 (by decide) (fun c_23 => ?_) (fun c_23 => ?_)
    · refine x_iconstv hX dX1_pass_30 0 (by decide) ?_
      refine x_cvi hX dX1_pass_31 1 rfl (kX1_can l D cx h _ _) gX1_pass_X1_can rfl ⟨rfl, by decide, by decide, by decide +kernel⟩ ⟨rfl, rfl, Nat.le_of_ble_eq_true rfl, Nat.le_of_ble_eq_true rfl, Nat.zero_le _, Nat.zero_le _⟩ rfl rfl (Nat.le_of_ble_eq_true rfl) rfl (fun r_31 _ hq_31 => ?_)
      obtain rfl : r_31 = 1 := hq_31.trans (by decide)
      refine x_if_ne hX 39 dX1_pass_34 (by decide) (fun _ => ?_) (fun c => absurd c (by decide))
      refine x_iconstv hX dX1_pass_39 0 (by decide) ?_
      refine x_istore_n hX (lv' := [_, _, _]) dX1_pass_40 2 rfl (by decide) rfl rfl ?_
      refine x_iconstv hX dX1_pass_41 0 (by decide) ?_
      refine x_istore_n hX (lv' := [_, _, _, _]) dX1_pass_42 3 rfl (by decide) rfl rfl ?_
      have g9 := ix_nI (lt1_lt0 (Int32.not_lt.mpr c_8.1))
      exact x_as rfl (by simp [gTicksN, nI_0]) (loop (ix a) g9.1 g9.2 rfl (by simp only [jPass, if_pos c_8, if_pos c_23]) (ix a) 0 (by omega))
    · refine x_iconstv hX dX1_pass_26 2 (by decide) ?_
      refine x_goto hX 31 dX1_pass_27 (by decide) ?_
      refine x_cvi hX dX1_pass_31 1 rfl (kX1_can l D cx h _ _) gX1_pass_X1_can rfl ⟨rfl, by decide, by decide, by decide +kernel⟩ ⟨rfl, rfl, Nat.le_of_ble_eq_true rfl, Nat.le_of_ble_eq_true rfl, Nat.zero_le _, Nat.zero_le _⟩ rfl rfl (Nat.le_of_ble_eq_true rfl) rfl (fun r_31 _ hq_31 => ?_)
      obtain rfl : r_31 = 0 := hq_31.trans (by decide)
      refine x_if_ne hX 39 dX1_pass_34 (by decide) (fun c => absurd c (by decide)) (fun _ => ?_)
      refine x_iconstv hX dX1_pass_37 0 (by decide) ?_
      exact x_asr (congrArg (wM cx h) (by simp only [qPass, jPass, if_pos c_8, if_neg c_23, z00, z10, z20, z30, if_true, if_false])) rfl (hret _ () _ _ (by simp only [wPass, jPass, if_pos c_8, if_neg c_23, z00, z10, z20, z30, if_true, if_false]) dX1_pass_38)
  · replace c_8 := xb_f.mp c_8
    refine x_iconstv hX dX1_pass_11 1 (by decide) ?_
    refine x_goto hX 31 dX1_pass_12 (by decide) ?_
    refine x_cvi hX dX1_pass_31 1 rfl (kX1_can l D cx h _ _) gX1_pass_X1_can rfl ⟨rfl, by decide, by decide, by decide +kernel⟩ ⟨rfl, rfl, Nat.le_of_ble_eq_true rfl, Nat.le_of_ble_eq_true rfl, Nat.zero_le _, Nat.zero_le _⟩ rfl rfl (Nat.le_of_ble_eq_true rfl) rfl (fun r_31 _ hq_31 => ?_)
    obtain rfl : r_31 = 0 := hq_31.trans (by decide)
    refine x_if_ne hX 39 dX1_pass_34 (by decide) (fun c => absurd c (by decide)) (fun _ => ?_)
    refine x_iconstv hX dX1_pass_37 0 (by decide) ?_
    exact x_asr (congrArg (wM cx h) (by simp only [qPass, jPass, if_neg c_8, z00, z10, z20, z30, if_true, if_false])) rfl (hret _ () _ _ (by simp only [wPass, jPass, if_neg c_8, z00, z10, z20, z30, if_true, if_false]) dX1_pass_38)
theorem in_X1_queueAt : ∀ w ∈ wsX10, w ∈ wsX1_queueAt := by decide +kernel
set_option maxRecDepth 100000 in
set_option maxHeartbeats 4000000 in
theorem kX1_queueAt (l : Launch) (D : va_G) (cx : xC) (h : Nat → Nat) (s : xS) {n : Nat} (hM : okM s n) (a b : Int32) : xI l yX1_queueAt wsX1_queueAt (xR 4 92) D cx [.ref (h 0), .int a, .int b] (wM cx h s) (fun _ : Unit => wM cx h (xup s 15 0 (jAt s n a b))) (fun r _ => r = if jAt s n a b = 0 then gFind (xup s 15 0 0) n a b n else 0) := by
  refine x_enterI (own := RX1) (by decide) rfl rfl (fun v u hv => ?_) (Nat.le_of_ble_eq_true rfl) (fun X hX hret => ?_)
  · rfl
  have hin := in_X1_queueAt
  change xV X 5 0 0 (wM cx h s) 0 [(0, .ref (h 0)), (1, .int a), (2, .int b)] []
  have hM0 : okM (xup s 15 0 0) n := hM.up rfl
  have loop : jAt s n a b = 0 → ∀ (m k : Nat), k + m = n → xV X 5 0 0 (wM cx h (xup s 15 0 0)) 41 [(0, .ref (h 0)), (1, .int a), (2, .int b), (3, .int (gFind (xup s 15 0 0) n a b k)), (4, .int (nI k))] [] := by
    intro h0 m
    induction m with
    | zero =>
      intro k hk
      obtain rfl : n = k := hk.symm
      refine x_iload hX dX1_queueAt_41 4 rfl ?_
      refine x_aload_n hX dX1_queueAt_43 0 rfl ?_
      refine gM5 hX hin (by decide +kernel) dX1_queueAt_44 ?_
      refine x_icmp_ge hX 83 dX1_queueAt_47 (by decide) (fun c_47 => ?_) (fun c_47 => ?_)
      · refine x_iload_n hX dX1_queueAt_83 3 rfl ?_
        exact x_asr (congrArg (wM cx h) (by rw [h0])) rfl (hret _ () _ _ (by rw [if_pos h0]) dX1_queueAt_84)
      · exact absurd (lp_yes hM.2.1 hM.lt rfl) c_47
    | succ m ih =>
      intro k hk
      have hkn : k < n := by omega
      have e9 : (nI k).toNatClampNeg = k := nI_clamp (by have := hM.lt; omega)
      refine x_iload hX dX1_queueAt_41 4 rfl ?_
      refine x_aload_n hX dX1_queueAt_43 0 rfl ?_
      refine gM5 hX hin (by decide +kernel) dX1_queueAt_44 ?_
      refine x_icmp_ge hX 83 dX1_queueAt_47 (by decide) (fun c_47 => ?_) (fun c_47 => ?_)
      · exact absurd c_47 (lp_no hM.2.1 hM.lt hkn)
      · refine x_aload_n hX dX1_queueAt_50 0 rfl ?_
        refine x_iload hX dX1_queueAt_51 4 rfl ?_
        refine x_iload_n hX dX1_queueAt_53 1 rfl ?_
        refine x_cvi hX dX1_queueAt_54 2 rfl (kX1_liesAt l D cx h _ _ _ (okM_in hM hkn)) gX1_queueAt_X1_liesAt rfl ⟨rfl, by decide, by decide, by decide +kernel⟩ ⟨rfl, rfl, Nat.le_of_ble_eq_true rfl, Nat.le_of_ble_eq_true rfl, Nat.zero_le _, Nat.zero_le _⟩ rfl rfl (Nat.le_of_ble_eq_true rfl) rfl (fun r_54 _ hq_54 => ?_)
        obtain rfl := hq_54
        refine x_if_eq hX 75 dX1_queueAt_57 (by decide) (fun c_57 => ?_) (fun c_57 => ?_)
        · replace c_57 := xb_f.mp c_57
          refine x_iload_n hX dX1_queueAt_75 3 rfl ?_
          refine x_istore_n hX (lv' := [_, _, _, _, _]) dX1_queueAt_76 3 rfl (by decide) rfl rfl ?_
          refine x_iinc hX (lv' := [_, _, _, _, _]) dX1_queueAt_77 4 rfl (nI_i1 k) (by decide) rfl rfl ?_
          refine x_goto hX 41 dX1_queueAt_80 (by decide) ?_
          exact x_as rfl (by simp only [gFind, if_neg c_47, if_neg c_57]) (ih (k + 1) (by omega))
        · replace c_57 := xb_t.mp c_57
          refine x_aload_n hX dX1_queueAt_60 0 rfl ?_
          refine x_iload hX dX1_queueAt_61 4 rfl ?_
          refine x_cvi hX dX1_queueAt_63 1 rfl (kX1_placeOf l D cx h _ hM0 _ (okM_in hM hkn)) gX1_queueAt_X1_placeOf rfl ⟨rfl, by decide, by decide, by decide +kernel⟩ ⟨rfl, rfl, Nat.le_of_ble_eq_true rfl, Nat.le_of_ble_eq_true rfl, Nat.zero_le _, Nat.zero_le _⟩ rfl rfl (Nat.le_of_ble_eq_true rfl) rfl (fun r_63 _ hq_63 => ?_)
          obtain rfl := hq_63
          refine x_iload_n hX dX1_queueAt_66 2 rfl ?_
          refine x_icmp_ne hX 75 dX1_queueAt_67 (by decide) (fun c_67 => ?_) (fun c_67 => ?_)
          · refine x_iload_n hX dX1_queueAt_75 3 rfl ?_
            refine x_istore_n hX (lv' := [_, _, _, _, _]) dX1_queueAt_76 3 rfl (by decide) rfl rfl ?_
            refine x_iinc hX (lv' := [_, _, _, _, _]) dX1_queueAt_77 4 rfl (nI_i1 k) (by decide) rfl rfl ?_
            refine x_goto hX 41 dX1_queueAt_80 (by decide) ?_
            exact x_as rfl (by simp only [gFind, if_neg c_47, if_pos c_57, if_neg c_67]) (ih (k + 1) (by omega))
          · refine x_iload hX dX1_queueAt_70 4 rfl ?_
            refine x_goto hX 76 dX1_queueAt_72 (by decide) ?_
            refine x_istore_n hX (lv' := [_, _, _, _, _]) dX1_queueAt_76 3 rfl (by decide) rfl rfl ?_
            refine x_iinc hX (lv' := [_, _, _, _, _]) dX1_queueAt_77 4 rfl (nI_i1 k) (by decide) rfl rfl ?_
            refine x_goto hX 41 dX1_queueAt_80 (by decide) ?_
            exact x_as rfl (by simp only [gFind, if_neg c_47, if_pos c_57, if_pos c_67]) (ih (k + 1) (by omega))
  refine x_aload_n hX dX1_queueAt_0 0 rfl ?_
  refine x_iload_n hX dX1_queueAt_1 1 rfl ?_
  refine x_csi hX dX1_queueAt_2 1 rfl (kX1_isRelay l D cx _) gX1_queueAt_X1_isRelay rfl ⟨by decide, by decide, by decide +kernel⟩ ⟨rfl, rfl, Nat.le_of_ble_eq_true rfl, Nat.le_of_ble_eq_true rfl, Nat.zero_le _, Nat.zero_le _⟩ (Nat.le_of_ble_eq_true rfl) rfl (fun r_2 _ hq_2 => ?_)
  obtain rfl := hq_2
  refine x_if_eq hX 27 dX1_queueAt_5 (by decide) (fun c_5 => ?_) (fun c_5 => ?_)
  · replace c_5 := xb_f.mp c_5
    refine x_iconstv hX dX1_queueAt_27 1 (by decide) ?_
    refine x_cvi hX dX1_queueAt_28 1 rfl (kX1_can l D cx h _ _) gX1_queueAt_X1_can rfl ⟨rfl, by decide, by decide, by decide +kernel⟩ ⟨rfl, rfl, Nat.le_of_ble_eq_true rfl, Nat.le_of_ble_eq_true rfl, Nat.zero_le _, Nat.zero_le _⟩ rfl rfl (Nat.le_of_ble_eq_true rfl) rfl (fun r_28 _ hq_28 => ?_)
    obtain rfl : r_28 = 0 := hq_28.trans (by decide)
    refine x_if_ne hX 36 dX1_queueAt_31 (by decide) (fun c => absurd c (by decide)) (fun _ => ?_)
    refine x_iconstv hX dX1_queueAt_34 0 (by decide) ?_
    exact x_asr (congrArg (wM cx h) (by simp only [jAt, if_neg c_5, z00, z10, z20, z30, if_true, if_false])) rfl (hret _ () _ _ (by simp only [jAt, if_neg c_5, z00, z10, z20, z30, if_true, if_false]) dX1_queueAt_35)
  · replace c_5 := xb_t.mp c_5
    refine x_iload_n hX dX1_queueAt_8 2 rfl ?_
    refine x_iconstv hX dX1_queueAt_9 0 (by decide) ?_
    refine x_aload_n hX dX1_queueAt_10 0 rfl ?_
    refine x_iload_n hX dX1_queueAt_11 1 rfl ?_
    refine x_cvi hX dX1_queueAt_12 1 rfl (kX1_lengthOf l D cx h _ hM _) gX1_queueAt_X1_lengthOf rfl ⟨rfl, by decide, by decide, by decide +kernel⟩ ⟨rfl, rfl, Nat.le_of_ble_eq_true rfl, Nat.le_of_ble_eq_true rfl, Nat.zero_le _, Nat.zero_le _⟩ rfl rfl (Nat.le_of_ble_eq_true rfl) rfl (fun r_12 _ hq_12 => ?_)
    obtain rfl := hq_12
    refine x_iconstv hX dX1_queueAt_15 1 (by decide) ?_
    refine x_isub hX dX1_queueAt_16 ?_
    refine x_csi hX dX1_queueAt_17 3 rfl (kX1_isIn l D cx _ _ _) gX1_queueAt_X1_isIn rfl ⟨by decide, by decide, by decide +kernel⟩ ⟨rfl, rfl, Nat.le_of_ble_eq_true rfl, Nat.le_of_ble_eq_true rfl, Nat.zero_le _, Nat.zero_le _⟩ (Nat.le_of_ble_eq_true rfl) rfl (fun r_17 _ hq_17 => ?_)
    obtain rfl := hq_17
    refine x_if_eq hX 27 dX1_queueAt_20 (by decide) (fun c_20 => ?_) (fun c_20 => ?_)
    · replace c_20 := xb_f.mp c_20
      refine x_iconstv hX dX1_queueAt_27 1 (by decide) ?_
      refine x_cvi hX dX1_queueAt_28 1 rfl (kX1_can l D cx h _ _) gX1_queueAt_X1_can rfl ⟨rfl, by decide, by decide, by decide +kernel⟩ ⟨rfl, rfl, Nat.le_of_ble_eq_true rfl, Nat.le_of_ble_eq_true rfl, Nat.zero_le _, Nat.zero_le _⟩ rfl rfl (Nat.le_of_ble_eq_true rfl) rfl (fun r_28 _ hq_28 => ?_)
      obtain rfl : r_28 = 0 := hq_28.trans (by decide)
      refine x_if_ne hX 36 dX1_queueAt_31 (by decide) (fun c => absurd c (by decide)) (fun _ => ?_)
      refine x_iconstv hX dX1_queueAt_34 0 (by decide) ?_
      exact x_asr (congrArg (wM cx h) (by simp only [jAt, if_pos c_5, if_neg c_20, z00, z10, z20, z30, if_true, if_false])) rfl (hret _ () _ _ (by simp only [jAt, if_pos c_5, if_neg c_20, z00, z10, z20, z30, if_true, if_false]) dX1_queueAt_35)
    · replace c_20 := xb_t.mp c_20
      refine x_iconstv hX dX1_queueAt_23 0 (by decide) ?_
      refine x_goto hX 28 dX1_queueAt_24 (by decide) ?_
      refine x_cvi hX dX1_queueAt_28 1 rfl (kX1_can l D cx h _ _) gX1_queueAt_X1_can rfl ⟨rfl, by decide, by decide, by decide +kernel⟩ ⟨rfl, rfl, Nat.le_of_ble_eq_true rfl, Nat.le_of_ble_eq_true rfl, Nat.zero_le _, Nat.zero_le _⟩ rfl rfl (Nat.le_of_ble_eq_true rfl) rfl (fun r_28 _ hq_28 => ?_)
      obtain rfl : r_28 = 1 := hq_28.trans (by decide)
      refine x_if_ne hX 36 dX1_queueAt_31 (by decide) (fun _ => ?_) (fun c => absurd c (by decide))
      refine x_iconstv hX dX1_queueAt_36 (-1) (by decide) ?_
      refine x_istore_n hX (lv' := [_, _, _, _]) dX1_queueAt_37 3 rfl (by decide) rfl rfl ?_
      refine x_iconstv hX dX1_queueAt_38 0 (by decide) ?_
      refine x_istore hX (lv' := [_, _, _, _, _]) dX1_queueAt_39  (by decide) rfl rfl ?_
      exact x_as rfl (by simp [gFind, nI_0]) (loop (by simp only [jAt, if_pos c_5, if_pos c_20]) n 0 (by omega))
theorem in_X1_mark : ∀ w ∈ wsX10, w ∈ wsX1_mark := by decide +kernel
set_option maxRecDepth 100000 in
set_option maxHeartbeats 4000000 in
theorem kX1_mark (l : Launch) (D : va_G) (cx : xC) (h : Nat → Nat) (s : xS) {n : Nat} (hM : okM s n) (a : Int32) : xI l yX1_mark wsX1_mark (xR 2 43) D cx [.ref (h 0), .int a] (wM cx h s) (fun _ : Unit => wM cx h (qMark s n a)) (fun r _ => r = wMark s n a) := by
  refine x_enterI (own := RX1) (by decide) rfl rfl (fun v u hv => ?_) (Nat.le_of_ble_eq_true rfl) (fun X hX hret => ?_)
  · rfl
  have hin := in_X1_mark
  change xV X 5 0 0 (wM cx h s) 0 [(0, .ref (h 0)), (1, .int a)] []
  have hM0 : okM (xup s 15 0 0) n := hM.up rfl
  have loop : PM s a → jDel s a = 0 → ∀ (m k : Nat), k + m = 8 → xV X 5 0 0 (wM cx h (xup s 15 0 0)) 48 [(0, .ref (h 0)), (1, .int a), (2, .int ((xup s 15 0 0) 7 (ix a))), (3, .int (gCnt (xup s 15 0 0) n a k)), (4, .int (nI k))] [] := by
    intro hpm h0 m
    have hc := hM.2.2.1 _ (PM_ix hM hpm).1
    have ha := PM_in hM hpm
    induction m with
    | zero =>
      intro k hk
      obtain rfl : 8 = k := hk.symm
      refine x_iload hX dX1_mark_48 4 rfl ?_
      refine x_bipushv hX dX1_mark_50 8 (by decide) ?_
      refine x_icmp_ge hX 82 dX1_mark_52 (by decide) (fun c_52 => ?_) (fun c_52 => ?_)
      · refine x_aload_n hX dX1_mark_82 0 rfl ?_
        refine gM9 hX hin (by decide +kernel) dX1_mark_83 ?_
        refine x_iload_n hX dX1_mark_86 1 rfl ?_
        refine x_iconstv hX dX1_mark_87 3 (by decide) ?_
        refine sM9 hX dX1_mark_88 (PM_in hM hpm) rfl ?_
        refine x_aload_n hX dX1_mark_89 0 rfl ?_
        refine gM13 hX hin (by decide +kernel) dX1_mark_90 ?_
        refine x_iload_n hX dX1_mark_93 1 rfl ?_
        refine x_iload_n hX dX1_mark_94 3 rfl ?_
        refine x_iconstv hX dX1_mark_95 3 (by decide) ?_
        refine x_icmp_lt hX 103 dX1_mark_96 (by decide) (fun c_96 => ?_) (fun c_96 => ?_)
        · replace c_96 : nMk (xup s 15 0 0) n a < 3 := c_96
          refine x_iconstv hX dX1_mark_103 0 (by decide) ?_
          refine sM13 hX dX1_mark_104 (PM_in hM hpm) rfl ?_
          refine x_aload_n hX dX1_mark_105 0 rfl ?_
          refine gM3 hX hin (by decide +kernel) dX1_mark_106 ?_
          refine x_iload_n hX dX1_mark_109 2 rfl ?_
          refine x_iconstv hX dX1_mark_110 4 (by decide) ?_
          refine x_irem hX dX1_mark_111 (by decide) ?_
          refine x_dup2 hX dX1_mark_112 rfl rfl ?_
          refine lM3 hX dX1_mark_113 (P4_in (P8_home hc.2.1)) rfl ?_
          refine x_aload_n hX dX1_mark_114 0 rfl ?_
          refine gM8 hX hin (by decide +kernel) dX1_mark_115 ?_
          refine x_iload_n hX dX1_mark_118 1 rfl ?_
          refine lM8 hX dX1_mark_119 (PM_in hM hpm) rfl ?_
          refine x_iadd hX dX1_mark_120 ?_
          refine sM3 hX dX1_mark_121 (P4_in (P8_home hc.2.1)) rfl ?_
          refine x_iload_n hX dX1_mark_122 3 rfl ?_
          refine x_iconstv hX dX1_mark_123 3 (by decide) ?_
          refine x_icmp_ge hX 131 dX1_mark_124 (by decide) (fun c => absurd c (Int32.not_le.mpr c_96)) (fun _ => ?_)
          refine x_iconstv hX dX1_mark_127 0 (by decide) ?_
          refine x_goto hX 161 dX1_mark_128 (by decide) ?_
          refine x_istore hX (lv' := [_, _, _, _, _]) dX1_mark_161  (by decide) rfl rfl ?_
          refine x_aload_n hX dX1_mark_163 0 rfl ?_
          refine gM4 hX hin (by decide +kernel) dX1_mark_164 ?_
          refine x_iload_n hX dX1_mark_167 2 rfl ?_
          refine x_dup2 hX dX1_mark_168 rfl rfl ?_
          refine lM4 hX dX1_mark_169 (P8_in hc.2.1) rfl ?_
          refine x_iload_n hX dX1_mark_170 3 rfl ?_
          refine x_iconstv hX dX1_mark_171 3 (by decide) ?_
          refine x_icmp_ge hX 179 dX1_mark_172 (by decide) (fun c => absurd c (Int32.not_le.mpr c_96)) (fun _ => ?_)
          refine x_iconstv hX dX1_mark_175 0 (by decide) ?_
          refine x_goto hX 180 dX1_mark_176 (by decide) ?_
          refine x_iadd hX dX1_mark_180 ?_
          refine sM4 hX dX1_mark_181 (P8_in hc.2.1) rfl ?_
          refine x_aload_n hX dX1_mark_182 0 rfl ?_
          refine gM2 hX hin (by decide +kernel) dX1_mark_183 ?_
          refine x_iload_n hX dX1_mark_186 2 rfl ?_
          refine x_dup2 hX dX1_mark_187 rfl rfl ?_
          refine lM2 hX dX1_mark_188 (P8_in hc.2.1) rfl ?_
          refine x_iload hX dX1_mark_189 4 rfl ?_
          refine x_isub hX dX1_mark_191 ?_
          refine sM2 hX dX1_mark_192 (P8_in hc.2.1) rfl ?_
          refine x_aload_n hX dX1_mark_193 0 rfl ?_
          refine gM2 hX hin (by decide +kernel) dX1_mark_194 ?_
          refine x_aload_n hX dX1_mark_197 0 rfl ?_
          refine gM6 hX hin (by decide +kernel) dX1_mark_198 ?_
          refine x_iload_n hX dX1_mark_201 1 rfl ?_
          refine lM6 hX dX1_mark_202 (PM_in hM hpm) rfl ?_
          refine x_dup2 hX dX1_mark_203 rfl rfl ?_
          refine lM2 hX dX1_mark_204 (P8_in hc.1) rfl ?_
          refine x_iload hX dX1_mark_205 4 rfl ?_
          refine x_iadd hX dX1_mark_207 ?_
          refine sM2 hX dX1_mark_208 (P8_in hc.1) rfl ?_
          refine x_iload hX dX1_mark_209 4 rfl ?_
          exact x_asr (congrArg (wM cx h) (by simp only [qMark, if_pos h0, qMark0, if_pos c_96, pMk]; rfl)) rfl (hret _ () _ _ (by simp only [wMark, if_pos h0, if_pos c_96, pMk]; try rfl) dX1_mark_211)
        · replace c_96 : ¬ nMk (xup s 15 0 0) n a < 3 := c_96
          refine x_iconstv hX dX1_mark_99 1 (by decide) ?_
          refine x_goto hX 104 dX1_mark_100 (by decide) ?_
          refine sM13 hX dX1_mark_104 (PM_in hM hpm) rfl ?_
          refine x_aload_n hX dX1_mark_105 0 rfl ?_
          refine gM3 hX hin (by decide +kernel) dX1_mark_106 ?_
          refine x_iload_n hX dX1_mark_109 2 rfl ?_
          refine x_iconstv hX dX1_mark_110 4 (by decide) ?_
          refine x_irem hX dX1_mark_111 (by decide) ?_
          refine x_dup2 hX dX1_mark_112 rfl rfl ?_
          refine lM3 hX dX1_mark_113 (P4_in (P8_home hc.2.1)) rfl ?_
          refine x_aload_n hX dX1_mark_114 0 rfl ?_
          refine gM8 hX hin (by decide +kernel) dX1_mark_115 ?_
          refine x_iload_n hX dX1_mark_118 1 rfl ?_
          refine lM8 hX dX1_mark_119 (PM_in hM hpm) rfl ?_
          refine x_iadd hX dX1_mark_120 ?_
          refine sM3 hX dX1_mark_121 (P4_in (P8_home hc.2.1)) rfl ?_
          refine x_iload_n hX dX1_mark_122 3 rfl ?_
          refine x_iconstv hX dX1_mark_123 3 (by decide) ?_
          refine x_icmp_ge hX 131 dX1_mark_124 (by decide) (fun _ => ?_) (fun c => absurd (Int32.not_lt.mp c_96) c)
          refine x_aload_n hX dX1_mark_131 0 rfl ?_
          refine gM2 hX hin (by decide +kernel) dX1_mark_132 ?_
          refine x_iload_n hX dX1_mark_135 2 rfl ?_
          refine lM2 hX dX1_mark_136 (P8_in hc.2.1) rfl ?_
          refine x_aload_n hX dX1_mark_137 0 rfl ?_
          refine gM8 hX hin (by decide +kernel) dX1_mark_138 ?_
          refine x_iload_n hX dX1_mark_141 1 rfl ?_
          refine lM8 hX dX1_mark_142 (PM_in hM hpm) rfl ?_
          refine x_icmp_ge hX 155 dX1_mark_143 (by decide) (fun c_143 => ?_) (fun c_143 => ?_)
          · replace c_143 : (xup s 15 0 0) 8 (ix a) ≤ (xup s 15 0 0) 2 (ix ((xup s 15 0 0) 7 (ix a))) := c_143
            refine x_aload_n hX dX1_mark_155 0 rfl ?_
            refine gM8 hX hin (by decide +kernel) dX1_mark_156 ?_
            refine x_iload_n hX dX1_mark_159 1 rfl ?_
            refine lM8 hX dX1_mark_160 (PM_in hM hpm) rfl ?_
            refine x_istore hX (lv' := [_, _, _, _, _]) dX1_mark_161  (by decide) rfl rfl ?_
            refine x_aload_n hX dX1_mark_163 0 rfl ?_
            refine gM4 hX hin (by decide +kernel) dX1_mark_164 ?_
            refine x_iload_n hX dX1_mark_167 2 rfl ?_
            refine x_dup2 hX dX1_mark_168 rfl rfl ?_
            refine lM4 hX dX1_mark_169 (P8_in hc.2.1) rfl ?_
            refine x_iload_n hX dX1_mark_170 3 rfl ?_
            refine x_iconstv hX dX1_mark_171 3 (by decide) ?_
            refine x_icmp_ge hX 179 dX1_mark_172 (by decide) (fun _ => ?_) (fun c => absurd (Int32.not_lt.mp c_96) c)
            refine x_iconstv hX dX1_mark_179 1 (by decide) ?_
            refine x_iadd hX dX1_mark_180 ?_
            refine sM4 hX dX1_mark_181 (P8_in hc.2.1) rfl ?_
            refine x_aload_n hX dX1_mark_182 0 rfl ?_
            refine gM2 hX hin (by decide +kernel) dX1_mark_183 ?_
            refine x_iload_n hX dX1_mark_186 2 rfl ?_
            refine x_dup2 hX dX1_mark_187 rfl rfl ?_
            refine lM2 hX dX1_mark_188 (P8_in hc.2.1) rfl ?_
            refine x_iload hX dX1_mark_189 4 rfl ?_
            refine x_isub hX dX1_mark_191 ?_
            refine sM2 hX dX1_mark_192 (P8_in hc.2.1) rfl ?_
            refine x_aload_n hX dX1_mark_193 0 rfl ?_
            refine gM2 hX hin (by decide +kernel) dX1_mark_194 ?_
            refine x_aload_n hX dX1_mark_197 0 rfl ?_
            refine gM6 hX hin (by decide +kernel) dX1_mark_198 ?_
            refine x_iload_n hX dX1_mark_201 1 rfl ?_
            refine lM6 hX dX1_mark_202 (PM_in hM hpm) rfl ?_
            refine x_dup2 hX dX1_mark_203 rfl rfl ?_
            refine lM2 hX dX1_mark_204 (P8_in hc.1) rfl ?_
            refine x_iload hX dX1_mark_205 4 rfl ?_
            refine x_iadd hX dX1_mark_207 ?_
            refine sM2 hX dX1_mark_208 (P8_in hc.1) rfl ?_
            refine x_iload hX dX1_mark_209 4 rfl ?_
            exact x_asr (congrArg (wM cx h) (by simp only [qMark, if_pos h0, qMark0, if_neg c_96, pMk, if_pos c_143]; rfl)) rfl (hret _ () _ _ (by simp only [wMark, if_pos h0, if_neg c_96, pMk, if_pos c_143]; try rfl) dX1_mark_211)
          · replace c_143 : ¬ (xup s 15 0 0) 8 (ix a) ≤ (xup s 15 0 0) 2 (ix ((xup s 15 0 0) 7 (ix a))) := c_143
            refine x_aload_n hX dX1_mark_146 0 rfl ?_
            refine gM2 hX hin (by decide +kernel) dX1_mark_147 ?_
            refine x_iload_n hX dX1_mark_150 2 rfl ?_
            refine lM2 hX dX1_mark_151 (P8_in hc.2.1) rfl ?_
            refine x_goto hX 161 dX1_mark_152 (by decide) ?_
            refine x_istore hX (lv' := [_, _, _, _, _]) dX1_mark_161  (by decide) rfl rfl ?_
            refine x_aload_n hX dX1_mark_163 0 rfl ?_
            refine gM4 hX hin (by decide +kernel) dX1_mark_164 ?_
            refine x_iload_n hX dX1_mark_167 2 rfl ?_
            refine x_dup2 hX dX1_mark_168 rfl rfl ?_
            refine lM4 hX dX1_mark_169 (P8_in hc.2.1) rfl ?_
            refine x_iload_n hX dX1_mark_170 3 rfl ?_
            refine x_iconstv hX dX1_mark_171 3 (by decide) ?_
            refine x_icmp_ge hX 179 dX1_mark_172 (by decide) (fun _ => ?_) (fun c => absurd (Int32.not_lt.mp c_96) c)
            refine x_iconstv hX dX1_mark_179 1 (by decide) ?_
            refine x_iadd hX dX1_mark_180 ?_
            refine sM4 hX dX1_mark_181 (P8_in hc.2.1) rfl ?_
            refine x_aload_n hX dX1_mark_182 0 rfl ?_
            refine gM2 hX hin (by decide +kernel) dX1_mark_183 ?_
            refine x_iload_n hX dX1_mark_186 2 rfl ?_
            refine x_dup2 hX dX1_mark_187 rfl rfl ?_
            refine lM2 hX dX1_mark_188 (P8_in hc.2.1) rfl ?_
            refine x_iload hX dX1_mark_189 4 rfl ?_
            refine x_isub hX dX1_mark_191 ?_
            refine sM2 hX dX1_mark_192 (P8_in hc.2.1) rfl ?_
            refine x_aload_n hX dX1_mark_193 0 rfl ?_
            refine gM2 hX hin (by decide +kernel) dX1_mark_194 ?_
            refine x_aload_n hX dX1_mark_197 0 rfl ?_
            refine gM6 hX hin (by decide +kernel) dX1_mark_198 ?_
            refine x_iload_n hX dX1_mark_201 1 rfl ?_
            refine lM6 hX dX1_mark_202 (PM_in hM hpm) rfl ?_
            refine x_dup2 hX dX1_mark_203 rfl rfl ?_
            refine lM2 hX dX1_mark_204 (P8_in hc.1) rfl ?_
            refine x_iload hX dX1_mark_205 4 rfl ?_
            refine x_iadd hX dX1_mark_207 ?_
            refine sM2 hX dX1_mark_208 (P8_in hc.1) rfl ?_
            refine x_iload hX dX1_mark_209 4 rfl ?_
            exact x_asr (congrArg (wM cx h) (by simp only [qMark, if_pos h0, qMark0, if_neg c_96, pMk, if_neg c_143]; rfl)) rfl (hret _ () _ _ (by simp only [wMark, if_pos h0, if_neg c_96, pMk, if_neg c_143]; try rfl) dX1_mark_211)
      · exact absurd (lp_yes (rfl : (8 : Int32) = nI 8) (by decide) rfl) c_52
    | succ m ih =>
      intro k hk
      have hkn : k < 8 := by omega
      refine x_iload hX dX1_mark_48 4 rfl ?_
      refine x_bipushv hX dX1_mark_50 8 (by decide) ?_
      refine x_icmp_ge hX 82 dX1_mark_52 (by decide) (fun c_52 => ?_) (fun c_52 => ?_)
      · exact absurd c_52 (lp_no (rfl : (8 : Int32) = nI 8) (by decide) hkn)
      · refine x_iload_n hX dX1_mark_55 3 rfl ?_
        refine x_aload_n hX dX1_mark_56 0 rfl ?_
        refine x_iload_n hX dX1_mark_57 1 rfl ?_
        refine x_cvi hX dX1_mark_58 1 rfl (kX1_others l D cx h _ hM0 _ ha) gX1_mark_X1_others rfl ⟨rfl, by decide, by decide, by decide +kernel⟩ ⟨rfl, rfl, Nat.le_of_ble_eq_true rfl, Nat.le_of_ble_eq_true rfl, Nat.zero_le _, Nat.zero_le _⟩ rfl rfl (Nat.le_of_ble_eq_true rfl) rfl (fun r_58 _ hq_58 => ?_)
        obtain rfl := hq_58
        refine x_iload hX dX1_mark_61 4 rfl ?_
        refine x_csi hX dX1_mark_63 2 rfl (kX1_has l D cx _ _) gX1_mark_X1_has rfl ⟨by decide, by decide, by decide +kernel⟩ ⟨rfl, rfl, Nat.le_of_ble_eq_true rfl, Nat.le_of_ble_eq_true rfl, Nat.zero_le _, Nat.zero_le _⟩ (Nat.le_of_ble_eq_true rfl) rfl (fun r_63 _ hq_63 => ?_)
        obtain rfl := hq_63
        refine x_if_eq hX 73 dX1_mark_66 (by decide) (fun c_66 => ?_) (fun c_66 => ?_)
        · replace c_66 := xb_f.mp c_66
          refine x_iconstv hX dX1_mark_73 0 (by decide) ?_
          refine x_iadd hX dX1_mark_74 ?_
          refine x_istore_n hX (lv' := [_, _, _, _, _]) dX1_mark_75 3 rfl (by decide) rfl rfl ?_
          refine x_iinc hX (lv' := [_, _, _, _, _]) dX1_mark_76 4 rfl (nI_i1 k) (by decide) rfl rfl ?_
          refine x_goto hX 48 dX1_mark_79 (by decide) ?_
          exact x_as rfl (by simp only [gCnt, if_neg c_52, if_neg c_66]) (ih (k + 1) (by omega))
        · replace c_66 := xb_t.mp c_66
          refine x_iconstv hX dX1_mark_69 1 (by decide) ?_
          refine x_goto hX 74 dX1_mark_70 (by decide) ?_
          refine x_iadd hX dX1_mark_74 ?_
          refine x_istore_n hX (lv' := [_, _, _, _, _]) dX1_mark_75 3 rfl (by decide) rfl rfl ?_
          refine x_iinc hX (lv' := [_, _, _, _, _]) dX1_mark_76 4 rfl (nI_i1 k) (by decide) rfl rfl ?_
          refine x_goto hX 48 dX1_mark_79 (by decide) ?_
          exact x_as rfl (by simp only [gCnt, if_neg c_52, if_pos c_66]) (ih (k + 1) (by omega))
  refine x_aload_n hX dX1_mark_0 0 rfl ?_
  refine x_aload_n hX dX1_mark_1 0 rfl ?_
  refine x_iload_n hX dX1_mark_2 1 rfl ?_
  refine x_cvi hX dX1_mark_3 1 rfl (kX1_isLetter l D cx h _ hM _) gX1_mark_X1_isLetter rfl ⟨rfl, by decide, by decide, by decide +kernel⟩ ⟨rfl, rfl, Nat.le_of_ble_eq_true rfl, Nat.le_of_ble_eq_true rfl, Nat.zero_le _, Nat.zero_le _⟩ rfl rfl (Nat.le_of_ble_eq_true rfl) rfl (fun r_3 _ hq_3 => ?_)
  obtain rfl := hq_3
  refine x_if_ne hX 13 dX1_mark_6 (by decide) (fun c_6 => ?_) (fun c_6 => ?_)
  · replace c_6 := xb_t.mp c_6
    refine x_aload_n hX dX1_mark_13 0 rfl ?_
    refine gM9 hX hin (by decide +kernel) dX1_mark_14 ?_
    refine x_iload_n hX dX1_mark_17 1 rfl ?_
    refine lM9 hX dX1_mark_18 (PM_in hM c_6) rfl ?_
    refine x_iconstv hX dX1_mark_19 1 (by decide) ?_
    refine x_icmp_ne hX 27 dX1_mark_20 (by decide) (fun c_20 => ?_) (fun c_20 => ?_)
    · refine x_iconstv hX dX1_mark_27 2 (by decide) ?_
      refine x_cvi hX dX1_mark_28 1 rfl (kX1_can l D cx h _ _) gX1_mark_X1_can rfl ⟨rfl, by decide, by decide, by decide +kernel⟩ ⟨rfl, rfl, Nat.le_of_ble_eq_true rfl, Nat.le_of_ble_eq_true rfl, Nat.zero_le _, Nat.zero_le _⟩ rfl rfl (Nat.le_of_ble_eq_true rfl) rfl (fun r_28 _ hq_28 => ?_)
      obtain rfl : r_28 = 0 := hq_28.trans (by decide)
      refine x_if_ne hX 36 dX1_mark_31 (by decide) (fun c => absurd c (by decide)) (fun _ => ?_)
      refine x_iconstv hX dX1_mark_34 0 (by decide) ?_
      exact x_asr (congrArg (wM cx h) (by simp only [qMark, jDel, if_pos c_6, if_neg c_20, z00, z10, z20, z30, if_true, if_false])) rfl (hret _ () _ _ (by simp only [wMark, jDel, if_pos c_6, if_neg c_20, z00, z10, z20, z30, if_true, if_false]) dX1_mark_35)
    · refine x_iconstv hX dX1_mark_23 0 (by decide) ?_
      refine x_goto hX 28 dX1_mark_24 (by decide) ?_
      refine x_cvi hX dX1_mark_28 1 rfl (kX1_can l D cx h _ _) gX1_mark_X1_can rfl ⟨rfl, by decide, by decide, by decide +kernel⟩ ⟨rfl, rfl, Nat.le_of_ble_eq_true rfl, Nat.le_of_ble_eq_true rfl, Nat.zero_le _, Nat.zero_le _⟩ rfl rfl (Nat.le_of_ble_eq_true rfl) rfl (fun r_28 _ hq_28 => ?_)
      obtain rfl : r_28 = 1 := hq_28.trans (by decide)
      refine x_if_ne hX 36 dX1_mark_31 (by decide) (fun _ => ?_) (fun c => absurd c (by decide))
      refine x_aload_n hX dX1_mark_36 0 rfl ?_
      refine gM7 hX hin (by decide +kernel) dX1_mark_37 ?_
      refine x_iload_n hX dX1_mark_40 1 rfl ?_
      refine lM7 hX dX1_mark_41 (PM_in hM c_6) rfl ?_
      refine x_istore_n hX (lv' := [_, _, _]) dX1_mark_42 2 rfl (by decide) rfl rfl ?_
      refine x_iconstv hX dX1_mark_43 0 (by decide) ?_
      refine x_istore_n hX (lv' := [_, _, _, _]) dX1_mark_44 3 rfl (by decide) rfl rfl ?_
      refine x_iconstv hX dX1_mark_45 0 (by decide) ?_
      refine x_istore hX (lv' := [_, _, _, _, _]) dX1_mark_46  (by decide) rfl rfl ?_
      exact x_as rfl (by simp [gCnt, nI_0]) (loop c_6 (by simp only [jDel, if_pos c_6, if_pos c_20]) 8 0 rfl)
  · replace c_6 := xb_f.mp c_6
    refine x_iconstv hX dX1_mark_9 1 (by decide) ?_
    refine x_goto hX 28 dX1_mark_10 (by decide) ?_
    refine x_cvi hX dX1_mark_28 1 rfl (kX1_can l D cx h _ _) gX1_mark_X1_can rfl ⟨rfl, by decide, by decide, by decide +kernel⟩ ⟨rfl, rfl, Nat.le_of_ble_eq_true rfl, Nat.le_of_ble_eq_true rfl, Nat.zero_le _, Nat.zero_le _⟩ rfl rfl (Nat.le_of_ble_eq_true rfl) rfl (fun r_28 _ hq_28 => ?_)
    obtain rfl : r_28 = 0 := hq_28.trans (by decide)
    refine x_if_ne hX 36 dX1_mark_31 (by decide) (fun c => absurd c (by decide)) (fun _ => ?_)
    refine x_iconstv hX dX1_mark_34 0 (by decide) ?_
    exact x_asr (congrArg (wM cx h) (by simp only [qMark, jDel, if_neg c_6, z00, z10, z20, z30, if_true, if_false])) rfl (hret _ () _ _ (by simp only [wMark, jDel, if_neg c_6, z00, z10, z20, z30, if_true, if_false]) dX1_mark_35)
