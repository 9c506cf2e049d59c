theorem in_X0_stateOf : ∀ w ∈ wsX00, w ∈ wsX0_stateOf := by decide +kernel
theorem tf_stateOf_IOB : ∀ w ∈ (vx_atS RX0 68 "java/lang/IndexOutOfBoundsException" xNm).filter goodWord, w ∈ wsX0_stateOf := fun _ h => List.mem_cons_of_mem _ (List.mem_append_right _ h)
set_option maxRecDepth 100000 in
set_option maxHeartbeats 4000000 in
theorem kX0_stateOf (l : Launch) (hfl : l.stackTraces = false) (D : va_G) (cx : xC) (h : Nat → Nat) (s : xS) {n : Nat} (hN : okX s n) (a : Int32) : xT l yX0_stateOf wsX0_stateOf (xRT 6 82) D cx [.ref (h 0), .int a] (wX cx h s) (fun _ : Unit => wX cx h (s)) (fun r _ => kLet s a = 0 ∧ r = s 3 (ix a)) (xPx [("java/lang/IndexOutOfBoundsException", 1)] (kLet s a)) := by
  refine x_enterT hfl (by decide) rfl rfl (Nat.le_of_ble_eq_true rfl) (by decide) (fun X hX hret hthr => ?_)
  have hin := in_X0_stateOf
  change xV X 2 0 0 (wX cx h s) 0 [(0, .ref (h 0)), (1, .int a)] []
  refine x_aload_n hX dX0_stateOf_0 0 rfl ?_
  refine x_iload_n hX dX0_stateOf_1 1 rfl ?_
  refine x_cvi hX dX0_stateOf_2 1 rfl (kX0_isLetter l D cx h _ _) gX0_stateOf_X0_isLetter rfl ⟨rfl, by decide, by decide, by decide +kernel⟩ ⟨rfl, rfl, Nat.le_of_ble_eq_true rfl, Nat.le_of_ble_eq_true rfl, Nat.zero_le _, Nat.zero_le _⟩ rfl rfl (Nat.le_of_ble_eq_true rfl) rfl (fun r_2 _ hq_2 => ?_)
  obtain rfl := hq_2
  refine x_if_ne hX 18 dX0_stateOf_5 (by decide) (fun c_5 => ?_) (fun c_5 => ?_)
  · replace c_5 := xb_t.mp c_5
    refine x_aload_n hX dX0_stateOf_18 0 rfl ?_
    refine gX3 hX hin (by decide +kernel) dX0_stateOf_19 ?_
    refine x_iload_n hX dX0_stateOf_22 1 rfl ?_
    refine lX3 hX dX0_stateOf_23 (PL_in hN c_5) rfl ?_
    exact hret _ () _ _ ⟨by simp only [kLet, if_pos c_5], rfl⟩ dX0_stateOf_24
  · replace c_5 := xb_f.mp c_5
    exact hthr 8 64 115 68 _ "there is no such letter" _ ⟨1, by simp, by simp only [kLet, if_neg c_5]⟩ (by decide +kernel) (by decide +kernel) (by decide +kernel) (by decide +kernel) (by decide +kernel) tf_stateOf_IOB tb_IOB to_IOB dX0_stateOf_8 dX0_stateOf_11 dX0_stateOf_12 dX0_stateOf_14 dX0_stateOf_17
theorem in_X0_relayOf : ∀ w ∈ wsX00, w ∈ wsX0_relayOf := by decide +kernel
theorem tf_relayOf_IOB : ∀ w ∈ (vx_atS RX0 68 "java/lang/IndexOutOfBoundsException" xNm).filter goodWord, w ∈ wsX0_relayOf := fun _ h => List.mem_cons_of_mem _ (List.mem_append_right _ h)
set_option maxRecDepth 100000 in
set_option maxHeartbeats 4000000 in
theorem kX0_relayOf (l : Launch) (hfl : l.stackTraces = false) (D : va_G) (cx : xC) (h : Nat → Nat) (s : xS) {n : Nat} (hN : okX s n) (a : Int32) : xT l yX0_relayOf wsX0_relayOf (xRT 6 82) D cx [.ref (h 0), .int a] (wX cx h s) (fun _ : Unit => wX cx h (s)) (fun r _ => kLet s a = 0 ∧ r = s 4 (ix a)) (xPx [("java/lang/IndexOutOfBoundsException", 1)] (kLet s a)) := by
  refine x_enterT hfl (by decide) rfl rfl (Nat.le_of_ble_eq_true rfl) (by decide) (fun X hX hret hthr => ?_)
  have hin := in_X0_relayOf
  change xV X 2 0 0 (wX cx h s) 0 [(0, .ref (h 0)), (1, .int a)] []
  refine x_aload_n hX dX0_relayOf_0 0 rfl ?_
  refine x_iload_n hX dX0_relayOf_1 1 rfl ?_
  refine x_cvi hX dX0_relayOf_2 1 rfl (kX0_isLetter l D cx h _ _) gX0_relayOf_X0_isLetter rfl ⟨rfl, by decide, by decide, by decide +kernel⟩ ⟨rfl, rfl, Nat.le_of_ble_eq_true rfl, Nat.le_of_ble_eq_true rfl, Nat.zero_le _, Nat.zero_le _⟩ rfl rfl (Nat.le_of_ble_eq_true rfl) rfl (fun r_2 _ hq_2 => ?_)
  obtain rfl := hq_2
  refine x_if_ne hX 18 dX0_relayOf_5 (by decide) (fun c_5 => ?_) (fun c_5 => ?_)
  · replace c_5 := xb_t.mp c_5
    refine x_aload_n hX dX0_relayOf_18 0 rfl ?_
    refine gX4 hX hin (by decide +kernel) dX0_relayOf_19 ?_
    refine x_iload_n hX dX0_relayOf_22 1 rfl ?_
    refine lX4 hX dX0_relayOf_23 (PL_in hN c_5) rfl ?_
    exact hret _ () _ _ ⟨by simp only [kLet, if_pos c_5], rfl⟩ dX0_relayOf_24
  · replace c_5 := xb_f.mp c_5
    exact hthr 8 64 115 68 _ "there is no such letter" _ ⟨1, by simp, by simp only [kLet, if_neg c_5]⟩ (by decide +kernel) (by decide +kernel) (by decide +kernel) (by decide +kernel) (by decide +kernel) tf_relayOf_IOB tb_IOB to_IOB dX0_relayOf_8 dX0_relayOf_11 dX0_relayOf_12 dX0_relayOf_14 dX0_relayOf_17
theorem in_X0_marksOn : ∀ w ∈ wsX00, w ∈ wsX0_marksOn := by decide +kernel
theorem tf_marksOn_IOB : ∀ w ∈ (vx_atS RX0 68 "java/lang/IndexOutOfBoundsException" xNm).filter goodWord, w ∈ wsX0_marksOn := fun _ h => List.mem_cons_of_mem _ (List.mem_append_right _ h)
set_option maxRecDepth 100000 in
set_option maxHeartbeats 4000000 in
theorem kX0_marksOn (l : Launch) (hfl : l.stackTraces = false) (D : va_G) (cx : xC) (h : Nat → Nat) (s : xS) {n : Nat} (hN : okX s n) (a : Int32) : xT l yX0_marksOn wsX0_marksOn (xRT 6 82) D cx [.ref (h 0), .int a] (wX cx h s) (fun _ : Unit => wX cx h (s)) (fun r _ => kLet s a = 0 ∧ r = s 5 (ix a)) (xPx [("java/lang/IndexOutOfBoundsException", 1)] (kLet s a)) := by
  refine x_enterT hfl (by decide) rfl rfl (Nat.le_of_ble_eq_true rfl) (by decide) (fun X hX hret hthr => ?_)
  have hin := in_X0_marksOn
  change xV X 2 0 0 (wX cx h s) 0 [(0, .ref (h 0)), (1, .int a)] []
  refine x_aload_n hX dX0_marksOn_0 0 rfl ?_
  refine x_iload_n hX dX0_marksOn_1 1 rfl ?_
  refine x_cvi hX dX0_marksOn_2 1 rfl (kX0_isLetter l D cx h _ _) gX0_marksOn_X0_isLetter rfl ⟨rfl, by decide, by decide, by decide +kernel⟩ ⟨rfl, rfl, Nat.le_of_ble_eq_true rfl, Nat.le_of_ble_eq_true rfl, Nat.zero_le _, Nat.zero_le _⟩ rfl rfl (Nat.le_of_ble_eq_true rfl) rfl (fun r_2 _ hq_2 => ?_)
  obtain rfl := hq_2
  refine x_if_ne hX 18 dX0_marksOn_5 (by decide) (fun c_5 => ?_) (fun c_5 => ?_)
  · replace c_5 := xb_t.mp c_5
    refine x_aload_n hX dX0_marksOn_18 0 rfl ?_
    refine gX5 hX hin (by decide +kernel) dX0_marksOn_19 ?_
    refine x_iload_n hX dX0_marksOn_22 1 rfl ?_
    refine lX5 hX dX0_marksOn_23 (PL_in hN c_5) rfl ?_
    exact hret _ () _ _ ⟨by simp only [kLet, if_pos c_5], rfl⟩ dX0_marksOn_24
  · replace c_5 := xb_f.mp c_5
    exact hthr 8 64 115 68 _ "there is no such letter" _ ⟨1, by simp, by simp only [kLet, if_neg c_5]⟩ (by decide +kernel) (by decide +kernel) (by decide +kernel) (by decide +kernel) (by decide +kernel) tf_marksOn_IOB tb_IOB to_IOB dX0_marksOn_8 dX0_marksOn_11 dX0_marksOn_12 dX0_marksOn_14 dX0_marksOn_17
theorem in_X0_queue : ∀ w ∈ wsX00, w ∈ wsX0_queue := by decide +kernel
theorem tf_queue_IOB : ∀ w ∈ (vx_atS RX0 68 "java/lang/IndexOutOfBoundsException" xNm).filter goodWord, w ∈ wsX0_queue := fun _ h => List.mem_cons_of_mem _ (List.mem_append_right _ h)
set_option maxRecDepth 100000 in
set_option maxHeartbeats 4000000 in
theorem kX0_queue (l : Launch) (hfl : l.stackTraces = false) (D : va_G) (cx : xC) (h : Nat → Nat) (s : xS) {n : Nat} (hN : okX s n) (a : Int32) : xT l yX0_queue wsX0_queue (xRT 6 82) D cx [.ref (h 0), .int a] (wX cx h s) (fun _ : Unit => wX cx h (s)) (fun r _ => k4 a = 0 ∧ r = fLen s a n) (xPx [("java/lang/IndexOutOfBoundsException", 1)] (k4 a)) := by
  refine x_enterT hfl (by decide) rfl rfl (Nat.le_of_ble_eq_true rfl) (by decide) (fun X hX hret hthr => ?_)
  have hin := in_X0_queue
  change xV X 2 0 0 (wX cx h s) 0 [(0, .ref (h 0)), (1, .int a)] []
  refine x_iload_n hX dX0_queue_0 1 rfl ?_
  refine x_csi hX dX0_queue_1 1 rfl (kX0_isRelay l D cx _) gX0_queue_X0_isRelay rfl ⟨by decide, by decide, by decide +kernel⟩ ⟨rfl, rfl, Nat.le_of_ble_eq_true rfl, Nat.le_of_ble_eq_true rfl, Nat.zero_le _, Nat.zero_le _⟩ (Nat.le_of_ble_eq_true rfl) rfl (fun r_1 _ hq_1 => ?_)
  obtain rfl := hq_1
  refine x_if_ne hX 17 dX0_queue_4 (by decide) (fun c_4 => ?_) (fun c_4 => ?_)
  · replace c_4 := xb_t.mp c_4
    refine x_aload_n hX dX0_queue_17 0 rfl ?_
    refine x_iload_n hX dX0_queue_18 1 rfl ?_
    refine x_cvi hX dX0_queue_19 1 rfl (kX0_lengthOfQueue l D cx h _ hN _) gX0_queue_X0_lengthOfQueue rfl ⟨rfl, by decide, by decide, by decide +kernel⟩ ⟨rfl, rfl, Nat.le_of_ble_eq_true rfl, Nat.le_of_ble_eq_true rfl, Nat.zero_le _, Nat.zero_le _⟩ rfl rfl (Nat.le_of_ble_eq_true rfl) rfl (fun r_19 _ hq_19 => ?_)
    obtain rfl := hq_19
    exact hret _ () _ _ ⟨by simp only [k4, if_pos c_4], rfl⟩ dX0_queue_22
  · replace c_4 := xb_f.mp c_4
    exact hthr 7 64 66 68 _ "there is no such relay" _ ⟨1, by simp, by simp only [k4, if_neg c_4]⟩ (by decide +kernel) (by decide +kernel) (by decide +kernel) (by decide +kernel) (by decide +kernel) tf_queue_IOB tb_IOB to_IOB dX0_queue_7 dX0_queue_10 dX0_queue_11 dX0_queue_13 dX0_queue_16
theorem in_X0_coins : ∀ w ∈ wsX00, w ∈ wsX0_coins := by decide +kernel
theorem tf_coins_IOB : ∀ w ∈ (vx_atS RX0 68 "java/lang/IndexOutOfBoundsException" xNm).filter goodWord, w ∈ wsX0_coins := fun _ h => List.mem_cons_of_mem _ (List.mem_append_right _ h)
set_option maxRecDepth 100000 in
set_option maxHeartbeats 4000000 in
theorem kX0_coins (l : Launch) (hfl : l.stackTraces = false) (D : va_G) (cx : xC) (h : Nat → Nat) (s : xS) {n : Nat} (hN : okX s n) (a : Int32) : xT l yX0_coins wsX0_coins (xRT 6 82) D cx [.ref (h 0), .int a] (wX cx h s) (fun _ : Unit => wX cx h (s)) (fun r _ => k8 a = 0 ∧ r = s 8 (ix a)) (xPx [("java/lang/IndexOutOfBoundsException", 1)] (k8 a)) := by
  refine x_enterT hfl (by decide) rfl rfl (Nat.le_of_ble_eq_true rfl) (by decide) (fun X hX hret hthr => ?_)
  have hin := in_X0_coins
  change xV X 2 0 0 (wX cx h s) 0 [(0, .ref (h 0)), (1, .int a)] []
  refine x_iload_n hX dX0_coins_0 1 rfl ?_
  refine x_csi hX dX0_coins_1 1 rfl (kX0_isPerson l D cx _) gX0_coins_X0_isPerson rfl ⟨by decide, by decide, by decide +kernel⟩ ⟨rfl, rfl, Nat.le_of_ble_eq_true rfl, Nat.le_of_ble_eq_true rfl, Nat.zero_le _, Nat.zero_le _⟩ (Nat.le_of_ble_eq_true rfl) rfl (fun r_1 _ hq_1 => ?_)
  obtain rfl := hq_1
  refine x_if_ne hX 17 dX0_coins_4 (by decide) (fun c_4 => ?_) (fun c_4 => ?_)
  · replace c_4 := xb_t.mp c_4
    refine x_aload_n hX dX0_coins_17 0 rfl ?_
    refine gX8 hX hin (by decide +kernel) dX0_coins_18 ?_
    refine x_iload_n hX dX0_coins_21 1 rfl ?_
    refine lX8 hX dX0_coins_22 (P8_in c_4) rfl ?_
    exact hret _ () _ _ ⟨by simp only [k8, if_pos c_4], rfl⟩ dX0_coins_23
  · replace c_4 := xb_f.mp c_4
    exact hthr 7 64 83 68 _ "there is no such person" _ ⟨1, by simp, by simp only [k8, if_neg c_4]⟩ (by decide +kernel) (by decide +kernel) (by decide +kernel) (by decide +kernel) (by decide +kernel) tf_coins_IOB tb_IOB to_IOB dX0_coins_7 dX0_coins_10 dX0_coins_11 dX0_coins_13 dX0_coins_16
theorem in_X0_pool : ∀ w ∈ wsX00, w ∈ wsX0_pool := by decide +kernel
theorem tf_pool_IOB : ∀ w ∈ (vx_atS RX0 68 "java/lang/IndexOutOfBoundsException" xNm).filter goodWord, w ∈ wsX0_pool := fun _ h => List.mem_cons_of_mem _ (List.mem_append_right _ h)
set_option maxRecDepth 100000 in
set_option maxHeartbeats 4000000 in
theorem kX0_pool (l : Launch) (hfl : l.stackTraces = false) (D : va_G) (cx : xC) (h : Nat → Nat) (s : xS) {n : Nat} (hN : okX s n) (a : Int32) : xT l yX0_pool wsX0_pool (xRT 6 82) D cx [.ref (h 0), .int a] (wX cx h s) (fun _ : Unit => wX cx h (s)) (fun r _ => k4 a = 0 ∧ r = s 10 (ix a)) (xPx [("java/lang/IndexOutOfBoundsException", 1)] (k4 a)) := by
  refine x_enterT hfl (by decide) rfl rfl (Nat.le_of_ble_eq_true rfl) (by decide) (fun X hX hret hthr => ?_)
  have hin := in_X0_pool
  change xV X 2 0 0 (wX cx h s) 0 [(0, .ref (h 0)), (1, .int a)] []
  refine x_iload_n hX dX0_pool_0 1 rfl ?_
  refine x_csi hX dX0_pool_1 1 rfl (kX0_isRelay l D cx _) gX0_pool_X0_isRelay rfl ⟨by decide, by decide, by decide +kernel⟩ ⟨rfl, rfl, Nat.le_of_ble_eq_true rfl, Nat.le_of_ble_eq_true rfl, Nat.zero_le _, Nat.zero_le _⟩ (Nat.le_of_ble_eq_true rfl) rfl (fun r_1 _ hq_1 => ?_)
  obtain rfl := hq_1
  refine x_if_ne hX 17 dX0_pool_4 (by decide) (fun c_4 => ?_) (fun c_4 => ?_)
  · replace c_4 := xb_t.mp c_4
    refine x_aload_n hX dX0_pool_17 0 rfl ?_
    refine gX10 hX hin (by decide +kernel) dX0_pool_18 ?_
    refine x_iload_n hX dX0_pool_21 1 rfl ?_
    refine lX10 hX dX0_pool_22 (P4_in c_4) rfl ?_
    exact hret _ () _ _ ⟨by simp only [k4, if_pos c_4], rfl⟩ dX0_pool_23
  · replace c_4 := xb_f.mp c_4
    exact hthr 7 64 66 68 _ "there is no such relay" _ ⟨1, by simp, by simp only [k4, if_neg c_4]⟩ (by decide +kernel) (by decide +kernel) (by decide +kernel) (by decide +kernel) (by decide +kernel) tf_pool_IOB tb_IOB to_IOB dX0_pool_7 dX0_pool_10 dX0_pool_11 dX0_pool_13 dX0_pool_16
theorem in_X0_reputation : ∀ w ∈ wsX00, w ∈ wsX0_reputation := by decide +kernel
theorem tf_reputation_IOB : ∀ w ∈ (vx_atS RX0 68 "java/lang/IndexOutOfBoundsException" xNm).filter goodWord, w ∈ wsX0_reputation := fun _ h => List.mem_cons_of_mem _ (List.mem_append_right _ h)
set_option maxRecDepth 100000 in
set_option maxHeartbeats 4000000 in
theorem kX0_reputation (l : Launch) (hfl : l.stackTraces = false) (D : va_G) (cx : xC) (h : Nat → Nat) (s : xS) {n : Nat} (hN : okX s n) (a : Int32) : xT l yX0_reputation wsX0_reputation (xRT 6 86) D cx [.ref (h 0), .int a] (wX cx h s) (fun _ : Unit => wX cx h (s)) (fun r _ => k8 a = 0 ∧ r = fRep s a n) (xPx [("java/lang/IndexOutOfBoundsException", 1)] (k8 a)) := by
  refine x_enterT hfl (by decide) rfl rfl (Nat.le_of_ble_eq_true rfl) (by decide) (fun X hX hret hthr => ?_)
  have hin := in_X0_reputation
  change xV X 2 0 0 (wX cx h s) 0 [(0, .ref (h 0)), (1, .int a)] []
  refine x_iload_n hX dX0_reputation_0 1 rfl ?_
  refine x_csi hX dX0_reputation_1 1 rfl (kX0_isPerson l D cx _) gX0_reputation_X0_isPerson rfl ⟨by decide, by decide, by decide +kernel⟩ ⟨rfl, rfl, Nat.le_of_ble_eq_true rfl, Nat.le_of_ble_eq_true rfl, Nat.zero_le _, Nat.zero_le _⟩ (Nat.le_of_ble_eq_true rfl) rfl (fun r_1 _ hq_1 => ?_)
  obtain rfl := hq_1
  refine x_if_ne hX 17 dX0_reputation_4 (by decide) (fun c_4 => ?_) (fun c_4 => ?_)
  · replace c_4 := xb_t.mp c_4
    refine x_aload_n hX dX0_reputation_17 0 rfl ?_
    refine x_iload_n hX dX0_reputation_18 1 rfl ?_
    refine x_cvi hX dX0_reputation_19 1 rfl (kX0_reputationOf l D cx h _ hN _) gX0_reputation_X0_reputationOf rfl ⟨rfl, by decide, by decide, by decide +kernel⟩ ⟨rfl, rfl, Nat.le_of_ble_eq_true rfl, Nat.le_of_ble_eq_true rfl, Nat.zero_le _, Nat.zero_le _⟩ rfl rfl (Nat.le_of_ble_eq_true rfl) rfl (fun r_19 _ hq_19 => ?_)
    obtain rfl := hq_19
    exact hret _ () _ _ ⟨by simp only [k8, if_pos c_4], rfl⟩ dX0_reputation_22
  · replace c_4 := xb_f.mp c_4
    exact hthr 7 64 83 68 _ "there is no such person" _ ⟨1, by simp, by simp only [k8, if_neg c_4]⟩ (by decide +kernel) (by decide +kernel) (by decide +kernel) (by decide +kernel) (by decide +kernel) tf_reputation_IOB tb_IOB to_IOB dX0_reputation_7 dX0_reputation_10 dX0_reputation_11 dX0_reputation_13 dX0_reputation_16
theorem in_X0_reputationAtOnce : ∀ w ∈ wsX00, w ∈ wsX0_reputationAtOnce := by decide +kernel
theorem tf_reputationAtOnce_IOB : ∀ w ∈ (vx_atS RX0 68 "java/lang/IndexOutOfBoundsException" xNm).filter goodWord, w ∈ wsX0_reputationAtOnce := fun _ h => List.mem_cons_of_mem _ (List.mem_append_right _ h)
set_option maxRecDepth 100000 in
set_option maxHeartbeats 4000000 in
theorem kX0_reputationAtOnce (l : Launch) (hfl : l.stackTraces = false) (D : va_G) (cx : xC) (h : Nat → Nat) (s : xS) {n : Nat} (hN : okX s n) (a : Int32) : xT l yX0_reputationAtOnce wsX0_reputationAtOnce (xRT 6 84) D cx [.ref (h 0), .int a] (wX cx h s) (fun _ : Unit => wX cx h (fAll s n)) (fun r _ => k8 a = 0 ∧ r = (fAll s n) 15 (ix a)) (xPx [("java/lang/IndexOutOfBoundsException", 1)] (k8 a)) := by
  refine x_enterT hfl (by decide) rfl rfl (Nat.le_of_ble_eq_true rfl) (by decide) (fun X hX hret hthr => ?_)
  have hin := in_X0_reputationAtOnce
  change xV X 2 0 0 (wX cx h s) 0 [(0, .ref (h 0)), (1, .int a)] []
  refine x_iload_n hX dX0_reputationAtOnce_0 1 rfl ?_
  refine x_csi hX dX0_reputationAtOnce_1 1 rfl (kX0_isPerson l D cx _) gX0_reputationAtOnce_X0_isPerson rfl ⟨by decide, by decide, by decide +kernel⟩ ⟨rfl, rfl, Nat.le_of_ble_eq_true rfl, Nat.le_of_ble_eq_true rfl, Nat.zero_le _, Nat.zero_le _⟩ (Nat.le_of_ble_eq_true rfl) rfl (fun r_1 _ hq_1 => ?_)
  obtain rfl := hq_1
  refine x_if_ne hX 17 dX0_reputationAtOnce_4 (by decide) (fun c_4 => ?_) (fun c_4 => ?_)
  · replace c_4 := xb_t.mp c_4
    refine x_aload_n hX dX0_reputationAtOnce_17 0 rfl ?_
    refine x_cvn hX dX0_reputationAtOnce_18 0 rfl (kX0_findAllReputations l D cx h _ hN) gX0_reputationAtOnce_X0_findAllReputations rfl ⟨rfl, by decide, by decide, by decide +kernel⟩ ⟨rfl, rfl, Nat.le_of_ble_eq_true rfl, Nat.le_of_ble_eq_true rfl, Nat.zero_le _, Nat.zero_le _⟩ rfl rfl (Nat.le_of_ble_eq_true rfl) rfl (fun _ _ => ?_)
    refine x_aload_n hX dX0_reputationAtOnce_21 0 rfl ?_
    refine gX15 hX hin (by decide +kernel) dX0_reputationAtOnce_22 ?_
    refine x_iload_n hX dX0_reputationAtOnce_25 1 rfl ?_
    refine lX15 hX dX0_reputationAtOnce_26 (P8_in c_4) rfl ?_
    exact hret _ () _ _ ⟨by simp only [k8, if_pos c_4], rfl⟩ dX0_reputationAtOnce_27
  · replace c_4 := xb_f.mp c_4
    exact hthr 7 64 83 68 _ "there is no such person" _ ⟨1, by simp, by simp only [k8, if_neg c_4]⟩ (by decide +kernel) (by decide +kernel) (by decide +kernel) (by decide +kernel) (by decide +kernel) tf_reputationAtOnce_IOB tb_IOB to_IOB dX0_reputationAtOnce_7 dX0_reputationAtOnce_10 dX0_reputationAtOnce_11 dX0_reputationAtOnce_13 dX0_reputationAtOnce_16
theorem in_X0_leastStake : ∀ w ∈ wsX00, w ∈ wsX0_leastStake := by decide +kernel
theorem tf_leastStake_IOB : ∀ w ∈ (vx_atS RX0 68 "java/lang/IndexOutOfBoundsException" xNm).filter goodWord, w ∈ wsX0_leastStake := fun _ h => List.mem_cons_of_mem _ (List.mem_append_right _ h)
set_option maxRecDepth 100000 in
set_option maxHeartbeats 4000000 in
theorem kX0_leastStake (l : Launch) (hfl : l.stackTraces = false) (D : va_G) (cx : xC) (h : Nat → Nat) (s : xS) {n : Nat} (hN : okX s n) (a : Int32) : xT l yX0_leastStake wsX0_leastStake (xRT 6 107) D cx [.ref (h 0), .int a] (wX cx h s) (fun _ : Unit => wX cx h (s)) (fun r _ => k8 a = 0 ∧ r = fLeast s n a) (xPx [("java/lang/IndexOutOfBoundsException", 1)] (k8 a)) := by
  refine x_enterT hfl (by decide) rfl rfl (Nat.le_of_ble_eq_true rfl) (by decide) (fun X hX hret hthr => ?_)
  have hin := in_X0_leastStake
  change xV X 2 0 0 (wX cx h s) 0 [(0, .ref (h 0)), (1, .int a)] []
  refine x_iload_n hX dX0_leastStake_0 1 rfl ?_
  refine x_csi hX dX0_leastStake_1 1 rfl (kX0_isPerson l D cx _) gX0_leastStake_X0_isPerson rfl ⟨by decide, by decide, by decide +kernel⟩ ⟨rfl, rfl, Nat.le_of_ble_eq_true rfl, Nat.le_of_ble_eq_true rfl, Nat.zero_le _, Nat.zero_le _⟩ (Nat.le_of_ble_eq_true rfl) rfl (fun r_1 _ hq_1 => ?_)
  obtain rfl := hq_1
  refine x_if_ne hX 17 dX0_leastStake_4 (by decide) (fun c_4 => ?_) (fun c_4 => ?_)
  · replace c_4 := xb_t.mp c_4
    refine x_aload_n hX dX0_leastStake_17 0 rfl ?_
    refine x_iload_n hX dX0_leastStake_18 1 rfl ?_
    refine x_cvi hX dX0_leastStake_19 1 rfl (kX0_lowestStakeOf l D cx h _ hN _) gX0_leastStake_X0_lowestStakeOf rfl ⟨rfl, by decide, by decide, by decide +kernel⟩ ⟨rfl, rfl, Nat.le_of_ble_eq_true rfl, Nat.le_of_ble_eq_true rfl, Nat.zero_le _, Nat.zero_le _⟩ rfl rfl (Nat.le_of_ble_eq_true rfl) rfl (fun r_19 _ hq_19 => ?_)
    obtain rfl := hq_19
    exact hret _ () _ _ ⟨by simp only [k8, if_pos c_4], rfl⟩ dX0_leastStake_22
  · replace c_4 := xb_f.mp c_4
    exact hthr 7 64 83 68 _ "there is no such person" _ ⟨1, by simp, by simp only [k8, if_neg c_4]⟩ (by decide +kernel) (by decide +kernel) (by decide +kernel) (by decide +kernel) (by decide +kernel) tf_leastStake_IOB tb_IOB to_IOB dX0_leastStake_7 dX0_leastStake_10 dX0_leastStake_11 dX0_leastStake_13 dX0_leastStake_16
theorem in_X0_falseMarks : ∀ w ∈ wsX00, w ∈ wsX0_falseMarks := by decide +kernel
theorem tf_falseMarks_IOB : ∀ w ∈ (vx_atS RX0 68 "java/lang/IndexOutOfBoundsException" xNm).filter goodWord, w ∈ wsX0_falseMarks := fun _ h => List.mem_cons_of_mem _ (List.mem_append_right _ h)
set_option maxRecDepth 100000 in
set_option maxHeartbeats 4000000 in
theorem kX0_falseMarks (l : Launch) (hfl : l.stackTraces = false) (D : va_G) (cx : xC) (h : Nat → Nat) (s : xS) {n : Nat} (hN : okX s n) (a : Int32) : xT l yX0_falseMarks wsX0_falseMarks (xRT 6 82) D cx [.ref (h 0), .int a] (wX cx h s) (fun _ : Unit => wX cx h (s)) (fun r _ => k8 a = 0 ∧ r = s 9 (ix a)) (xPx [("java/lang/IndexOutOfBoundsException", 1)] (k8 a)) := by
  refine x_enterT hfl (by decide) rfl rfl (Nat.le_of_ble_eq_true rfl) (by decide) (fun X hX hret hthr => ?_)
  have hin := in_X0_falseMarks
  change xV X 2 0 0 (wX cx h s) 0 [(0, .ref (h 0)), (1, .int a)] []
  refine x_iload_n hX dX0_falseMarks_0 1 rfl ?_
  refine x_csi hX dX0_falseMarks_1 1 rfl (kX0_isPerson l D cx _) gX0_falseMarks_X0_isPerson rfl ⟨by decide, by decide, by decide +kernel⟩ ⟨rfl, rfl, Nat.le_of_ble_eq_true rfl, Nat.le_of_ble_eq_true rfl, Nat.zero_le _, Nat.zero_le _⟩ (Nat.le_of_ble_eq_true rfl) rfl (fun r_1 _ hq_1 => ?_)
  obtain rfl := hq_1
  refine x_if_ne hX 17 dX0_falseMarks_4 (by decide) (fun c_4 => ?_) (fun c_4 => ?_)
  · replace c_4 := xb_t.mp c_4
    refine x_aload_n hX dX0_falseMarks_17 0 rfl ?_
    refine gX9 hX hin (by decide +kernel) dX0_falseMarks_18 ?_
    refine x_iload_n hX dX0_falseMarks_21 1 rfl ?_
    refine lX9 hX dX0_falseMarks_22 (P8_in c_4) rfl ?_
    exact hret _ () _ _ ⟨by simp only [k8, if_pos c_4], rfl⟩ dX0_falseMarks_23
  · replace c_4 := xb_f.mp c_4
    exact hthr 7 64 83 68 _ "there is no such person" _ ⟨1, by simp, by simp only [k8, if_neg c_4]⟩ (by decide +kernel) (by decide +kernel) (by decide +kernel) (by decide +kernel) (by decide +kernel) tf_falseMarks_IOB tb_IOB to_IOB dX0_falseMarks_7 dX0_falseMarks_10 dX0_falseMarks_11 dX0_falseMarks_13 dX0_falseMarks_16
theorem in_X0_setRoute : ∀ w ∈ wsX00, w ∈ wsX0_setRoute := by decide +kernel
theorem tf_setRoute_IOB : ∀ w ∈ (vx_atS RX0 68 "java/lang/IndexOutOfBoundsException" xNm).filter goodWord, w ∈ wsX0_setRoute := fun _ h => List.mem_cons_of_mem _ (List.mem_append_left _ (List.mem_append_right _ h))
theorem tf_setRoute_IAE : ∀ w ∈ (vx_atS RX0 75 "java/lang/IllegalArgumentException" xNm).filter goodWord, w ∈ wsX0_setRoute := fun _ h => List.mem_cons_of_mem _ (List.mem_append_right _ h)
set_option maxRecDepth 100000 in
set_option maxHeartbeats 4000000 in
theorem kX0_setRoute (l : Launch) (hfl : l.stackTraces = false) (D : va_G) (cx : xC) (h : Nat → Nat) (s : xS) {n : Nat} (hN : okX s n) (a b c : Int32) : xT l yX0_setRoute wsX0_setRoute (xRT 6 82) D cx [.ref (h 0), .int a, .int b, .int c] (wX cx h s) (fun _ : Unit => wX cx h (sRoute s a b c)) (fun r _ => kRoute a b c = 0 ∧ r = vRoute s a b) (xPx [("java/lang/IndexOutOfBoundsException", 1), ("java/lang/IllegalArgumentException", 2)] (kRoute a b c)) := by
  refine x_enterT hfl (by decide) rfl rfl (Nat.le_of_ble_eq_true rfl) (by decide) (fun X hX hret hthr => ?_)
  have hin := in_X0_setRoute
  change xV X 6 0 0 (wX cx h s) 0 [(0, .ref (h 0)), (1, .int a), (2, .int b), (3, .int c)] []
  refine x_iload_n hX dX0_setRoute_0 1 rfl ?_
  refine x_csi hX dX0_setRoute_1 1 rfl (kX0_isRelay l D cx _) gX0_setRoute_X0_isRelay rfl ⟨by decide, by decide, by decide +kernel⟩ ⟨rfl, rfl, Nat.le_of_ble_eq_true rfl, Nat.le_of_ble_eq_true rfl, Nat.zero_le _, Nat.zero_le _⟩ (Nat.le_of_ble_eq_true rfl) rfl (fun r_1 _ hq_1 => ?_)
  obtain rfl := hq_1
  refine x_if_eq hX 21 dX0_setRoute_4 (by decide) (fun c_4 => ?_) (fun c_4 => ?_)
  · replace c_4 := xb_f.mp c_4
    exact hthr 21 64 66 68 _ "there is no such relay" _ ⟨1, by simp, by simp only [kRoute, if_neg c_4]⟩ (by decide +kernel) (by decide +kernel) (by decide +kernel) (by decide +kernel) (by decide +kernel) tf_setRoute_IOB tb_IOB to_IOB dX0_setRoute_21 dX0_setRoute_24 dX0_setRoute_25 dX0_setRoute_27 dX0_setRoute_30
  · replace c_4 := xb_t.mp c_4
    refine x_iload_n hX dX0_setRoute_7 2 rfl ?_
    refine x_csi hX dX0_setRoute_8 1 rfl (kX0_isRelay l D cx _) gX0_setRoute_X0_isRelay rfl ⟨by decide, by decide, by decide +kernel⟩ ⟨rfl, rfl, Nat.le_of_ble_eq_true rfl, Nat.le_of_ble_eq_true rfl, Nat.zero_le _, Nat.zero_le _⟩ (Nat.le_of_ble_eq_true rfl) rfl (fun r_8 _ hq_8 => ?_)
    obtain rfl := hq_8
    refine x_if_eq hX 21 dX0_setRoute_11 (by decide) (fun c_11 => ?_) (fun c_11 => ?_)
    · replace c_11 := xb_f.mp c_11
      exact hthr 21 64 66 68 _ "there is no such relay" _ ⟨1, by simp, by simp only [kRoute, if_pos c_4, if_neg c_11]⟩ (by decide +kernel) (by decide +kernel) (by decide +kernel) (by decide +kernel) (by decide +kernel) tf_setRoute_IOB tb_IOB to_IOB dX0_setRoute_21 dX0_setRoute_24 dX0_setRoute_25 dX0_setRoute_27 dX0_setRoute_30
    · replace c_11 := xb_t.mp c_11
      refine x_iload_n hX dX0_setRoute_14 3 rfl ?_
      refine x_csi hX dX0_setRoute_15 1 rfl (kX0_isRelay l D cx _) gX0_setRoute_X0_isRelay rfl ⟨by decide, by decide, by decide +kernel⟩ ⟨rfl, rfl, Nat.le_of_ble_eq_true rfl, Nat.le_of_ble_eq_true rfl, Nat.zero_le _, Nat.zero_le _⟩ (Nat.le_of_ble_eq_true rfl) rfl (fun r_15 _ hq_15 => ?_)
      obtain rfl := hq_15
      refine x_if_ne hX 31 dX0_setRoute_18 (by decide) (fun c_18 => ?_) (fun c_18 => ?_)
      · replace c_18 := xb_t.mp c_18
        refine x_iload_n hX dX0_setRoute_31 2 rfl ?_
        refine x_iload_n hX dX0_setRoute_32 1 rfl ?_
        refine x_icmp_eq hX 41 dX0_setRoute_33 (by decide) (fun c_33 => ?_) (fun c_33 => ?_)
        · exact hthr 41 71 73 75 _ "a route leads to another relay, by another relay" _ ⟨2, by simp, by simp only [kRoute, if_pos c_4, if_pos c_11, if_pos c_18, if_pos c_33]⟩ (by decide +kernel) (by decide +kernel) (by decide +kernel) (by decide +kernel) (by decide +kernel) tf_setRoute_IAE tb_IAE to_IAE dX0_setRoute_41 dX0_setRoute_44 dX0_setRoute_45 dX0_setRoute_47 dX0_setRoute_50
        · refine x_iload_n hX dX0_setRoute_36 3 rfl ?_
          refine x_iload_n hX dX0_setRoute_37 1 rfl ?_
          refine x_icmp_ne hX 51 dX0_setRoute_38 (by decide) (fun c_38 => ?_) (fun c_38 => ?_)
          · refine x_iload_n hX dX0_setRoute_51 1 rfl ?_
            refine x_iconstv hX dX0_setRoute_52 4 (by decide) ?_
            refine x_imul hX dX0_setRoute_53 ?_
            refine x_iload_n hX dX0_setRoute_54 2 rfl ?_
            refine x_iadd hX dX0_setRoute_55 ?_
            refine x_istore hX (lv' := [_, _, _, _, _]) dX0_setRoute_56  (by decide) rfl rfl ?_
            refine x_aload_n hX dX0_setRoute_58 0 rfl ?_
            refine gX11 hX hin (by decide +kernel) dX0_setRoute_59 ?_
            refine x_iload hX dX0_setRoute_62 4 rfl ?_
            refine lX11 hX dX0_setRoute_64 (P4_in16 c_4 c_11) rfl ?_
            refine x_istore hX (lv' := [_, _, _, _, _, _]) dX0_setRoute_65  (by decide) rfl rfl ?_
            refine x_aload_n hX dX0_setRoute_67 0 rfl ?_
            refine gX11 hX hin (by decide +kernel) dX0_setRoute_68 ?_
            refine x_iload hX dX0_setRoute_71 4 rfl ?_
            refine x_iload_n hX dX0_setRoute_73 3 rfl ?_
            refine sX11 hX dX0_setRoute_74 (P4_in16 c_4 c_11) rfl ?_
            refine x_iload hX dX0_setRoute_75 5 rfl ?_
            exact hret _ () _ _ ⟨by simp only [kRoute, if_pos c_4, if_pos c_11, if_pos c_18, if_neg c_33, if_neg c_38], rfl⟩ dX0_setRoute_77
          · exact hthr 41 71 73 75 _ "a route leads to another relay, by another relay" _ ⟨2, by simp, by simp only [kRoute, if_pos c_4, if_pos c_11, if_pos c_18, if_neg c_33, if_pos c_38]⟩ (by decide +kernel) (by decide +kernel) (by decide +kernel) (by decide +kernel) (by decide +kernel) tf_setRoute_IAE tb_IAE to_IAE dX0_setRoute_41 dX0_setRoute_44 dX0_setRoute_45 dX0_setRoute_47 dX0_setRoute_50
      · replace c_18 := xb_f.mp c_18
        exact hthr 21 64 66 68 _ "there is no such relay" _ ⟨1, by simp, by simp only [kRoute, if_pos c_4, if_pos c_11, if_neg c_18]⟩ (by decide +kernel) (by decide +kernel) (by decide +kernel) (by decide +kernel) (by decide +kernel) tf_setRoute_IOB tb_IOB to_IOB dX0_setRoute_21 dX0_setRoute_24 dX0_setRoute_25 dX0_setRoute_27 dX0_setRoute_30
theorem in_X0_answer : ∀ w ∈ wsX00, w ∈ wsX0_answer := by decide +kernel
theorem tf_answer_IOB : ∀ w ∈ (vx_atS RX0 68 "java/lang/IndexOutOfBoundsException" xNm).filter goodWord, w ∈ wsX0_answer := fun _ h => List.mem_cons_of_mem _ (List.mem_append_left _ (List.mem_append_right _ h))
theorem tf_answer_ISE : ∀ w ∈ (vx_atS RX0 95 "java/lang/IllegalStateException" xNm).filter goodWord, w ∈ wsX0_answer := fun _ h => List.mem_cons_of_mem _ (List.mem_append_right _ h)
set_option maxRecDepth 100000 in
set_option maxHeartbeats 4000000 in
theorem kX0_answer (l : Launch) (hfl : l.stackTraces = false) (D : va_G) (cx : xC) (h : Nat → Nat) (s : xS) {n : Nat} (hN : okX s n) (a : Int32) : xT l yX0_answer wsX0_answer (xRT 6 86) D cx [.ref (h 0), .int a] (wX cx h s) (fun _ : Unit => wX cx h (sAns s a)) (fun r _ => kDel s a = 0 ∧ r = fRep (sAns s a) ((sAns s a) 0 (ix a)) n) (xPx [("java/lang/IndexOutOfBoundsException", 1), ("java/lang/IllegalStateException", 2)] (kDel s a)) := by
  refine x_enterT hfl (by decide) rfl rfl (Nat.le_of_ble_eq_true rfl) (by decide) (fun X hX hret hthr => ?_)
  have hin := in_X0_answer
  change xV X 2 0 0 (wX cx h s) 0 [(0, .ref (h 0)), (1, .int a)] []
  refine x_aload_n hX dX0_answer_0 0 rfl ?_
  refine x_iload_n hX dX0_answer_1 1 rfl ?_
  refine x_cvi hX dX0_answer_2 1 rfl (kX0_isLetter l D cx h _ _) gX0_answer_X0_isLetter rfl ⟨rfl, by decide, by decide, by decide +kernel⟩ ⟨rfl, rfl, Nat.le_of_ble_eq_true rfl, Nat.le_of_ble_eq_true rfl, Nat.zero_le _, Nat.zero_le _⟩ rfl rfl (Nat.le_of_ble_eq_true rfl) rfl (fun r_2 _ hq_2 => ?_)
  obtain rfl := hq_2
  refine x_if_ne hX 18 dX0_answer_5 (by decide) (fun c_5 => ?_) (fun c_5 => ?_)
  · replace c_5 := xb_t.mp c_5
    refine x_aload_n hX dX0_answer_18 0 rfl ?_
    refine gX3 hX hin (by decide +kernel) dX0_answer_19 ?_
    refine x_iload_n hX dX0_answer_22 1 rfl ?_
    refine lX3 hX dX0_answer_23 (PL_in hN c_5) rfl ?_
    refine x_iconstv hX dX0_answer_24 1 (by decide) ?_
    refine x_icmp_eq hX 38 dX0_answer_25 (by decide) (fun c_25 => ?_) (fun c_25 => ?_)
    · refine x_aload_n hX dX0_answer_38 0 rfl ?_
      refine gX3 hX hin (by decide +kernel) dX0_answer_39 ?_
      refine x_iload_n hX dX0_answer_42 1 rfl ?_
      refine x_iconstv hX dX0_answer_43 2 (by decide) ?_
      refine sX3 hX dX0_answer_44 (PL_in hN c_5) rfl ?_
      refine x_aload_n hX dX0_answer_45 0 rfl ?_
      refine x_iload_n hX dX0_answer_46 1 rfl ?_
      refine x_cvn hX dX0_answer_47 1 rfl (kX0_giveStakeBack l D cx h _ (hN.up (by decide)) _) gX0_answer_X0_giveStakeBack rfl ⟨rfl, by decide, by decide, by decide +kernel⟩ ⟨rfl, rfl, Nat.le_of_ble_eq_true rfl, Nat.le_of_ble_eq_true rfl, Nat.zero_le _, Nat.zero_le _⟩ rfl rfl (Nat.le_of_ble_eq_true rfl) rfl (fun _ _ => ?_)
      refine x_aload_n hX dX0_answer_50 0 rfl ?_
      refine x_aload_n hX dX0_answer_51 0 rfl ?_
      refine gX0 hX hin (by decide +kernel) dX0_answer_52 ?_
      refine x_iload_n hX dX0_answer_55 1 rfl ?_
      refine lX0 hX dX0_answer_56 (PL_in hN c_5) rfl ?_
      refine x_cvi hX dX0_answer_57 1 rfl (kX0_reputationOf l D cx h _ ((hN.up (by decide)).give) _) gX0_answer_X0_reputationOf rfl ⟨rfl, by decide, by decide, by decide +kernel⟩ ⟨rfl, rfl, Nat.le_of_ble_eq_true rfl, Nat.le_of_ble_eq_true rfl, Nat.zero_le _, Nat.zero_le _⟩ rfl rfl (Nat.le_of_ble_eq_true rfl) rfl (fun r_57 _ hq_57 => ?_)
      obtain rfl := hq_57
      exact hret _ () _ _ ⟨by simp only [kDel, if_pos c_5, if_pos c_25], rfl⟩ dX0_answer_60
    · exact hthr 28 91 117 95 _ "the letter is not DELIVERED" _ ⟨2, by simp, by simp only [kDel, if_pos c_5, if_neg c_25]⟩ (by decide +kernel) (by decide +kernel) (by decide +kernel) (by decide +kernel) (by decide +kernel) tf_answer_ISE tb_ISE to_ISE dX0_answer_28 dX0_answer_31 dX0_answer_32 dX0_answer_34 dX0_answer_37
  · replace c_5 := xb_f.mp c_5
    exact hthr 8 64 115 68 _ "there is no such letter" _ ⟨1, by simp, by simp only [kDel, if_neg c_5]⟩ (by decide +kernel) (by decide +kernel) (by decide +kernel) (by decide +kernel) (by decide +kernel) tf_answer_IOB tb_IOB to_IOB dX0_answer_8 dX0_answer_11 dX0_answer_12 dX0_answer_14 dX0_answer_17
theorem in_X0_mark : ∀ w ∈ wsX00, w ∈ wsX0_mark := by decide +kernel
theorem tf_mark_IOB : ∀ w ∈ (vx_atS RX0 68 "java/lang/IndexOutOfBoundsException" xNm).filter goodWord, w ∈ wsX0_mark := fun _ h => List.mem_cons_of_mem _ (List.mem_append_left _ (List.mem_append_right _ h))
theorem tf_mark_ISE : ∀ w ∈ (vx_atS RX0 95 "java/lang/IllegalStateException" xNm).filter goodWord, w ∈ wsX0_mark := fun _ h => List.mem_cons_of_mem _ (List.mem_append_right _ h)
set_option maxRecDepth 100000 in
set_option maxHeartbeats 4000000 in
theorem kX0_mark (l : Launch) (hfl : l.stackTraces = false) (D : va_G) (cx : xC) (h : Nat → Nat) (s : xS) {n : Nat} (hN : okX s n) (a : Int32) : xT l yX0_mark wsX0_mark (xRT 6 82) D cx [.ref (h 0), .int a] (wX cx h s) (fun _ : Unit => wX cx h (sMark s n a)) (fun r _ => kDel s a = 0 ∧ r = vMark s n a) (xPx [("java/lang/IndexOutOfBoundsException", 1), ("java/lang/IllegalStateException", 2)] (kDel s a)) := by
  refine x_enterT hfl (by decide) rfl rfl (Nat.le_of_ble_eq_true rfl) (by decide) (fun X hX hret hthr => ?_)
  have hin := in_X0_mark
  change xV X 2 0 0 (wX cx h s) 0 [(0, .ref (h 0)), (1, .int a)] []
  refine x_aload_n hX dX0_mark_0 0 rfl ?_
  refine x_iload_n hX dX0_mark_1 1 rfl ?_
  refine x_cvi hX dX0_mark_2 1 rfl (kX0_isLetter l D cx h _ _) gX0_mark_X0_isLetter rfl ⟨rfl, by decide, by decide, by decide +kernel⟩ ⟨rfl, rfl, Nat.le_of_ble_eq_true rfl, Nat.le_of_ble_eq_true rfl, Nat.zero_le _, Nat.zero_le _⟩ rfl rfl (Nat.le_of_ble_eq_true rfl) rfl (fun r_2 _ hq_2 => ?_)
  obtain rfl := hq_2
  refine x_if_ne hX 18 dX0_mark_5 (by decide) (fun c_5 => ?_) (fun c_5 => ?_)
  · replace c_5 := xb_t.mp c_5
    refine x_aload_n hX dX0_mark_18 0 rfl ?_
    refine gX3 hX hin (by decide +kernel) dX0_mark_19 ?_
    refine x_iload_n hX dX0_mark_22 1 rfl ?_
    refine lX3 hX dX0_mark_23 (PL_in hN c_5) rfl ?_
    refine x_iconstv hX dX0_mark_24 1 (by decide) ?_
    refine x_icmp_eq hX 38 dX0_mark_25 (by decide) (fun c_25 => ?_) (fun c_25 => ?_)
    · refine x_aload_n hX dX0_mark_38 0 rfl ?_
      refine gX3 hX hin (by decide +kernel) dX0_mark_39 ?_
      refine x_iload_n hX dX0_mark_42 1 rfl ?_
      refine x_iconstv hX dX0_mark_43 3 (by decide) ?_
      refine sX3 hX dX0_mark_44 (PL_in hN c_5) rfl ?_
      refine x_aload_n hX dX0_mark_45 0 rfl ?_
      refine x_iload_n hX dX0_mark_46 1 rfl ?_
      refine x_aload_n hX dX0_mark_47 0 rfl ?_
      refine gX1 hX hin (by decide +kernel) dX0_mark_48 ?_
      refine x_iload_n hX dX0_mark_51 1 rfl ?_
      refine lX1 hX dX0_mark_52 (PL_in hN c_5) rfl ?_
      refine x_csi hX dX0_mark_53 1 rfl (kX0_homeOf l D cx _) gX0_mark_X0_homeOf rfl ⟨by decide, by decide, by decide +kernel⟩ ⟨rfl, rfl, Nat.le_of_ble_eq_true rfl, Nat.le_of_ble_eq_true rfl, Nat.zero_le _, Nat.zero_le _⟩ (Nat.le_of_ble_eq_true rfl) rfl (fun r_53 _ hq_53 => ?_)
      obtain rfl := hq_53
      refine x_cvn hX dX0_mark_56 2 rfl (kX0_putStakeIntoPool l D cx h _ (hN.up (by decide)) _ _) gX0_mark_X0_putStakeIntoPool rfl ⟨rfl, by decide, by decide, by decide +kernel⟩ ⟨rfl, rfl, Nat.le_of_ble_eq_true rfl, Nat.le_of_ble_eq_true rfl, Nat.zero_le _, Nat.zero_le _⟩ rfl rfl (Nat.le_of_ble_eq_true rfl) rfl (fun _ _ => ?_)
      refine x_aload_n hX dX0_mark_59 0 rfl ?_
      refine x_aload_n hX dX0_mark_60 0 rfl ?_
      refine gX0 hX hin (by decide +kernel) dX0_mark_61 ?_
      refine x_iload_n hX dX0_mark_64 1 rfl ?_
      refine lX0 hX dX0_mark_65 (PL_in hN c_5) rfl ?_
      refine x_aload_n hX dX0_mark_66 0 rfl ?_
      refine gX1 hX hin (by decide +kernel) dX0_mark_67 ?_
      refine x_iload_n hX dX0_mark_70 1 rfl ?_
      refine lX1 hX dX0_mark_71 (PL_in hN c_5) rfl ?_
      refine x_cvi hX dX0_mark_72 2 rfl (kX0_othersWhoAnswered l D cx h _ hN.mark1 _ _) gX0_mark_X0_othersWhoAnswered rfl ⟨rfl, by decide, by decide, by decide +kernel⟩ ⟨rfl, rfl, Nat.le_of_ble_eq_true rfl, Nat.le_of_ble_eq_true rfl, Nat.zero_le _, Nat.zero_le _⟩ rfl rfl (Nat.le_of_ble_eq_true rfl) rfl (fun r_72 _ hq_72 => ?_)
      obtain rfl := hq_72
      refine x_iconstv hX dX0_mark_75 3 (by decide) ?_
      refine x_icmp_ge hX 81 dX0_mark_76 (by decide) (fun c_76 => ?_) (fun c_76 => ?_)
      · replace c_76 : 3 ≤ nMark s n a := c_76
        refine x_aload_n hX dX0_mark_81 0 rfl ?_
        refine gX7 hX hin (by decide +kernel) dX0_mark_82 ?_
        refine x_iload_n hX dX0_mark_85 1 rfl ?_
        refine x_iconstv hX dX0_mark_86 1 (by decide) ?_
        refine sX7 hX dX0_mark_87 (PL_in hN c_5) rfl ?_
        refine x_aload_n hX dX0_mark_88 0 rfl ?_
        refine x_aload_n hX dX0_mark_89 0 rfl ?_
        refine gX1 hX hin (by decide +kernel) dX0_mark_90 ?_
        refine x_iload_n hX dX0_mark_93 1 rfl ?_
        refine lX1 hX dX0_mark_94 (PL_in hN c_5) rfl ?_
        refine x_aload_n hX dX0_mark_95 0 rfl ?_
        refine gX0 hX hin (by decide +kernel) dX0_mark_96 ?_
        refine x_iload_n hX dX0_mark_99 1 rfl ?_
        refine lX0 hX dX0_mark_100 (PL_in hN c_5) rfl ?_
        refine x_aload_n hX dX0_mark_101 0 rfl ?_
        refine gX2 hX hin (by decide +kernel) dX0_mark_102 ?_
        refine x_iload_n hX dX0_mark_105 1 rfl ?_
        refine lX2 hX dX0_mark_106 (PL_in hN c_5) rfl ?_
        refine x_cvi hX dX0_mark_107 3 rfl (kX0_payForFalseMark l D cx h _ hN.mark2 _ _ _) gX0_mark_X0_payForFalseMark rfl ⟨rfl, by decide, by decide, by decide +kernel⟩ ⟨rfl, rfl, Nat.le_of_ble_eq_true rfl, Nat.le_of_ble_eq_true rfl, Nat.zero_le _, Nat.zero_le _⟩ rfl rfl (Nat.le_of_ble_eq_true rfl) rfl (fun r_107 _ hq_107 => ?_)
        obtain rfl := hq_107
        exact x_asr (congrArg (wX cx h) (by simp only [sMark, if_pos c_5, if_pos c_25, if_pos c_76]; try rfl)) rfl (hret _ () _ _ ⟨by simp only [kDel, if_pos c_5, if_pos c_25, if_pos c_76], by simp only [vMark, if_pos c_5, if_pos c_25, if_pos c_76]; try rfl⟩ dX0_mark_110)
      · replace c_76 : ¬ 3 ≤ nMark s n a := c_76
        refine x_iconstv hX dX0_mark_79 0 (by decide) ?_
        exact x_asr (congrArg (wX cx h) (by simp only [sMark, if_pos c_5, if_pos c_25, if_neg c_76]; try rfl)) rfl (hret _ () _ _ ⟨by simp only [kDel, if_pos c_5, if_pos c_25, if_neg c_76], by simp only [vMark, if_pos c_5, if_pos c_25, if_neg c_76]; try rfl⟩ dX0_mark_80)
    · exact hthr 28 91 117 95 _ "the letter is not DELIVERED" _ ⟨2, by simp, by simp only [kDel, if_pos c_5, if_neg c_25]⟩ (by decide +kernel) (by decide +kernel) (by decide +kernel) (by decide +kernel) (by decide +kernel) tf_mark_ISE tb_ISE to_ISE dX0_mark_28 dX0_mark_31 dX0_mark_32 dX0_mark_34 dX0_mark_37
  · replace c_5 := xb_f.mp c_5
    exact hthr 8 64 115 68 _ "there is no such letter" _ ⟨1, by simp, by simp only [kDel, if_neg c_5]⟩ (by decide +kernel) (by decide +kernel) (by decide +kernel) (by decide +kernel) (by decide +kernel) tf_mark_IOB tb_IOB to_IOB dX0_mark_8 dX0_mark_11 dX0_mark_12 dX0_mark_14 dX0_mark_17
theorem in_X0_send : ∀ w ∈ wsX00, w ∈ wsX0_send := by decide +kernel
theorem tf_send_IOB : ∀ w ∈ (vx_atS RX0 68 "java/lang/IndexOutOfBoundsException" xNm).filter goodWord, w ∈ wsX0_send := fun _ h => List.mem_cons_of_mem _ (List.mem_append_left _ (List.mem_append_left _ (List.mem_append_right _ h)))
theorem tf_send_IAE : ∀ w ∈ (vx_atS RX0 75 "java/lang/IllegalArgumentException" xNm).filter goodWord, w ∈ wsX0_send := fun _ h => List.mem_cons_of_mem _ (List.mem_append_left _ (List.mem_append_right _ h))
theorem tf_send_ISE : ∀ w ∈ (vx_atS RX0 95 "java/lang/IllegalStateException" xNm).filter goodWord, w ∈ wsX0_send := fun _ h => List.mem_cons_of_mem _ (List.mem_append_right _ h)
set_option maxRecDepth 100000 in
set_option maxHeartbeats 4000000 in
theorem kX0_send (l : Launch) (hfl : l.stackTraces = false) (D : va_G) (cx : xC) (h : Nat → Nat) (s : xS) {n : Nat} (hN : okX s n) (a b c : Int32) : xT l yX0_send wsX0_send (xRT 6 107) D cx [.ref (h 0), .int a, .int b, .int c] (wX cx h s) (fun _ : Unit => wX cx h (sSend s a b c)) (fun r _ => kSend s n a b c = 0 ∧ r = s 12 0) (xPx [("java/lang/IndexOutOfBoundsException", 1), ("java/lang/IllegalArgumentException", 2), ("java/lang/IllegalStateException", 3)] (kSend s n a b c)) := by
  refine x_enterT hfl (by decide) rfl rfl (Nat.le_of_ble_eq_true rfl) (by decide) (fun X hX hret hthr => ?_)
  have hin := in_X0_send
  change xV X 5 0 0 (wX cx h s) 0 [(0, .ref (h 0)), (1, .int a), (2, .int b), (3, .int c)] []
  refine x_iload_n hX dX0_send_0 1 rfl ?_
  refine x_csi hX dX0_send_1 1 rfl (kX0_isPerson l D cx _) gX0_send_X0_isPerson rfl ⟨by decide, by decide, by decide +kernel⟩ ⟨rfl, rfl, Nat.le_of_ble_eq_true rfl, Nat.le_of_ble_eq_true rfl, Nat.zero_le _, Nat.zero_le _⟩ (Nat.le_of_ble_eq_true rfl) rfl (fun r_1 _ hq_1 => ?_)
  obtain rfl := hq_1
  refine x_if_eq hX 14 dX0_send_4 (by decide) (fun c_4 => ?_) (fun c_4 => ?_)
  · replace c_4 := xb_f.mp c_4
    exact hthr 14 64 83 68 _ "there is no such person" _ ⟨1, by simp, by simp only [kSend, if_neg c_4]⟩ (by decide +kernel) (by decide +kernel) (by decide +kernel) (by decide +kernel) (by decide +kernel) tf_send_IOB tb_IOB to_IOB dX0_send_14 dX0_send_17 dX0_send_18 dX0_send_20 dX0_send_23
  · replace c_4 := xb_t.mp c_4
    refine x_iload_n hX dX0_send_7 2 rfl ?_
    refine x_csi hX dX0_send_8 1 rfl (kX0_isPerson l D cx _) gX0_send_X0_isPerson rfl ⟨by decide, by decide, by decide +kernel⟩ ⟨rfl, rfl, Nat.le_of_ble_eq_true rfl, Nat.le_of_ble_eq_true rfl, Nat.zero_le _, Nat.zero_le _⟩ (Nat.le_of_ble_eq_true rfl) rfl (fun r_8 _ hq_8 => ?_)
    obtain rfl := hq_8
    refine x_if_ne hX 24 dX0_send_11 (by decide) (fun c_11 => ?_) (fun c_11 => ?_)
    · replace c_11 := xb_t.mp c_11
      refine x_iload_n hX dX0_send_24 1 rfl ?_
      refine x_iload_n hX dX0_send_25 2 rfl ?_
      refine x_icmp_eq hX 39 dX0_send_26 (by decide) (fun c_26 => ?_) (fun c_26 => ?_)
      · exact hthr 39 71 85 75 _ "the reader is another person, a stake is 0 to 20" _ ⟨2, by simp, by simp only [kSend, if_pos c_4, if_pos c_11, if_pos c_26]⟩ (by decide +kernel) (by decide +kernel) (by decide +kernel) (by decide +kernel) (by decide +kernel) tf_send_IAE tb_IAE to_IAE dX0_send_39 dX0_send_42 dX0_send_43 dX0_send_45 dX0_send_48
      · refine x_iload_n hX dX0_send_29 3 rfl ?_
        refine x_if_lt hX 39 dX0_send_30 (by decide) (fun c_30 => ?_) (fun c_30 => ?_)
        · exact hthr 39 71 85 75 _ "the reader is another person, a stake is 0 to 20" _ ⟨2, by simp, by simp only [kSend, if_pos c_4, if_pos c_11, if_neg c_26, if_pos c_30]⟩ (by decide +kernel) (by decide +kernel) (by decide +kernel) (by decide +kernel) (by decide +kernel) tf_send_IAE tb_IAE to_IAE dX0_send_39 dX0_send_42 dX0_send_43 dX0_send_45 dX0_send_48
        · refine x_iload_n hX dX0_send_33 3 rfl ?_
          refine x_bipushv hX dX0_send_34 20 (by decide) ?_
          refine x_icmp_le hX 49 dX0_send_36 (by decide) (fun c_36 => ?_) (fun c_36 => ?_)
          · refine x_iload_n hX dX0_send_49 3 rfl ?_
            refine x_aload_n hX dX0_send_50 0 rfl ?_
            refine x_iload_n hX dX0_send_51 1 rfl ?_
            refine x_cvi hX dX0_send_52 1 rfl (kX0_lowestStakeOf l D cx h _ hN _) gX0_send_X0_lowestStakeOf rfl ⟨rfl, by decide, by decide, by decide +kernel⟩ ⟨rfl, rfl, Nat.le_of_ble_eq_true rfl, Nat.le_of_ble_eq_true rfl, Nat.zero_le _, Nat.zero_le _⟩ rfl rfl (Nat.le_of_ble_eq_true rfl) rfl (fun r_52 _ hq_52 => ?_)
            obtain rfl := hq_52
            refine x_icmp_lt hX 77 dX0_send_55 (by decide) (fun c_55 => ?_) (fun c_55 => ?_)
            · exact hthr 77 91 93 95 _ "the stake is too low, the coins are too few, or there are 60 letters" _ ⟨3, by simp, by simp only [kSend, if_pos c_4, if_pos c_11, if_neg c_26, if_neg c_30, if_pos c_36, if_pos c_55]⟩ (by decide +kernel) (by decide +kernel) (by decide +kernel) (by decide +kernel) (by decide +kernel) tf_send_ISE tb_ISE to_ISE dX0_send_77 dX0_send_80 dX0_send_81 dX0_send_83 dX0_send_86
            · refine x_aload_n hX dX0_send_58 0 rfl ?_
              refine gX8 hX hin (by decide +kernel) dX0_send_59 ?_
              refine x_iload_n hX dX0_send_62 1 rfl ?_
              refine lX8 hX dX0_send_63 (P8_in c_4) rfl ?_
              refine x_iload_n hX dX0_send_64 3 rfl ?_
              refine x_icmp_lt hX 77 dX0_send_65 (by decide) (fun c_65 => ?_) (fun c_65 => ?_)
              · exact hthr 77 91 93 95 _ "the stake is too low, the coins are too few, or there are 60 letters" _ ⟨3, by simp, by simp only [kSend, if_pos c_4, if_pos c_11, if_neg c_26, if_neg c_30, if_pos c_36, if_neg c_55, if_pos c_65]⟩ (by decide +kernel) (by decide +kernel) (by decide +kernel) (by decide +kernel) (by decide +kernel) tf_send_ISE tb_ISE to_ISE dX0_send_77 dX0_send_80 dX0_send_81 dX0_send_83 dX0_send_86
              · refine x_aload_n hX dX0_send_68 0 rfl ?_
                refine gX12 hX hin (by decide +kernel) dX0_send_69 ?_
                refine x_bipushv hX dX0_send_72 60 (by decide) ?_
                refine x_icmp_lt hX 87 dX0_send_74 (by decide) (fun c_74 => ?_) (fun c_74 => ?_)
                · refine x_aload_n hX dX0_send_87 0 rfl ?_
                  refine gX12 hX hin (by decide +kernel) dX0_send_88 ?_
                  refine x_istore hX (lv' := [_, _, _, _, _]) dX0_send_91  (by decide) rfl rfl ?_
                  refine x_aload_n hX dX0_send_93 0 rfl ?_
                  refine x_dup hX dX0_send_94 rfl ?_
                  refine gX12 hX hin (by decide +kernel) dX0_send_95 ?_
                  refine x_iconstv hX dX0_send_98 1 (by decide) ?_
                  refine x_iadd hX dX0_send_99 ?_
                  refine pX12 hX hin (by decide +kernel) dX0_send_100 ?_
                  refine x_aload_n hX dX0_send_103 0 rfl ?_
                  refine gX0 hX hin (by decide +kernel) dX0_send_104 ?_
                  refine x_iload hX dX0_send_107 4 rfl ?_
                  refine x_iload_n hX dX0_send_109 1 rfl ?_
                  refine sX0 hX dX0_send_110 ((hN.new c_74).1) rfl ?_
                  refine x_aload_n hX dX0_send_111 0 rfl ?_
                  refine gX1 hX hin (by decide +kernel) dX0_send_112 ?_
                  refine x_iload hX dX0_send_115 4 rfl ?_
                  refine x_iload_n hX dX0_send_117 2 rfl ?_
                  refine sX1 hX dX0_send_118 ((hN.new c_74).1) rfl ?_
                  refine x_aload_n hX dX0_send_119 0 rfl ?_
                  refine gX2 hX hin (by decide +kernel) dX0_send_120 ?_
                  refine x_iload hX dX0_send_123 4 rfl ?_
                  refine x_iload_n hX dX0_send_125 3 rfl ?_
                  refine sX2 hX dX0_send_126 ((hN.new c_74).1) rfl ?_
                  refine x_aload_n hX dX0_send_127 0 rfl ?_
                  refine gX3 hX hin (by decide +kernel) dX0_send_128 ?_
                  refine x_iload hX dX0_send_131 4 rfl ?_
                  refine x_iconstv hX dX0_send_133 0 (by decide) ?_
                  refine sX3 hX dX0_send_134 ((hN.new c_74).1) rfl ?_
                  refine x_aload_n hX dX0_send_135 0 rfl ?_
                  refine gX8 hX hin (by decide +kernel) dX0_send_136 ?_
                  refine x_iload_n hX dX0_send_139 1 rfl ?_
                  refine x_dup2 hX dX0_send_140 rfl rfl ?_
                  refine lX8 hX dX0_send_141 (P8_in c_4) rfl ?_
                  refine x_iload_n hX dX0_send_142 3 rfl ?_
                  refine x_isub hX dX0_send_143 ?_
                  refine sX8 hX dX0_send_144 (P8_in c_4) rfl ?_
                  refine x_aload_n hX dX0_send_145 0 rfl ?_
                  refine x_iload hX dX0_send_146 4 rfl ?_
                  refine x_iload_n hX dX0_send_148 1 rfl ?_
                  refine x_csi hX dX0_send_149 1 rfl (kX0_homeOf l D cx _) gX0_send_X0_homeOf rfl ⟨by decide, by decide, by decide +kernel⟩ ⟨rfl, rfl, Nat.le_of_ble_eq_true rfl, Nat.le_of_ble_eq_true rfl, Nat.zero_le _, Nat.zero_le _⟩ (Nat.le_of_ble_eq_true rfl) rfl (fun r_149 _ hq_149 => ?_)
                  obtain rfl := hq_149
                  refine x_cvn hX dX0_send_152 2 rfl (kX0_layAt l D cx h _ ((hN.send1 c_74).up (by decide)) _ _) gX0_send_X0_layAt rfl ⟨rfl, by decide, by decide, by decide +kernel⟩ ⟨rfl, rfl, Nat.le_of_ble_eq_true rfl, Nat.le_of_ble_eq_true rfl, Nat.zero_le _, Nat.zero_le _⟩ rfl rfl (Nat.le_of_ble_eq_true rfl) rfl (fun _ _ => ?_)
                  refine x_iload hX dX0_send_155 4 rfl ?_
                  exact hret _ () _ _ ⟨by simp only [kSend, if_pos c_4, if_pos c_11, if_neg c_26, if_neg c_30, if_pos c_36, if_neg c_55, if_neg c_65, if_pos c_74], rfl⟩ dX0_send_157
                · exact hthr 77 91 93 95 _ "the stake is too low, the coins are too few, or there are 60 letters" _ ⟨3, by simp, by simp only [kSend, if_pos c_4, if_pos c_11, if_neg c_26, if_neg c_30, if_pos c_36, if_neg c_55, if_neg c_65, if_neg c_74]⟩ (by decide +kernel) (by decide +kernel) (by decide +kernel) (by decide +kernel) (by decide +kernel) tf_send_ISE tb_ISE to_ISE dX0_send_77 dX0_send_80 dX0_send_81 dX0_send_83 dX0_send_86
          · exact hthr 39 71 85 75 _ "the reader is another person, a stake is 0 to 20" _ ⟨2, by simp, by simp only [kSend, if_pos c_4, if_pos c_11, if_neg c_26, if_neg c_30, if_neg c_36]⟩ (by decide +kernel) (by decide +kernel) (by decide +kernel) (by decide +kernel) (by decide +kernel) tf_send_IAE tb_IAE to_IAE dX0_send_39 dX0_send_42 dX0_send_43 dX0_send_45 dX0_send_48
    · replace c_11 := xb_f.mp c_11
      exact hthr 14 64 83 68 _ "there is no such person" _ ⟨1, by simp, by simp only [kSend, if_pos c_4, if_neg c_11]⟩ (by decide +kernel) (by decide +kernel) (by decide +kernel) (by decide +kernel) (by decide +kernel) tf_send_IOB tb_IOB to_IOB dX0_send_14 dX0_send_17 dX0_send_18 dX0_send_20 dX0_send_23
theorem in_X0_steps : ∀ w ∈ wsX00, w ∈ wsX0_steps := by decide +kernel
theorem tf_steps_IOB : ∀ w ∈ (vx_atS RX0 68 "java/lang/IndexOutOfBoundsException" xNm).filter goodWord, w ∈ wsX0_steps := fun _ h => List.mem_cons_of_mem _ (List.mem_append_right _ h)
set_option maxRecDepth 100000 in
set_option maxHeartbeats 4000000 in
theorem kX0_steps (l : Launch) (hfl : l.stackTraces = false) (D : va_G) (cx : xC) (h : Nat → Nat) (s : xS) {n : Nat} (hN : okX s n) (a b : Int32) : xT l yX0_steps wsX0_steps (xRT 6 82) D cx [.ref (h 0), .int a, .int b] (wX cx h s) (fun _ : Unit => wX cx h (s)) (fun r _ => kTwo4 a b = 0 ∧ r = fSteps s a b 4 0) (xPx [("java/lang/IndexOutOfBoundsException", 1)] (kTwo4 a b)) := by
  refine x_enterT hfl (by decide) rfl rfl (Nat.le_of_ble_eq_true rfl) (by decide) (fun X hX hret hthr => ?_)
  have hin := in_X0_steps
  change xV X 5 0 0 (wX cx h s) 0 [(0, .ref (h 0)), (1, .int a), (2, .int b)] []
  have loop : ∀ (m k : Nat), k + m = 4 → kTwo4 a b = 0 → fSteps s a b 4 0 = fSteps s a b m k → xV X 5 0 0 (wX cx h s) 29 [(0, .ref (h 0)), (1, .int a), (2, .int b), (3, .int (fAt s a b k)), (4, .int (nI k))] [] := by
    intro m
    induction m with
    | zero =>
      intro k hk h0 he
      obtain rfl : 4 = k := hk.symm
      refine x_iload hX dX0_steps_29 4 rfl ?_
      refine x_iconstv hX dX0_steps_31 4 (by decide) ?_
      refine x_icmp_ge hX 56 dX0_steps_32 (by decide) (fun c_32 => ?_) (fun c_32 => ?_)
      · refine x_iconstv hX dX0_steps_56 (-1) (by decide) ?_
        exact hret _ () _ _ ⟨h0, by rw [he]; rfl⟩ dX0_steps_57
      · exact absurd (lp_yes (rfl : (4 : Int32) = nI 4) (by decide) rfl) c_32
    | succ m ih =>
      intro k hk h0 he
      have hkn : k < 4 := by omega
      refine x_iload hX dX0_steps_29 4 rfl ?_
      refine x_iconstv hX dX0_steps_31 4 (by decide) ?_
      refine x_icmp_ge hX 56 dX0_steps_32 (by decide) (fun c_32 => ?_) (fun c_32 => ?_)
      · exact absurd c_32 (lp_no (rfl : (4 : Int32) = nI 4) (by decide) hkn)
      · refine x_iload_n hX dX0_steps_35 3 rfl ?_
        refine x_iload_n hX dX0_steps_36 2 rfl ?_
        refine x_icmp_ne hX 43 dX0_steps_37 (by decide) (fun c_37 => ?_) (fun c_37 => ?_)
        · refine x_aload_n hX dX0_steps_43 0 rfl ?_
          refine x_iload_n hX dX0_steps_44 3 rfl ?_
          refine x_iload_n hX dX0_steps_45 2 rfl ?_
          refine x_cvi hX dX0_steps_46 2 rfl (kX0_nextRelay l D cx h _ _ _) gX0_steps_X0_nextRelay rfl ⟨rfl, by decide, by decide, by decide +kernel⟩ ⟨rfl, rfl, Nat.le_of_ble_eq_true rfl, Nat.le_of_ble_eq_true rfl, Nat.zero_le _, Nat.zero_le _⟩ rfl rfl (Nat.le_of_ble_eq_true rfl) rfl (fun r_46 _ hq_46 => ?_)
          obtain rfl := hq_46
          refine x_istore_n hX (lv' := [_, _, _, _, _]) dX0_steps_49 3 rfl (by decide) rfl rfl ?_
          refine x_iinc hX (lv' := [_, _, _, _, _]) dX0_steps_50 4 rfl (nI_i1 k) (by decide) rfl rfl ?_
          refine x_goto hX 29 dX0_steps_53 (by decide) ?_
          exact ih (k + 1) (by omega) h0 (by rw [he]; simp [fSteps, c_37])
        · refine x_iload hX dX0_steps_40 4 rfl ?_
          exact hret _ () _ _ ⟨h0, by rw [he]; simp [fSteps, c_37]⟩ dX0_steps_42
  refine x_iload_n hX dX0_steps_0 1 rfl ?_
  refine x_csi hX dX0_steps_1 1 rfl (kX0_isRelay l D cx _) gX0_steps_X0_isRelay rfl ⟨by decide, by decide, by decide +kernel⟩ ⟨rfl, rfl, Nat.le_of_ble_eq_true rfl, Nat.le_of_ble_eq_true rfl, Nat.zero_le _, Nat.zero_le _⟩ (Nat.le_of_ble_eq_true rfl) rfl (fun r_1 _ hq_1 => ?_)
  obtain rfl := hq_1
  refine x_if_eq hX 14 dX0_steps_4 (by decide) (fun c_4 => ?_) (fun c_4 => ?_)
  · replace c_4 := xb_f.mp c_4
    exact hthr 14 64 66 68 _ "there is no such relay" _ ⟨1, by simp, by simp only [kTwo4, if_neg c_4]⟩ (by decide +kernel) (by decide +kernel) (by decide +kernel) (by decide +kernel) (by decide +kernel) tf_steps_IOB tb_IOB to_IOB dX0_steps_14 dX0_steps_17 dX0_steps_18 dX0_steps_20 dX0_steps_23
  · replace c_4 := xb_t.mp c_4
    refine x_iload_n hX dX0_steps_7 2 rfl ?_
    refine x_csi hX dX0_steps_8 1 rfl (kX0_isRelay l D cx _) gX0_steps_X0_isRelay rfl ⟨by decide, by decide, by decide +kernel⟩ ⟨rfl, rfl, Nat.le_of_ble_eq_true rfl, Nat.le_of_ble_eq_true rfl, Nat.zero_le _, Nat.zero_le _⟩ (Nat.le_of_ble_eq_true rfl) rfl (fun r_8 _ hq_8 => ?_)
    obtain rfl := hq_8
    refine x_if_ne hX 24 dX0_steps_11 (by decide) (fun c_11 => ?_) (fun c_11 => ?_)
    · replace c_11 := xb_t.mp c_11
      refine x_iload_n hX dX0_steps_24 1 rfl ?_
      refine x_istore_n hX (lv' := [_, _, _, _]) dX0_steps_25 3 rfl (by decide) rfl rfl ?_
      refine x_iconstv hX dX0_steps_26 0 (by decide) ?_
      refine x_istore hX (lv' := [_, _, _, _, _]) dX0_steps_27  (by decide) rfl rfl ?_
      exact x_as rfl (by simp [fAt, nI_0]) (loop 4 0 rfl (by simp only [kTwo4, if_pos c_4, if_pos c_11]) rfl)
    · replace c_11 := xb_f.mp c_11
      exact hthr 14 64 66 68 _ "there is no such relay" _ ⟨1, by simp, by simp only [kTwo4, if_pos c_4, if_neg c_11]⟩ (by decide +kernel) (by decide +kernel) (by decide +kernel) (by decide +kernel) (by decide +kernel) tf_steps_IOB tb_IOB to_IOB dX0_steps_14 dX0_steps_17 dX0_steps_18 dX0_steps_20 dX0_steps_23
theorem in_X0_pass : ∀ w ∈ wsX00, w ∈ wsX0_pass := by decide +kernel
theorem tf_pass_IAE : ∀ w ∈ (vx_atS RX0 75 "java/lang/IllegalArgumentException" xNm).filter goodWord, w ∈ wsX0_pass := fun _ h => List.mem_cons_of_mem _ (List.mem_append_left _ (List.mem_append_right _ h))
theorem tf_pass_ISE : ∀ w ∈ (vx_atS RX0 95 "java/lang/IllegalStateException" xNm).filter goodWord, w ∈ wsX0_pass := fun _ h => List.mem_cons_of_mem _ (List.mem_append_right _ h)
set_option maxRecDepth 100000 in
set_option maxHeartbeats 4000000 in
theorem kX0_pass (l : Launch) (hfl : l.stackTraces = false) (D : va_G) (cx : xC) (h : Nat → Nat) (s : xS) {n : Nat} (hN : okX s n) (a : Int32) : xT l yX0_pass wsX0_pass (xRT 6 128) D cx [.ref (h 0), .int a] (wX cx h s) (fun _ : Unit => wX cx h (fTicks s n (ix a))) (fun r _ => kPass s a = 0 ∧ r = fTicksN s n (ix a)) (xPx [("java/lang/IllegalArgumentException", 1), ("java/lang/IllegalStateException", 2)] (kPass s a)) := by
  refine x_enterT hfl (by decide) rfl rfl (Nat.le_of_ble_eq_true rfl) (by decide) (fun X hX hret hthr => ?_)
  have hin := in_X0_pass
  change xV X 4 0 0 (wX cx h s) 0 [(0, .ref (h 0)), (1, .int a)] []
  have loop : ∀ (T : Nat), a = nI T → T < 2 ^ 31 → ix a = T → kPass s a = 0 → ∀ (m k : Nat), k + m = T → xV X 4 0 0 (wX cx h (fTicks s n k)) 46 [(0, .ref (h 0)), (1, .int a), (2, .int (fTicksN s n k)), (3, .int (nI k))] [] := by
    intro T hT hT2 hT3 h0 m
    induction m with
    | zero =>
      intro k hk
      obtain rfl : T = k := hk.symm
      refine x_iload_n hX dX0_pass_46 3 rfl ?_
      refine x_iload_n hX dX0_pass_47 1 rfl ?_
      refine x_icmp_ge hX 64 dX0_pass_48 (by decide) (fun c_48 => ?_) (fun c_48 => ?_)
      · refine x_iload_n hX dX0_pass_64 2 rfl ?_
        exact x_asr (congrArg (wX cx h) (by rw [hT3])) rfl (hret _ () _ _ ⟨h0, by rw [hT3]⟩ dX0_pass_65)
      · exact absurd (lp_yes hT hT2 rfl) c_48
    | succ m ih =>
      intro k hk
      have hkn : k < T := by omega
      have hNk := hN.ticks k
      refine x_iload_n hX dX0_pass_46 3 rfl ?_
      refine x_iload_n hX dX0_pass_47 1 rfl ?_
      refine x_icmp_ge hX 64 dX0_pass_48 (by decide) (fun c_48 => ?_) (fun c_48 => ?_)
      · exact absurd c_48 (lp_no hT hT2 hkn)
      · refine x_iload_n hX dX0_pass_51 2 rfl ?_
        refine x_aload_n hX dX0_pass_52 0 rfl ?_
        refine x_cvi hX dX0_pass_53 0 rfl (kX0_passOneTick l D cx h _ hNk) gX0_pass_X0_passOneTick rfl ⟨rfl, by decide, by decide, by decide +kernel⟩ ⟨rfl, rfl, Nat.le_of_ble_eq_true rfl, Nat.le_of_ble_eq_true rfl, Nat.zero_le _, Nat.zero_le _⟩ rfl rfl (Nat.le_of_ble_eq_true rfl) rfl (fun r_53 _ hq_53 => ?_)
        obtain rfl := hq_53
        refine x_iadd hX dX0_pass_56 ?_
        refine x_istore_n hX (lv' := [_, _, _, _]) dX0_pass_57 2 rfl (by decide) rfl rfl ?_
        refine x_iinc hX (lv' := [_, _, _, _]) dX0_pass_58 3 rfl (nI_i1 k) (by decide) rfl rfl ?_
        refine x_goto hX 46 dX0_pass_61 (by decide) ?_
        exact ih (k + 1) (by omega)
  refine x_iload_n hX dX0_pass_0 1 rfl ?_
  refine x_iconstv hX dX0_pass_1 1 (by decide) ?_
  refine x_icmp_lt hX 11 dX0_pass_2 (by decide) (fun c_2 => ?_) (fun c_2 => ?_)
  · exact hthr 11 71 103 75 _ "ticks are 1 to 50" _ ⟨1, by simp, by simp only [kPass, if_pos c_2]⟩ (by decide +kernel) (by decide +kernel) (by decide +kernel) (by decide +kernel) (by decide +kernel) tf_pass_IAE tb_IAE to_IAE dX0_pass_11 dX0_pass_14 dX0_pass_15 dX0_pass_17 dX0_pass_20
  · refine x_iload_n hX dX0_pass_5 1 rfl ?_
    refine x_bipushv hX dX0_pass_6 50 (by decide) ?_
    refine x_icmp_le hX 21 dX0_pass_8 (by decide) (fun c_8 => ?_) (fun c_8 => ?_)
    · refine x_aload_n hX dX0_pass_21 0 rfl ?_
      refine gX13 hX hin (by decide +kernel) dX0_pass_22 ?_
      refine x_ldc hX (v := 100000) dX0_pass_25 (by decide +kernel) ?_
      refine x_iload_n hX dX0_pass_27 1 rfl ?_
      refine x_isub hX dX0_pass_28 ?_
      refine x_icmp_le hX 42 dX0_pass_29 (by decide) (fun c_29 => ?_) (fun c_29 => ?_)
      · refine x_iconstv hX dX0_pass_42 0 (by decide) ?_
        refine x_istore_n hX (lv' := [_, _, _]) dX0_pass_43 2 rfl (by decide) rfl rfl ?_
        refine x_iconstv hX dX0_pass_44 0 (by decide) ?_
        refine x_istore_n hX (lv' := [_, _, _, _]) dX0_pass_45 3 rfl (by decide) rfl rfl ?_
        have g9 := ix_nI (lt1_lt0 c_2)
        exact x_as rfl (by simp [fTicksN, nI_0]) (loop (ix a) g9.1 g9.2 rfl (by simp only [kPass, if_neg c_2, if_pos c_8, if_pos c_29]) (ix a) 0 (by omega))
      · exact hthr 32 91 106 95 _ "the time would be above 100000" _ ⟨2, by simp, by simp only [kPass, if_neg c_2, if_pos c_8, if_neg c_29]⟩ (by decide +kernel) (by decide +kernel) (by decide +kernel) (by decide +kernel) (by decide +kernel) tf_pass_ISE tb_ISE to_ISE dX0_pass_32 dX0_pass_35 dX0_pass_36 dX0_pass_38 dX0_pass_41
    · exact hthr 11 71 103 75 _ "ticks are 1 to 50" _ ⟨1, by simp, by simp only [kPass, if_neg c_2, if_neg c_8]⟩ (by decide +kernel) (by decide +kernel) (by decide +kernel) (by decide +kernel) (by decide +kernel) tf_pass_IAE tb_IAE to_IAE dX0_pass_11 dX0_pass_14 dX0_pass_15 dX0_pass_17 dX0_pass_20
theorem in_X0_queueAt : ∀ w ∈ wsX00, w ∈ wsX0_queueAt := by decide +kernel
theorem tf_queueAt_IOB : ∀ w ∈ (vx_atS RX0 68 "java/lang/IndexOutOfBoundsException" xNm).filter goodWord, w ∈ wsX0_queueAt := fun _ h => List.mem_cons_of_mem _ (List.mem_append_right _ h)
set_option maxRecDepth 100000 in
set_option maxHeartbeats 4000000 in
theorem kX0_queueAt (l : Launch) (hfl : l.stackTraces = false) (D : va_G) (cx : xC) (h : Nat → Nat) (s : xS) {n : Nat} (hN : okX s n) (a b : Int32) : xT l yX0_queueAt wsX0_queueAt (xRT 6 105) D cx [.ref (h 0), .int a, .int b] (wX cx h s) (fun _ : Unit => wX cx h (fTakes (fBegin s n) n a (ix b + 1))) (fun r _ => kAt s n a b = 0 ∧ r = fBest (fTakes (fBegin s n) n a (ix b)) a n) (xPx [("java/lang/IndexOutOfBoundsException", 1)] (kAt s n a b)) := by
  refine x_enterT hfl (by decide) rfl rfl (Nat.le_of_ble_eq_true rfl) (by decide) (fun X hX hret hthr => ?_)
  have hin := in_X0_queueAt
  change xV X 4 0 0 (wX cx h s) 0 [(0, .ref (h 0)), (1, .int a), (2, .int b)] []
  have loop : ∀ (T : Nat), b = nI T → T < 2 ^ 31 → ix b = T → kAt s n a b = 0 → ∀ (m k : Nat), k + m = T → xV X 4 0 0 (wX cx h (fTakes (fBegin s n) n a k)) 36 [(0, .ref (h 0)), (1, .int a), (2, .int b), (3, .int (nI k))] [] := by
    intro T hT hT2 hT3 h0 m
    induction m with
    | zero =>
      intro k hk
      obtain rfl : T = k := hk.symm
      have hNk := hN.begin.takes (r := a) T
      refine x_iload_n hX dX0_queueAt_36 3 rfl ?_
      refine x_iload_n hX dX0_queueAt_37 2 rfl ?_
      refine x_icmp_ge hX 53 dX0_queueAt_38 (by decide) (fun c_38 => ?_) (fun c_38 => ?_)
      · refine x_aload_n hX dX0_queueAt_53 0 rfl ?_
        refine x_iload_n hX dX0_queueAt_54 1 rfl ?_
        refine x_cvi hX dX0_queueAt_55 1 rfl (kX0_takeFirstWaiting l D cx h _ hNk _) gX0_queueAt_X0_takeFirstWaiting rfl ⟨rfl, by decide, by decide, by decide +kernel⟩ ⟨rfl, rfl, Nat.le_of_ble_eq_true rfl, Nat.le_of_ble_eq_true rfl, Nat.zero_le _, Nat.zero_le _⟩ rfl rfl (Nat.le_of_ble_eq_true rfl) rfl (fun r_55 _ hq_55 => ?_)
        obtain rfl := hq_55
        exact x_asr (congrArg (wX cx h) (by rw [hT3]; rfl)) rfl (hret _ () _ _ ⟨h0, by rw [hT3]⟩ dX0_queueAt_58)
      · exact absurd (lp_yes hT hT2 rfl) c_38
    | succ m ih =>
      intro k hk
      have hkn : k < T := by omega
      have hNk := hN.begin.takes (r := a) k
      refine x_iload_n hX dX0_queueAt_36 3 rfl ?_
      refine x_iload_n hX dX0_queueAt_37 2 rfl ?_
      refine x_icmp_ge hX 53 dX0_queueAt_38 (by decide) (fun c_38 => ?_) (fun c_38 => ?_)
      · exact absurd c_38 (lp_no hT hT2 hkn)
      · refine x_aload_n hX dX0_queueAt_41 0 rfl ?_
        refine x_iload_n hX dX0_queueAt_42 1 rfl ?_
        refine x_cvi hX dX0_queueAt_43 1 rfl (kX0_takeFirstWaiting l D cx h _ hNk _) gX0_queueAt_X0_takeFirstWaiting rfl ⟨rfl, by decide, by decide, by decide +kernel⟩ ⟨rfl, rfl, Nat.le_of_ble_eq_true rfl, Nat.le_of_ble_eq_true rfl, Nat.zero_le _, Nat.zero_le _⟩ rfl rfl (Nat.le_of_ble_eq_true rfl) rfl (fun r_43 _ hq_43 => ?_)
        obtain rfl := hq_43
        refine x_pop hX dX0_queueAt_46 rfl ?_
        refine x_iinc hX (lv' := [_, _, _, _]) dX0_queueAt_47 3 rfl (nI_i1 k) (by decide) rfl rfl ?_
        refine x_goto hX 36 dX0_queueAt_50 (by decide) ?_
        exact ih (k + 1) (by omega)
  refine x_iload_n hX dX0_queueAt_0 1 rfl ?_
  refine x_csi hX dX0_queueAt_1 1 rfl (kX0_isRelay l D cx _) gX0_queueAt_X0_isRelay rfl ⟨by decide, by decide, by decide +kernel⟩ ⟨rfl, rfl, Nat.le_of_ble_eq_true rfl, Nat.le_of_ble_eq_true rfl, Nat.zero_le _, Nat.zero_le _⟩ (Nat.le_of_ble_eq_true rfl) rfl (fun r_1 _ hq_1 => ?_)
  obtain rfl := hq_1
  refine x_if_eq hX 20 dX0_queueAt_4 (by decide) (fun c_4 => ?_) (fun c_4 => ?_)
  · replace c_4 := xb_f.mp c_4
    exact hthr 20 64 139 68 _ "there is no such relay or no such place in its queue" _ ⟨1, by simp, by simp only [kAt, if_neg c_4]⟩ (by decide +kernel) (by decide +kernel) (by decide +kernel) (by decide +kernel) (by decide +kernel) tf_queueAt_IOB tb_IOB to_IOB dX0_queueAt_20 dX0_queueAt_23 dX0_queueAt_24 dX0_queueAt_26 dX0_queueAt_29
  · replace c_4 := xb_t.mp c_4
    refine x_iload_n hX dX0_queueAt_7 2 rfl ?_
    refine x_if_lt hX 20 dX0_queueAt_8 (by decide) (fun c_8 => ?_) (fun c_8 => ?_)
    · exact hthr 20 64 139 68 _ "there is no such relay or no such place in its queue" _ ⟨1, by simp, by simp only [kAt, if_pos c_4, if_pos c_8]⟩ (by decide +kernel) (by decide +kernel) (by decide +kernel) (by decide +kernel) (by decide +kernel) tf_queueAt_IOB tb_IOB to_IOB dX0_queueAt_20 dX0_queueAt_23 dX0_queueAt_24 dX0_queueAt_26 dX0_queueAt_29
    · refine x_iload_n hX dX0_queueAt_11 2 rfl ?_
      refine x_aload_n hX dX0_queueAt_12 0 rfl ?_
      refine x_iload_n hX dX0_queueAt_13 1 rfl ?_
      refine x_cvi hX dX0_queueAt_14 1 rfl (kX0_lengthOfQueue l D cx h _ hN _) gX0_queueAt_X0_lengthOfQueue rfl ⟨rfl, by decide, by decide, by decide +kernel⟩ ⟨rfl, rfl, Nat.le_of_ble_eq_true rfl, Nat.le_of_ble_eq_true rfl, Nat.zero_le _, Nat.zero_le _⟩ rfl rfl (Nat.le_of_ble_eq_true rfl) rfl (fun r_14 _ hq_14 => ?_)
      obtain rfl := hq_14
      refine x_icmp_lt hX 30 dX0_queueAt_17 (by decide) (fun c_17 => ?_) (fun c_17 => ?_)
      · refine x_aload_n hX dX0_queueAt_30 0 rfl ?_
        refine x_cvn hX dX0_queueAt_31 0 rfl (kX0_beginLookingAtQueues l D cx h _ hN) gX0_queueAt_X0_beginLookingAtQueues rfl ⟨rfl, by decide, by decide, by decide +kernel⟩ ⟨rfl, rfl, Nat.le_of_ble_eq_true rfl, Nat.le_of_ble_eq_true rfl, Nat.zero_le _, Nat.zero_le _⟩ rfl rfl (Nat.le_of_ble_eq_true rfl) rfl (fun _ _ => ?_)
        refine x_iconstv hX dX0_queueAt_34 0 (by decide) ?_
        refine x_istore_n hX (lv' := [_, _, _, _]) dX0_queueAt_35 3 rfl (by decide) rfl rfl ?_
        have g9 := ix_nI c_8
        exact x_as rfl (by simp [nI_0]) (loop (ix b) g9.1 g9.2 rfl (by simp only [kAt, if_pos c_4, if_neg c_8, if_pos c_17]) (ix b) 0 (by omega))
      · exact hthr 20 64 139 68 _ "there is no such relay or no such place in its queue" _ ⟨1, by simp, by simp only [kAt, if_pos c_4, if_neg c_8, if_neg c_17]⟩ (by decide +kernel) (by decide +kernel) (by decide +kernel) (by decide +kernel) (by decide +kernel) tf_queueAt_IOB tb_IOB to_IOB dX0_queueAt_20 dX0_queueAt_23 dX0_queueAt_24 dX0_queueAt_26 dX0_queueAt_29
theorem in_X0_letters : ∀ w ∈ wsX00, w ∈ wsX0_letters := by decide +kernel
set_option maxRecDepth 100000 in
set_option maxHeartbeats 4000000 in
theorem kX0_letters (l : Launch) (D : va_G) (cx : xC) (h : Nat → Nat) (s : xS) : xI l yX0_letters wsX0_letters (xR 0 0) D cx [.ref (h 0)] (wX cx h s) (fun _ : Unit => wX cx h (s)) (fun r _ => r = s 12 0) := by
  refine x_enterI (own := RX0) (by decide) rfl rfl (fun v u hv => ?_) (Nat.le_of_ble_eq_true rfl) (fun X hX hret => ?_)
  · rfl
  have hin := in_X0_letters
  change xV X 1 0 0 (wX cx h s) 0 [(0, .ref (h 0))] []
  refine x_aload_n hX dX0_letters_0 0 rfl ?_
  refine gX12 hX hin (by decide +kernel) dX0_letters_1 ?_
  exact hret _ () _ _ (rfl) dX0_letters_4
theorem in_X0_time : ∀ w ∈ wsX00, w ∈ wsX0_time := by decide +kernel
set_option maxRecDepth 100000 in
set_option maxHeartbeats 4000000 in
theorem kX0_time (l : Launch) (D : va_G) (cx : xC) (h : Nat → Nat) (s : xS) : xI l yX0_time wsX0_time (xR 0 0) D cx [.ref (h 0)] (wX cx h s) (fun _ : Unit => wX cx h (s)) (fun r _ => r = s 13 0) := by
  refine x_enterI (own := RX0) (by decide) rfl rfl (fun v u hv => ?_) (Nat.le_of_ble_eq_true rfl) (fun X hX hret => ?_)
  · rfl
  have hin := in_X0_time
  change xV X 1 0 0 (wX cx h s) 0 [(0, .ref (h 0))] []
  refine x_aload_n hX dX0_time_0 0 rfl ?_
  refine gX13 hX hin (by decide +kernel) dX0_time_1 ?_
  exact hret _ () _ _ (rfl) dX0_time_4
