theorem in_X0_layAt : ∀ w ∈ wsX00, w ∈ wsX0_layAt := by decide +kernel
set_option maxRecDepth 100000 in
set_option maxHeartbeats 4000000 in
theorem kX0_layAt (l : Launch) (D : va_G) (cx : xC) (h : Nat → Nat) (s : xS) {n : Nat} (hN : okX s n) (a b : Int32) : xN l yX0_layAt wsX0_layAt (xR 1 21) D cx [.ref (h 0), .int a, .int b] (wX cx h s) (fun _ : Unit => wX cx h (fLay s a b)) (fun _ => True) := by
  refine x_enterN (own := RX0) (by decide) rfl rfl (Nat.le_of_ble_eq_true rfl) (fun X hX hret => ?_)
  have hin := in_X0_layAt
  change xV X 3 0 0 (wX cx h s) 0 [(0, .ref (h 0)), (1, .int a), (2, .int b)] []
  refine x_aload_n hX dX0_layAt_0 0 rfl ?_
  refine x_iload_n hX dX0_layAt_1 1 rfl ?_
  refine x_cvi hX dX0_layAt_2 1 rfl (kX0_isLetter l D cx h _ _) gX0_layAt_X0_isLetter rfl ⟨rfl, by decide, by decide, by decide +kernel⟩ ⟨rfl, rfl, Nat.le_of_ble_eq_true rfl, Nat.le_of_ble_eq_true rfl, Nat.le_refl 0, Nat.le_refl 0⟩ rfl rfl (Nat.le_of_ble_eq_true rfl) rfl (fun r_2 _ hq_2 => ?_)
  obtain rfl := hq_2
  refine x_if_eq hX 28 dX0_layAt_5 (by decide) (fun c_5 => ?_) (fun c_5 => ?_)
  · replace c_5 := xb_f.mp c_5
    exact x_asr (congrArg (wX cx h) (by simp [fLay, c_5])) rfl (hret () _ _ trivial dX0_layAt_28)
  · replace c_5 := xb_t.mp c_5
    refine x_aload_n hX dX0_layAt_8 0 rfl ?_
    refine gX4 hX hin (by decide +kernel) dX0_layAt_9 ?_
    refine x_iload_n hX dX0_layAt_12 1 rfl ?_
    refine x_iload_n hX dX0_layAt_13 2 rfl ?_
    refine sX4 hX dX0_layAt_14 (PL_in hN c_5) rfl ?_
    refine x_aload_n hX dX0_layAt_15 0 rfl ?_
    refine gX5 hX hin (by decide +kernel) dX0_layAt_16 ?_
    refine x_iload_n hX dX0_layAt_19 1 rfl ?_
    refine x_dup2 hX dX0_layAt_20 rfl rfl ?_
    refine lX5 hX dX0_layAt_21 (PL_in hN c_5) rfl ?_
    refine x_iload_n hX dX0_layAt_22 2 rfl ?_
    refine x_csi hX dX0_layAt_23 1 rfl (kX0_markOf l D cx _) gX0_layAt_X0_markOf rfl ⟨by decide, by decide, by decide +kernel⟩ ⟨rfl, rfl, Nat.le_of_ble_eq_true rfl, Nat.le_of_ble_eq_true rfl, Nat.le_refl 0, Nat.le_refl 0⟩ (Nat.le_of_ble_eq_true rfl) rfl (fun r_23 _ hq_23 => ?_)
    obtain rfl := hq_23
    refine x_ior hX dX0_layAt_26 ?_
    refine sX5 hX dX0_layAt_27 (PL_in hN c_5) rfl ?_
    exact x_asr (congrArg (wX cx h) (by simp [fLay, c_5])) rfl (hret () _ _ trivial dX0_layAt_28)
theorem in_X0_leaveQueue : ∀ w ∈ wsX00, w ∈ wsX0_leaveQueue := by decide +kernel
set_option maxRecDepth 100000 in
set_option maxHeartbeats 4000000 in
theorem kX0_leaveQueue (l : Launch) (D : va_G) (cx : xC) (h : Nat → Nat) (s : xS) {n : Nat} (hN : okX s n) (a b : Int32) : xN l yX0_leaveQueue wsX0_leaveQueue (xR 1 21) D cx [.ref (h 0), .int a, .int b] (wX cx h s) (fun _ : Unit => wX cx h (fLeave s a b)) (fun _ => True) := by
  refine x_enterN (own := RX0) (by decide) rfl rfl (Nat.le_of_ble_eq_true rfl) (fun X hX hret => ?_)
  have hin := in_X0_leaveQueue
  change xV X 3 0 0 (wX cx h s) 0 [(0, .ref (h 0)), (1, .int a), (2, .int b)] []
  refine x_aload_n hX dX0_leaveQueue_0 0 rfl ?_
  refine x_iload_n hX dX0_leaveQueue_1 1 rfl ?_
  refine x_cvi hX dX0_leaveQueue_2 1 rfl (kX0_isLetter l D cx h _ _) gX0_leaveQueue_X0_isLetter rfl ⟨rfl, by decide, by decide, by decide +kernel⟩ ⟨rfl, rfl, Nat.le_of_ble_eq_true rfl, Nat.le_of_ble_eq_true rfl, Nat.le_refl 0, Nat.le_refl 0⟩ rfl rfl (Nat.le_of_ble_eq_true rfl) rfl (fun r_2 _ hq_2 => ?_)
  obtain rfl := hq_2
  refine x_if_eq hX 22 dX0_leaveQueue_5 (by decide) (fun c_5 => ?_) (fun c_5 => ?_)
  · replace c_5 := xb_f.mp c_5
    exact x_asr (congrArg (wX cx h) (by simp [fLeave, c_5])) rfl (hret () _ _ trivial dX0_leaveQueue_22)
  · replace c_5 := xb_t.mp c_5
    refine x_aload_n hX dX0_leaveQueue_8 0 rfl ?_
    refine gX4 hX hin (by decide +kernel) dX0_leaveQueue_9 ?_
    refine x_iload_n hX dX0_leaveQueue_12 1 rfl ?_
    refine x_iconstv hX dX0_leaveQueue_13 (-1) (by decide) ?_
    refine sX4 hX dX0_leaveQueue_14 (PL_in hN c_5) rfl ?_
    refine x_aload_n hX dX0_leaveQueue_15 0 rfl ?_
    refine gX3 hX hin (by decide +kernel) dX0_leaveQueue_16 ?_
    refine x_iload_n hX dX0_leaveQueue_19 1 rfl ?_
    refine x_iload_n hX dX0_leaveQueue_20 2 rfl ?_
    refine sX3 hX dX0_leaveQueue_21 (PL_in hN c_5) rfl ?_
    exact x_asr (congrArg (wX cx h) (by simp [fLeave, c_5])) rfl (hret () _ _ trivial dX0_leaveQueue_22)
theorem in_X0_putStakeIntoPool : ∀ w ∈ wsX00, w ∈ wsX0_putStakeIntoPool := by decide +kernel
set_option maxRecDepth 100000 in
set_option maxHeartbeats 4000000 in
theorem kX0_putStakeIntoPool (l : Launch) (D : va_G) (cx : xC) (h : Nat → Nat) (s : xS) {n : Nat} (hN : okX s n) (a b : Int32) : xN l yX0_putStakeIntoPool wsX0_putStakeIntoPool (xR 1 21) D cx [.ref (h 0), .int a, .int b] (wX cx h s) (fun _ : Unit => wX cx h (fPool s a b)) (fun _ => True) := by
  refine x_enterN (own := RX0) (by decide) rfl rfl (Nat.le_of_ble_eq_true rfl) (fun X hX hret => ?_)
  have hin := in_X0_putStakeIntoPool
  change xV X 3 0 0 (wX cx h s) 0 [(0, .ref (h 0)), (1, .int a), (2, .int b)] []
  refine x_aload_n hX dX0_putStakeIntoPool_0 0 rfl ?_
  refine x_iload_n hX dX0_putStakeIntoPool_1 1 rfl ?_
  refine x_cvi hX dX0_putStakeIntoPool_2 1 rfl (kX0_isLetter l D cx h _ _) gX0_putStakeIntoPool_X0_isLetter rfl ⟨rfl, by decide, by decide, by decide +kernel⟩ ⟨rfl, rfl, Nat.le_of_ble_eq_true rfl, Nat.le_of_ble_eq_true rfl, Nat.le_refl 0, Nat.le_refl 0⟩ rfl rfl (Nat.le_of_ble_eq_true rfl) rfl (fun r_2 _ hq_2 => ?_)
  obtain rfl := hq_2
  refine x_if_eq hX 30 dX0_putStakeIntoPool_5 (by decide) (fun c_5 => ?_) (fun c_5 => ?_)
  · replace c_5 := xb_f.mp c_5
    exact x_asr (congrArg (wX cx h) (by simp [fPool, c_5])) rfl (hret () _ _ trivial dX0_putStakeIntoPool_30)
  · replace c_5 := xb_t.mp c_5
    refine x_iload_n hX dX0_putStakeIntoPool_8 2 rfl ?_
    refine x_csi hX dX0_putStakeIntoPool_9 1 rfl (kX0_isRelay l D cx _) gX0_putStakeIntoPool_X0_isRelay rfl ⟨by decide, by decide, by decide +kernel⟩ ⟨rfl, rfl, Nat.le_of_ble_eq_true rfl, Nat.le_of_ble_eq_true rfl, Nat.le_refl 0, Nat.le_refl 0⟩ (Nat.le_of_ble_eq_true rfl) rfl (fun r_9 _ hq_9 => ?_)
    obtain rfl := hq_9
    refine x_if_eq hX 30 dX0_putStakeIntoPool_12 (by decide) (fun c_12 => ?_) (fun c_12 => ?_)
    · replace c_12 := xb_f.mp c_12
      exact x_asr (congrArg (wX cx h) (by simp [fPool, c_5, c_12])) rfl (hret () _ _ trivial dX0_putStakeIntoPool_30)
    · replace c_12 := xb_t.mp c_12
      refine x_aload_n hX dX0_putStakeIntoPool_15 0 rfl ?_
      refine gX10 hX hin (by decide +kernel) dX0_putStakeIntoPool_16 ?_
      refine x_iload_n hX dX0_putStakeIntoPool_19 2 rfl ?_
      refine x_dup2 hX dX0_putStakeIntoPool_20 rfl rfl ?_
      refine lX10 hX dX0_putStakeIntoPool_21 (P4_in c_12) rfl ?_
      refine x_aload_n hX dX0_putStakeIntoPool_22 0 rfl ?_
      refine gX2 hX hin (by decide +kernel) dX0_putStakeIntoPool_23 ?_
      refine x_iload_n hX dX0_putStakeIntoPool_26 1 rfl ?_
      refine lX2 hX dX0_putStakeIntoPool_27 (PL_in hN c_5) rfl ?_
      refine x_iadd hX dX0_putStakeIntoPool_28 ?_
      refine sX10 hX dX0_putStakeIntoPool_29 (P4_in c_12) rfl ?_
      exact x_asr (congrArg (wX cx h) (by simp [fPool, c_5, c_12])) rfl (hret () _ _ trivial dX0_putStakeIntoPool_30)
theorem in_X0_giveStakeBack : ∀ w ∈ wsX00, w ∈ wsX0_giveStakeBack := by decide +kernel
set_option maxRecDepth 100000 in
set_option maxHeartbeats 4000000 in
theorem kX0_giveStakeBack (l : Launch) (D : va_G) (cx : xC) (h : Nat → Nat) (s : xS) {n : Nat} (hN : okX s n) (a : Int32) : xN l yX0_giveStakeBack wsX0_giveStakeBack (xR 1 21) D cx [.ref (h 0), .int a] (wX cx h s) (fun _ : Unit => wX cx h (fGive s a)) (fun _ => True) := by
  refine x_enterN (own := RX0) (by decide) rfl rfl (Nat.le_of_ble_eq_true rfl) (fun X hX hret => ?_)
  have hin := in_X0_giveStakeBack
  change xV X 2 0 0 (wX cx h s) 0 [(0, .ref (h 0)), (1, .int a)] []
  refine x_aload_n hX dX0_giveStakeBack_0 0 rfl ?_
  refine x_iload_n hX dX0_giveStakeBack_1 1 rfl ?_
  refine x_cvi hX dX0_giveStakeBack_2 1 rfl (kX0_isLetter l D cx h _ _) gX0_giveStakeBack_X0_isLetter rfl ⟨rfl, by decide, by decide, by decide +kernel⟩ ⟨rfl, rfl, Nat.le_of_ble_eq_true rfl, Nat.le_of_ble_eq_true rfl, Nat.le_refl 0, Nat.le_refl 0⟩ rfl rfl (Nat.le_of_ble_eq_true rfl) rfl (fun r_2 _ hq_2 => ?_)
  obtain rfl := hq_2
  refine x_if_eq hX 40 dX0_giveStakeBack_5 (by decide) (fun c_5 => ?_) (fun c_5 => ?_)
  · replace c_5 := xb_f.mp c_5
    exact x_asr (congrArg (wX cx h) (by simp [fGive, c_5])) rfl (hret () _ _ trivial dX0_giveStakeBack_40)
  · replace c_5 := xb_t.mp c_5
    refine x_aload_n hX dX0_giveStakeBack_8 0 rfl ?_
    refine gX0 hX hin (by decide +kernel) dX0_giveStakeBack_9 ?_
    refine x_iload_n hX dX0_giveStakeBack_12 1 rfl ?_
    refine lX0 hX dX0_giveStakeBack_13 (PL_in hN c_5) rfl ?_
    refine x_csi hX dX0_giveStakeBack_14 1 rfl (kX0_isPerson l D cx _) gX0_giveStakeBack_X0_isPerson rfl ⟨by decide, by decide, by decide +kernel⟩ ⟨rfl, rfl, Nat.le_of_ble_eq_true rfl, Nat.le_of_ble_eq_true rfl, Nat.le_refl 0, Nat.le_refl 0⟩ (Nat.le_of_ble_eq_true rfl) rfl (fun r_14 _ hq_14 => ?_)
    obtain rfl := hq_14
    refine x_if_eq hX 40 dX0_giveStakeBack_17 (by decide) (fun c_17 => ?_) (fun c_17 => ?_)
    · replace c_17 := xb_f.mp c_17
      exact x_asr (congrArg (wX cx h) (by simp [fGive, c_5, c_17])) rfl (hret () _ _ trivial dX0_giveStakeBack_40)
    · replace c_17 := xb_t.mp c_17
      refine x_aload_n hX dX0_giveStakeBack_20 0 rfl ?_
      refine gX8 hX hin (by decide +kernel) dX0_giveStakeBack_21 ?_
      refine x_aload_n hX dX0_giveStakeBack_24 0 rfl ?_
      refine gX0 hX hin (by decide +kernel) dX0_giveStakeBack_25 ?_
      refine x_iload_n hX dX0_giveStakeBack_28 1 rfl ?_
      refine lX0 hX dX0_giveStakeBack_29 (PL_in hN c_5) rfl ?_
      refine x_dup2 hX dX0_giveStakeBack_30 rfl rfl ?_
      refine lX8 hX dX0_giveStakeBack_31 (P8_in c_17) rfl ?_
      refine x_aload_n hX dX0_giveStakeBack_32 0 rfl ?_
      refine gX2 hX hin (by decide +kernel) dX0_giveStakeBack_33 ?_
      refine x_iload_n hX dX0_giveStakeBack_36 1 rfl ?_
      refine lX2 hX dX0_giveStakeBack_37 (PL_in hN c_5) rfl ?_
      refine x_iadd hX dX0_giveStakeBack_38 ?_
      refine sX8 hX dX0_giveStakeBack_39 (P8_in c_17) rfl ?_
      exact x_asr (congrArg (wX cx h) (by simp [fGive, c_5, c_17])) rfl (hret () _ _ trivial dX0_giveStakeBack_40)
theorem in_X0_moveOn : ∀ w ∈ wsX00, w ∈ wsX0_moveOn := by decide +kernel
set_option maxRecDepth 100000 in
set_option maxHeartbeats 4000000 in
theorem kX0_moveOn (l : Launch) (D : va_G) (cx : xC) (h : Nat → Nat) (s : xS) {n : Nat} (hN : okX s n) (a b : Int32) : xI l yX0_moveOn wsX0_moveOn (xR 2 43) D cx [.ref (h 0), .int a, .int b] (wX cx h s) (fun _ : Unit => wX cx h (fMove s a b)) (fun r _ => r = fMoveN s a b) := by
  refine x_enterI (own := RX0) (by decide) rfl rfl (fun v u hv => ?_) (Nat.le_of_ble_eq_true rfl) (fun X hX hret => ?_)
  · rfl
  have hin := in_X0_moveOn
  change xV X 5 0 0 (wX cx h s) 0 [(0, .ref (h 0)), (1, .int a), (2, .int b)] []
  refine x_aload_n hX dX0_moveOn_0 0 rfl ?_
  refine x_iload_n hX dX0_moveOn_1 1 rfl ?_
  refine x_cvi hX dX0_moveOn_2 1 rfl (kX0_isLetter l D cx h _ _) gX0_moveOn_X0_isLetter rfl ⟨rfl, by decide, by decide, by decide +kernel⟩ ⟨rfl, rfl, Nat.le_of_ble_eq_true rfl, Nat.le_of_ble_eq_true rfl, Nat.le_refl 0, Nat.le_refl 0⟩ rfl rfl (Nat.le_of_ble_eq_true rfl) rfl (fun r_2 _ hq_2 => ?_)
  obtain rfl := hq_2
  refine x_if_ne hX 10 dX0_moveOn_5 (by decide) (fun c_5 => ?_) (fun c_5 => ?_)
  · replace c_5 := xb_t.mp c_5
    refine x_aload_n hX dX0_moveOn_10 0 rfl ?_
    refine gX1 hX hin (by decide +kernel) dX0_moveOn_11 ?_
    refine x_iload_n hX dX0_moveOn_14 1 rfl ?_
    refine lX1 hX dX0_moveOn_15 (PL_in hN c_5) rfl ?_
    refine x_csi hX dX0_moveOn_16 1 rfl (kX0_homeOf l D cx _) gX0_moveOn_X0_homeOf rfl ⟨by decide, by decide, by decide +kernel⟩ ⟨rfl, rfl, Nat.le_of_ble_eq_true rfl, Nat.le_of_ble_eq_true rfl, Nat.le_refl 0, Nat.le_refl 0⟩ (Nat.le_of_ble_eq_true rfl) rfl (fun r_16 _ hq_16 => ?_)
    obtain rfl := hq_16
    refine x_istore_n hX (lv' := [_, _, _, _]) dX0_moveOn_19 3 rfl (by decide) rfl rfl ?_
    refine x_iload_n hX dX0_moveOn_20 2 rfl ?_
    refine x_iload_n hX dX0_moveOn_21 3 rfl ?_
    refine x_icmp_ne hX 43 dX0_moveOn_22 (by decide) (fun c_22 => ?_) (fun c_22 => ?_)
    · refine x_aload_n hX dX0_moveOn_43 0 rfl ?_
      refine x_iload_n hX dX0_moveOn_44 2 rfl ?_
      refine x_iload_n hX dX0_moveOn_45 3 rfl ?_
      refine x_cvi hX dX0_moveOn_46 2 rfl (kX0_nextRelay l D cx h _ _ _) gX0_moveOn_X0_nextRelay rfl ⟨rfl, by decide, by decide, by decide +kernel⟩ ⟨rfl, rfl, Nat.le_of_ble_eq_true rfl, Nat.le_of_ble_eq_true rfl, Nat.le_refl 0, Nat.le_refl 0⟩ rfl rfl (Nat.le_of_ble_eq_true rfl) rfl (fun r_46 _ hq_46 => ?_)
      obtain rfl := hq_46
      refine x_istore hX (lv' := [_, _, _, _, _]) dX0_moveOn_49  (by decide) rfl rfl ?_
      refine x_aload_n hX dX0_moveOn_51 0 rfl ?_
      refine gX5 hX hin (by decide +kernel) dX0_moveOn_52 ?_
      refine x_iload_n hX dX0_moveOn_55 1 rfl ?_
      refine lX5 hX dX0_moveOn_56 (PL_in hN c_5) rfl ?_
      refine x_iload hX dX0_moveOn_57 4 rfl ?_
      refine x_csi hX dX0_moveOn_59 1 rfl (kX0_markOf l D cx _) gX0_moveOn_X0_markOf rfl ⟨by decide, by decide, by decide +kernel⟩ ⟨rfl, rfl, Nat.le_of_ble_eq_true rfl, Nat.le_of_ble_eq_true rfl, Nat.le_refl 0, Nat.le_refl 0⟩ (Nat.le_of_ble_eq_true rfl) rfl (fun r_59 _ hq_59 => ?_)
      obtain rfl := hq_59
      refine x_iand hX dX0_moveOn_62 ?_
      refine x_if_eq hX 81 dX0_moveOn_63 (by decide) (fun c_63 => ?_) (fun c_63 => ?_)
      · refine x_aload_n hX dX0_moveOn_81 0 rfl ?_
        refine x_iload_n hX dX0_moveOn_82 1 rfl ?_
        refine x_iload hX dX0_moveOn_83 4 rfl ?_
        refine x_cvn hX dX0_moveOn_85 2 rfl (kX0_layAt l D cx h _ hN _ _) gX0_moveOn_X0_layAt rfl ⟨rfl, by decide, by decide, by decide +kernel⟩ ⟨rfl, rfl, Nat.le_of_ble_eq_true rfl, Nat.le_of_ble_eq_true rfl, Nat.le_refl 0, Nat.le_refl 0⟩ rfl rfl (Nat.le_of_ble_eq_true rfl) rfl (fun _ _ => ?_)
        refine x_iconstv hX dX0_moveOn_88 0 (by decide) ?_
        exact x_asr (congrArg (wX cx h) (by simp [fMove, c_5, c_22, c_63])) rfl (hret _ () _ _ (by simp [fMoveN, c_5, c_22, c_63]) dX0_moveOn_89)
      · refine x_aload_n hX dX0_moveOn_66 0 rfl ?_
        refine x_iload_n hX dX0_moveOn_67 1 rfl ?_
        refine x_iconstv hX dX0_moveOn_68 4 (by decide) ?_
        refine x_cvn hX dX0_moveOn_69 2 rfl (kX0_leaveQueue l D cx h _ hN _ _) gX0_moveOn_X0_leaveQueue rfl ⟨rfl, by decide, by decide, by decide +kernel⟩ ⟨rfl, rfl, Nat.le_of_ble_eq_true rfl, Nat.le_of_ble_eq_true rfl, Nat.le_refl 0, Nat.le_refl 0⟩ rfl rfl (Nat.le_of_ble_eq_true rfl) rfl (fun _ _ => ?_)
        refine x_aload_n hX dX0_moveOn_72 0 rfl ?_
        refine x_iload_n hX dX0_moveOn_73 1 rfl ?_
        refine x_iload_n hX dX0_moveOn_74 2 rfl ?_
        refine x_cvn hX dX0_moveOn_75 2 rfl (kX0_putStakeIntoPool l D cx h _ hN.leave _ _) gX0_moveOn_X0_putStakeIntoPool rfl ⟨rfl, by decide, by decide, by decide +kernel⟩ ⟨rfl, rfl, Nat.le_of_ble_eq_true rfl, Nat.le_of_ble_eq_true rfl, Nat.le_refl 0, Nat.le_refl 0⟩ rfl rfl (Nat.le_of_ble_eq_true rfl) rfl (fun _ _ => ?_)
        refine x_goto hX 88 dX0_moveOn_78 (by decide) ?_
        refine x_iconstv hX dX0_moveOn_88 0 (by decide) ?_
        exact x_asr (congrArg (wX cx h) (by simp [fMove, c_5, c_22, c_63])) rfl (hret _ () _ _ (by simp [fMoveN, c_5, c_22, c_63]) dX0_moveOn_89)
    · refine x_aload_n hX dX0_moveOn_25 0 rfl ?_
      refine x_iload_n hX dX0_moveOn_26 1 rfl ?_
      refine x_iconstv hX dX0_moveOn_27 1 (by decide) ?_
      refine x_cvn hX dX0_moveOn_28 2 rfl (kX0_leaveQueue l D cx h _ hN _ _) gX0_moveOn_X0_leaveQueue rfl ⟨rfl, by decide, by decide, by decide +kernel⟩ ⟨rfl, rfl, Nat.le_of_ble_eq_true rfl, Nat.le_of_ble_eq_true rfl, Nat.le_refl 0, Nat.le_refl 0⟩ rfl rfl (Nat.le_of_ble_eq_true rfl) rfl (fun _ _ => ?_)
      refine x_aload_n hX dX0_moveOn_31 0 rfl ?_
      refine gX6 hX hin (by decide +kernel) dX0_moveOn_32 ?_
      refine x_iload_n hX dX0_moveOn_35 1 rfl ?_
      refine x_aload_n hX dX0_moveOn_36 0 rfl ?_
      refine gX13 hX hin (by decide +kernel) dX0_moveOn_37 ?_
      refine sX6 hX dX0_moveOn_40 (PL_in hN c_5) rfl ?_
      refine x_iconstv hX dX0_moveOn_41 1 (by decide) ?_
      exact x_asr (congrArg (wX cx h) (by simp [fMove, c_5, c_22])) rfl (hret _ () _ _ (by simp [fMoveN, c_5, c_22]) dX0_moveOn_42)
  · replace c_5 := xb_f.mp c_5
    refine x_iconstv hX dX0_moveOn_8 0 (by decide) ?_
    exact x_asr (congrArg (wX cx h) (by simp [fMove, c_5])) rfl (hret _ () _ _ (by simp [fMoveN, c_5]) dX0_moveOn_9)
theorem in_X0_expireOldLetters : ∀ w ∈ wsX00, w ∈ wsX0_expireOldLetters := by decide +kernel
set_option maxRecDepth 100000 in
set_option maxHeartbeats 4000000 in
theorem kX0_expireOldLetters (l : Launch) (D : va_G) (cx : xC) (h : Nat → Nat) (s : xS) {n : Nat} (hN : okX s n) : xN l yX0_expireOldLetters wsX0_expireOldLetters (xR 2 42) D cx [.ref (h 0)] (wX cx h s) (fun _ : Unit => wX cx h (fExp s n)) (fun _ => True) := by
  refine x_enterN (own := RX0) (by decide) rfl rfl (Nat.le_of_ble_eq_true rfl) (fun X hX hret => ?_)
  have hin := in_X0_expireOldLetters
  change xV X 2 0 0 (wX cx h s) 0 [(0, .ref (h 0))] []
  have loop : ∀ (m k : Nat), k + m = n → xV X 2 0 0 (wX cx h (fExp s k)) 2 [(0, .ref (h 0)), (1, .int (nI k))] [] := by
    intro m
    induction m with
    | zero =>
      intro k hk
      obtain rfl : n = k := hk.symm
      have hNk := hN.exp n
      refine x_iload_n hX dX0_expireOldLetters_2 1 rfl ?_
      refine x_aload_n hX dX0_expireOldLetters_3 0 rfl ?_
      refine gX12 hX hin (by decide +kernel) dX0_expireOldLetters_4 ?_
      refine x_icmp_ge hX 54 dX0_expireOldLetters_7 (by decide) (fun c_7 => ?_) (fun c_7 => ?_)
      · exact hret () _ _ trivial dX0_expireOldLetters_54
      · exact absurd (lp_yes hNk.2 hN.lt rfl) c_7
    | succ m ih =>
      intro k hk
      have hkn : k < n := by omega
      have e9 : (nI k).toNatClampNeg = k := nI_clamp (by have := hN.lt; omega)
      have hNk := hN.exp k
      refine x_iload_n hX dX0_expireOldLetters_2 1 rfl ?_
      refine x_aload_n hX dX0_expireOldLetters_3 0 rfl ?_
      refine gX12 hX hin (by decide +kernel) dX0_expireOldLetters_4 ?_
      refine x_icmp_ge hX 54 dX0_expireOldLetters_7 (by decide) (fun c_7 => ?_) (fun c_7 => ?_)
      · exact absurd c_7 (lp_no hNk.2 hN.lt hkn)
      · refine x_aload_n hX dX0_expireOldLetters_10 0 rfl ?_
        refine gX3 hX hin (by decide +kernel) dX0_expireOldLetters_11 ?_
        refine x_iload_n hX dX0_expireOldLetters_14 1 rfl ?_
        refine lX3 hX dX0_expireOldLetters_15 (okX_in hN hkn) e9 ?_
        refine x_iconstv hX dX0_expireOldLetters_16 1 (by decide) ?_
        refine x_icmp_ne hX 48 dX0_expireOldLetters_17 (by decide) (fun c_17 => ?_) (fun c_17 => ?_)
        · refine x_iinc hX (lv' := [_, _]) dX0_expireOldLetters_48 1 rfl (nI_i1 k) (by decide) rfl rfl ?_
          refine x_goto hX 2 dX0_expireOldLetters_51 (by decide) ?_
          exact x_as (congrArg (wX cx h) (by simp [fExp, c_7, c_17])) (rfl) (ih (k + 1) (by omega))
        · refine x_aload_n hX dX0_expireOldLetters_20 0 rfl ?_
          refine gX13 hX hin (by decide +kernel) dX0_expireOldLetters_21 ?_
          refine x_aload_n hX dX0_expireOldLetters_24 0 rfl ?_
          refine gX6 hX hin (by decide +kernel) dX0_expireOldLetters_25 ?_
          refine x_iload_n hX dX0_expireOldLetters_28 1 rfl ?_
          refine lX6 hX dX0_expireOldLetters_29 (okX_in hN hkn) e9 ?_
          refine x_isub hX dX0_expireOldLetters_30 ?_
          refine x_bipushv hX dX0_expireOldLetters_31 20 (by decide) ?_
          refine x_icmp_lt hX 48 dX0_expireOldLetters_33 (by decide) (fun c_33 => ?_) (fun c_33 => ?_)
          · refine x_iinc hX (lv' := [_, _]) dX0_expireOldLetters_48 1 rfl (nI_i1 k) (by decide) rfl rfl ?_
            refine x_goto hX 2 dX0_expireOldLetters_51 (by decide) ?_
            exact x_as (congrArg (wX cx h) (by simp [fExp, c_7, c_17, c_33])) (rfl) (ih (k + 1) (by omega))
          · refine x_aload_n hX dX0_expireOldLetters_36 0 rfl ?_
            refine gX3 hX hin (by decide +kernel) dX0_expireOldLetters_37 ?_
            refine x_iload_n hX dX0_expireOldLetters_40 1 rfl ?_
            refine x_iconstv hX dX0_expireOldLetters_41 5 (by decide) ?_
            refine sX3 hX dX0_expireOldLetters_42 (okX_in hN hkn) e9 ?_
            refine x_aload_n hX dX0_expireOldLetters_43 0 rfl ?_
            refine x_iload_n hX dX0_expireOldLetters_44 1 rfl ?_
            refine x_cvn hX dX0_expireOldLetters_45 1 rfl (kX0_giveStakeBack l D cx h _ (hNk.up (by decide)) _) gX0_expireOldLetters_X0_giveStakeBack rfl ⟨rfl, by decide, by decide, by decide +kernel⟩ ⟨rfl, rfl, Nat.le_of_ble_eq_true rfl, Nat.le_of_ble_eq_true rfl, Nat.le_refl 0, Nat.le_refl 0⟩ rfl rfl (Nat.le_of_ble_eq_true rfl) rfl (fun _ _ => ?_)
            refine x_iinc hX (lv' := [_, _]) dX0_expireOldLetters_48 1 rfl (nI_i1 k) (by decide) rfl rfl ?_
            refine x_goto hX 2 dX0_expireOldLetters_51 (by decide) ?_
            exact x_as (congrArg (wX cx h) (by simp [fExp, c_7, c_17, c_33])) (rfl) (ih (k + 1) (by omega))
  refine x_iconstv hX dX0_expireOldLetters_0 0 (by decide) ?_
  refine x_istore_n hX (lv' := [_, _]) dX0_expireOldLetters_1 1 rfl (by decide) rfl rfl ?_
  exact x_as (rfl) (by simp [nI_0]) (loop n 0 (by omega))
theorem in_X0_payForFalseMark : ∀ w ∈ wsX00, w ∈ wsX0_payForFalseMark := by decide +kernel
set_option maxRecDepth 100000 in
set_option maxHeartbeats 4000000 in
theorem kX0_payForFalseMark (l : Launch) (D : va_G) (cx : xC) (h : Nat → Nat) (s : xS) {n : Nat} (hN : okX s n) (a b t : Int32) : xI l yX0_payForFalseMark wsX0_payForFalseMark (xR 1 21) D cx [.ref (h 0), .int a, .int b, .int t] (wX cx h s) (fun _ : Unit => wX cx h (fPay s a b t)) (fun r _ => r = fPayN s a b t) := by
  refine x_enterI (own := RX0) (by decide) rfl rfl (fun v u hv => ?_) (Nat.le_of_ble_eq_true rfl) (fun X hX hret => ?_)
  · rfl
  have hin := in_X0_payForFalseMark
  change xV X 5 0 0 (wX cx h s) 0 [(0, .ref (h 0)), (1, .int a), (2, .int b), (3, .int t)] []
  refine x_iload_n hX dX0_payForFalseMark_0 1 rfl ?_
  refine x_csi hX dX0_payForFalseMark_1 1 rfl (kX0_isPerson l D cx _) gX0_payForFalseMark_X0_isPerson rfl ⟨by decide, by decide, by decide +kernel⟩ ⟨rfl, rfl, Nat.le_of_ble_eq_true rfl, Nat.le_of_ble_eq_true rfl, Nat.le_refl 0, Nat.le_refl 0⟩ (Nat.le_of_ble_eq_true rfl) rfl (fun r_1 _ hq_1 => ?_)
  obtain rfl := hq_1
  refine x_if_eq hX 14 dX0_payForFalseMark_4 (by decide) (fun c_4 => ?_) (fun c_4 => ?_)
  · replace c_4 := xb_f.mp c_4
    refine x_iconstv hX dX0_payForFalseMark_14 0 (by decide) ?_
    exact x_asr (congrArg (wX cx h) (by simp [fPay, fPayV, c_4])) rfl (hret _ () _ _ (by simp [fPayN, fPayV, c_4]) dX0_payForFalseMark_15)
  · replace c_4 := xb_t.mp c_4
    refine x_iload_n hX dX0_payForFalseMark_7 2 rfl ?_
    refine x_csi hX dX0_payForFalseMark_8 1 rfl (kX0_isPerson l D cx _) gX0_payForFalseMark_X0_isPerson rfl ⟨by decide, by decide, by decide +kernel⟩ ⟨rfl, rfl, Nat.le_of_ble_eq_true rfl, Nat.le_of_ble_eq_true rfl, Nat.le_refl 0, Nat.le_refl 0⟩ (Nat.le_of_ble_eq_true rfl) rfl (fun r_8 _ hq_8 => ?_)
    obtain rfl := hq_8
    refine x_if_ne hX 16 dX0_payForFalseMark_11 (by decide) (fun c_11 => ?_) (fun c_11 => ?_)
    · replace c_11 := xb_t.mp c_11
      refine x_iload_n hX dX0_payForFalseMark_16 3 rfl ?_
      refine x_aload_n hX dX0_payForFalseMark_17 0 rfl ?_
      refine gX8 hX hin (by decide +kernel) dX0_payForFalseMark_18 ?_
      refine x_iload_n hX dX0_payForFalseMark_21 1 rfl ?_
      refine lX8 hX dX0_payForFalseMark_22 (P8_in c_4) rfl ?_
      refine x_mmin hX dX0_payForFalseMark_23 (by decide +kernel) (by decide +kernel) (by decide +kernel) (by decide +kernel) ⟨Nat.le_of_ble_eq_true rfl, Nat.le_of_ble_eq_true rfl, Nat.le_refl 0, Nat.le_refl 0⟩ ?_
      refine x_istore hX (lv' := [_, _, _, _, _]) dX0_payForFalseMark_26  (by decide) rfl rfl ?_
      refine x_aload_n hX dX0_payForFalseMark_28 0 rfl ?_
      refine gX9 hX hin (by decide +kernel) dX0_payForFalseMark_29 ?_
      refine x_iload_n hX dX0_payForFalseMark_32 1 rfl ?_
      refine x_dup2 hX dX0_payForFalseMark_33 rfl rfl ?_
      refine lX9 hX dX0_payForFalseMark_34 (P8_in c_4) rfl ?_
      refine x_iconstv hX dX0_payForFalseMark_35 1 (by decide) ?_
      refine x_iadd hX dX0_payForFalseMark_36 ?_
      refine sX9 hX dX0_payForFalseMark_37 (P8_in c_4) rfl ?_
      refine x_aload_n hX dX0_payForFalseMark_38 0 rfl ?_
      refine gX8 hX hin (by decide +kernel) dX0_payForFalseMark_39 ?_
      refine x_iload_n hX dX0_payForFalseMark_42 1 rfl ?_
      refine x_dup2 hX dX0_payForFalseMark_43 rfl rfl ?_
      refine lX8 hX dX0_payForFalseMark_44 (P8_in c_4) rfl ?_
      refine x_iload hX dX0_payForFalseMark_45 4 rfl ?_
      refine x_isub hX dX0_payForFalseMark_47 ?_
      refine sX8 hX dX0_payForFalseMark_48 (P8_in c_4) rfl ?_
      refine x_aload_n hX dX0_payForFalseMark_49 0 rfl ?_
      refine gX8 hX hin (by decide +kernel) dX0_payForFalseMark_50 ?_
      refine x_iload_n hX dX0_payForFalseMark_53 2 rfl ?_
      refine x_dup2 hX dX0_payForFalseMark_54 rfl rfl ?_
      refine lX8 hX dX0_payForFalseMark_55 (P8_in c_11) rfl ?_
      refine x_iload hX dX0_payForFalseMark_56 4 rfl ?_
      refine x_iadd hX dX0_payForFalseMark_58 ?_
      refine sX8 hX dX0_payForFalseMark_59 (P8_in c_11) rfl ?_
      refine x_iload hX dX0_payForFalseMark_60 4 rfl ?_
      exact x_asr (congrArg (wX cx h) (by simp [fPay, fPayV, c_4, c_11])) rfl (hret _ () _ _ (by simp [fPayN, fPayV, c_4, c_11]) dX0_payForFalseMark_62)
    · replace c_11 := xb_f.mp c_11
      refine x_iconstv hX dX0_payForFalseMark_14 0 (by decide) ?_
      exact x_asr (congrArg (wX cx h) (by simp [fPay, fPayV, c_4, c_11])) rfl (hret _ () _ _ (by simp [fPayN, fPayV, c_4, c_11]) dX0_payForFalseMark_15)
set_option maxRecDepth 100000 in
set_option maxHeartbeats 4000000 in
theorem kJ6_bitCount (l : Launch) (D : va_G) (cx : xC) (a : Int32) : xI l yJ6_bitCount_0f7a4 wsJ6_bitCount_0f7a4 (xR 0 0) D cx [.int a] [] (fun _ : Unit => []) (fun r _ => r = fBits a) := by
  refine x_enterI (own := RJ6) (by decide) rfl rfl (fun v u hv => ?_) (Nat.le_of_ble_eq_true rfl) (fun X hX hret => ?_)
  · rfl
  change xV X 1 0 0 [] 0 [(0, .int a)] []
  refine x_iload_n hX dJ6_bitCount_0f7a4_0 0 rfl ?_
  refine x_iload_n hX dJ6_bitCount_0f7a4_1 0 rfl ?_
  refine x_iconstv hX dJ6_bitCount_0f7a4_2 1 (by decide) ?_
  refine x_iushr hX dJ6_bitCount_0f7a4_3 ?_
  refine x_ldcw hX (v := 1431655765) dJ6_bitCount_0f7a4_4 (by decide +kernel) ?_
  refine x_iand hX dJ6_bitCount_0f7a4_7 ?_
  refine x_isub hX dJ6_bitCount_0f7a4_8 ?_
  refine x_istore_n hX (lv' := [_]) dJ6_bitCount_0f7a4_9 0 rfl (by decide) rfl rfl ?_
  refine x_iload_n hX dJ6_bitCount_0f7a4_10 0 rfl ?_
  refine x_ldcw hX (v := 858993459) dJ6_bitCount_0f7a4_11 (by decide +kernel) ?_
  refine x_iand hX dJ6_bitCount_0f7a4_14 ?_
  refine x_iload_n hX dJ6_bitCount_0f7a4_15 0 rfl ?_
  refine x_iconstv hX dJ6_bitCount_0f7a4_16 2 (by decide) ?_
  refine x_iushr hX dJ6_bitCount_0f7a4_17 ?_
  refine x_ldcw hX (v := 858993459) dJ6_bitCount_0f7a4_18 (by decide +kernel) ?_
  refine x_iand hX dJ6_bitCount_0f7a4_21 ?_
  refine x_iadd hX dJ6_bitCount_0f7a4_22 ?_
  refine x_istore_n hX (lv' := [_]) dJ6_bitCount_0f7a4_23 0 rfl (by decide) rfl rfl ?_
  refine x_iload_n hX dJ6_bitCount_0f7a4_24 0 rfl ?_
  refine x_iload_n hX dJ6_bitCount_0f7a4_25 0 rfl ?_
  refine x_iconstv hX dJ6_bitCount_0f7a4_26 4 (by decide) ?_
  refine x_iushr hX dJ6_bitCount_0f7a4_27 ?_
  refine x_iadd hX dJ6_bitCount_0f7a4_28 ?_
  refine x_ldcw hX (v := 252645135) dJ6_bitCount_0f7a4_29 (by decide +kernel) ?_
  refine x_iand hX dJ6_bitCount_0f7a4_32 ?_
  refine x_istore_n hX (lv' := [_]) dJ6_bitCount_0f7a4_33 0 rfl (by decide) rfl rfl ?_
  refine x_iload_n hX dJ6_bitCount_0f7a4_34 0 rfl ?_
  refine x_iload_n hX dJ6_bitCount_0f7a4_35 0 rfl ?_
  refine x_bipushv hX dJ6_bitCount_0f7a4_36 8 (by decide) ?_
  refine x_iushr hX dJ6_bitCount_0f7a4_38 ?_
  refine x_iadd hX dJ6_bitCount_0f7a4_39 ?_
  refine x_istore_n hX (lv' := [_]) dJ6_bitCount_0f7a4_40 0 rfl (by decide) rfl rfl ?_
  refine x_iload_n hX dJ6_bitCount_0f7a4_41 0 rfl ?_
  refine x_iload_n hX dJ6_bitCount_0f7a4_42 0 rfl ?_
  refine x_bipushv hX dJ6_bitCount_0f7a4_43 16 (by decide) ?_
  refine x_iushr hX dJ6_bitCount_0f7a4_45 ?_
  refine x_iadd hX dJ6_bitCount_0f7a4_46 ?_
  refine x_istore_n hX (lv' := [_]) dJ6_bitCount_0f7a4_47 0 rfl (by decide) rfl rfl ?_
  refine x_iload_n hX dJ6_bitCount_0f7a4_48 0 rfl ?_
  refine x_bipushv hX dJ6_bitCount_0f7a4_49 63 (by decide) ?_
  refine x_iand hX dJ6_bitCount_0f7a4_51 ?_
  exact hret _ () _ _ (rfl) dJ6_bitCount_0f7a4_52
theorem in_X0_othersWhoAnswered : ∀ w ∈ wsX00, w ∈ wsX0_othersWhoAnswered := by decide +kernel
set_option maxRecDepth 100000 in
set_option maxHeartbeats 4000000 in
theorem kX0_othersWhoAnswered (l : Launch) (D : va_G) (cx : xC) (h : Nat → Nat) (s : xS) {n : Nat} (hN : okX s n) (a b : Int32) : xI l yX0_othersWhoAnswered wsX0_othersWhoAnswered (xR 1 20) D cx [.ref (h 0), .int a, .int b] (wX cx h s) (fun _ : Unit => wX cx h (s)) (fun r _ => r = fBits (fWho s a b n)) := by
  refine x_enterI (own := RX0) (by decide) rfl rfl (fun v u hv => ?_) (Nat.le_of_ble_eq_true rfl) (fun X hX hret => ?_)
  · rfl
  have hin := in_X0_othersWhoAnswered
  change xV X 5 0 0 (wX cx h s) 0 [(0, .ref (h 0)), (1, .int a), (2, .int b)] []
  have loop : ∀ (m k : Nat), k + m = n → xV X 5 0 0 (wX cx h (s)) 5 [(0, .ref (h 0)), (1, .int a), (2, .int b), (3, .int (fWho s a b k)), (4, .int (nI k))] [] := by
    intro m
    induction m with
    | zero =>
      intro k hk
      obtain rfl : n = k := hk.symm
      refine x_iload hX dX0_othersWhoAnswered_5 4 rfl ?_
      refine x_aload_n hX dX0_othersWhoAnswered_7 0 rfl ?_
      refine gX12 hX hin (by decide +kernel) dX0_othersWhoAnswered_8 ?_
      refine x_icmp_ge hX 65 dX0_othersWhoAnswered_11 (by decide) (fun c_11 => ?_) (fun c_11 => ?_)
      · refine x_iload_n hX dX0_othersWhoAnswered_65 3 rfl ?_
        refine x_csi hX dX0_othersWhoAnswered_66 1 rfl (kJ6_bitCount l D cx _) gX0_othersWhoAnswered_J6_bitCount_0f7a4 rfl ⟨by decide, by decide, by decide +kernel⟩ ⟨rfl, rfl, Nat.le_of_ble_eq_true rfl, Nat.le_of_ble_eq_true rfl, Nat.le_refl 0, Nat.le_refl 0⟩ (Nat.le_of_ble_eq_true rfl) rfl (fun r_66 _ hq_66 => ?_)
        obtain rfl := hq_66
        exact hret _ () _ _ (rfl) dX0_othersWhoAnswered_69
      · exact absurd (lp_yes hN.2 hN.lt rfl) c_11
    | succ m ih =>
      intro k hk
      have hkn : k < n := by omega
      have e9 : (nI k).toNatClampNeg = k := nI_clamp (by have := hN.lt; omega)
      refine x_iload hX dX0_othersWhoAnswered_5 4 rfl ?_
      refine x_aload_n hX dX0_othersWhoAnswered_7 0 rfl ?_
      refine gX12 hX hin (by decide +kernel) dX0_othersWhoAnswered_8 ?_
      refine x_icmp_ge hX 65 dX0_othersWhoAnswered_11 (by decide) (fun c_11 => ?_) (fun c_11 => ?_)
      · exact absurd c_11 (lp_no hN.2 hN.lt hkn)
      · refine x_aload_n hX dX0_othersWhoAnswered_14 0 rfl ?_
        refine gX3 hX hin (by decide +kernel) dX0_othersWhoAnswered_15 ?_
        refine x_iload hX dX0_othersWhoAnswered_18 4 rfl ?_
        refine lX3 hX dX0_othersWhoAnswered_20 (okX_in hN hkn) e9 ?_
        refine x_iconstv hX dX0_othersWhoAnswered_21 2 (by decide) ?_
        refine x_icmp_ne hX 59 dX0_othersWhoAnswered_22 (by decide) (fun c_22 => ?_) (fun c_22 => ?_)
        · refine x_iinc hX (lv' := [_, _, _, _, _]) dX0_othersWhoAnswered_59 4 rfl (nI_i1 k) (by decide) rfl rfl ?_
          refine x_goto hX 5 dX0_othersWhoAnswered_62 (by decide) ?_
          exact x_as (rfl) (by simp [fWho, c_11, c_22]) (ih (k + 1) (by omega))
        · refine x_aload_n hX dX0_othersWhoAnswered_25 0 rfl ?_
          refine gX0 hX hin (by decide +kernel) dX0_othersWhoAnswered_26 ?_
          refine x_iload hX dX0_othersWhoAnswered_29 4 rfl ?_
          refine lX0 hX dX0_othersWhoAnswered_31 (okX_in hN hkn) e9 ?_
          refine x_iload_n hX dX0_othersWhoAnswered_32 1 rfl ?_
          refine x_icmp_ne hX 59 dX0_othersWhoAnswered_33 (by decide) (fun c_33 => ?_) (fun c_33 => ?_)
          · refine x_iinc hX (lv' := [_, _, _, _, _]) dX0_othersWhoAnswered_59 4 rfl (nI_i1 k) (by decide) rfl rfl ?_
            refine x_goto hX 5 dX0_othersWhoAnswered_62 (by decide) ?_
            exact x_as (rfl) (by simp [fWho, c_11, c_22, c_33]) (ih (k + 1) (by omega))
          · refine x_aload_n hX dX0_othersWhoAnswered_36 0 rfl ?_
            refine gX1 hX hin (by decide +kernel) dX0_othersWhoAnswered_37 ?_
            refine x_iload hX dX0_othersWhoAnswered_40 4 rfl ?_
            refine lX1 hX dX0_othersWhoAnswered_42 (okX_in hN hkn) e9 ?_
            refine x_iload_n hX dX0_othersWhoAnswered_43 2 rfl ?_
            refine x_icmp_eq hX 59 dX0_othersWhoAnswered_44 (by decide) (fun c_44 => ?_) (fun c_44 => ?_)
            · refine x_iinc hX (lv' := [_, _, _, _, _]) dX0_othersWhoAnswered_59 4 rfl (nI_i1 k) (by decide) rfl rfl ?_
              refine x_goto hX 5 dX0_othersWhoAnswered_62 (by decide) ?_
              exact x_as (rfl) (by simp [fWho, c_11, c_22, c_33, c_44]) (ih (k + 1) (by omega))
            · refine x_iload_n hX dX0_othersWhoAnswered_47 3 rfl ?_
              refine x_iconstv hX dX0_othersWhoAnswered_48 1 (by decide) ?_
              refine x_aload_n hX dX0_othersWhoAnswered_49 0 rfl ?_
              refine gX1 hX hin (by decide +kernel) dX0_othersWhoAnswered_50 ?_
              refine x_iload hX dX0_othersWhoAnswered_53 4 rfl ?_
              refine lX1 hX dX0_othersWhoAnswered_55 (okX_in hN hkn) e9 ?_
              refine x_ishl hX dX0_othersWhoAnswered_56 ?_
              refine x_ior hX dX0_othersWhoAnswered_57 ?_
              refine x_istore_n hX (lv' := [_, _, _, _, _]) dX0_othersWhoAnswered_58 3 rfl (by decide) rfl rfl ?_
              refine x_iinc hX (lv' := [_, _, _, _, _]) dX0_othersWhoAnswered_59 4 rfl (nI_i1 k) (by decide) rfl rfl ?_
              refine x_goto hX 5 dX0_othersWhoAnswered_62 (by decide) ?_
              exact x_as (rfl) (by simp [fWho, c_11, c_22, c_33, c_44]) (ih (k + 1) (by omega))
  refine x_iconstv hX dX0_othersWhoAnswered_0 0 (by decide) ?_
  refine x_istore_n hX (lv' := [_, _, _, _]) dX0_othersWhoAnswered_1 3 rfl (by decide) rfl rfl ?_
  refine x_iconstv hX dX0_othersWhoAnswered_2 0 (by decide) ?_
  refine x_istore hX (lv' := [_, _, _, _, _]) dX0_othersWhoAnswered_3  (by decide) rfl rfl ?_
  exact x_as (rfl) (by simp [fWho, nI_0]) (loop n 0 (by omega))
theorem in_X0_passOneTick : ∀ w ∈ wsX00, w ∈ wsX0_passOneTick := by decide +kernel
set_option maxRecDepth 100000 in
set_option maxHeartbeats 4000000 in
theorem kX0_passOneTick (l : Launch) (D : va_G) (cx : xC) (h : Nat → Nat) (s : xS) {n : Nat} (hN : okX s n) : xI l yX0_passOneTick wsX0_passOneTick (xR 5 105) D cx [.ref (h 0)] (wX cx h s) (fun _ : Unit => wX cx h (fTick s n)) (fun r _ => r = fTickN s n) := by
  refine x_enterI (own := RX0) (by decide) rfl rfl (fun v u hv => ?_) (Nat.le_of_ble_eq_true rfl) (fun X hX hret => ?_)
  · rfl
  have hin := in_X0_passOneTick
  change xV X 4 0 0 (wX cx h s) 0 [(0, .ref (h 0))] []
  have inner : ∀ (t : xS) (hT : okX t n) (r : Int32) (c : Int32) (hc : P4 r) (m k : Nat), k + m = 2 → (xV X 4 0 0 (wX cx h (fTwo t n r 2)) 49 [(0, .ref (h 0)), (1, .int (fTwoN t n r c 2)), (2, .int r), (3, .int 2)] []) → xV X 4 0 0 (wX cx h (fTwo t n r k)) 25 [(0, .ref (h 0)), (1, .int (fTwoN t n r c k)), (2, .int r), (3, .int (nI k))] [] := by
    intro t hT r c hc m
    induction m with
    | zero =>
      intro k hk hgo
      obtain rfl : 2 = k := hk.symm
      refine x_iload_n hX dX0_passOneTick_25 3 rfl ?_
      refine x_iconstv hX dX0_passOneTick_26 2 (by decide) ?_
      refine x_icmp_ge hX 49 dX0_passOneTick_27 (by decide) (fun c_27 => ?_) (fun c_27 => ?_)
      · exact hgo
      · exact absurd (lp_yes (rfl : (2 : Int32) = nI 2) (by decide) rfl) c_27
    | succ m ih =>
      intro k hk hgo
      have hkn : k < 2 := by omega
      have hNk := hT.two (r := r) k
      refine x_iload_n hX dX0_passOneTick_25 3 rfl ?_
      refine x_iconstv hX dX0_passOneTick_26 2 (by decide) ?_
      refine x_icmp_ge hX 49 dX0_passOneTick_27 (by decide) (fun c_27 => ?_) (fun c_27 => ?_)
      · exact absurd c_27 (lp_no (rfl : (2 : Int32) = nI 2) (by decide) hkn)
      · refine x_iload_n hX dX0_passOneTick_30 1 rfl ?_
        refine x_aload_n hX dX0_passOneTick_31 0 rfl ?_
        refine x_aload_n hX dX0_passOneTick_32 0 rfl ?_
        refine x_iload_n hX dX0_passOneTick_33 2 rfl ?_
        refine x_cvi hX dX0_passOneTick_34 1 rfl (kX0_takeFirstWaiting l D cx h _ hNk _) gX0_passOneTick_X0_takeFirstWaiting rfl ⟨rfl, by decide, by decide, by decide +kernel⟩ ⟨rfl, rfl, Nat.le_of_ble_eq_true rfl, Nat.le_of_ble_eq_true rfl, Nat.le_refl 0, Nat.le_refl 0⟩ rfl rfl (Nat.le_of_ble_eq_true rfl) rfl (fun r_34 _ hq_34 => ?_)
        obtain rfl := hq_34
        refine x_iload_n hX dX0_passOneTick_37 2 rfl ?_
        refine x_cvi hX dX0_passOneTick_38 2 rfl (kX0_moveOn l D cx h _ hNk.take _ _) gX0_passOneTick_X0_moveOn rfl ⟨rfl, by decide, by decide, by decide +kernel⟩ ⟨rfl, rfl, Nat.le_of_ble_eq_true rfl, Nat.le_of_ble_eq_true rfl, Nat.le_refl 0, Nat.le_refl 0⟩ rfl rfl (Nat.le_of_ble_eq_true rfl) rfl (fun r_38 _ hq_38 => ?_)
        obtain rfl := hq_38
        refine x_iadd hX dX0_passOneTick_41 ?_
        refine x_istore_n hX (lv' := [_, _, _, _]) dX0_passOneTick_42 1 rfl (by decide) rfl rfl ?_
        refine x_iinc hX (lv' := [_, _, _, _]) dX0_passOneTick_43 3 rfl (nI_i1 k) (by decide) rfl rfl ?_
        refine x_goto hX 25 dX0_passOneTick_46 (by decide) ?_
        exact ih (k + 1) (by omega) hgo
  have outer : ∀ (t : xS) (hT : okX t n) (ht : t = fTick0 s n) (m k : Nat), k + m = 4 → ∀ (lv3 : List (Nat × Value)), lv_pick lv3 [0, 1, 2] = [(0, .ref (h 0)), (1, .int (fFourN t n k)), (2, .int (nI k))] → xV X 4 0 0 (wX cx h (fFour t n k)) 18 lv3 [] := by
    intro t hT ht m
    induction m with
    | zero =>
      intro k hk lv3 h3
      obtain rfl : 4 = k := hk.symm
      refine x_lv [0, 1, 2] h3 ?_
      have hNk := hT.four 4
      refine x_iload_n hX dX0_passOneTick_18 2 rfl ?_
      refine x_iconstv hX dX0_passOneTick_19 4 (by decide) ?_
      refine x_icmp_ge hX 55 dX0_passOneTick_20 (by decide) (fun c_20 => ?_) (fun c_20 => ?_)
      · refine x_aload_n hX dX0_passOneTick_55 0 rfl ?_
        refine x_cvn hX dX0_passOneTick_56 0 rfl (kX0_expireOldLetters l D cx h _ hNk) gX0_passOneTick_X0_expireOldLetters rfl ⟨rfl, by decide, by decide, by decide +kernel⟩ ⟨rfl, rfl, Nat.le_of_ble_eq_true rfl, Nat.le_of_ble_eq_true rfl, Nat.le_refl 0, Nat.le_refl 0⟩ rfl rfl (Nat.le_of_ble_eq_true rfl) rfl (fun _ _ => ?_)
        refine x_iload_n hX dX0_passOneTick_59 1 rfl ?_
        exact x_asr (congrArg (wX cx h) (by rw [ht]; rfl)) rfl (hret _ () _ _ (by rw [ht]; rfl) dX0_passOneTick_60)
      · exact absurd (lp_yes (rfl : (4 : Int32) = nI 4) (by decide) rfl) c_20
    | succ m ih =>
      intro k hk lv3 h3
      refine x_lv [0, 1, 2] h3 ?_
      have hkn : k < 4 := by omega
      have hNk := hT.four k
      refine x_iload_n hX dX0_passOneTick_18 2 rfl ?_
      refine x_iconstv hX dX0_passOneTick_19 4 (by decide) ?_
      refine x_icmp_ge hX 55 dX0_passOneTick_20 (by decide) (fun c_20 => ?_) (fun c_20 => ?_)
      · exact absurd c_20 (lp_no (rfl : (4 : Int32) = nI 4) (by decide) hkn)
      · refine x_iconstv hX dX0_passOneTick_23 0 (by decide) ?_
        refine x_istore_n hX (lv' := [_, _, _, _]) dX0_passOneTick_24 3 rfl (by decide) rfl rfl ?_
        refine inner (fFour t n k) hNk (nI k) (fFourN t n k) ⟨nI_pos' (by omega), nI_lt hkn (by decide)⟩ 2 0 rfl ?_
        refine x_iinc hX (lv' := [_, _, _, _]) dX0_passOneTick_49 2 rfl (nI_i1 k) (by decide) rfl rfl ?_
        refine x_goto hX 18 dX0_passOneTick_52 (by decide) ?_
        exact ih (k + 1) (by omega) _ rfl
  refine x_aload_n hX dX0_passOneTick_0 0 rfl ?_
  refine x_dup hX dX0_passOneTick_1 rfl ?_
  refine gX13 hX hin (by decide +kernel) dX0_passOneTick_2 ?_
  refine x_iconstv hX dX0_passOneTick_5 1 (by decide) ?_
  refine x_iadd hX dX0_passOneTick_6 ?_
  refine pX13 hX hin (by decide +kernel) dX0_passOneTick_7 ?_
  refine x_aload_n hX dX0_passOneTick_10 0 rfl ?_
  refine x_cvn hX dX0_passOneTick_11 0 rfl (kX0_beginLookingAtQueues l D cx h _ (hN.up (by decide))) gX0_passOneTick_X0_beginLookingAtQueues rfl ⟨rfl, by decide, by decide, by decide +kernel⟩ ⟨rfl, rfl, Nat.le_of_ble_eq_true rfl, Nat.le_of_ble_eq_true rfl, Nat.le_refl 0, Nat.le_refl 0⟩ rfl rfl (Nat.le_of_ble_eq_true rfl) rfl (fun _ _ => ?_)
  refine x_iconstv hX dX0_passOneTick_14 0 (by decide) ?_
  refine x_istore_n hX (lv' := [_, _]) dX0_passOneTick_15 1 rfl (by decide) rfl rfl ?_
  refine x_iconstv hX dX0_passOneTick_16 0 (by decide) ?_
  refine x_istore_n hX (lv' := [_, _, _]) dX0_passOneTick_17 2 rfl (by decide) rfl rfl ?_
  exact outer (fTick0 s n) hN.tick0 rfl 4 0 rfl _ rfl
