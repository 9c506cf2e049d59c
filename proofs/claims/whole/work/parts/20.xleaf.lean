set_option maxRecDepth 100000 in
set_option maxHeartbeats 4000000 in
theorem kX0_isPerson (l : Launch) (D : va_G) (cx : xC) (a : Int32) : xI l yX0_isPerson wsX0_isPerson (xR 0 0) D cx [.int a] [] (fun _ : Unit => []) (fun r _ => r = if P8 a then 1 else 0) := by
  refine x_enterI (own := RX0) (by decide) rfl rfl (fun v u hv => ?_) (Nat.le_of_ble_eq_true rfl) (fun X hX hret => ?_)
  · rw [hv]; split <;> rfl
  change xV X 1 0 0 [] 0 [(0, .int a)] []
  refine x_iload_n hX dX0_isPerson_0 0 rfl ?_
  refine x_if_lt hX 14 dX0_isPerson_1 (by decide) (fun c_1 => ?_) (fun c_1 => ?_)
  · refine x_iconstv hX dX0_isPerson_14 0 (by decide) ?_
    exact hret _ () _ _ (by rw [← bnd_if]; simp [c_1]) dX0_isPerson_15
  · refine x_iload_n hX dX0_isPerson_4 0 rfl ?_
    refine x_bipushv hX dX0_isPerson_5 8 (by decide) ?_
    refine x_icmp_ge hX 14 dX0_isPerson_7 (by decide) (fun c_7 => ?_) (fun c_7 => ?_)
    · refine x_iconstv hX dX0_isPerson_14 0 (by decide) ?_
      exact hret _ () _ _ (by rw [← bnd_if]; simp [c_1, c_7]) dX0_isPerson_15
    · refine x_iconstv hX dX0_isPerson_10 1 (by decide) ?_
      refine x_goto hX 15 dX0_isPerson_11 (by decide) ?_
      exact hret _ () _ _ (by rw [← bnd_if]; simp [c_1, c_7]) dX0_isPerson_15
set_option maxRecDepth 100000 in
set_option maxHeartbeats 4000000 in
theorem kX0_isRelay (l : Launch) (D : va_G) (cx : xC) (a : Int32) : xI l yX0_isRelay wsX0_isRelay (xR 0 0) D cx [.int a] [] (fun _ : Unit => []) (fun r _ => r = if P4 a then 1 else 0) := by
  refine x_enterI (own := RX0) (by decide) rfl rfl (fun v u hv => ?_) (Nat.le_of_ble_eq_true rfl) (fun X hX hret => ?_)
  · rw [hv]; split <;> rfl
  change xV X 1 0 0 [] 0 [(0, .int a)] []
  refine x_iload_n hX dX0_isRelay_0 0 rfl ?_
  refine x_if_lt hX 13 dX0_isRelay_1 (by decide) (fun c_1 => ?_) (fun c_1 => ?_)
  · refine x_iconstv hX dX0_isRelay_13 0 (by decide) ?_
    exact hret _ () _ _ (by rw [← bnd_if]; simp [c_1]) dX0_isRelay_14
  · refine x_iload_n hX dX0_isRelay_4 0 rfl ?_
    refine x_iconstv hX dX0_isRelay_5 4 (by decide) ?_
    refine x_icmp_ge hX 13 dX0_isRelay_6 (by decide) (fun c_6 => ?_) (fun c_6 => ?_)
    · refine x_iconstv hX dX0_isRelay_13 0 (by decide) ?_
      exact hret _ () _ _ (by rw [← bnd_if]; simp [c_1, c_6]) dX0_isRelay_14
    · refine x_iconstv hX dX0_isRelay_9 1 (by decide) ?_
      refine x_goto hX 14 dX0_isRelay_10 (by decide) ?_
      exact hret _ () _ _ (by rw [← bnd_if]; simp [c_1, c_6]) dX0_isRelay_14
set_option maxRecDepth 100000 in
set_option maxHeartbeats 4000000 in
theorem kX0_homeOf (l : Launch) (D : va_G) (cx : xC) (a : Int32) : xI l yX0_homeOf wsX0_homeOf (xR 0 0) D cx [.int a] [] (fun _ : Unit => []) (fun r _ => r = fHome a) := by
  refine x_enterI (own := RX0) (by decide) rfl rfl (fun v u hv => ?_) (Nat.le_of_ble_eq_true rfl) (fun X hX hret => ?_)
  · rfl
  change xV X 1 0 0 [] 0 [(0, .int a)] []
  refine x_iload_n hX dX0_homeOf_0 0 rfl ?_
  refine x_iconstv hX dX0_homeOf_1 4 (by decide) ?_
  refine x_irem hX dX0_homeOf_2 (by decide) ?_
  exact hret _ () _ _ (rfl) dX0_homeOf_3
set_option maxRecDepth 100000 in
set_option maxHeartbeats 4000000 in
theorem kX0_markOf (l : Launch) (D : va_G) (cx : xC) (a : Int32) : xI l yX0_markOf wsX0_markOf (xR 0 0) D cx [.int a] [] (fun _ : Unit => []) (fun r _ => r = fMark a) := by
  refine x_enterI (own := RX0) (by decide) rfl rfl (fun v u hv => ?_) (Nat.le_of_ble_eq_true rfl) (fun X hX hret => ?_)
  · rfl
  change xV X 1 0 0 [] 0 [(0, .int a)] []
  refine x_iconstv hX dX0_markOf_0 1 (by decide) ?_
  refine x_iload_n hX dX0_markOf_1 0 rfl ?_
  refine x_ishl hX dX0_markOf_2 ?_
  exact hret _ () _ _ (rfl) dX0_markOf_3
theorem in_X0_isLetter : ∀ w ∈ wsX00, w ∈ wsX0_isLetter := by decide +kernel
set_option maxRecDepth 100000 in
set_option maxHeartbeats 4000000 in
theorem kX0_isLetter (l : Launch) (D : va_G) (cx : xC) (h : Nat → Nat) (s : xS) (a : Int32) : xI l yX0_isLetter wsX0_isLetter (xR 0 0) D cx [.ref (h 0), .int a] (wX cx h s) (fun _ : Unit => wX cx h s) (fun r _ => r = if PL s a then 1 else 0) := by
  refine x_enterI (own := RX0) (by decide) rfl rfl (fun v u hv => ?_) (Nat.le_of_ble_eq_true rfl) (fun X hX hret => ?_)
  · rw [hv]; split <;> rfl
  have hin := in_X0_isLetter
  change xV X 2 0 0 (wX cx h s) 0 [(0, .ref (h 0)), (1, .int a)] []
  refine x_iload_n hX dX0_isLetter_0 1 rfl ?_
  refine x_if_lt hX 16 dX0_isLetter_1 (by decide) (fun c_1 => ?_) (fun c_1 => ?_)
  · refine x_iconstv hX dX0_isLetter_16 0 (by decide) ?_
    exact hret _ () _ _ (by rw [← bnd_if]; simp [c_1]) dX0_isLetter_17
  · refine x_iload_n hX dX0_isLetter_4 1 rfl ?_
    refine x_aload_n hX dX0_isLetter_5 0 rfl ?_
    refine gX12 hX hin (by decide +kernel) dX0_isLetter_6 ?_
    refine x_icmp_ge hX 16 dX0_isLetter_9 (by decide) (fun c_9 => ?_) (fun c_9 => ?_)
    · refine x_iconstv hX dX0_isLetter_16 0 (by decide) ?_
      exact hret _ () _ _ (by rw [← bnd_if]; simp [c_1, c_9]) dX0_isLetter_17
    · refine x_iconstv hX dX0_isLetter_12 1 (by decide) ?_
      refine x_goto hX 17 dX0_isLetter_13 (by decide) ?_
      exact hret _ () _ _ (by rw [← bnd_if]; simp [c_1, c_9]) dX0_isLetter_17
theorem in_X0_nextRelay : ∀ w ∈ wsX00, w ∈ wsX0_nextRelay := by decide +kernel
set_option maxRecDepth 100000 in
set_option maxHeartbeats 4000000 in
theorem kX0_nextRelay (l : Launch) (D : va_G) (cx : xC) (h : Nat → Nat) (s : xS) (a b : Int32) : xI l yX0_nextRelay wsX0_nextRelay (xR 1 20) D cx [.ref (h 0), .int a, .int b] (wX cx h s) (fun _ : Unit => wX cx h s) (fun r _ => r = fNext s a b) := by
  refine x_enterI (own := RX0) (by decide) rfl rfl (fun v u hv => ?_) (Nat.le_of_ble_eq_true rfl) (fun X hX hret => ?_)
  · rfl
  have hin := in_X0_nextRelay
  change xV X 3 0 0 (wX cx h s) 0 [(0, .ref (h 0)), (1, .int a), (2, .int b)] []
  refine x_iload_n hX dX0_nextRelay_0 1 rfl ?_
  refine x_csi hX dX0_nextRelay_1 1 rfl (kX0_isRelay l D cx _) gX0_nextRelay_X0_isRelay rfl ⟨by decide, by decide, by decide +kernel⟩ ⟨rfl, rfl, Nat.le_of_ble_eq_true rfl, Nat.le_of_ble_eq_true rfl, Nat.le_refl 0, Nat.le_refl 0⟩ (Nat.le_of_ble_eq_true rfl) rfl (fun r_1 _ hq_1 => ?_)
  obtain rfl := hq_1
  refine x_if_eq hX 14 dX0_nextRelay_4 (by decide) (fun c_4 => ?_) (fun c_4 => ?_)
  · replace c_4 := xb_f.mp c_4
    refine x_iload_n hX dX0_nextRelay_14 2 rfl ?_
    exact hret _ () _ _ (by simp [fNext, c_4]) dX0_nextRelay_15
  · replace c_4 := xb_t.mp c_4
    refine x_iload_n hX dX0_nextRelay_7 2 rfl ?_
    refine x_csi hX dX0_nextRelay_8 1 rfl (kX0_isRelay l D cx _) gX0_nextRelay_X0_isRelay rfl ⟨by decide, by decide, by decide +kernel⟩ ⟨rfl, rfl, Nat.le_of_ble_eq_true rfl, Nat.le_of_ble_eq_true rfl, Nat.le_refl 0, Nat.le_refl 0⟩ (Nat.le_of_ble_eq_true rfl) rfl (fun r_8 _ hq_8 => ?_)
    obtain rfl := hq_8
    refine x_if_ne hX 16 dX0_nextRelay_11 (by decide) (fun c_11 => ?_) (fun c_11 => ?_)
    · replace c_11 := xb_t.mp c_11
      refine x_aload_n hX dX0_nextRelay_16 0 rfl ?_
      refine gX11 hX hin (by decide +kernel) dX0_nextRelay_17 ?_
      refine x_iload_n hX dX0_nextRelay_20 1 rfl ?_
      refine x_iconstv hX dX0_nextRelay_21 4 (by decide) ?_
      refine x_imul hX dX0_nextRelay_22 ?_
      refine x_iload_n hX dX0_nextRelay_23 2 rfl ?_
      refine x_iadd hX dX0_nextRelay_24 ?_
      refine lX11 hX dX0_nextRelay_25 (P4_in16 c_4 c_11) rfl ?_
      exact hret _ () _ _ (by simp [fNext, c_4, c_11]) dX0_nextRelay_26
    · replace c_11 := xb_f.mp c_11
      refine x_iload_n hX dX0_nextRelay_14 2 rfl ?_
      exact hret _ () _ _ (by simp [fNext, c_4, c_11]) dX0_nextRelay_15
theorem in_X0_weightOf : ∀ w ∈ wsX00, w ∈ wsX0_weightOf := by decide +kernel
set_option maxRecDepth 100000 in
set_option maxHeartbeats 4000000 in
theorem kX0_weightOf (l : Launch) (D : va_G) (cx : xC) (h : Nat → Nat) (s : xS) (a : Int32) : xI l yX0_weightOf wsX0_weightOf (xR 1 21) D cx [.ref (h 0), .int a] (wX cx h s) (fun _ : Unit => wX cx h s) (fun r _ => r = fWeight s a) := by
  refine x_enterI (own := RX0) (by decide) rfl rfl (fun v u hv => ?_) (Nat.le_of_ble_eq_true rfl) (fun X hX hret => ?_)
  · rfl
  have hin := in_X0_weightOf
  change xV X 2 0 0 (wX cx h s) 0 [(0, .ref (h 0)), (1, .int a)] []
  refine x_iload_n hX dX0_weightOf_0 1 rfl ?_
  refine x_csi hX dX0_weightOf_1 1 rfl (kX0_isPerson l D cx _) gX0_weightOf_X0_isPerson rfl ⟨by decide, by decide, by decide +kernel⟩ ⟨rfl, rfl, Nat.le_of_ble_eq_true rfl, Nat.le_of_ble_eq_true rfl, Nat.le_refl 0, Nat.le_refl 0⟩ (Nat.le_of_ble_eq_true rfl) rfl (fun r_1 _ hq_1 => ?_)
  obtain rfl := hq_1
  refine x_if_ne hX 9 dX0_weightOf_4 (by decide) (fun c_4 => ?_) (fun c_4 => ?_)
  · replace c_4 := xb_t.mp c_4
    refine x_iconstv hX dX0_weightOf_9 5 (by decide) ?_
    refine x_aload_n hX dX0_weightOf_10 0 rfl ?_
    refine gX9 hX hin (by decide +kernel) dX0_weightOf_11 ?_
    refine x_iload_n hX dX0_weightOf_14 1 rfl ?_
    refine lX9 hX dX0_weightOf_15 (P8_in c_4) rfl ?_
    refine x_isub hX dX0_weightOf_16 ?_
    refine x_iconstv hX dX0_weightOf_17 1 (by decide) ?_
    refine x_mmax hX dX0_weightOf_18 (by decide +kernel) (by decide +kernel) (by decide +kernel) (by decide +kernel) ⟨Nat.le_of_ble_eq_true rfl, Nat.le_of_ble_eq_true rfl, Nat.le_refl 0, Nat.le_refl 0⟩ ?_
    exact hret _ () _ _ (by simp [fWeight, c_4]) dX0_weightOf_21
  · replace c_4 := xb_f.mp c_4
    refine x_iconstv hX dX0_weightOf_7 1 (by decide) ?_
    exact hret _ () _ _ (by simp [fWeight, c_4]) dX0_weightOf_8
theorem in_X0_opinionIn : ∀ w ∈ wsX00, w ∈ wsX0_opinionIn := by decide +kernel
set_option maxRecDepth 100000 in
set_option maxHeartbeats 4000000 in
theorem kX0_opinionIn (l : Launch) (D : va_G) (cx : xC) (h : Nat → Nat) (s : xS) {n : Nat} (hN : okX s n) (a : Int32) : xI l yX0_opinionIn wsX0_opinionIn (xR 2 42) D cx [.ref (h 0), .int a] (wX cx h s) (fun _ : Unit => wX cx h s) (fun r _ => r = fOpinion s a) := by
  refine x_enterI (own := RX0) (by decide) rfl rfl (fun v u hv => ?_) (Nat.le_of_ble_eq_true rfl) (fun X hX hret => ?_)
  · rfl
  have hin := in_X0_opinionIn
  change xV X 2 0 0 (wX cx h s) 0 [(0, .ref (h 0)), (1, .int a)] []
  refine x_aload_n hX dX0_opinionIn_0 0 rfl ?_
  refine x_iload_n hX dX0_opinionIn_1 1 rfl ?_
  refine x_cvi hX dX0_opinionIn_2 1 rfl (kX0_isLetter l D cx h _ _) gX0_opinionIn_X0_isLetter rfl ⟨rfl, by decide, by decide, by decide +kernel⟩ ⟨rfl, rfl, Nat.le_of_ble_eq_true rfl, Nat.le_of_ble_eq_true rfl, Nat.le_refl 0, Nat.le_refl 0⟩ rfl rfl (Nat.le_of_ble_eq_true rfl) rfl (fun r_2 _ hq_2 => ?_)
  obtain rfl := hq_2
  refine x_if_ne hX 10 dX0_opinionIn_5 (by decide) (fun c_5 => ?_) (fun c_5 => ?_)
  · replace c_5 := xb_t.mp c_5
    refine x_aload_n hX dX0_opinionIn_10 0 rfl ?_
    refine gX3 hX hin (by decide +kernel) dX0_opinionIn_11 ?_
    refine x_iload_n hX dX0_opinionIn_14 1 rfl ?_
    refine lX3 hX dX0_opinionIn_15 (PL_in hN c_5) rfl ?_
    refine x_iconstv hX dX0_opinionIn_16 2 (by decide) ?_
    refine x_icmp_ne hX 33 dX0_opinionIn_17 (by decide) (fun c_17 => ?_) (fun c_17 => ?_)
    · refine x_aload_n hX dX0_opinionIn_33 0 rfl ?_
      refine gX3 hX hin (by decide +kernel) dX0_opinionIn_34 ?_
      refine x_iload_n hX dX0_opinionIn_37 1 rfl ?_
      refine lX3 hX dX0_opinionIn_38 (PL_in hN c_5) rfl ?_
      refine x_iconstv hX dX0_opinionIn_39 3 (by decide) ?_
      refine x_icmp_ne hX 66 dX0_opinionIn_40 (by decide) (fun c_40 => ?_) (fun c_40 => ?_)
      · refine x_iconstv hX dX0_opinionIn_66 0 (by decide) ?_
        exact hret _ () _ _ (by simp [fOpinion, c_5, c_17, c_40]) dX0_opinionIn_67
      · refine x_aload_n hX dX0_opinionIn_43 0 rfl ?_
        refine gX7 hX hin (by decide +kernel) dX0_opinionIn_44 ?_
        refine x_iload_n hX dX0_opinionIn_47 1 rfl ?_
        refine lX7 hX dX0_opinionIn_48 (PL_in hN c_5) rfl ?_
        refine x_if_ne hX 66 dX0_opinionIn_49 (by decide) (fun c_49 => ?_) (fun c_49 => ?_)
        · refine x_iconstv hX dX0_opinionIn_66 0 (by decide) ?_
          exact hret _ () _ _ (by simp [fOpinion, c_5, c_17, c_40, c_49]) dX0_opinionIn_67
        · refine x_bipushv hX dX0_opinionIn_52 (-3) (by decide) ?_
          refine x_aload_n hX dX0_opinionIn_54 0 rfl ?_
          refine x_aload_n hX dX0_opinionIn_55 0 rfl ?_
          refine gX1 hX hin (by decide +kernel) dX0_opinionIn_56 ?_
          refine x_iload_n hX dX0_opinionIn_59 1 rfl ?_
          refine lX1 hX dX0_opinionIn_60 (PL_in hN c_5) rfl ?_
          refine x_cvi hX dX0_opinionIn_61 1 rfl (kX0_weightOf l D cx h _ _) gX0_opinionIn_X0_weightOf rfl ⟨rfl, by decide, by decide, by decide +kernel⟩ ⟨rfl, rfl, Nat.le_of_ble_eq_true rfl, Nat.le_of_ble_eq_true rfl, Nat.le_refl 0, Nat.le_refl 0⟩ rfl rfl (Nat.le_of_ble_eq_true rfl) rfl (fun r_61 _ hq_61 => ?_)
          obtain rfl := hq_61
          refine x_imul hX dX0_opinionIn_64 ?_
          exact hret _ () _ _ (by simp [fOpinion, c_5, c_17, c_40, c_49]) dX0_opinionIn_65
    · refine x_iconstv hX dX0_opinionIn_20 2 (by decide) ?_
      refine x_aload_n hX dX0_opinionIn_21 0 rfl ?_
      refine x_aload_n hX dX0_opinionIn_22 0 rfl ?_
      refine gX1 hX hin (by decide +kernel) dX0_opinionIn_23 ?_
      refine x_iload_n hX dX0_opinionIn_26 1 rfl ?_
      refine lX1 hX dX0_opinionIn_27 (PL_in hN c_5) rfl ?_
      refine x_cvi hX dX0_opinionIn_28 1 rfl (kX0_weightOf l D cx h _ _) gX0_opinionIn_X0_weightOf rfl ⟨rfl, by decide, by decide, by decide +kernel⟩ ⟨rfl, rfl, Nat.le_of_ble_eq_true rfl, Nat.le_of_ble_eq_true rfl, Nat.le_refl 0, Nat.le_refl 0⟩ rfl rfl (Nat.le_of_ble_eq_true rfl) rfl (fun r_28 _ hq_28 => ?_)
      obtain rfl := hq_28
      refine x_imul hX dX0_opinionIn_31 ?_
      exact hret _ () _ _ (by simp [fOpinion, c_5, c_17]) dX0_opinionIn_32
  · replace c_5 := xb_f.mp c_5
    refine x_iconstv hX dX0_opinionIn_8 0 (by decide) ?_
    exact hret _ () _ _ (by simp [fOpinion, c_5]) dX0_opinionIn_9
