set_option maxRecDepth 100000 in
set_option maxHeartbeats 4000000 in
theorem kX1_isIn (l : Launch) (D : va_G) (cx : xC) (a b c : Int32) : xI l yX1_isIn wsX1_isIn (xR 0 0) D cx [.int a, .int b, .int c] [] (fun _ : Unit => []) (fun r _ => r = if gIn a b c then 1 else 0) := by
  refine x_enterI (own := RX1) (by decide) rfl rfl (fun v u hv => ?_) (Nat.le_of_ble_eq_true rfl) (fun X hX hret => ?_)
  · rw [hv]; split <;> rfl
  change xV X 3 0 0 [] 0 [(0, .int a), (1, .int b), (2, .int c)] []
  refine x_iload_n hX dX1_isIn_0 0 rfl ?_
  refine x_iload_n hX dX1_isIn_1 1 rfl ?_
  refine x_icmp_lt hX 14 dX1_isIn_2 (by decide) (fun c_2 => ?_) (fun c_2 => ?_)
  · refine x_iconstv hX dX1_isIn_14 0 (by decide) ?_
    exact hret _ () _ _ (by rw [if_neg (fun q => absurd c_2 (Int32.not_lt.mpr q.1))]) dX1_isIn_15
  · refine x_iload_n hX dX1_isIn_5 0 rfl ?_
    refine x_iload_n hX dX1_isIn_6 2 rfl ?_
    refine x_icmp_gt hX 14 dX1_isIn_7 (by decide) (fun c_7 => ?_) (fun c_7 => ?_)
    · refine x_iconstv hX dX1_isIn_14 0 (by decide) ?_
      exact hret _ () _ _ (by rw [if_neg (fun q => absurd c_7 (Int32.not_lt.mpr q.2))]) dX1_isIn_15
    · refine x_iconstv hX dX1_isIn_10 1 (by decide) ?_
      refine x_goto hX 15 dX1_isIn_11 (by decide) ?_
      exact hret _ () _ _ (by rw [if_pos ⟨Int32.not_lt.mp c_2, Int32.not_lt.mp c_7⟩]) dX1_isIn_15
set_option maxRecDepth 100000 in
set_option maxHeartbeats 4000000 in
theorem kX1_isPerson (l : Launch) (D : va_G) (cx : xC) (a : Int32) : xI l yX1_isPerson wsX1_isPerson (xR 1 22) D cx [.int a] [] (fun _ : Unit => []) (fun r _ => r = if P8 a then 1 else 0) := by
  refine x_enterI (own := RX1) (by decide) rfl rfl (fun v u hv => ?_) (Nat.le_of_ble_eq_true rfl) (fun X hX hret => ?_)
  · rw [hv]; split <;> rfl
  change xV X 1 0 0 [] 0 [(0, .int a)] []
  refine x_iload_n hX dX1_isPerson_0 0 rfl ?_
  refine x_iconstv hX dX1_isPerson_1 0 (by decide) ?_
  refine x_bipushv hX dX1_isPerson_2 7 (by decide) ?_
  refine x_csi hX dX1_isPerson_4 3 rfl (kX1_isIn l D cx _ _ _) gX1_isPerson_X1_isIn rfl ⟨by decide, by decide, by decide +kernel⟩ ⟨rfl, rfl, Nat.le_of_ble_eq_true rfl, Nat.le_of_ble_eq_true rfl, Nat.zero_le _, Nat.zero_le _⟩ (Nat.le_of_ble_eq_true rfl) rfl (fun r_4 _ hq_4 => ?_)
  obtain rfl := hq_4
  exact hret _ () _ _ (by simp only [gIn, P8_7]) dX1_isPerson_7
set_option maxRecDepth 100000 in
set_option maxHeartbeats 4000000 in
theorem kX1_isRelay (l : Launch) (D : va_G) (cx : xC) (a : Int32) : xI l yX1_isRelay wsX1_isRelay (xR 1 22) D cx [.int a] [] (fun _ : Unit => []) (fun r _ => r = if P4 a then 1 else 0) := by
  refine x_enterI (own := RX1) (by decide) rfl rfl (fun v u hv => ?_) (Nat.le_of_ble_eq_true rfl) (fun X hX hret => ?_)
  · rw [hv]; split <;> rfl
  change xV X 1 0 0 [] 0 [(0, .int a)] []
  refine x_iload_n hX dX1_isRelay_0 0 rfl ?_
  refine x_iconstv hX dX1_isRelay_1 0 (by decide) ?_
  refine x_iconstv hX dX1_isRelay_2 3 (by decide) ?_
  refine x_csi hX dX1_isRelay_3 3 rfl (kX1_isIn l D cx _ _ _) gX1_isRelay_X1_isIn rfl ⟨by decide, by decide, by decide +kernel⟩ ⟨rfl, rfl, Nat.le_of_ble_eq_true rfl, Nat.le_of_ble_eq_true rfl, Nat.zero_le _, Nat.zero_le _⟩ (Nat.le_of_ble_eq_true rfl) rfl (fun r_3 _ hq_3 => ?_)
  obtain rfl := hq_3
  exact hret _ () _ _ (by simp only [gIn, P4_3]) dX1_isRelay_6
theorem in_X1_isLetter : ∀ w ∈ wsX10, w ∈ wsX1_isLetter := by decide +kernel
set_option maxRecDepth 100000 in
set_option maxHeartbeats 4000000 in
theorem kX1_isLetter (l : Launch) (D : va_G) (cx : xC) (h : Nat → Nat) (s : xS) {n : Nat} (hM : okM s n) (a : Int32) : xI l yX1_isLetter wsX1_isLetter (xR 1 22) D cx [.ref (h 0), .int a] (wM cx h s) (fun _ : Unit => wM cx h (s)) (fun r _ => r = if PM s a then 1 else 0) := by
  refine x_enterI (own := RX1) (by decide) rfl rfl (fun v u hv => ?_) (Nat.le_of_ble_eq_true rfl) (fun X hX hret => ?_)
  · rw [hv]; split <;> rfl
  have hin := in_X1_isLetter
  change xV X 2 0 0 (wM cx h s) 0 [(0, .ref (h 0)), (1, .int a)] []
  refine x_iload_n hX dX1_isLetter_0 1 rfl ?_
  refine x_iconstv hX dX1_isLetter_1 0 (by decide) ?_
  refine x_aload_n hX dX1_isLetter_2 0 rfl ?_
  refine gM5 hX hin (by decide +kernel) dX1_isLetter_3 ?_
  refine x_iconstv hX dX1_isLetter_6 1 (by decide) ?_
  refine x_isub hX dX1_isLetter_7 ?_
  refine x_csi hX dX1_isLetter_8 3 rfl (kX1_isIn l D cx _ _ _) gX1_isLetter_X1_isIn rfl ⟨by decide, by decide, by decide +kernel⟩ ⟨rfl, rfl, Nat.le_of_ble_eq_true rfl, Nat.le_of_ble_eq_true rfl, Nat.zero_le _, Nat.zero_le _⟩ (Nat.le_of_ble_eq_true rfl) rfl (fun r_8 _ hq_8 => ?_)
  obtain rfl := hq_8
  exact hret _ () _ _ (by simp only [gIn, PM_1 hM]) dX1_isLetter_11
set_option maxRecDepth 100000 in
set_option maxHeartbeats 4000000 in
theorem kX1_has (l : Launch) (D : va_G) (cx : xC) (a b : Int32) : xI l yX1_has wsX1_has (xR 0 0) D cx [.int a, .int b] [] (fun _ : Unit => []) (fun r _ => r = if gHas a b then 1 else 0) := by
  refine x_enterI (own := RX1) (by decide) rfl rfl (fun v u hv => ?_) (Nat.le_of_ble_eq_true rfl) (fun X hX hret => ?_)
  · rw [hv]; split <;> rfl
  change xV X 2 0 0 [] 0 [(0, .int a), (1, .int b)] []
  refine x_iload_n hX dX1_has_0 0 rfl ?_
  refine x_iload_n hX dX1_has_1 1 rfl ?_
  refine x_ishr hX dX1_has_2 ?_
  refine x_iconstv hX dX1_has_3 1 (by decide) ?_
  refine x_iand hX dX1_has_4 ?_
  refine x_iconstv hX dX1_has_5 1 (by decide) ?_
  refine x_icmp_ne hX 13 dX1_has_6 (by decide) (fun c_6 => ?_) (fun c_6 => ?_)
  · refine x_iconstv hX dX1_has_13 0 (by decide) ?_
    exact hret _ () _ _ (by simp only [if_neg c_6]) dX1_has_14
  · refine x_iconstv hX dX1_has_9 1 (by decide) ?_
    refine x_goto hX 14 dX1_has_10 (by decide) ?_
    exact hret _ () _ _ (by simp only [if_pos c_6]) dX1_has_14
theorem in_X1_thrown : ∀ w ∈ wsX10, w ∈ wsX1_thrown := by decide +kernel
set_option maxRecDepth 100000 in
set_option maxHeartbeats 4000000 in
theorem kX1_thrown (l : Launch) (D : va_G) (cx : xC) (h : Nat → Nat) (s : xS) : xI l yX1_thrown wsX1_thrown (xR 0 0) D cx [.ref (h 0)] (wM cx h s) (fun _ : Unit => wM cx h (s)) (fun r _ => r = s 15 0) := by
  refine x_enterI (own := RX1) (by decide) rfl rfl (fun v u hv => ?_) (Nat.le_of_ble_eq_true rfl) (fun X hX hret => ?_)
  · rfl
  have hin := in_X1_thrown
  change xV X 1 0 0 (wM cx h s) 0 [(0, .ref (h 0))] []
  refine x_aload_n hX dX1_thrown_0 0 rfl ?_
  refine gM15 hX hin (by decide +kernel) dX1_thrown_1 ?_
  exact hret _ () _ _ (rfl) dX1_thrown_4
theorem in_X1_can : ∀ w ∈ wsX10, w ∈ wsX1_can := by decide +kernel
set_option maxRecDepth 100000 in
set_option maxHeartbeats 4000000 in
theorem kX1_can (l : Launch) (D : va_G) (cx : xC) (h : Nat → Nat) (s : xS) (a : Int32) : xI l yX1_can wsX1_can (xR 0 0) D cx [.ref (h 0), .int a] (wM cx h s) (fun _ : Unit => wM cx h (xup s 15 0 a)) (fun r _ => r = if a = 0 then 1 else 0) := by
  refine x_enterI (own := RX1) (by decide) rfl rfl (fun v u hv => ?_) (Nat.le_of_ble_eq_true rfl) (fun X hX hret => ?_)
  · rw [hv]; split <;> rfl
  have hin := in_X1_can
  change xV X 2 0 0 (wM cx h s) 0 [(0, .ref (h 0)), (1, .int a)] []
  refine x_aload_n hX dX1_can_0 0 rfl ?_
  refine x_iload_n hX dX1_can_1 1 rfl ?_
  refine pM15 hX hin (by decide +kernel) dX1_can_2 ?_
  refine x_iload_n hX dX1_can_5 1 rfl ?_
  refine x_if_ne hX 13 dX1_can_6 (by decide) (fun c_6 => ?_) (fun c_6 => ?_)
  · refine x_iconstv hX dX1_can_13 0 (by decide) ?_
    exact hret _ () _ _ (by simp only [if_neg c_6]) dX1_can_14
  · refine x_iconstv hX dX1_can_9 1 (by decide) ?_
    refine x_goto hX 14 dX1_can_10 (by decide) ?_
    exact hret _ () _ _ (by simp only [if_pos c_6]) dX1_can_14
theorem in_X1_weight : ∀ w ∈ wsX10, w ∈ wsX1_weight := by decide +kernel
set_option maxRecDepth 100000 in
set_option maxHeartbeats 4000000 in
theorem kX1_weight (l : Launch) (D : va_G) (cx : xC) (h : Nat → Nat) (s : xS) (a : Int32) (ha : P8 a) : xI l yX1_weight wsX1_weight (xR 0 0) D cx [.ref (h 0), .int a] (wM cx h s) (fun _ : Unit => wM cx h (s)) (fun r _ => r = gWeight s a) := by
  refine x_enterI (own := RX1) (by decide) rfl rfl (fun v u hv => ?_) (Nat.le_of_ble_eq_true rfl) (fun X hX hret => ?_)
  · rfl
  have hin := in_X1_weight
  change xV X 2 0 0 (wM cx h s) 0 [(0, .ref (h 0)), (1, .int a)] []
  refine x_aload_n hX dX1_weight_0 0 rfl ?_
  refine gM4 hX hin (by decide +kernel) dX1_weight_1 ?_
  refine x_iload_n hX dX1_weight_4 1 rfl ?_
  refine lM4 hX dX1_weight_5 (P8_in ha) rfl ?_
  refine x_iconstv hX dX1_weight_6 4 (by decide) ?_
  refine x_icmp_le hX 14 dX1_weight_7 (by decide) (fun c_7 => ?_) (fun c_7 => ?_)
  · refine x_iconstv hX dX1_weight_14 5 (by decide) ?_
    refine x_aload_n hX dX1_weight_15 0 rfl ?_
    refine gM4 hX hin (by decide +kernel) dX1_weight_16 ?_
    refine x_iload_n hX dX1_weight_19 1 rfl ?_
    refine lM4 hX dX1_weight_20 (P8_in ha) rfl ?_
    refine x_isub hX dX1_weight_21 ?_
    exact hret _ () _ _ (by simp only [gWeight, if_pos c_7]) dX1_weight_22
  · refine x_iconstv hX dX1_weight_10 1 (by decide) ?_
    refine x_goto hX 22 dX1_weight_11 (by decide) ?_
    exact hret _ () _ _ (by simp only [gWeight, if_neg c_7]) dX1_weight_22
theorem in_X1_nameOf : ∀ w ∈ wsX10, w ∈ wsX1_nameOf := by decide +kernel
set_option maxRecDepth 100000 in
set_option maxHeartbeats 4000000 in
theorem kX1_nameOf (l : Launch) (D : va_G) (cx : xC) (h : Nat → Nat) (s : xS) {n : Nat} (hM : okM s n) (a : Int32) : xI l yX1_nameOf wsX1_nameOf (xR 1 21) D cx [.ref (h 0), .int a] (wM cx h s) (fun _ : Unit => wM cx h (s)) (fun r _ => r = gName s a n) := by
  refine x_enterI (own := RX1) (by decide) rfl rfl (fun v u hv => ?_) (Nat.le_of_ble_eq_true rfl) (fun X hX hret => ?_)
  · rfl
  have hin := in_X1_nameOf
  change xV X 5 0 0 (wM cx h s) 0 [(0, .ref (h 0)), (1, .int a)] []
  have loop : ∀ (m k : Nat), k + m = n → xV X 5 0 0 (wM cx h (s)) 4 [(0, .ref (h 0)), (1, .int a), (2, .int (gName s a k)), (3, .int (nI k))] [] := by
    intro m
    induction m with
    | zero =>
      intro k hk
      obtain rfl : n = k := hk.symm
      refine x_iload_n hX dX1_nameOf_4 3 rfl ?_
      refine x_aload_n hX dX1_nameOf_5 0 rfl ?_
      refine gM5 hX hin (by decide +kernel) dX1_nameOf_6 ?_
      refine x_icmp_ge hX 112 dX1_nameOf_9 (by decide) (fun c_9 => ?_) (fun c_9 => ?_)
      · refine x_iload_n hX dX1_nameOf_112 2 rfl ?_
        exact hret _ () _ _ (rfl) dX1_nameOf_113
      · exact absurd (lp_yes hM.2.1 hM.lt rfl) c_9
    | succ m ih =>
      intro k hk
      have hkn : k < n := by omega
      have e9 : (nI k).toNatClampNeg = k := nI_clamp (by have := hM.lt; omega)
      refine x_iload_n hX dX1_nameOf_4 3 rfl ?_
      refine x_aload_n hX dX1_nameOf_5 0 rfl ?_
      refine gM5 hX hin (by decide +kernel) dX1_nameOf_6 ?_
      refine x_icmp_ge hX 112 dX1_nameOf_9 (by decide) (fun c_9 => ?_) (fun c_9 => ?_)
      · exact absurd c_9 (lp_no hM.2.1 hM.lt hkn)
      · refine x_aload_n hX dX1_nameOf_12 0 rfl ?_
        refine gM6 hX hin (by decide +kernel) dX1_nameOf_13 ?_
        refine x_iload_n hX dX1_nameOf_16 3 rfl ?_
        refine lM6 hX dX1_nameOf_17 (okM_in hM hkn) e9 ?_
        refine x_iload_n hX dX1_nameOf_18 1 rfl ?_
        refine x_icmp_ne hX 26 dX1_nameOf_19 (by decide) (fun c_19 => ?_) (fun c_19 => ?_)
        · refine x_iconstv hX dX1_nameOf_26 0 (by decide) ?_
          refine x_istore hX (lv' := [_, _, _, _, _]) dX1_nameOf_27  (by decide) rfl rfl ?_
          refine x_iload_n hX dX1_nameOf_29 2 rfl ?_
          refine x_iload hX dX1_nameOf_30 4 rfl ?_
          refine x_if_eq hX 60 dX1_nameOf_32 (by decide) (fun _ => ?_) (fun c => absurd c (by decide))
          refine x_iconstv hX dX1_nameOf_60 0 (by decide) ?_
          refine x_iadd hX dX1_nameOf_61 ?_
          refine x_istore_n hX (lv' := [_, _, _, _, _]) dX1_nameOf_62 2 rfl (by decide) rfl rfl ?_
          refine x_iload_n hX dX1_nameOf_63 2 rfl ?_
          refine x_iload hX dX1_nameOf_64 4 rfl ?_
          refine x_if_eq hX 103 dX1_nameOf_66 (by decide) (fun _ => ?_) (fun c => absurd c (by decide))
          refine x_iconstv hX dX1_nameOf_103 0 (by decide) ?_
          refine x_isub hX dX1_nameOf_104 ?_
          refine x_istore_n hX (lv' := [_, _, _, _, _]) dX1_nameOf_105 2 rfl (by decide) rfl rfl ?_
          refine x_iinc hX (lv' := [_, _, _, _, _]) dX1_nameOf_106 3 rfl (nI_i1 k) (by decide) rfl rfl ?_
          refine x_goto hX 4 dX1_nameOf_109 (by decide) ?_
          refine x_lv (lv' := [_, _, _, _]) [0, 1, 2, 3] rfl ?_
          exact x_as rfl (by simp only [gName, gA, gB, if_neg c_9, if_neg c_19]) (ih (k + 1) (by omega))
        · refine x_iconstv hX dX1_nameOf_22 1 (by decide) ?_
          refine x_goto hX 27 dX1_nameOf_23 (by decide) ?_
          refine x_istore hX (lv' := [_, _, _, _, _]) dX1_nameOf_27  (by decide) rfl rfl ?_
          refine x_iload_n hX dX1_nameOf_29 2 rfl ?_
          refine x_iload hX dX1_nameOf_30 4 rfl ?_
          refine x_if_eq hX 60 dX1_nameOf_32 (by decide) (fun c => absurd c (by decide)) (fun _ => ?_)
          refine x_aload_n hX dX1_nameOf_35 0 rfl ?_
          refine gM9 hX hin (by decide +kernel) dX1_nameOf_36 ?_
          refine x_iload_n hX dX1_nameOf_39 3 rfl ?_
          refine lM9 hX dX1_nameOf_40 (okM_in hM hkn) e9 ?_
          refine x_iconstv hX dX1_nameOf_41 2 (by decide) ?_
          refine x_icmp_ne hX 60 dX1_nameOf_42 (by decide) (fun c_42 => ?_) (fun c_42 => ?_)
          · refine x_iconstv hX dX1_nameOf_60 0 (by decide) ?_
            refine x_iadd hX dX1_nameOf_61 ?_
            refine x_istore_n hX (lv' := [_, _, _, _, _]) dX1_nameOf_62 2 rfl (by decide) rfl rfl ?_
            refine x_iload_n hX dX1_nameOf_63 2 rfl ?_
            refine x_iload hX dX1_nameOf_64 4 rfl ?_
            refine x_if_eq hX 103 dX1_nameOf_66 (by decide) (fun c => absurd c (by decide)) (fun _ => ?_)
            refine x_aload_n hX dX1_nameOf_69 0 rfl ?_
            refine gM9 hX hin (by decide +kernel) dX1_nameOf_70 ?_
            refine x_iload_n hX dX1_nameOf_73 3 rfl ?_
            refine lM9 hX dX1_nameOf_74 (okM_in hM hkn) e9 ?_
            refine x_iconstv hX dX1_nameOf_75 3 (by decide) ?_
            refine x_icmp_ne hX 103 dX1_nameOf_76 (by decide) (fun c_76 => ?_) (fun c_76 => ?_)
            · refine x_iconstv hX dX1_nameOf_103 0 (by decide) ?_
              refine x_isub hX dX1_nameOf_104 ?_
              refine x_istore_n hX (lv' := [_, _, _, _, _]) dX1_nameOf_105 2 rfl (by decide) rfl rfl ?_
              refine x_iinc hX (lv' := [_, _, _, _, _]) dX1_nameOf_106 3 rfl (nI_i1 k) (by decide) rfl rfl ?_
              refine x_goto hX 4 dX1_nameOf_109 (by decide) ?_
              refine x_lv (lv' := [_, _, _, _]) [0, 1, 2, 3] rfl ?_
              exact x_as rfl (by simp only [gName, gA, gB, if_neg c_9, if_pos c_19, if_neg c_42, if_neg c_76]) (ih (k + 1) (by omega))
            · refine x_aload_n hX dX1_nameOf_79 0 rfl ?_
              refine gM13 hX hin (by decide +kernel) dX1_nameOf_80 ?_
              refine x_iload_n hX dX1_nameOf_83 3 rfl ?_
              refine lM13 hX dX1_nameOf_84 (okM_in hM hkn) e9 ?_
              refine x_if_ne hX 103 dX1_nameOf_85 (by decide) (fun c_85 => ?_) (fun c_85 => ?_)
              · refine x_iconstv hX dX1_nameOf_103 0 (by decide) ?_
                refine x_isub hX dX1_nameOf_104 ?_
                refine x_istore_n hX (lv' := [_, _, _, _, _]) dX1_nameOf_105 2 rfl (by decide) rfl rfl ?_
                refine x_iinc hX (lv' := [_, _, _, _, _]) dX1_nameOf_106 3 rfl (nI_i1 k) (by decide) rfl rfl ?_
                refine x_goto hX 4 dX1_nameOf_109 (by decide) ?_
                refine x_lv (lv' := [_, _, _, _]) [0, 1, 2, 3] rfl ?_
                exact x_as rfl (by simp only [gName, gA, gB, if_neg c_9, if_pos c_19, if_neg c_42, if_pos c_76, if_neg c_85]) (ih (k + 1) (by omega))
              · refine x_iconstv hX dX1_nameOf_88 3 (by decide) ?_
                refine x_aload_n hX dX1_nameOf_89 0 rfl ?_
                refine x_aload_n hX dX1_nameOf_90 0 rfl ?_
                refine gM7 hX hin (by decide +kernel) dX1_nameOf_91 ?_
                refine x_iload_n hX dX1_nameOf_94 3 rfl ?_
                refine lM7 hX dX1_nameOf_95 (okM_in hM hkn) e9 ?_
                refine x_cvi hX dX1_nameOf_96 1 rfl (kX1_weight l D cx h _ _ (hM.2.2.1 _ hkn).2.1) gX1_nameOf_X1_weight rfl ⟨rfl, by decide, by decide, by decide +kernel⟩ ⟨rfl, rfl, Nat.le_of_ble_eq_true rfl, Nat.le_of_ble_eq_true rfl, Nat.zero_le _, Nat.zero_le _⟩ rfl rfl (Nat.le_of_ble_eq_true rfl) rfl (fun r_96 _ hq_96 => ?_)
                obtain rfl := hq_96
                refine x_imul hX dX1_nameOf_99 ?_
                refine x_goto hX 104 dX1_nameOf_100 (by decide) ?_
                refine x_isub hX dX1_nameOf_104 ?_
                refine x_istore_n hX (lv' := [_, _, _, _, _]) dX1_nameOf_105 2 rfl (by decide) rfl rfl ?_
                refine x_iinc hX (lv' := [_, _, _, _, _]) dX1_nameOf_106 3 rfl (nI_i1 k) (by decide) rfl rfl ?_
                refine x_goto hX 4 dX1_nameOf_109 (by decide) ?_
                refine x_lv (lv' := [_, _, _, _]) [0, 1, 2, 3] rfl ?_
                exact x_as rfl (by simp only [gName, gA, gB, if_neg c_9, if_pos c_19, if_neg c_42, if_pos c_76, if_pos c_85]) (ih (k + 1) (by omega))
          · refine x_iconstv hX dX1_nameOf_45 2 (by decide) ?_
            refine x_aload_n hX dX1_nameOf_46 0 rfl ?_
            refine x_aload_n hX dX1_nameOf_47 0 rfl ?_
            refine gM7 hX hin (by decide +kernel) dX1_nameOf_48 ?_
            refine x_iload_n hX dX1_nameOf_51 3 rfl ?_
            refine lM7 hX dX1_nameOf_52 (okM_in hM hkn) e9 ?_
            refine x_cvi hX dX1_nameOf_53 1 rfl (kX1_weight l D cx h _ _ (hM.2.2.1 _ hkn).2.1) gX1_nameOf_X1_weight rfl ⟨rfl, by decide, by decide, by decide +kernel⟩ ⟨rfl, rfl, Nat.le_of_ble_eq_true rfl, Nat.le_of_ble_eq_true rfl, Nat.zero_le _, Nat.zero_le _⟩ rfl rfl (Nat.le_of_ble_eq_true rfl) rfl (fun r_53 _ hq_53 => ?_)
            obtain rfl := hq_53
            refine x_imul hX dX1_nameOf_56 ?_
            refine x_goto hX 61 dX1_nameOf_57 (by decide) ?_
            refine x_iadd hX dX1_nameOf_61 ?_
            refine x_istore_n hX (lv' := [_, _, _, _, _]) dX1_nameOf_62 2 rfl (by decide) rfl rfl ?_
            refine x_iload_n hX dX1_nameOf_63 2 rfl ?_
            refine x_iload hX dX1_nameOf_64 4 rfl ?_
            refine x_if_eq hX 103 dX1_nameOf_66 (by decide) (fun c => absurd c (by decide)) (fun _ => ?_)
            refine x_aload_n hX dX1_nameOf_69 0 rfl ?_
            refine gM9 hX hin (by decide +kernel) dX1_nameOf_70 ?_
            refine x_iload_n hX dX1_nameOf_73 3 rfl ?_
            refine lM9 hX dX1_nameOf_74 (okM_in hM hkn) e9 ?_
            refine x_iconstv hX dX1_nameOf_75 3 (by decide) ?_
            refine x_icmp_ne hX 103 dX1_nameOf_76 (by decide) (fun c_76 => ?_) (fun c_76 => ?_)
            · refine x_iconstv hX dX1_nameOf_103 0 (by decide) ?_
              refine x_isub hX dX1_nameOf_104 ?_
              refine x_istore_n hX (lv' := [_, _, _, _, _]) dX1_nameOf_105 2 rfl (by decide) rfl rfl ?_
              refine x_iinc hX (lv' := [_, _, _, _, _]) dX1_nameOf_106 3 rfl (nI_i1 k) (by decide) rfl rfl ?_
              refine x_goto hX 4 dX1_nameOf_109 (by decide) ?_
              refine x_lv (lv' := [_, _, _, _]) [0, 1, 2, 3] rfl ?_
              exact x_as rfl (by simp only [gName, gA, gB, if_neg c_9, if_pos c_19, if_pos c_42, if_neg c_76]) (ih (k + 1) (by omega))
            · refine x_aload_n hX dX1_nameOf_79 0 rfl ?_
              refine gM13 hX hin (by decide +kernel) dX1_nameOf_80 ?_
              refine x_iload_n hX dX1_nameOf_83 3 rfl ?_
              refine lM13 hX dX1_nameOf_84 (okM_in hM hkn) e9 ?_
              refine x_if_ne hX 103 dX1_nameOf_85 (by decide) (fun c_85 => ?_) (fun c_85 => ?_)
              · refine x_iconstv hX dX1_nameOf_103 0 (by decide) ?_
                refine x_isub hX dX1_nameOf_104 ?_
                refine x_istore_n hX (lv' := [_, _, _, _, _]) dX1_nameOf_105 2 rfl (by decide) rfl rfl ?_
                refine x_iinc hX (lv' := [_, _, _, _, _]) dX1_nameOf_106 3 rfl (nI_i1 k) (by decide) rfl rfl ?_
                refine x_goto hX 4 dX1_nameOf_109 (by decide) ?_
                refine x_lv (lv' := [_, _, _, _]) [0, 1, 2, 3] rfl ?_
                exact x_as rfl (by simp only [gName, gA, gB, if_neg c_9, if_pos c_19, if_pos c_42, if_pos c_76, if_neg c_85]) (ih (k + 1) (by omega))
              · refine x_iconstv hX dX1_nameOf_88 3 (by decide) ?_
                refine x_aload_n hX dX1_nameOf_89 0 rfl ?_
                refine x_aload_n hX dX1_nameOf_90 0 rfl ?_
                refine gM7 hX hin (by decide +kernel) dX1_nameOf_91 ?_
                refine x_iload_n hX dX1_nameOf_94 3 rfl ?_
                refine lM7 hX dX1_nameOf_95 (okM_in hM hkn) e9 ?_
                refine x_cvi hX dX1_nameOf_96 1 rfl (kX1_weight l D cx h _ _ (hM.2.2.1 _ hkn).2.1) gX1_nameOf_X1_weight rfl ⟨rfl, by decide, by decide, by decide +kernel⟩ ⟨rfl, rfl, Nat.le_of_ble_eq_true rfl, Nat.le_of_ble_eq_true rfl, Nat.zero_le _, Nat.zero_le _⟩ rfl rfl (Nat.le_of_ble_eq_true rfl) rfl (fun r_96 _ hq_96 => ?_)
                obtain rfl := hq_96
                refine x_imul hX dX1_nameOf_99 ?_
                refine x_goto hX 104 dX1_nameOf_100 (by decide) ?_
                refine x_isub hX dX1_nameOf_104 ?_
                refine x_istore_n hX (lv' := [_, _, _, _, _]) dX1_nameOf_105 2 rfl (by decide) rfl rfl ?_
                refine x_iinc hX (lv' := [_, _, _, _, _]) dX1_nameOf_106 3 rfl (nI_i1 k) (by decide) rfl rfl ?_
                refine x_goto hX 4 dX1_nameOf_109 (by decide) ?_
                refine x_lv (lv' := [_, _, _, _]) [0, 1, 2, 3] rfl ?_
                exact x_as rfl (by simp only [gName, gA, gB, if_neg c_9, if_pos c_19, if_pos c_42, if_pos c_76, if_pos c_85]) (ih (k + 1) (by omega))
  refine x_iconstv hX dX1_nameOf_0 0 (by decide) ?_
  refine x_istore_n hX (lv' := [_, _, _]) dX1_nameOf_1 2 rfl (by decide) rfl rfl ?_
  refine x_iconstv hX dX1_nameOf_2 0 (by decide) ?_
  refine x_istore_n hX (lv' := [_, _, _, _]) dX1_nameOf_3 3 rfl (by decide) rfl rfl ?_
  exact x_as (rfl) (by simp [gName, nI_0]) (loop n 0 (by omega))
theorem in_X1_least : ∀ w ∈ wsX10, w ∈ wsX1_least := by decide +kernel
set_option maxRecDepth 100000 in
set_option maxHeartbeats 4000000 in
theorem kX1_least (l : Launch) (D : va_G) (cx : xC) (h : Nat → Nat) (s : xS) {n : Nat} (hM : okM s n) (a : Int32) : xI l yX1_least wsX1_least (xR 2 45) D cx [.ref (h 0), .int a] (wM cx h s) (fun _ : Unit => wM cx h (s)) (fun r _ => r = gLeast s n a) := by
  refine x_enterI (own := RX1) (by decide) rfl rfl (fun v u hv => ?_) (Nat.le_of_ble_eq_true rfl) (fun X hX hret => ?_)
  · rfl
  have hin := in_X1_least
  change xV X 3 0 0 (wM cx h s) 0 [(0, .ref (h 0)), (1, .int a)] []
  refine x_bipushv hX dX1_least_0 10 (by decide) ?_
  refine x_aload_n hX dX1_least_2 0 rfl ?_
  refine x_iload_n hX dX1_least_3 1 rfl ?_
  refine x_cvi hX dX1_least_4 1 rfl (kX1_nameOf l D cx h _ hM _) gX1_least_X1_nameOf rfl ⟨rfl, by decide, by decide, by decide +kernel⟩ ⟨rfl, rfl, Nat.le_of_ble_eq_true rfl, Nat.le_of_ble_eq_true rfl, Nat.zero_le _, Nat.zero_le _⟩ rfl rfl (Nat.le_of_ble_eq_true rfl) rfl (fun r_4 _ hq_4 => ?_)
  obtain rfl := hq_4
  refine x_isub hX dX1_least_7 ?_
  refine x_istore_n hX (lv' := [_, _, _]) dX1_least_8 2 rfl (by decide) rfl rfl ?_
  refine x_iload_n hX dX1_least_9 2 rfl ?_
  refine x_if_ge hX 17 dX1_least_10 (by decide) (fun c_10 => ?_) (fun c_10 => ?_)
  · refine x_iload_n hX dX1_least_17 2 rfl ?_
    refine x_bipushv hX dX1_least_18 20 (by decide) ?_
    refine x_icmp_le hX 28 dX1_least_20 (by decide) (fun c_20 => ?_) (fun c_20 => ?_)
    · refine x_iload_n hX dX1_least_28 2 rfl ?_
      exact hret _ () _ _ (by simp only [gLeast, if_pos c_10, if_pos c_20]) dX1_least_29
    · refine x_bipushv hX dX1_least_23 20 (by decide) ?_
      refine x_goto hX 29 dX1_least_25 (by decide) ?_
      exact hret _ () _ _ (by simp only [gLeast, if_pos c_10, if_neg c_20]) dX1_least_29
  · refine x_iconstv hX dX1_least_13 0 (by decide) ?_
    refine x_goto hX 29 dX1_least_14 (by decide) ?_
    exact hret _ () _ _ (by simp only [gLeast, if_neg c_10]) dX1_least_29
theorem in_X1_isAhead : ∀ w ∈ wsX10, w ∈ wsX1_isAhead := by decide +kernel
set_option maxRecDepth 100000 in
set_option maxHeartbeats 4000000 in
theorem kX1_isAhead (l : Launch) (D : va_G) (cx : xC) (h : Nat → Nat) (s : xS) {n : Nat} (hM : okM s n) (a b : Int32) (ha : vp_in a 60) (hb : vp_in b 60) : xI l yX1_isAhead wsX1_isAhead (xR 2 45) D cx [.ref (h 0), .int a, .int b] (wM cx h s) (fun _ : Unit => wM cx h (s)) (fun r _ => r = if gAhead s n a b then 1 else 0) := by
  refine x_enterI (own := RX1) (by decide) rfl rfl (fun v u hv => ?_) (Nat.le_of_ble_eq_true rfl) (fun X hX hret => ?_)
  · rw [hv]; split <;> rfl
  have hin := in_X1_isAhead
  change xV X 5 0 0 (wM cx h s) 0 [(0, .ref (h 0)), (1, .int a), (2, .int b)] []
  refine x_aload_n hX dX1_isAhead_0 0 rfl ?_
  refine gM8 hX hin (by decide +kernel) dX1_isAhead_1 ?_
  refine x_iload_n hX dX1_isAhead_4 1 rfl ?_
  refine lM8 hX dX1_isAhead_5 ha rfl ?_
  refine x_aload_n hX dX1_isAhead_6 0 rfl ?_
  refine x_aload_n hX dX1_isAhead_7 0 rfl ?_
  refine gM6 hX hin (by decide +kernel) dX1_isAhead_8 ?_
  refine x_iload_n hX dX1_isAhead_11 1 rfl ?_
  refine lM6 hX dX1_isAhead_12 ha rfl ?_
  refine x_cvi hX dX1_isAhead_13 1 rfl (kX1_nameOf l D cx h _ hM _) gX1_isAhead_X1_nameOf rfl ⟨rfl, by decide, by decide, by decide +kernel⟩ ⟨rfl, rfl, Nat.le_of_ble_eq_true rfl, Nat.le_of_ble_eq_true rfl, Nat.zero_le _, Nat.zero_le _⟩ rfl rfl (Nat.le_of_ble_eq_true rfl) rfl (fun r_13 _ hq_13 => ?_)
  obtain rfl := hq_13
  refine x_iadd hX dX1_isAhead_16 ?_
  refine x_istore_n hX (lv' := [_, _, _, _]) dX1_isAhead_17 3 rfl (by decide) rfl rfl ?_
  refine x_aload_n hX dX1_isAhead_18 0 rfl ?_
  refine gM8 hX hin (by decide +kernel) dX1_isAhead_19 ?_
  refine x_iload_n hX dX1_isAhead_22 2 rfl ?_
  refine lM8 hX dX1_isAhead_23 hb rfl ?_
  refine x_aload_n hX dX1_isAhead_24 0 rfl ?_
  refine x_aload_n hX dX1_isAhead_25 0 rfl ?_
  refine gM6 hX hin (by decide +kernel) dX1_isAhead_26 ?_
  refine x_iload_n hX dX1_isAhead_29 2 rfl ?_
  refine lM6 hX dX1_isAhead_30 hb rfl ?_
  refine x_cvi hX dX1_isAhead_31 1 rfl (kX1_nameOf l D cx h _ hM _) gX1_isAhead_X1_nameOf rfl ⟨rfl, by decide, by decide, by decide +kernel⟩ ⟨rfl, rfl, Nat.le_of_ble_eq_true rfl, Nat.le_of_ble_eq_true rfl, Nat.zero_le _, Nat.zero_le _⟩ rfl rfl (Nat.le_of_ble_eq_true rfl) rfl (fun r_31 _ hq_31 => ?_)
  obtain rfl := hq_31
  refine x_iadd hX dX1_isAhead_34 ?_
  refine x_istore hX (lv' := [_, _, _, _, _]) dX1_isAhead_35  (by decide) rfl rfl ?_
  refine x_iload_n hX dX1_isAhead_37 3 rfl ?_
  refine x_iload hX dX1_isAhead_38 4 rfl ?_
  refine x_icmp_gt hX 54 dX1_isAhead_40 (by decide) (fun c_40 => ?_) (fun c_40 => ?_)
  · refine x_iconstv hX dX1_isAhead_54 1 (by decide) ?_
    refine x_goto hX 59 dX1_isAhead_55 (by decide) ?_
    exact hret _ () _ _ (by simp [gAhead, gRank, c_40]) dX1_isAhead_59
  · refine x_iload_n hX dX1_isAhead_43 3 rfl ?_
    refine x_iload hX dX1_isAhead_44 4 rfl ?_
    refine x_icmp_ne hX 58 dX1_isAhead_46 (by decide) (fun c_46 => ?_) (fun c_46 => ?_)
    · refine x_iconstv hX dX1_isAhead_58 0 (by decide) ?_
      exact hret _ () _ _ (by simp [gAhead, gRank, c_40, c_46]) dX1_isAhead_59
    · refine x_iload_n hX dX1_isAhead_49 1 rfl ?_
      refine x_iload_n hX dX1_isAhead_50 2 rfl ?_
      refine x_icmp_ge hX 58 dX1_isAhead_51 (by decide) (fun c_51 => ?_) (fun c_51 => ?_)
      · refine x_iconstv hX dX1_isAhead_58 0 (by decide) ?_
        exact hret _ () _ _ (by simp [gAhead, gRank, c_40, c_46, c_51]) dX1_isAhead_59
      · refine x_iconstv hX dX1_isAhead_54 1 (by decide) ?_
        refine x_goto hX 59 dX1_isAhead_55 (by decide) ?_
        exact hret _ () _ _ (by simp [gAhead, gRank, c_40, c_46, c_51]) dX1_isAhead_59
theorem in_X1_liesAt : ∀ w ∈ wsX10, w ∈ wsX1_liesAt := by decide +kernel
set_option maxRecDepth 100000 in
set_option maxHeartbeats 4000000 in
theorem kX1_liesAt (l : Launch) (D : va_G) (cx : xC) (h : Nat → Nat) (s : xS) (a b : Int32) (ha : vp_in a 60) : xI l yX1_liesAt wsX1_liesAt (xR 0 0) D cx [.ref (h 0), .int a, .int b] (wM cx h s) (fun _ : Unit => wM cx h (s)) (fun r _ => r = if gLies s a b then 1 else 0) := by
  refine x_enterI (own := RX1) (by decide) rfl rfl (fun v u hv => ?_) (Nat.le_of_ble_eq_true rfl) (fun X hX hret => ?_)
  · rw [hv]; split <;> rfl
  have hin := in_X1_liesAt
  change xV X 3 0 0 (wM cx h s) 0 [(0, .ref (h 0)), (1, .int a), (2, .int b)] []
  refine x_aload_n hX dX1_liesAt_0 0 rfl ?_
  refine gM9 hX hin (by decide +kernel) dX1_liesAt_1 ?_
  refine x_iload_n hX dX1_liesAt_4 1 rfl ?_
  refine lM9 hX dX1_liesAt_5 ha rfl ?_
  refine x_if_ne hX 23 dX1_liesAt_6 (by decide) (fun c_6 => ?_) (fun c_6 => ?_)
  · refine x_iconstv hX dX1_liesAt_23 0 (by decide) ?_
    exact hret _ () _ _ (by simp [gLies, c_6]) dX1_liesAt_24
  · refine x_aload_n hX dX1_liesAt_9 0 rfl ?_
    refine gM10 hX hin (by decide +kernel) dX1_liesAt_10 ?_
    refine x_iload_n hX dX1_liesAt_13 1 rfl ?_
    refine lM10 hX dX1_liesAt_14 ha rfl ?_
    refine x_iload_n hX dX1_liesAt_15 2 rfl ?_
    refine x_icmp_ne hX 23 dX1_liesAt_16 (by decide) (fun c_16 => ?_) (fun c_16 => ?_)
    · refine x_iconstv hX dX1_liesAt_23 0 (by decide) ?_
      exact hret _ () _ _ (by simp [gLies, c_6, c_16]) dX1_liesAt_24
    · refine x_iconstv hX dX1_liesAt_19 1 (by decide) ?_
      refine x_goto hX 24 dX1_liesAt_20 (by decide) ?_
      exact hret _ () _ _ (by simp [gLies, c_6, c_16]) dX1_liesAt_24
theorem in_X1_placeOf : ∀ w ∈ wsX10, w ∈ wsX1_placeOf := by decide +kernel
set_option maxRecDepth 100000 in
set_option maxHeartbeats 4000000 in
theorem kX1_placeOf (l : Launch) (D : va_G) (cx : xC) (h : Nat → Nat) (s : xS) {n : Nat} (hM : okM s n) (a : Int32) (ha : vp_in a 60) : xI l yX1_placeOf wsX1_placeOf (xR 3 69) D cx [.ref (h 0), .int a] (wM cx h s) (fun _ : Unit => wM cx h (s)) (fun r _ => r = gPlace s n a n) := by
  refine x_enterI (own := RX1) (by decide) rfl rfl (fun v u hv => ?_) (Nat.le_of_ble_eq_true rfl) (fun X hX hret => ?_)
  · rfl
  have hin := in_X1_placeOf
  change xV X 4 0 0 (wM cx h s) 0 [(0, .ref (h 0)), (1, .int a)] []
  have loop : ∀ (m k : Nat), k + m = n → xV X 4 0 0 (wM cx h (s)) 4 [(0, .ref (h 0)), (1, .int a), (2, .int (gPlace s n a k)), (3, .int (nI k))] [] := by
    intro m
    induction m with
    | zero =>
      intro k hk
      obtain rfl : n = k := hk.symm
      refine x_iload_n hX dX1_placeOf_4 3 rfl ?_
      refine x_aload_n hX dX1_placeOf_5 0 rfl ?_
      refine gM5 hX hin (by decide +kernel) dX1_placeOf_6 ?_
      refine x_icmp_ge hX 54 dX1_placeOf_9 (by decide) (fun c_9 => ?_) (fun c_9 => ?_)
      · refine x_iload_n hX dX1_placeOf_54 2 rfl ?_
        exact hret _ () _ _ (rfl) dX1_placeOf_55
      · exact absurd (lp_yes hM.2.1 hM.lt rfl) c_9
    | succ m ih =>
      intro k hk
      have hkn : k < n := by omega
      have e9 : (nI k).toNatClampNeg = k := nI_clamp (by have := hM.lt; omega)
      refine x_iload_n hX dX1_placeOf_4 3 rfl ?_
      refine x_aload_n hX dX1_placeOf_5 0 rfl ?_
      refine gM5 hX hin (by decide +kernel) dX1_placeOf_6 ?_
      refine x_icmp_ge hX 54 dX1_placeOf_9 (by decide) (fun c_9 => ?_) (fun c_9 => ?_)
      · exact absurd c_9 (lp_no hM.2.1 hM.lt hkn)
      · refine x_iload_n hX dX1_placeOf_12 2 rfl ?_
        refine x_iload_n hX dX1_placeOf_13 3 rfl ?_
        refine x_iload_n hX dX1_placeOf_14 1 rfl ?_
        refine x_icmp_eq hX 45 dX1_placeOf_15 (by decide) (fun c_15 => ?_) (fun c_15 => ?_)
        · refine x_iconstv hX dX1_placeOf_45 0 (by decide) ?_
          refine x_iadd hX dX1_placeOf_46 ?_
          refine x_istore_n hX (lv' := [_, _, _, _]) dX1_placeOf_47 2 rfl (by decide) rfl rfl ?_
          refine x_iinc hX (lv' := [_, _, _, _]) dX1_placeOf_48 3 rfl (nI_i1 k) (by decide) rfl rfl ?_
          refine x_goto hX 4 dX1_placeOf_51 (by decide) ?_
          exact x_as rfl (by simp only [gPlace, if_neg c_9, if_pos c_15]) (ih (k + 1) (by omega))
        · refine x_aload_n hX dX1_placeOf_18 0 rfl ?_
          refine x_iload_n hX dX1_placeOf_19 3 rfl ?_
          refine x_aload_n hX dX1_placeOf_20 0 rfl ?_
          refine gM10 hX hin (by decide +kernel) dX1_placeOf_21 ?_
          refine x_iload_n hX dX1_placeOf_24 1 rfl ?_
          refine lM10 hX dX1_placeOf_25 ha rfl ?_
          refine x_cvi hX dX1_placeOf_26 2 rfl (kX1_liesAt l D cx h _ _ _ (okM_in hM hkn)) gX1_placeOf_X1_liesAt rfl ⟨rfl, by decide, by decide, by decide +kernel⟩ ⟨rfl, rfl, Nat.le_of_ble_eq_true rfl, Nat.le_of_ble_eq_true rfl, Nat.zero_le _, Nat.zero_le _⟩ rfl rfl (Nat.le_of_ble_eq_true rfl) rfl (fun r_26 _ hq_26 => ?_)
          obtain rfl := hq_26
          refine x_if_eq hX 45 dX1_placeOf_29 (by decide) (fun c_29 => ?_) (fun c_29 => ?_)
          · replace c_29 := xb_f.mp c_29
            refine x_iconstv hX dX1_placeOf_45 0 (by decide) ?_
            refine x_iadd hX dX1_placeOf_46 ?_
            refine x_istore_n hX (lv' := [_, _, _, _]) dX1_placeOf_47 2 rfl (by decide) rfl rfl ?_
            refine x_iinc hX (lv' := [_, _, _, _]) dX1_placeOf_48 3 rfl (nI_i1 k) (by decide) rfl rfl ?_
            refine x_goto hX 4 dX1_placeOf_51 (by decide) ?_
            exact x_as rfl (by simp only [gPlace, if_neg c_9, if_neg c_15, if_neg c_29]) (ih (k + 1) (by omega))
          · replace c_29 := xb_t.mp c_29
            refine x_aload_n hX dX1_placeOf_32 0 rfl ?_
            refine x_iload_n hX dX1_placeOf_33 3 rfl ?_
            refine x_iload_n hX dX1_placeOf_34 1 rfl ?_
            refine x_cvi hX dX1_placeOf_35 2 rfl (kX1_isAhead l D cx h _ hM _ _ (okM_in hM hkn) ha) gX1_placeOf_X1_isAhead rfl ⟨rfl, by decide, by decide, by decide +kernel⟩ ⟨rfl, rfl, Nat.le_of_ble_eq_true rfl, Nat.le_of_ble_eq_true rfl, Nat.zero_le _, Nat.zero_le _⟩ rfl rfl (Nat.le_of_ble_eq_true rfl) rfl (fun r_35 _ hq_35 => ?_)
            obtain rfl := hq_35
            refine x_if_eq hX 45 dX1_placeOf_38 (by decide) (fun c_38 => ?_) (fun c_38 => ?_)
            · replace c_38 := xb_f.mp c_38
              refine x_iconstv hX dX1_placeOf_45 0 (by decide) ?_
              refine x_iadd hX dX1_placeOf_46 ?_
              refine x_istore_n hX (lv' := [_, _, _, _]) dX1_placeOf_47 2 rfl (by decide) rfl rfl ?_
              refine x_iinc hX (lv' := [_, _, _, _]) dX1_placeOf_48 3 rfl (nI_i1 k) (by decide) rfl rfl ?_
              refine x_goto hX 4 dX1_placeOf_51 (by decide) ?_
              exact x_as rfl (by simp only [gPlace, if_neg c_9, if_neg c_15, if_pos c_29, if_neg c_38]) (ih (k + 1) (by omega))
            · replace c_38 := xb_t.mp c_38
              refine x_iconstv hX dX1_placeOf_41 1 (by decide) ?_
              refine x_goto hX 46 dX1_placeOf_42 (by decide) ?_
              refine x_iadd hX dX1_placeOf_46 ?_
              refine x_istore_n hX (lv' := [_, _, _, _]) dX1_placeOf_47 2 rfl (by decide) rfl rfl ?_
              refine x_iinc hX (lv' := [_, _, _, _]) dX1_placeOf_48 3 rfl (nI_i1 k) (by decide) rfl rfl ?_
              refine x_goto hX 4 dX1_placeOf_51 (by decide) ?_
              exact x_as rfl (by simp only [gPlace, if_neg c_9, if_neg c_15, if_pos c_29, if_pos c_38]) (ih (k + 1) (by omega))
  refine x_iconstv hX dX1_placeOf_0 0 (by decide) ?_
  refine x_istore_n hX (lv' := [_, _, _]) dX1_placeOf_1 2 rfl (by decide) rfl rfl ?_
  refine x_iconstv hX dX1_placeOf_2 0 (by decide) ?_
  refine x_istore_n hX (lv' := [_, _, _, _]) dX1_placeOf_3 3 rfl (by decide) rfl rfl ?_
  exact x_as (rfl) (by simp [gPlace, nI_0]) (loop n 0 (by omega))
theorem in_X1_lengthOf : ∀ w ∈ wsX10, w ∈ wsX1_lengthOf := by decide +kernel
set_option maxRecDepth 100000 in
set_option maxHeartbeats 4000000 in
theorem kX1_lengthOf (l : Launch) (D : va_G) (cx : xC) (h : Nat → Nat) (s : xS) {n : Nat} (hM : okM s n) (a : Int32) : xI l yX1_lengthOf wsX1_lengthOf (xR 1 22) D cx [.ref (h 0), .int a] (wM cx h s) (fun _ : Unit => wM cx h (s)) (fun r _ => r = gLen s a n) := by
  refine x_enterI (own := RX1) (by decide) rfl rfl (fun v u hv => ?_) (Nat.le_of_ble_eq_true rfl) (fun X hX hret => ?_)
  · rfl
  have hin := in_X1_lengthOf
  change xV X 4 0 0 (wM cx h s) 0 [(0, .ref (h 0)), (1, .int a)] []
  have loop : ∀ (m k : Nat), k + m = n → xV X 4 0 0 (wM cx h (s)) 4 [(0, .ref (h 0)), (1, .int a), (2, .int (gLen s a k)), (3, .int (nI k))] [] := by
    intro m
    induction m with
    | zero =>
      intro k hk
      obtain rfl : n = k := hk.symm
      refine x_iload_n hX dX1_lengthOf_4 3 rfl ?_
      refine x_aload_n hX dX1_lengthOf_5 0 rfl ?_
      refine gM5 hX hin (by decide +kernel) dX1_lengthOf_6 ?_
      refine x_icmp_ge hX 35 dX1_lengthOf_9 (by decide) (fun c_9 => ?_) (fun c_9 => ?_)
      · refine x_iload_n hX dX1_lengthOf_35 2 rfl ?_
        exact hret _ () _ _ (rfl) dX1_lengthOf_36
      · exact absurd (lp_yes hM.2.1 hM.lt rfl) c_9
    | succ m ih =>
      intro k hk
      have hkn : k < n := by omega
      have e9 : (nI k).toNatClampNeg = k := nI_clamp (by have := hM.lt; omega)
      refine x_iload_n hX dX1_lengthOf_4 3 rfl ?_
      refine x_aload_n hX dX1_lengthOf_5 0 rfl ?_
      refine gM5 hX hin (by decide +kernel) dX1_lengthOf_6 ?_
      refine x_icmp_ge hX 35 dX1_lengthOf_9 (by decide) (fun c_9 => ?_) (fun c_9 => ?_)
      · exact absurd c_9 (lp_no hM.2.1 hM.lt hkn)
      · refine x_iload_n hX dX1_lengthOf_12 2 rfl ?_
        refine x_aload_n hX dX1_lengthOf_13 0 rfl ?_
        refine x_iload_n hX dX1_lengthOf_14 3 rfl ?_
        refine x_iload_n hX dX1_lengthOf_15 1 rfl ?_
        refine x_cvi hX dX1_lengthOf_16 2 rfl (kX1_liesAt l D cx h _ _ _ (okM_in hM hkn)) gX1_lengthOf_X1_liesAt rfl ⟨rfl, by decide, by decide, by decide +kernel⟩ ⟨rfl, rfl, Nat.le_of_ble_eq_true rfl, Nat.le_of_ble_eq_true rfl, Nat.zero_le _, Nat.zero_le _⟩ rfl rfl (Nat.le_of_ble_eq_true rfl) rfl (fun r_16 _ hq_16 => ?_)
        obtain rfl := hq_16
        refine x_if_eq hX 26 dX1_lengthOf_19 (by decide) (fun c_19 => ?_) (fun c_19 => ?_)
        · replace c_19 := xb_f.mp c_19
          refine x_iconstv hX dX1_lengthOf_26 0 (by decide) ?_
          refine x_iadd hX dX1_lengthOf_27 ?_
          refine x_istore_n hX (lv' := [_, _, _, _]) dX1_lengthOf_28 2 rfl (by decide) rfl rfl ?_
          refine x_iinc hX (lv' := [_, _, _, _]) dX1_lengthOf_29 3 rfl (nI_i1 k) (by decide) rfl rfl ?_
          refine x_goto hX 4 dX1_lengthOf_32 (by decide) ?_
          exact x_as rfl (by simp only [gLen, if_neg c_9, if_neg c_19]) (ih (k + 1) (by omega))
        · replace c_19 := xb_t.mp c_19
          refine x_iconstv hX dX1_lengthOf_22 1 (by decide) ?_
          refine x_goto hX 27 dX1_lengthOf_23 (by decide) ?_
          refine x_iadd hX dX1_lengthOf_27 ?_
          refine x_istore_n hX (lv' := [_, _, _, _]) dX1_lengthOf_28 2 rfl (by decide) rfl rfl ?_
          refine x_iinc hX (lv' := [_, _, _, _]) dX1_lengthOf_29 3 rfl (nI_i1 k) (by decide) rfl rfl ?_
          refine x_goto hX 4 dX1_lengthOf_32 (by decide) ?_
          exact x_as rfl (by simp only [gLen, if_neg c_9, if_pos c_19]) (ih (k + 1) (by omega))
  refine x_iconstv hX dX1_lengthOf_0 0 (by decide) ?_
  refine x_istore_n hX (lv' := [_, _, _]) dX1_lengthOf_1 2 rfl (by decide) rfl rfl ?_
  refine x_iconstv hX dX1_lengthOf_2 0 (by decide) ?_
  refine x_istore_n hX (lv' := [_, _, _, _]) dX1_lengthOf_3 3 rfl (by decide) rfl rfl ?_
  exact x_as (rfl) (by simp [gLen, nI_0]) (loop n 0 (by omega))
theorem in_X1_others : ∀ w ∈ wsX10, w ∈ wsX1_others := by decide +kernel
set_option maxRecDepth 100000 in
set_option maxHeartbeats 4000000 in
theorem kX1_others (l : Launch) (D : va_G) (cx : xC) (h : Nat → Nat) (s : xS) {n : Nat} (hM : okM s n) (a : Int32) (ha : vp_in a 60) : xI l yX1_others wsX1_others (xR 0 0) D cx [.ref (h 0), .int a] (wM cx h s) (fun _ : Unit => wM cx h (s)) (fun r _ => r = gWho s a n) := by
  refine x_enterI (own := RX1) (by decide) rfl rfl (fun v u hv => ?_) (Nat.le_of_ble_eq_true rfl) (fun X hX hret => ?_)
  · rfl
  have hin := in_X1_others
  change xV X 5 0 0 (wM cx h s) 0 [(0, .ref (h 0)), (1, .int a)] []
  have loop : ∀ (m k : Nat), k + m = n → xV X 5 0 0 (wM cx h (s)) 4 [(0, .ref (h 0)), (1, .int a), (2, .int (gWho s a k)), (3, .int (nI k))] [] := by
    intro m
    induction m with
    | zero =>
      intro k hk
      obtain rfl : n = k := hk.symm
      refine x_iload_n hX dX1_others_4 3 rfl ?_
      refine x_aload_n hX dX1_others_5 0 rfl ?_
      refine gM5 hX hin (by decide +kernel) dX1_others_6 ?_
      refine x_icmp_ge hX 85 dX1_others_9 (by decide) (fun c_9 => ?_) (fun c_9 => ?_)
      · refine x_iload_n hX dX1_others_85 2 rfl ?_
        exact hret _ () _ _ (rfl) dX1_others_86
      · exact absurd (lp_yes hM.2.1 hM.lt rfl) c_9
    | succ m ih =>
      intro k hk
      have hkn : k < n := by omega
      have e9 : (nI k).toNatClampNeg = k := nI_clamp (by have := hM.lt; omega)
      refine x_iload_n hX dX1_others_4 3 rfl ?_
      refine x_aload_n hX dX1_others_5 0 rfl ?_
      refine gM5 hX hin (by decide +kernel) dX1_others_6 ?_
      refine x_icmp_ge hX 85 dX1_others_9 (by decide) (fun c_9 => ?_) (fun c_9 => ?_)
      · exact absurd c_9 (lp_no hM.2.1 hM.lt hkn)
      · refine x_aload_n hX dX1_others_12 0 rfl ?_
        refine gM6 hX hin (by decide +kernel) dX1_others_13 ?_
        refine x_iload_n hX dX1_others_16 3 rfl ?_
        refine lM6 hX dX1_others_17 (okM_in hM hkn) e9 ?_
        refine x_aload_n hX dX1_others_18 0 rfl ?_
        refine gM6 hX hin (by decide +kernel) dX1_others_19 ?_
        refine x_iload_n hX dX1_others_22 1 rfl ?_
        refine lM6 hX dX1_others_23 ha rfl ?_
        refine x_icmp_ne hX 56 dX1_others_24 (by decide) (fun c_24 => ?_) (fun c_24 => ?_)
        · refine x_iconstv hX dX1_others_56 0 (by decide) ?_
          refine x_istore hX (lv' := [_, _, _, _, _]) dX1_others_57  (by decide) rfl rfl ?_
          refine x_iload_n hX dX1_others_59 2 rfl ?_
          refine x_iload hX dX1_others_60 4 rfl ?_
          refine x_if_eq hX 76 dX1_others_62 (by decide) (fun _ => ?_) (fun c => absurd c (by decide))
          refine x_iconstv hX dX1_others_76 0 (by decide) ?_
          refine x_ior hX dX1_others_77 ?_
          refine x_istore_n hX (lv' := [_, _, _, _, _]) dX1_others_78 2 rfl (by decide) rfl rfl ?_
          refine x_iinc hX (lv' := [_, _, _, _, _]) dX1_others_79 3 rfl (nI_i1 k) (by decide) rfl rfl ?_
          refine x_goto hX 4 dX1_others_82 (by decide) ?_
          refine x_lv (lv' := [_, _, _, _]) [0, 1, 2, 3] rfl ?_
          exact x_as rfl (by simp only [gWho, if_neg c_9, if_neg c_24]) (ih (k + 1) (by omega))
        · refine x_aload_n hX dX1_others_27 0 rfl ?_
          refine gM9 hX hin (by decide +kernel) dX1_others_28 ?_
          refine x_iload_n hX dX1_others_31 3 rfl ?_
          refine lM9 hX dX1_others_32 (okM_in hM hkn) e9 ?_
          refine x_iconstv hX dX1_others_33 2 (by decide) ?_
          refine x_icmp_ne hX 56 dX1_others_34 (by decide) (fun c_34 => ?_) (fun c_34 => ?_)
          · refine x_iconstv hX dX1_others_56 0 (by decide) ?_
            refine x_istore hX (lv' := [_, _, _, _, _]) dX1_others_57  (by decide) rfl rfl ?_
            refine x_iload_n hX dX1_others_59 2 rfl ?_
            refine x_iload hX dX1_others_60 4 rfl ?_
            refine x_if_eq hX 76 dX1_others_62 (by decide) (fun _ => ?_) (fun c => absurd c (by decide))
            refine x_iconstv hX dX1_others_76 0 (by decide) ?_
            refine x_ior hX dX1_others_77 ?_
            refine x_istore_n hX (lv' := [_, _, _, _, _]) dX1_others_78 2 rfl (by decide) rfl rfl ?_
            refine x_iinc hX (lv' := [_, _, _, _, _]) dX1_others_79 3 rfl (nI_i1 k) (by decide) rfl rfl ?_
            refine x_goto hX 4 dX1_others_82 (by decide) ?_
            refine x_lv (lv' := [_, _, _, _]) [0, 1, 2, 3] rfl ?_
            exact x_as rfl (by simp only [gWho, if_neg c_9, if_pos c_24, if_neg c_34]) (ih (k + 1) (by omega))
          · refine x_aload_n hX dX1_others_37 0 rfl ?_
            refine gM7 hX hin (by decide +kernel) dX1_others_38 ?_
            refine x_iload_n hX dX1_others_41 3 rfl ?_
            refine lM7 hX dX1_others_42 (okM_in hM hkn) e9 ?_
            refine x_aload_n hX dX1_others_43 0 rfl ?_
            refine gM7 hX hin (by decide +kernel) dX1_others_44 ?_
            refine x_iload_n hX dX1_others_47 1 rfl ?_
            refine lM7 hX dX1_others_48 ha rfl ?_
            refine x_icmp_eq hX 56 dX1_others_49 (by decide) (fun c_49 => ?_) (fun c_49 => ?_)
            · refine x_iconstv hX dX1_others_56 0 (by decide) ?_
              refine x_istore hX (lv' := [_, _, _, _, _]) dX1_others_57  (by decide) rfl rfl ?_
              refine x_iload_n hX dX1_others_59 2 rfl ?_
              refine x_iload hX dX1_others_60 4 rfl ?_
              refine x_if_eq hX 76 dX1_others_62 (by decide) (fun _ => ?_) (fun c => absurd c (by decide))
              refine x_iconstv hX dX1_others_76 0 (by decide) ?_
              refine x_ior hX dX1_others_77 ?_
              refine x_istore_n hX (lv' := [_, _, _, _, _]) dX1_others_78 2 rfl (by decide) rfl rfl ?_
              refine x_iinc hX (lv' := [_, _, _, _, _]) dX1_others_79 3 rfl (nI_i1 k) (by decide) rfl rfl ?_
              refine x_goto hX 4 dX1_others_82 (by decide) ?_
              refine x_lv (lv' := [_, _, _, _]) [0, 1, 2, 3] rfl ?_
              exact x_as rfl (by simp only [gWho, if_neg c_9, if_pos c_24, if_pos c_34, if_pos c_49]) (ih (k + 1) (by omega))
            · refine x_iconstv hX dX1_others_52 1 (by decide) ?_
              refine x_goto hX 57 dX1_others_53 (by decide) ?_
              refine x_istore hX (lv' := [_, _, _, _, _]) dX1_others_57  (by decide) rfl rfl ?_
              refine x_iload_n hX dX1_others_59 2 rfl ?_
              refine x_iload hX dX1_others_60 4 rfl ?_
              refine x_if_eq hX 76 dX1_others_62 (by decide) (fun c => absurd c (by decide)) (fun _ => ?_)
              refine x_iconstv hX dX1_others_65 1 (by decide) ?_
              refine x_aload_n hX dX1_others_66 0 rfl ?_
              refine gM7 hX hin (by decide +kernel) dX1_others_67 ?_
              refine x_iload_n hX dX1_others_70 3 rfl ?_
              refine lM7 hX dX1_others_71 (okM_in hM hkn) e9 ?_
              refine x_ishl hX dX1_others_72 ?_
              refine x_goto hX 77 dX1_others_73 (by decide) ?_
              refine x_ior hX dX1_others_77 ?_
              refine x_istore_n hX (lv' := [_, _, _, _, _]) dX1_others_78 2 rfl (by decide) rfl rfl ?_
              refine x_iinc hX (lv' := [_, _, _, _, _]) dX1_others_79 3 rfl (nI_i1 k) (by decide) rfl rfl ?_
              refine x_goto hX 4 dX1_others_82 (by decide) ?_
              refine x_lv (lv' := [_, _, _, _]) [0, 1, 2, 3] rfl ?_
              exact x_as rfl (by simp only [gWho, if_neg c_9, if_pos c_24, if_pos c_34, if_neg c_49]) (ih (k + 1) (by omega))
  refine x_iconstv hX dX1_others_0 0 (by decide) ?_
  refine x_istore_n hX (lv' := [_, _, _]) dX1_others_1 2 rfl (by decide) rfl rfl ?_
  refine x_iconstv hX dX1_others_2 0 (by decide) ?_
  refine x_istore_n hX (lv' := [_, _, _, _]) dX1_others_3 3 rfl (by decide) rfl rfl ?_
  exact x_as (rfl) (by simp [gWho, nI_0]) (loop n 0 (by omega))
