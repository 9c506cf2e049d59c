theorem in_X0_reputationOf : ∀ w ∈ wsX00, w ∈ wsX0_reputationOf := by decide +kernel
set_option maxRecDepth 100000 in
set_option maxHeartbeats 4000000 in
theorem kX0_reputationOf (l : Launch) (D : va_G) (cx : xC) (h : Nat → Nat) (s : xS) {n : Nat} (hN : okX s n) (a : Int32) : xI l yX0_reputationOf wsX0_reputationOf (xR 3 63) D cx [.ref (h 0), .int a] (wX cx h s) (fun _ : Unit => wX cx h (s)) (fun r _ => r = fRep s a n) := by
  refine x_enterI (own := RX0) (by decide) rfl rfl (fun v u hv => ?_) (Nat.le_of_ble_eq_true rfl) (fun X hX hret => ?_)
  · rfl
  have hin := in_X0_reputationOf
  change xV X 4 0 0 (wX cx h s) 0 [(0, .ref (h 0)), (1, .int a)] []
  have loop : ∀ (m k : Nat), k + m = n → xV X 4 0 0 (wX cx h (s)) 4 [(0, .ref (h 0)), (1, .int a), (2, .int (fRep s a k)), (3, .int (nI k))] [] := by
    intro m
    induction m with
    | zero =>
      intro k hk
      obtain rfl : n = k := hk.symm
      refine x_iload_n hX dX0_reputationOf_4 3 rfl ?_
      refine x_aload_n hX dX0_reputationOf_5 0 rfl ?_
      refine gX12 hX hin (by decide +kernel) dX0_reputationOf_6 ?_
      refine x_icmp_ge hX 36 dX0_reputationOf_9 (by decide) (fun c_9 => ?_) (fun c_9 => ?_)
      · refine x_iload_n hX dX0_reputationOf_36 2 rfl ?_
        exact hret _ () _ _ (rfl) dX0_reputationOf_37
      · exact absurd (lp_yes hN.2 hN.lt rfl) c_9
    | succ m ih =>
      intro k hk
      have hkn : k < n := by omega
      have e9 : (nI k).toNatClampNeg = k := nI_clamp (by have := hN.lt; omega)
      refine x_iload_n hX dX0_reputationOf_4 3 rfl ?_
      refine x_aload_n hX dX0_reputationOf_5 0 rfl ?_
      refine gX12 hX hin (by decide +kernel) dX0_reputationOf_6 ?_
      refine x_icmp_ge hX 36 dX0_reputationOf_9 (by decide) (fun c_9 => ?_) (fun c_9 => ?_)
      · exact absurd c_9 (lp_no hN.2 hN.lt hkn)
      · refine x_aload_n hX dX0_reputationOf_12 0 rfl ?_
        refine gX0 hX hin (by decide +kernel) dX0_reputationOf_13 ?_
        refine x_iload_n hX dX0_reputationOf_16 3 rfl ?_
        refine lX0 hX dX0_reputationOf_17 (okX_in hN hkn) e9 ?_
        refine x_iload_n hX dX0_reputationOf_18 1 rfl ?_
        refine x_icmp_ne hX 30 dX0_reputationOf_19 (by decide) (fun c_19 => ?_) (fun c_19 => ?_)
        · refine x_iinc hX (lv' := [_, _, _, _]) dX0_reputationOf_30 3 rfl (nI_i1 k) (by decide) rfl rfl ?_
          refine x_goto hX 4 dX0_reputationOf_33 (by decide) ?_
          exact x_as (rfl) (by simp [fRep, c_9, c_19]) (ih (k + 1) (by omega))
        · refine x_iload_n hX dX0_reputationOf_22 2 rfl ?_
          refine x_aload_n hX dX0_reputationOf_23 0 rfl ?_
          refine x_iload_n hX dX0_reputationOf_24 3 rfl ?_
          refine x_cvi hX dX0_reputationOf_25 1 rfl (kX0_opinionIn l D cx h _ hN _) gX0_reputationOf_X0_opinionIn rfl ⟨rfl, by decide, by decide, by decide +kernel⟩ ⟨rfl, rfl, Nat.le_of_ble_eq_true rfl, Nat.le_of_ble_eq_true rfl, Nat.le_refl 0, Nat.le_refl 0⟩ rfl rfl (Nat.le_of_ble_eq_true rfl) rfl (fun r_25 _ hq_25 => ?_)
          obtain rfl := hq_25
          refine x_iadd hX dX0_reputationOf_28 ?_
          refine x_istore_n hX (lv' := [_, _, _, _]) dX0_reputationOf_29 2 rfl (by decide) rfl rfl ?_
          refine x_iinc hX (lv' := [_, _, _, _]) dX0_reputationOf_30 3 rfl (nI_i1 k) (by decide) rfl rfl ?_
          refine x_goto hX 4 dX0_reputationOf_33 (by decide) ?_
          exact x_as (rfl) (by simp [fRep, c_9, c_19]) (ih (k + 1) (by omega))
  refine x_iconstv hX dX0_reputationOf_0 0 (by decide) ?_
  refine x_istore_n hX (lv' := [_, _, _]) dX0_reputationOf_1 2 rfl (by decide) rfl rfl ?_
  refine x_iconstv hX dX0_reputationOf_2 0 (by decide) ?_
  refine x_istore_n hX (lv' := [_, _, _, _]) dX0_reputationOf_3 3 rfl (by decide) rfl rfl ?_
  exact x_as (rfl) (by simp [fRep, nI_0]) (loop n 0 (by omega))
theorem in_X0_lowestStakeOf : ∀ w ∈ wsX00, w ∈ wsX0_lowestStakeOf := by decide +kernel
set_option maxRecDepth 100000 in
set_option maxHeartbeats 4000000 in
theorem kX0_lowestStakeOf (l : Launch) (D : va_G) (cx : xC) (h : Nat → Nat) (s : xS) {n : Nat} (hN : okX s n) (a : Int32) : xI l yX0_lowestStakeOf wsX0_lowestStakeOf (xR 4 86) D cx [.ref (h 0), .int a] (wX cx h s) (fun _ : Unit => wX cx h (s)) (fun r _ => r = fLeast s n a) := by
  refine x_enterI (own := RX0) (by decide) rfl rfl (fun v u hv => ?_) (Nat.le_of_ble_eq_true rfl) (fun X hX hret => ?_)
  · rfl
  have hin := in_X0_lowestStakeOf
  change xV X 2 0 0 (wX cx h s) 0 [(0, .ref (h 0)), (1, .int a)] []
  refine x_iconstv hX dX0_lowestStakeOf_0 0 (by decide) ?_
  refine x_bipushv hX dX0_lowestStakeOf_1 20 (by decide) ?_
  refine x_bipushv hX dX0_lowestStakeOf_3 10 (by decide) ?_
  refine x_aload_n hX dX0_lowestStakeOf_5 0 rfl ?_
  refine x_iload_n hX dX0_lowestStakeOf_6 1 rfl ?_
  refine x_cvi hX dX0_lowestStakeOf_7 1 rfl (kX0_reputationOf l D cx h _ hN _) gX0_lowestStakeOf_X0_reputationOf rfl ⟨rfl, by decide, by decide, by decide +kernel⟩ ⟨rfl, rfl, Nat.le_of_ble_eq_true rfl, Nat.le_of_ble_eq_true rfl, Nat.le_refl 0, Nat.le_refl 0⟩ rfl rfl (Nat.le_of_ble_eq_true rfl) rfl (fun r_7 _ hq_7 => ?_)
  obtain rfl := hq_7
  refine x_isub hX dX0_lowestStakeOf_10 ?_
  refine x_mmin hX dX0_lowestStakeOf_11 (by decide +kernel) (by decide +kernel) (by decide +kernel) (by decide +kernel) ⟨Nat.le_of_ble_eq_true rfl, Nat.le_of_ble_eq_true rfl, Nat.le_refl 0, Nat.le_refl 0⟩ ?_
  refine x_mmax hX dX0_lowestStakeOf_14 (by decide +kernel) (by decide +kernel) (by decide +kernel) (by decide +kernel) ⟨Nat.le_of_ble_eq_true rfl, Nat.le_of_ble_eq_true rfl, Nat.le_refl 0, Nat.le_refl 0⟩ ?_
  exact hret _ () _ _ (by simp [fLeast]) dX0_lowestStakeOf_17
theorem in_X0_findAllReputations : ∀ w ∈ wsX00, w ∈ wsX0_findAllReputations := by decide +kernel
set_option maxRecDepth 100000 in
set_option maxHeartbeats 4000000 in
theorem kX0_findAllReputations (l : Launch) (D : va_G) (cx : xC) (h : Nat → Nat) (s : xS) {n : Nat} (hN : okX s n) : xN l yX0_findAllReputations wsX0_findAllReputations (xR 3 63) D cx [.ref (h 0)] (wX cx h s) (fun _ : Unit => wX cx h (fAll s n)) (fun _ => True) := by
  refine x_enterN (own := RX0) (by decide) rfl rfl (Nat.le_of_ble_eq_true rfl) (fun X hX hret => ?_)
  have hin := in_X0_findAllReputations
  change xV X 2 0 0 (wX cx h s) 0 [(0, .ref (h 0))] []
  have loop2 : ∀ (m k : Nat), k + m = n → xV X 2 0 0 (wX cx h (fFill (fZero s 8) k)) 23 [(0, .ref (h 0)), (1, .int (nI k))] [] := by
    intro m
    induction m with
    | zero =>
      intro k hk
      obtain rfl : n = k := hk.symm
      have hNk := (hN.zero 8).fill n
      refine x_iload_n hX dX0_findAllReputations_23 1 rfl ?_
      refine x_aload_n hX dX0_findAllReputations_24 0 rfl ?_
      refine gX12 hX hin (by decide +kernel) dX0_findAllReputations_25 ?_
      refine x_icmp_ge hX 68 dX0_findAllReputations_28 (by decide) (fun c_28 => ?_) (fun c_28 => ?_)
      · exact hret () _ _ trivial dX0_findAllReputations_68
      · exact absurd (lp_yes hNk.2 hN.lt rfl) c_28
    | succ m ih =>
      intro k hk
      have hkn : k < n := by omega
      have e9 : (nI k).toNatClampNeg = k := nI_clamp (by have := hN.lt; omega)
      have hNk := (hN.zero 8).fill k
      refine x_iload_n hX dX0_findAllReputations_23 1 rfl ?_
      refine x_aload_n hX dX0_findAllReputations_24 0 rfl ?_
      refine gX12 hX hin (by decide +kernel) dX0_findAllReputations_25 ?_
      refine x_icmp_ge hX 68 dX0_findAllReputations_28 (by decide) (fun c_28 => ?_) (fun c_28 => ?_)
      · exact absurd c_28 (lp_no hNk.2 hN.lt hkn)
      · refine x_aload_n hX dX0_findAllReputations_31 0 rfl ?_
        refine gX0 hX hin (by decide +kernel) dX0_findAllReputations_32 ?_
        refine x_iload_n hX dX0_findAllReputations_35 1 rfl ?_
        refine lX0 hX dX0_findAllReputations_36 (okX_in hN hkn) e9 ?_
        refine x_csi hX dX0_findAllReputations_37 1 rfl (kX0_isPerson l D cx _) gX0_findAllReputations_X0_isPerson rfl ⟨by decide, by decide, by decide +kernel⟩ ⟨rfl, rfl, Nat.le_of_ble_eq_true rfl, Nat.le_of_ble_eq_true rfl, Nat.le_refl 0, Nat.le_refl 0⟩ (Nat.le_of_ble_eq_true rfl) rfl (fun r_37 _ hq_37 => ?_)
        obtain rfl := hq_37
        refine x_if_eq hX 62 dX0_findAllReputations_40 (by decide) (fun c_40 => ?_) (fun c_40 => ?_)
        · replace c_40 := xb_f.mp c_40
          refine x_iinc hX (lv' := [_, _]) dX0_findAllReputations_62 1 rfl (nI_i1 k) (by decide) rfl rfl ?_
          refine x_goto hX 23 dX0_findAllReputations_65 (by decide) ?_
          exact x_as (congrArg (wX cx h) (by simp [fFill, c_28, c_40])) (rfl) (ih (k + 1) (by omega))
        · replace c_40 := xb_t.mp c_40
          refine x_aload_n hX dX0_findAllReputations_43 0 rfl ?_
          refine gX15 hX hin (by decide +kernel) dX0_findAllReputations_44 ?_
          refine x_aload_n hX dX0_findAllReputations_47 0 rfl ?_
          refine gX0 hX hin (by decide +kernel) dX0_findAllReputations_48 ?_
          refine x_iload_n hX dX0_findAllReputations_51 1 rfl ?_
          refine lX0 hX dX0_findAllReputations_52 (okX_in hN hkn) e9 ?_
          refine x_dup2 hX dX0_findAllReputations_53 rfl rfl ?_
          refine lX15 hX dX0_findAllReputations_54 (P8_in c_40) rfl ?_
          refine x_aload_n hX dX0_findAllReputations_55 0 rfl ?_
          refine x_iload_n hX dX0_findAllReputations_56 1 rfl ?_
          refine x_cvi hX dX0_findAllReputations_57 1 rfl (kX0_opinionIn l D cx h _ hNk _) gX0_findAllReputations_X0_opinionIn rfl ⟨rfl, by decide, by decide, by decide +kernel⟩ ⟨rfl, rfl, Nat.le_of_ble_eq_true rfl, Nat.le_of_ble_eq_true rfl, Nat.le_refl 0, Nat.le_refl 0⟩ rfl rfl (Nat.le_of_ble_eq_true rfl) rfl (fun r_57 _ hq_57 => ?_)
          obtain rfl := hq_57
          refine x_iadd hX dX0_findAllReputations_60 ?_
          refine sX15 hX dX0_findAllReputations_61 (P8_in c_40) rfl ?_
          refine x_iinc hX (lv' := [_, _]) dX0_findAllReputations_62 1 rfl (nI_i1 k) (by decide) rfl rfl ?_
          refine x_goto hX 23 dX0_findAllReputations_65 (by decide) ?_
          exact x_as (congrArg (wX cx h) (by simp [fFill, c_28, c_40])) (rfl) (ih (k + 1) (by omega))
  have loop1 : ∀ (m k : Nat), k + m = 8 → xV X 2 0 0 (wX cx h (fZero s k)) 2 [(0, .ref (h 0)), (1, .int (nI k))] [] := by
    intro m
    induction m with
    | zero =>
      intro k hk
      obtain rfl : 8 = k := hk.symm
      refine x_iload_n hX dX0_findAllReputations_2 1 rfl ?_
      refine x_bipushv hX dX0_findAllReputations_3 8 (by decide) ?_
      refine x_icmp_ge hX 21 dX0_findAllReputations_5 (by decide) (fun c_5 => ?_) (fun c_5 => ?_)
      · refine x_iconstv hX dX0_findAllReputations_21 0 (by decide) ?_
        refine x_istore_n hX (lv' := [_, _]) dX0_findAllReputations_22 1 rfl (by decide) rfl rfl ?_
        exact x_as (rfl) (by simp [nI_0]) (loop2 n 0 (by omega))
      · exact absurd (lp_yes (rfl : (8 : Int32) = nI 8) (by decide : 8 < 2 ^ 31) rfl) c_5
    | succ m ih =>
      intro k hk
      have hkn : k < 8 := by omega
      have e9 : (nI k).toNatClampNeg = k := nI_clamp (by have := (by decide : 8 < 2 ^ 31); omega)
      refine x_iload_n hX dX0_findAllReputations_2 1 rfl ?_
      refine x_bipushv hX dX0_findAllReputations_3 8 (by decide) ?_
      refine x_icmp_ge hX 21 dX0_findAllReputations_5 (by decide) (fun c_5 => ?_) (fun c_5 => ?_)
      · exact absurd c_5 (lp_no (rfl : (8 : Int32) = nI 8) (by decide : 8 < 2 ^ 31) hkn)
      · refine x_aload_n hX dX0_findAllReputations_8 0 rfl ?_
        refine gX15 hX hin (by decide +kernel) dX0_findAllReputations_9 ?_
        refine x_iload_n hX dX0_findAllReputations_12 1 rfl ?_
        refine x_iconstv hX dX0_findAllReputations_13 0 (by decide) ?_
        refine sX15 hX dX0_findAllReputations_14 (vp_in_nI hkn (by decide)) e9 ?_
        refine x_iinc hX (lv' := [_, _]) dX0_findAllReputations_15 1 rfl (nI_i1 k) (by decide) rfl rfl ?_
        refine x_goto hX 2 dX0_findAllReputations_18 (by decide) ?_
        exact x_as (rfl) (rfl) (ih (k + 1) (by omega))
  refine x_iconstv hX dX0_findAllReputations_0 0 (by decide) ?_
  refine x_istore_n hX (lv' := [_, _]) dX0_findAllReputations_1 1 rfl (by decide) rfl rfl ?_
  exact x_as (rfl) (by simp [nI_0]) (loop1 8 0 (by omega))
theorem in_X0_beginLookingAtQueues : ∀ w ∈ wsX00, w ∈ wsX0_beginLookingAtQueues := by decide +kernel
set_option maxRecDepth 100000 in
set_option maxHeartbeats 4000000 in
theorem kX0_beginLookingAtQueues (l : Launch) (D : va_G) (cx : xC) (h : Nat → Nat) (s : xS) {n : Nat} (hN : okX s n) : xN l yX0_beginLookingAtQueues wsX0_beginLookingAtQueues (xR 4 84) D cx [.ref (h 0)] (wX cx h s) (fun _ : Unit => wX cx h (fBegin s n)) (fun _ => True) := by
  refine x_enterN (own := RX0) (by decide) rfl rfl (Nat.le_of_ble_eq_true rfl) (fun X hX hret => ?_)
  have hin := in_X0_beginLookingAtQueues
  change xV X 2 0 0 (wX cx h s) 0 [(0, .ref (h 0))] []
  have loop : ∀ (m k : Nat), k + m = n → xV X 2 0 0 (wX cx h (fWait s k)) 2 [(0, .ref (h 0)), (1, .int (nI k))] [] := by
    intro m
    induction m with
    | zero =>
      intro k hk
      obtain rfl : n = k := hk.symm
      have hNk := hN.wait n
      refine x_iload_n hX dX0_beginLookingAtQueues_2 1 rfl ?_
      refine x_aload_n hX dX0_beginLookingAtQueues_3 0 rfl ?_
      refine gX12 hX hin (by decide +kernel) dX0_beginLookingAtQueues_4 ?_
      refine x_icmp_ge hX 28 dX0_beginLookingAtQueues_7 (by decide) (fun c_7 => ?_) (fun c_7 => ?_)
      · refine x_aload_n hX dX0_beginLookingAtQueues_28 0 rfl ?_
        refine x_cvn hX dX0_beginLookingAtQueues_29 0 rfl (kX0_findAllReputations l D cx h _ hNk) gX0_beginLookingAtQueues_X0_findAllReputations rfl ⟨rfl, by decide, by decide, by decide +kernel⟩ ⟨rfl, rfl, Nat.le_of_ble_eq_true rfl, Nat.le_of_ble_eq_true rfl, Nat.le_refl 0, Nat.le_refl 0⟩ rfl rfl (Nat.le_of_ble_eq_true rfl) rfl (fun _ _ => ?_)
        exact hret () _ _ trivial dX0_beginLookingAtQueues_32
      · exact absurd (lp_yes hNk.2 hN.lt rfl) c_7
    | succ m ih =>
      intro k hk
      have hkn : k < n := by omega
      have e9 : (nI k).toNatClampNeg = k := nI_clamp (by have := hN.lt; omega)
      have hNk := hN.wait k
      refine x_iload_n hX dX0_beginLookingAtQueues_2 1 rfl ?_
      refine x_aload_n hX dX0_beginLookingAtQueues_3 0 rfl ?_
      refine gX12 hX hin (by decide +kernel) dX0_beginLookingAtQueues_4 ?_
      refine x_icmp_ge hX 28 dX0_beginLookingAtQueues_7 (by decide) (fun c_7 => ?_) (fun c_7 => ?_)
      · exact absurd c_7 (lp_no hNk.2 hN.lt hkn)
      · refine x_aload_n hX dX0_beginLookingAtQueues_10 0 rfl ?_
        refine gX14 hX hin (by decide +kernel) dX0_beginLookingAtQueues_11 ?_
        refine x_iload_n hX dX0_beginLookingAtQueues_14 1 rfl ?_
        refine x_aload_n hX dX0_beginLookingAtQueues_15 0 rfl ?_
        refine gX4 hX hin (by decide +kernel) dX0_beginLookingAtQueues_16 ?_
        refine x_iload_n hX dX0_beginLookingAtQueues_19 1 rfl ?_
        refine lX4 hX dX0_beginLookingAtQueues_20 (okX_in hN hkn) e9 ?_
        refine sX14 hX dX0_beginLookingAtQueues_21 (okX_in hN hkn) e9 ?_
        refine x_iinc hX (lv' := [_, _]) dX0_beginLookingAtQueues_22 1 rfl (nI_i1 k) (by decide) rfl rfl ?_
        refine x_goto hX 2 dX0_beginLookingAtQueues_25 (by decide) ?_
        exact x_as (rfl) (rfl) (ih (k + 1) (by omega))
  refine x_iconstv hX dX0_beginLookingAtQueues_0 0 (by decide) ?_
  refine x_istore_n hX (lv' := [_, _]) dX0_beginLookingAtQueues_1 1 rfl (by decide) rfl rfl ?_
  exact x_as (rfl) (by simp [nI_0]) (loop n 0 (by omega))
theorem in_X0_rankOf : ∀ w ∈ wsX00, w ∈ wsX0_rankOf := by decide +kernel
set_option maxRecDepth 100000 in
set_option maxHeartbeats 4000000 in
theorem kX0_rankOf (l : Launch) (D : va_G) (cx : xC) (h : Nat → Nat) (s : xS) {n : Nat} (hN : okX s n) (a : Int32) : xI l yX0_rankOf wsX0_rankOf (xR 1 21) D cx [.ref (h 0), .int a] (wX cx h s) (fun _ : Unit => wX cx h (s)) (fun r _ => r = fRank s a) := by
  refine x_enterI (own := RX0) (by decide) rfl rfl (fun v u hv => ?_) (Nat.le_of_ble_eq_true rfl) (fun X hX hret => ?_)
  · rfl
  have hin := in_X0_rankOf
  change xV X 2 0 0 (wX cx h s) 0 [(0, .ref (h 0)), (1, .int a)] []
  refine x_aload_n hX dX0_rankOf_0 0 rfl ?_
  refine x_iload_n hX dX0_rankOf_1 1 rfl ?_
  refine x_cvi hX dX0_rankOf_2 1 rfl (kX0_isLetter l D cx h _ _) gX0_rankOf_X0_isLetter rfl ⟨rfl, by decide, by decide, by decide +kernel⟩ ⟨rfl, rfl, Nat.le_of_ble_eq_true rfl, Nat.le_of_ble_eq_true rfl, Nat.le_refl 0, Nat.le_refl 0⟩ rfl rfl (Nat.le_of_ble_eq_true rfl) rfl (fun r_2 _ hq_2 => ?_)
  obtain rfl := hq_2
  refine x_if_eq hX 20 dX0_rankOf_5 (by decide) (fun c_5 => ?_) (fun c_5 => ?_)
  · replace c_5 := xb_f.mp c_5
    refine x_iconstv hX dX0_rankOf_20 0 (by decide) ?_
    exact hret _ () _ _ (by simp [fRank, c_5]) dX0_rankOf_21
  · replace c_5 := xb_t.mp c_5
    refine x_aload_n hX dX0_rankOf_8 0 rfl ?_
    refine gX0 hX hin (by decide +kernel) dX0_rankOf_9 ?_
    refine x_iload_n hX dX0_rankOf_12 1 rfl ?_
    refine lX0 hX dX0_rankOf_13 (PL_in hN c_5) rfl ?_
    refine x_csi hX dX0_rankOf_14 1 rfl (kX0_isPerson l D cx _) gX0_rankOf_X0_isPerson rfl ⟨by decide, by decide, by decide +kernel⟩ ⟨rfl, rfl, Nat.le_of_ble_eq_true rfl, Nat.le_of_ble_eq_true rfl, Nat.le_refl 0, Nat.le_refl 0⟩ (Nat.le_of_ble_eq_true rfl) rfl (fun r_14 _ hq_14 => ?_)
    obtain rfl := hq_14
    refine x_if_ne hX 22 dX0_rankOf_17 (by decide) (fun c_17 => ?_) (fun c_17 => ?_)
    · replace c_17 := xb_t.mp c_17
      refine x_aload_n hX dX0_rankOf_22 0 rfl ?_
      refine gX2 hX hin (by decide +kernel) dX0_rankOf_23 ?_
      refine x_iload_n hX dX0_rankOf_26 1 rfl ?_
      refine lX2 hX dX0_rankOf_27 (PL_in hN c_5) rfl ?_
      refine x_aload_n hX dX0_rankOf_28 0 rfl ?_
      refine gX15 hX hin (by decide +kernel) dX0_rankOf_29 ?_
      refine x_aload_n hX dX0_rankOf_32 0 rfl ?_
      refine gX0 hX hin (by decide +kernel) dX0_rankOf_33 ?_
      refine x_iload_n hX dX0_rankOf_36 1 rfl ?_
      refine lX0 hX dX0_rankOf_37 (PL_in hN c_5) rfl ?_
      refine lX15 hX dX0_rankOf_38 (P8_in c_17) rfl ?_
      refine x_iadd hX dX0_rankOf_39 ?_
      exact hret _ () _ _ (by simp [fRank, c_5, c_17]) dX0_rankOf_40
    · replace c_17 := xb_f.mp c_17
      refine x_iconstv hX dX0_rankOf_20 0 (by decide) ?_
      exact hret _ () _ _ (by simp [fRank, c_5, c_17]) dX0_rankOf_21
theorem in_X0_takeFirstWaiting : ∀ w ∈ wsX00, w ∈ wsX0_takeFirstWaiting := by decide +kernel
set_option maxRecDepth 100000 in
set_option maxHeartbeats 4000000 in
theorem kX0_takeFirstWaiting (l : Launch) (D : va_G) (cx : xC) (h : Nat → Nat) (s : xS) {n : Nat} (hN : okX s n) (a : Int32) : xI l yX0_takeFirstWaiting wsX0_takeFirstWaiting (xR 2 42) D cx [.ref (h 0), .int a] (wX cx h s) (fun _ : Unit => wX cx h (fTake s n a)) (fun r _ => r = fBest s a n) := by
  refine x_enterI (own := RX0) (by decide) rfl rfl (fun v u hv => ?_) (Nat.le_of_ble_eq_true rfl) (fun X hX hret => ?_)
  · rfl
  have hin := in_X0_takeFirstWaiting
  change xV X 4 0 0 (wX cx h s) 0 [(0, .ref (h 0)), (1, .int a)] []
  have loop : ∀ (m k : Nat), k + m = n → xV X 4 0 0 (wX cx h (s)) 4 [(0, .ref (h 0)), (1, .int a), (2, .int (fBest s a k)), (3, .int (nI k))] [] := by
    intro m
    induction m with
    | zero =>
      intro k hk
      obtain rfl : n = k := hk.symm
      refine x_iload_n hX dX0_takeFirstWaiting_4 3 rfl ?_
      refine x_aload_n hX dX0_takeFirstWaiting_5 0 rfl ?_
      refine gX12 hX hin (by decide +kernel) dX0_takeFirstWaiting_6 ?_
      refine x_icmp_ge hX 48 dX0_takeFirstWaiting_9 (by decide) (fun c_9 => ?_) (fun c_9 => ?_)
      · refine x_aload_n hX dX0_takeFirstWaiting_48 0 rfl ?_
        refine x_iload_n hX dX0_takeFirstWaiting_49 2 rfl ?_
        refine x_cvi hX dX0_takeFirstWaiting_50 1 rfl (kX0_isLetter l D cx h _ _) gX0_takeFirstWaiting_X0_isLetter rfl ⟨rfl, by decide, by decide, by decide +kernel⟩ ⟨rfl, rfl, Nat.le_of_ble_eq_true rfl, Nat.le_of_ble_eq_true rfl, Nat.le_refl 0, Nat.le_refl 0⟩ rfl rfl (Nat.le_of_ble_eq_true rfl) rfl (fun r_50 _ hq_50 => ?_)
        obtain rfl := hq_50
        refine x_if_eq hX 63 dX0_takeFirstWaiting_53 (by decide) (fun c_53 => ?_) (fun c_53 => ?_)
        · replace c_53 := xb_f.mp c_53
          refine x_iload_n hX dX0_takeFirstWaiting_63 2 rfl ?_
          exact x_asr (congrArg (wX cx h) (by simp [fTake, c_9, c_53])) rfl (hret _ () _ _ (rfl) dX0_takeFirstWaiting_64)
        · replace c_53 := xb_t.mp c_53
          refine x_aload_n hX dX0_takeFirstWaiting_56 0 rfl ?_
          refine gX14 hX hin (by decide +kernel) dX0_takeFirstWaiting_57 ?_
          refine x_iload_n hX dX0_takeFirstWaiting_60 2 rfl ?_
          refine x_iconstv hX dX0_takeFirstWaiting_61 (-1) (by decide) ?_
          refine sX14 hX dX0_takeFirstWaiting_62 (PL_in hN c_53) rfl ?_
          refine x_iload_n hX dX0_takeFirstWaiting_63 2 rfl ?_
          exact x_asr (congrArg (wX cx h) (by simp [fTake, c_9, c_53])) rfl (hret _ () _ _ (rfl) dX0_takeFirstWaiting_64)
      · exact absurd (lp_yes hN.2 hN.lt rfl) c_9
    | succ m ih =>
      intro k hk
      have hkn : k < n := by omega
      have e9 : (nI k).toNatClampNeg = k := nI_clamp (by have := hN.lt; omega)
      refine x_iload_n hX dX0_takeFirstWaiting_4 3 rfl ?_
      refine x_aload_n hX dX0_takeFirstWaiting_5 0 rfl ?_
      refine gX12 hX hin (by decide +kernel) dX0_takeFirstWaiting_6 ?_
      refine x_icmp_ge hX 48 dX0_takeFirstWaiting_9 (by decide) (fun c_9 => ?_) (fun c_9 => ?_)
      · exact absurd c_9 (lp_no hN.2 hN.lt hkn)
      · refine x_aload_n hX dX0_takeFirstWaiting_12 0 rfl ?_
        refine gX14 hX hin (by decide +kernel) dX0_takeFirstWaiting_13 ?_
        refine x_iload_n hX dX0_takeFirstWaiting_16 3 rfl ?_
        refine lX14 hX dX0_takeFirstWaiting_17 (okX_in hN hkn) e9 ?_
        refine x_iload_n hX dX0_takeFirstWaiting_18 1 rfl ?_
        refine x_icmp_ne hX 42 dX0_takeFirstWaiting_19 (by decide) (fun c_19 => ?_) (fun c_19 => ?_)
        · refine x_iinc hX (lv' := [_, _, _, _]) dX0_takeFirstWaiting_42 3 rfl (nI_i1 k) (by decide) rfl rfl ?_
          refine x_goto hX 4 dX0_takeFirstWaiting_45 (by decide) ?_
          exact x_as (rfl) (by simp [fBest, c_9, c_19]) (ih (k + 1) (by omega))
        · refine x_iload_n hX dX0_takeFirstWaiting_22 2 rfl ?_
          refine x_iconstv hX dX0_takeFirstWaiting_23 (-1) (by decide) ?_
          refine x_icmp_eq hX 40 dX0_takeFirstWaiting_24 (by decide) (fun c_24 => ?_) (fun c_24 => ?_)
          · refine x_iload_n hX dX0_takeFirstWaiting_40 3 rfl ?_
            refine x_istore_n hX (lv' := [_, _, _, _]) dX0_takeFirstWaiting_41 2 rfl (by decide) rfl rfl ?_
            refine x_iinc hX (lv' := [_, _, _, _]) dX0_takeFirstWaiting_42 3 rfl (nI_i1 k) (by decide) rfl rfl ?_
            refine x_goto hX 4 dX0_takeFirstWaiting_45 (by decide) ?_
            exact x_as (rfl) (by simp [fBest, c_9, c_19, c_24]) (ih (k + 1) (by omega))
          · refine x_aload_n hX dX0_takeFirstWaiting_27 0 rfl ?_
            refine x_iload_n hX dX0_takeFirstWaiting_28 3 rfl ?_
            refine x_cvi hX dX0_takeFirstWaiting_29 1 rfl (kX0_rankOf l D cx h _ hN _) gX0_takeFirstWaiting_X0_rankOf rfl ⟨rfl, by decide, by decide, by decide +kernel⟩ ⟨rfl, rfl, Nat.le_of_ble_eq_true rfl, Nat.le_of_ble_eq_true rfl, Nat.le_refl 0, Nat.le_refl 0⟩ rfl rfl (Nat.le_of_ble_eq_true rfl) rfl (fun r_29 _ hq_29 => ?_)
            obtain rfl := hq_29
            refine x_aload_n hX dX0_takeFirstWaiting_32 0 rfl ?_
            refine x_iload_n hX dX0_takeFirstWaiting_33 2 rfl ?_
            refine x_cvi hX dX0_takeFirstWaiting_34 1 rfl (kX0_rankOf l D cx h _ hN _) gX0_takeFirstWaiting_X0_rankOf rfl ⟨rfl, by decide, by decide, by decide +kernel⟩ ⟨rfl, rfl, Nat.le_of_ble_eq_true rfl, Nat.le_of_ble_eq_true rfl, Nat.le_refl 0, Nat.le_refl 0⟩ rfl rfl (Nat.le_of_ble_eq_true rfl) rfl (fun r_34 _ hq_34 => ?_)
            obtain rfl := hq_34
            refine x_icmp_le hX 42 dX0_takeFirstWaiting_37 (by decide) (fun c_37 => ?_) (fun c_37 => ?_)
            · refine x_iinc hX (lv' := [_, _, _, _]) dX0_takeFirstWaiting_42 3 rfl (nI_i1 k) (by decide) rfl rfl ?_
              refine x_goto hX 4 dX0_takeFirstWaiting_45 (by decide) ?_
              exact x_as (rfl) (by simp [fBest, c_9, c_19, c_24, c_37]) (ih (k + 1) (by omega))
            · refine x_iload_n hX dX0_takeFirstWaiting_40 3 rfl ?_
              refine x_istore_n hX (lv' := [_, _, _, _]) dX0_takeFirstWaiting_41 2 rfl (by decide) rfl rfl ?_
              refine x_iinc hX (lv' := [_, _, _, _]) dX0_takeFirstWaiting_42 3 rfl (nI_i1 k) (by decide) rfl rfl ?_
              refine x_goto hX 4 dX0_takeFirstWaiting_45 (by decide) ?_
              exact x_as (rfl) (by simp [fBest, c_9, c_19, c_24, c_37]) (ih (k + 1) (by omega))
  refine x_iconstv hX dX0_takeFirstWaiting_0 (-1) (by decide) ?_
  refine x_istore_n hX (lv' := [_, _, _]) dX0_takeFirstWaiting_1 2 rfl (by decide) rfl rfl ?_
  refine x_iconstv hX dX0_takeFirstWaiting_2 0 (by decide) ?_
  refine x_istore_n hX (lv' := [_, _, _, _]) dX0_takeFirstWaiting_3 3 rfl (by decide) rfl rfl ?_
  exact x_as (rfl) (by simp [fBest, nI_0]) (loop n 0 (by omega))
theorem in_X0_lengthOfQueue : ∀ w ∈ wsX00, w ∈ wsX0_lengthOfQueue := by decide +kernel
set_option maxRecDepth 100000 in
set_option maxHeartbeats 4000000 in
theorem kX0_lengthOfQueue (l : Launch) (D : va_G) (cx : xC) (h : Nat → Nat) (s : xS) {n : Nat} (hN : okX s n) (a : Int32) : xI l yX0_lengthOfQueue wsX0_lengthOfQueue (xR 0 0) D cx [.ref (h 0), .int a] (wX cx h s) (fun _ : Unit => wX cx h (s)) (fun r _ => r = fLen s a n) := by
  refine x_enterI (own := RX0) (by decide) rfl rfl (fun v u hv => ?_) (Nat.le_of_ble_eq_true rfl) (fun X hX hret => ?_)
  · rfl
  have hin := in_X0_lengthOfQueue
  change xV X 4 0 0 (wX cx h s) 0 [(0, .ref (h 0)), (1, .int a)] []
  have loop : ∀ (m k : Nat), k + m = n → xV X 4 0 0 (wX cx h (s)) 4 [(0, .ref (h 0)), (1, .int a), (2, .int (fLen s a k)), (3, .int (nI k))] [] := by
    intro m
    induction m with
    | zero =>
      intro k hk
      obtain rfl : n = k := hk.symm
      refine x_iload_n hX dX0_lengthOfQueue_4 3 rfl ?_
      refine x_aload_n hX dX0_lengthOfQueue_5 0 rfl ?_
      refine gX12 hX hin (by decide +kernel) dX0_lengthOfQueue_6 ?_
      refine x_icmp_ge hX 31 dX0_lengthOfQueue_9 (by decide) (fun c_9 => ?_) (fun c_9 => ?_)
      · refine x_iload_n hX dX0_lengthOfQueue_31 2 rfl ?_
        exact hret _ () _ _ (rfl) dX0_lengthOfQueue_32
      · exact absurd (lp_yes hN.2 hN.lt rfl) c_9
    | succ m ih =>
      intro k hk
      have hkn : k < n := by omega
      have e9 : (nI k).toNatClampNeg = k := nI_clamp (by have := hN.lt; omega)
      refine x_iload_n hX dX0_lengthOfQueue_4 3 rfl ?_
      refine x_aload_n hX dX0_lengthOfQueue_5 0 rfl ?_
      refine gX12 hX hin (by decide +kernel) dX0_lengthOfQueue_6 ?_
      refine x_icmp_ge hX 31 dX0_lengthOfQueue_9 (by decide) (fun c_9 => ?_) (fun c_9 => ?_)
      · exact absurd c_9 (lp_no hN.2 hN.lt hkn)
      · refine x_aload_n hX dX0_lengthOfQueue_12 0 rfl ?_
        refine gX4 hX hin (by decide +kernel) dX0_lengthOfQueue_13 ?_
        refine x_iload_n hX dX0_lengthOfQueue_16 3 rfl ?_
        refine lX4 hX dX0_lengthOfQueue_17 (okX_in hN hkn) e9 ?_
        refine x_iload_n hX dX0_lengthOfQueue_18 1 rfl ?_
        refine x_icmp_ne hX 25 dX0_lengthOfQueue_19 (by decide) (fun c_19 => ?_) (fun c_19 => ?_)
        · refine x_iinc hX (lv' := [_, _, _, _]) dX0_lengthOfQueue_25 3 rfl (nI_i1 k) (by decide) rfl rfl ?_
          refine x_goto hX 4 dX0_lengthOfQueue_28 (by decide) ?_
          exact x_as (rfl) (by simp [fLen, c_9, c_19]) (ih (k + 1) (by omega))
        · refine x_iinc hX (lv' := [_, _, _, _]) dX0_lengthOfQueue_22 2 rfl rfl (by decide) rfl rfl ?_
          refine x_iinc hX (lv' := [_, _, _, _]) dX0_lengthOfQueue_25 3 rfl (nI_i1 k) (by decide) rfl rfl ?_
          refine x_goto hX 4 dX0_lengthOfQueue_28 (by decide) ?_
          exact x_as (rfl) (by simp [fLen, c_9, c_19]) (ih (k + 1) (by omega))
  refine x_iconstv hX dX0_lengthOfQueue_0 0 (by decide) ?_
  refine x_istore_n hX (lv' := [_, _, _]) dX0_lengthOfQueue_1 2 rfl (by decide) rfl rfl ?_
  refine x_iconstv hX dX0_lengthOfQueue_2 0 (by decide) ?_
  refine x_istore_n hX (lv' := [_, _, _, _]) dX0_lengthOfQueue_3 3 rfl (by decide) rfl rfl ?_
  exact x_as (rfl) (by simp [fLen, nI_0]) (loop n 0 (by omega))
theorem in_X0_escrow : ∀ w ∈ wsX00, w ∈ wsX0_escrow := by decide +kernel
set_option maxRecDepth 100000 in
set_option maxHeartbeats 4000000 in
theorem kX0_escrow (l : Launch) (D : va_G) (cx : xC) (h : Nat → Nat) (s : xS) {n : Nat} (hN : okX s n) : xI l yX0_escrow wsX0_escrow (xR 0 0) D cx [.ref (h 0)] (wX cx h s) (fun _ : Unit => wX cx h (s)) (fun r _ => r = fEscrow s n) := by
  refine x_enterI (own := RX0) (by decide) rfl rfl (fun v u hv => ?_) (Nat.le_of_ble_eq_true rfl) (fun X hX hret => ?_)
  · rfl
  have hin := in_X0_escrow
  change xV X 3 0 0 (wX cx h s) 0 [(0, .ref (h 0))] []
  have loop : ∀ (m k : Nat), k + m = n → xV X 3 0 0 (wX cx h (s)) 4 [(0, .ref (h 0)), (1, .int (fEscrow s k)), (2, .int (nI k))] [] := by
    intro m
    induction m with
    | zero =>
      intro k hk
      obtain rfl : n = k := hk.symm
      refine x_iload_n hX dX0_escrow_4 2 rfl ?_
      refine x_aload_n hX dX0_escrow_5 0 rfl ?_
      refine gX12 hX hin (by decide +kernel) dX0_escrow_6 ?_
      refine x_icmp_ge hX 46 dX0_escrow_9 (by decide) (fun c_9 => ?_) (fun c_9 => ?_)
      · refine x_iload_n hX dX0_escrow_46 1 rfl ?_
        exact hret _ () _ _ (rfl) dX0_escrow_47
      · exact absurd (lp_yes hN.2 hN.lt rfl) c_9
    | succ m ih =>
      intro k hk
      have hkn : k < n := by omega
      have e9 : (nI k).toNatClampNeg = k := nI_clamp (by have := hN.lt; omega)
      refine x_iload_n hX dX0_escrow_4 2 rfl ?_
      refine x_aload_n hX dX0_escrow_5 0 rfl ?_
      refine gX12 hX hin (by decide +kernel) dX0_escrow_6 ?_
      refine x_icmp_ge hX 46 dX0_escrow_9 (by decide) (fun c_9 => ?_) (fun c_9 => ?_)
      · exact absurd c_9 (lp_no hN.2 hN.lt hkn)
      · refine x_aload_n hX dX0_escrow_12 0 rfl ?_
        refine gX3 hX hin (by decide +kernel) dX0_escrow_13 ?_
        refine x_iload_n hX dX0_escrow_16 2 rfl ?_
        refine lX3 hX dX0_escrow_17 (okX_in hN hkn) e9 ?_
        refine x_if_eq hX 31 dX0_escrow_18 (by decide) (fun c_18 => ?_) (fun c_18 => ?_)
        · refine x_iload_n hX dX0_escrow_31 1 rfl ?_
          refine x_aload_n hX dX0_escrow_32 0 rfl ?_
          refine gX2 hX hin (by decide +kernel) dX0_escrow_33 ?_
          refine x_iload_n hX dX0_escrow_36 2 rfl ?_
          refine lX2 hX dX0_escrow_37 (okX_in hN hkn) e9 ?_
          refine x_iadd hX dX0_escrow_38 ?_
          refine x_istore_n hX (lv' := [_, _, _]) dX0_escrow_39 1 rfl (by decide) rfl rfl ?_
          refine x_iinc hX (lv' := [_, _, _]) dX0_escrow_40 2 rfl (nI_i1 k) (by decide) rfl rfl ?_
          refine x_goto hX 4 dX0_escrow_43 (by decide) ?_
          exact x_as (rfl) (by simp [fEscrow, c_9, c_18]) (ih (k + 1) (by omega))
        · refine x_aload_n hX dX0_escrow_21 0 rfl ?_
          refine gX3 hX hin (by decide +kernel) dX0_escrow_22 ?_
          refine x_iload_n hX dX0_escrow_25 2 rfl ?_
          refine lX3 hX dX0_escrow_26 (okX_in hN hkn) e9 ?_
          refine x_iconstv hX dX0_escrow_27 1 (by decide) ?_
          refine x_icmp_ne hX 40 dX0_escrow_28 (by decide) (fun c_28 => ?_) (fun c_28 => ?_)
          · refine x_iinc hX (lv' := [_, _, _]) dX0_escrow_40 2 rfl (nI_i1 k) (by decide) rfl rfl ?_
            refine x_goto hX 4 dX0_escrow_43 (by decide) ?_
            exact x_as (rfl) (by simp [fEscrow, c_9, c_18, c_28]) (ih (k + 1) (by omega))
          · refine x_iload_n hX dX0_escrow_31 1 rfl ?_
            refine x_aload_n hX dX0_escrow_32 0 rfl ?_
            refine gX2 hX hin (by decide +kernel) dX0_escrow_33 ?_
            refine x_iload_n hX dX0_escrow_36 2 rfl ?_
            refine lX2 hX dX0_escrow_37 (okX_in hN hkn) e9 ?_
            refine x_iadd hX dX0_escrow_38 ?_
            refine x_istore_n hX (lv' := [_, _, _]) dX0_escrow_39 1 rfl (by decide) rfl rfl ?_
            refine x_iinc hX (lv' := [_, _, _]) dX0_escrow_40 2 rfl (nI_i1 k) (by decide) rfl rfl ?_
            refine x_goto hX 4 dX0_escrow_43 (by decide) ?_
            exact x_as (rfl) (by simp [fEscrow, c_9, c_18, c_28]) (ih (k + 1) (by omega))
  refine x_iconstv hX dX0_escrow_0 0 (by decide) ?_
  refine x_istore_n hX (lv' := [_, _]) dX0_escrow_1 1 rfl (by decide) rfl rfl ?_
  refine x_iconstv hX dX0_escrow_2 0 (by decide) ?_
  refine x_istore_n hX (lv' := [_, _, _]) dX0_escrow_3 2 rfl (by decide) rfl rfl ?_
  exact x_as (rfl) (by simp [fEscrow, nI_0]) (loop n 0 (by omega))
