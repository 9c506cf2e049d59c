theorem in_X1_goes : ∀ w ∈ wsX10, w ∈ wsX1_goes := by decide +kernel
set_option maxRecDepth 100000 in
set_option maxHeartbeats 4000000 in
theorem kX1_goes (l : Launch) (D : va_G) (cx : xC) (h : Nat → Nat) (s : xS) {n : Nat} (hM : okM s n) (a : Int32) (hax : ix a < n) (ha : vp_in a 60) : xI l yX1_goes wsX1_goes (xR 1 21) D cx [.ref (h 0), .int a] (wM cx h s) (fun _ : Unit => wM cx h (gGo s a)) (fun r _ => r = if s 10 (ix a) = gHome s a then 1 else 0) := by
  refine x_enterI (own := RX1) (by decide) rfl rfl (fun v u hv => ?_) (Nat.le_of_ble_eq_true rfl) (fun X hX hret => ?_)
  · rw [hv]; split <;> rfl
  have hin := in_X1_goes
  change xV X 5 0 0 (wM cx h s) 0 [(0, .ref (h 0)), (1, .int a)] []
  have hc := hM.2.2.1 _ hax
  have hh : P4 (gHome s a) := P8_home hc.2.1
  refine x_aload_n hX dX1_goes_0 0 rfl ?_
  refine gM10 hX hin (by decide +kernel) dX1_goes_1 ?_
  refine x_iload_n hX dX1_goes_4 1 rfl ?_
  refine lM10 hX dX1_goes_5 ha rfl ?_
  refine x_istore_n hX (lv' := [_, _, _]) dX1_goes_6 2 rfl (by decide) rfl rfl ?_
  refine x_aload_n hX dX1_goes_7 0 rfl ?_
  refine gM7 hX hin (by decide +kernel) dX1_goes_8 ?_
  refine x_iload_n hX dX1_goes_11 1 rfl ?_
  refine lM7 hX dX1_goes_12 ha rfl ?_
  refine x_iconstv hX dX1_goes_13 4 (by decide) ?_
  refine x_irem hX dX1_goes_14 (by decide) ?_
  refine x_istore_n hX (lv' := [_, _, _, _]) dX1_goes_15 3 rfl (by decide) rfl rfl ?_
  refine x_aload_n hX dX1_goes_16 0 rfl ?_
  refine gM1 hX hin (by decide +kernel) dX1_goes_17 ?_
  refine x_iconstv hX dX1_goes_20 4 (by decide) ?_
  refine x_iload_n hX dX1_goes_21 2 rfl ?_
  refine x_imul hX dX1_goes_22 ?_
  refine x_iload_n hX dX1_goes_23 3 rfl ?_
  refine x_iadd hX dX1_goes_24 ?_
  refine lM1 hX dX1_goes_25 (P4_in16m hc.2.2 hh) rfl ?_
  refine x_istore hX (lv' := [_, _, _, _, _]) dX1_goes_26  (by decide) rfl rfl ?_
  refine x_iload_n hX dX1_goes_28 2 rfl ?_
  refine x_iload_n hX dX1_goes_29 3 rfl ?_
  refine x_icmp_ne hX 52 dX1_goes_30 (by decide) (fun c_30 => ?_) (fun c_30 => ?_)
  · replace c_30 : ¬ s 10 (ix a) = gHome s a := c_30
    refine x_aload_n hX dX1_goes_52 0 rfl ?_
    refine gM11 hX hin (by decide +kernel) dX1_goes_53 ?_
    refine x_iload_n hX dX1_goes_56 1 rfl ?_
    refine lM11 hX dX1_goes_57 ha rfl ?_
    refine x_iload hX dX1_goes_58 4 rfl ?_
    refine x_csi hX dX1_goes_60 2 rfl (kX1_has l D cx _ _) gX1_goes_X1_has rfl ⟨by decide, by decide, by decide +kernel⟩ ⟨rfl, rfl, Nat.le_of_ble_eq_true rfl, Nat.le_of_ble_eq_true rfl, Nat.zero_le _, Nat.zero_le _⟩ (Nat.le_of_ble_eq_true rfl) rfl (fun r_60 _ hq_60 => ?_)
    obtain rfl := hq_60
    refine x_if_eq hX 91 dX1_goes_63 (by decide) (fun c_63 => ?_) (fun c_63 => ?_)
    · replace c_63 := xb_f.mp c_63
      replace c_63 : ¬ gHas (s 11 (ix a)) (gNext s a) := c_63
      refine x_aload_n hX dX1_goes_91 0 rfl ?_
      refine gM10 hX hin (by decide +kernel) dX1_goes_92 ?_
      refine x_iload_n hX dX1_goes_95 1 rfl ?_
      refine x_iload hX dX1_goes_96 4 rfl ?_
      refine sM10 hX dX1_goes_98 ha rfl ?_
      refine x_aload_n hX dX1_goes_99 0 rfl ?_
      refine gM11 hX hin (by decide +kernel) dX1_goes_100 ?_
      refine x_iload_n hX dX1_goes_103 1 rfl ?_
      refine x_dup2 hX dX1_goes_104 rfl rfl ?_
      refine lM11 hX dX1_goes_105 ha rfl ?_
      refine x_iconstv hX dX1_goes_106 1 (by decide) ?_
      refine x_iload hX dX1_goes_107 4 rfl ?_
      refine x_ishl hX dX1_goes_109 ?_
      refine x_ior hX dX1_goes_110 ?_
      refine sM11 hX dX1_goes_111 ha rfl ?_
      refine x_iconstv hX dX1_goes_112 0 (by decide) ?_
      exact x_asr (congrArg (wM cx h) (by simp only [gGo, if_neg c_30, if_neg c_63]; try rfl)) rfl (hret _ () _ _ (by simp only [if_neg c_30, if_neg c_63]) dX1_goes_113)
    · replace c_63 := xb_t.mp c_63
      replace c_63 : gHas (s 11 (ix a)) (gNext s a) := c_63
      refine x_aload_n hX dX1_goes_66 0 rfl ?_
      refine gM9 hX hin (by decide +kernel) dX1_goes_67 ?_
      refine x_iload_n hX dX1_goes_70 1 rfl ?_
      refine x_iconstv hX dX1_goes_71 4 (by decide) ?_
      refine sM9 hX dX1_goes_72 ha rfl ?_
      refine x_aload_n hX dX1_goes_73 0 rfl ?_
      refine gM3 hX hin (by decide +kernel) dX1_goes_74 ?_
      refine x_iload_n hX dX1_goes_77 2 rfl ?_
      refine x_dup2 hX dX1_goes_78 rfl rfl ?_
      refine lM3 hX dX1_goes_79 (P4_in hc.2.2) rfl ?_
      refine x_aload_n hX dX1_goes_80 0 rfl ?_
      refine gM8 hX hin (by decide +kernel) dX1_goes_81 ?_
      refine x_iload_n hX dX1_goes_84 1 rfl ?_
      refine lM8 hX dX1_goes_85 ha rfl ?_
      refine x_iadd hX dX1_goes_86 ?_
      refine sM3 hX dX1_goes_87 (P4_in hc.2.2) rfl ?_
      refine x_goto hX 112 dX1_goes_88 (by decide) ?_
      refine x_iconstv hX dX1_goes_112 0 (by decide) ?_
      exact x_asr (congrArg (wM cx h) (by simp only [gGo, if_neg c_30, if_pos c_63]; try rfl)) rfl (hret _ () _ _ (by simp only [if_neg c_30, if_pos c_63]) dX1_goes_113)
  · replace c_30 : s 10 (ix a) = gHome s a := c_30
    refine x_aload_n hX dX1_goes_33 0 rfl ?_
    refine gM9 hX hin (by decide +kernel) dX1_goes_34 ?_
    refine x_iload_n hX dX1_goes_37 1 rfl ?_
    refine x_iconstv hX dX1_goes_38 1 (by decide) ?_
    refine sM9 hX dX1_goes_39 ha rfl ?_
    refine x_aload_n hX dX1_goes_40 0 rfl ?_
    refine gM12 hX hin (by decide +kernel) dX1_goes_41 ?_
    refine x_iload_n hX dX1_goes_44 1 rfl ?_
    refine x_aload_n hX dX1_goes_45 0 rfl ?_
    refine gM0 hX hin (by decide +kernel) dX1_goes_46 ?_
    refine sM12 hX dX1_goes_49 ha rfl ?_
    refine x_iconstv hX dX1_goes_50 1 (by decide) ?_
    exact x_asr (congrArg (wM cx h) (by simp only [gGo, if_pos c_30]; try rfl)) rfl (hret _ () _ _ (by simp only [if_pos c_30]) dX1_goes_51)
theorem in_X1_way : ∀ w ∈ wsX10, w ∈ wsX1_way := by decide +kernel
set_option maxRecDepth 100000 in
set_option maxHeartbeats 4000000 in
theorem kX1_way (l : Launch) (D : va_G) (cx : xC) (h : Nat → Nat) (s : xS) {n : Nat} (hM : okM s n) (a b : Int32) (ha : P4 a) (hb : P4 b) : xI l yX1_way wsX1_way (xR 1 21) D cx [.ref (h 0), .int a, .int b] (wM cx h s) (fun _ : Unit => wM cx h (s)) (fun r _ => r = gWay s b 4 a (1 <<< (a &&& 31)) 0) := by
  refine x_enterI (own := RX1) (by decide) rfl rfl (fun v u hv => ?_) (Nat.le_of_ble_eq_true rfl) (fun X hX hret => ?_)
  · rfl
  have hin := in_X1_way
  change xV X 6 0 0 (wM cx h s) 0 [(0, .ref (h 0)), (1, .int a), (2, .int b)] []
  have loop : ∀ (m : Nat) (x : Int32) (j : Nat) (y : Int32), P4 x → j < 16 → zN j ≤ m → gWay s b 4 a (1 <<< (a &&& 31)) 0 = gWay s b (m + 1) x (nI j) y → xV X 6 0 0 (wM cx h s) 10 [(0, .ref (h 0)), (1, .int a), (2, .int b), (3, .int x), (4, .int (nI j)), (5, .int y)] [] := by
    intro m
    induction m with
    | zero =>
      intro x j y hx hj hz he
      refine x_iload_n hX dX1_way_10 3 rfl ?_
      refine x_iload_n hX dX1_way_11 2 rfl ?_
      refine x_icmp_eq hX 51 dX1_way_12 (by decide) (fun c_12 => ?_) (fun c_12 => ?_)
      · refine x_iload hX dX1_way_51 5 rfl ?_
        exact hret _ () _ _ (by rw [he]; simp only [gWay, if_pos c_12]) dX1_way_53
      · refine x_aload_n hX dX1_way_15 0 rfl ?_
        refine gM1 hX hin (by decide +kernel) dX1_way_16 ?_
        refine x_iconstv hX dX1_way_19 4 (by decide) ?_
        refine x_iload_n hX dX1_way_20 3 rfl ?_
        refine x_imul hX dX1_way_21 ?_
        refine x_iload_n hX dX1_way_22 2 rfl ?_
        refine x_iadd hX dX1_way_23 ?_
        refine lM1 hX dX1_way_24 (P4_in16m hx hb) rfl ?_
        obtain ⟨q, hq, hqe⟩ := vp_in_of (P4_in (hM.2.2.2 _ (Nat.not_le.mp fun q => (P4_in16m hx hb) (Or.inr q)))) (by decide)
        refine x_istore_n hX (lv' := [_, _, _, _, _, _]) dX1_way_25 3 rfl (by decide) rfl rfl ?_
        refine x_iload hX dX1_way_26 4 rfl ?_
        refine x_iload_n hX dX1_way_28 3 rfl ?_
        refine x_csi hX dX1_way_29 2 rfl (kX1_has l D cx _ _) gX1_way_X1_has rfl ⟨by decide, by decide, by decide +kernel⟩ ⟨rfl, rfl, Nat.le_of_ble_eq_true rfl, Nat.le_of_ble_eq_true rfl, Nat.zero_le _, Nat.zero_le _⟩ (Nat.le_of_ble_eq_true rfl) rfl (fun r_29 _ hq_29 => ?_)
        obtain rfl := hq_29
        refine x_if_eq hX 37 dX1_way_32 (by decide) (fun c_32 => ?_) (fun c_32 => ?_)
        · replace c_32 := xb_f.mp c_32
          exact absurd hz (by obtain ⟨i, h1, h2, h3⟩ := way_step j hj _ hq (by rw [← hqe]; exact c_32); omega)
        · replace c_32 := xb_t.mp c_32
          refine x_iconstv hX dX1_way_35 (-1) (by decide) ?_
          exact hret _ () _ _ (by rw [he]; simp only [gWay, if_neg c_12, if_pos c_32]) dX1_way_36
    | succ m ih =>
      intro x j y hx hj hz he
      refine x_iload_n hX dX1_way_10 3 rfl ?_
      refine x_iload_n hX dX1_way_11 2 rfl ?_
      refine x_icmp_eq hX 51 dX1_way_12 (by decide) (fun c_12 => ?_) (fun c_12 => ?_)
      · refine x_iload hX dX1_way_51 5 rfl ?_
        exact hret _ () _ _ (by rw [he]; simp only [gWay, if_pos c_12]) dX1_way_53
      · refine x_aload_n hX dX1_way_15 0 rfl ?_
        refine gM1 hX hin (by decide +kernel) dX1_way_16 ?_
        refine x_iconstv hX dX1_way_19 4 (by decide) ?_
        refine x_iload_n hX dX1_way_20 3 rfl ?_
        refine x_imul hX dX1_way_21 ?_
        refine x_iload_n hX dX1_way_22 2 rfl ?_
        refine x_iadd hX dX1_way_23 ?_
        refine lM1 hX dX1_way_24 (P4_in16m hx hb) rfl ?_
        obtain ⟨q, hq, hqe⟩ := vp_in_of (P4_in (hM.2.2.2 _ (Nat.not_le.mp fun q => (P4_in16m hx hb) (Or.inr q)))) (by decide)
        refine x_istore_n hX (lv' := [_, _, _, _, _, _]) dX1_way_25 3 rfl (by decide) rfl rfl ?_
        refine x_iload hX dX1_way_26 4 rfl ?_
        refine x_iload_n hX dX1_way_28 3 rfl ?_
        refine x_csi hX dX1_way_29 2 rfl (kX1_has l D cx _ _) gX1_way_X1_has rfl ⟨by decide, by decide, by decide +kernel⟩ ⟨rfl, rfl, Nat.le_of_ble_eq_true rfl, Nat.le_of_ble_eq_true rfl, Nat.zero_le _, Nat.zero_le _⟩ (Nat.le_of_ble_eq_true rfl) rfl (fun r_29 _ hq_29 => ?_)
        obtain rfl := hq_29
        refine x_if_eq hX 37 dX1_way_32 (by decide) (fun c_32 => ?_) (fun c_32 => ?_)
        · replace c_32 := xb_f.mp c_32
          refine x_iload hX dX1_way_37 4 rfl ?_
          refine x_iconstv hX dX1_way_39 1 (by decide) ?_
          refine x_iload_n hX dX1_way_40 3 rfl ?_
          refine x_ishl hX dX1_way_41 ?_
          refine x_ior hX dX1_way_42 ?_
          refine x_istore hX (lv' := [_, _, _, _, _, _]) dX1_way_43  (by decide) rfl rfl ?_
          refine x_iinc hX (lv' := [_, _, _, _, _, _]) dX1_way_45 5 rfl rfl (by decide) rfl rfl ?_
          refine x_goto hX 10 dX1_way_48 (by decide) ?_
          have c9 := c_32
          rw [hqe] at c9
          obtain ⟨i, h1, h2, h3⟩ := way_step j hj q hq c9
          refine x_as rfl (by rw [hqe, h2]) (ih (nI q) i _ ⟨nI_pos' (by omega), nI_lt hq (by decide)⟩ h1 (by omega) ?_)
          rw [he]
          rw [gWay, if_neg c_12, if_neg c_32, hqe, h2]
          rfl
        · replace c_32 := xb_t.mp c_32
          refine x_iconstv hX dX1_way_35 (-1) (by decide) ?_
          exact hret _ () _ _ (by rw [he]; simp only [gWay, if_neg c_12, if_pos c_32]) dX1_way_36
  refine x_iload_n hX dX1_way_0 1 rfl ?_
  refine x_istore_n hX (lv' := [_, _, _, _]) dX1_way_1 3 rfl (by decide) rfl rfl ?_
  refine x_iconstv hX dX1_way_2 1 (by decide) ?_
  refine x_iload_n hX dX1_way_3 1 rfl ?_
  refine x_ishl hX dX1_way_4 ?_
  refine x_istore hX (lv' := [_, _, _, _, _]) dX1_way_5  (by decide) rfl rfl ?_
  refine x_iconstv hX dX1_way_7 0 (by decide) ?_
  refine x_istore hX (lv' := [_, _, _, _, _, _]) dX1_way_8  (by decide) rfl rfl ?_
  obtain ⟨q, hq, hqe⟩ := vp_in_of (P4_in ha) (by decide)
  obtain ⟨i, h1, h2, h3⟩ := way_init q hq
  have e9 : 1 <<< (a &&& 31) = nI i := by rw [hqe]; exact h2
  exact x_as rfl (by rw [e9]) (loop 3 a i 0 ha h1 h3 (by rw [e9]))
theorem in_X1_ticks : ∀ w ∈ wsX10, w ∈ wsX1_ticks := by decide +kernel
set_option maxRecDepth 100000 in
set_option maxHeartbeats 4000000 in
theorem kX1_ticks (l : Launch) (D : va_G) (cx : xC) (h : Nat → Nat) (s : xS) {n : Nat} (hM : okM s n) : xI l yX1_ticks wsX1_ticks (xR 4 92) D cx [.ref (h 0)] (wM cx h s) (fun _ : Unit => wM cx h (gTick s n)) (fun r _ => r = gTickN s n) := by
  refine x_enterI (own := RX1) (by decide) rfl rfl (fun v u hv => ?_) (Nat.le_of_ble_eq_true rfl) (fun X hX hret => ?_)
  · rfl
  have hin := in_X1_ticks
  change xV X 3 0 0 (wM cx h s) 0 [(0, .ref (h 0))] []
  have loop3 : ∀ (m k : Nat), k + m = n → xV X 3 0 0 (wM cx h (gExp (gGos (gTick0 s n) n) k)) 100 [(0, .ref (h 0)), (1, .int (gTickN s n)), (2, .int (nI k))] [] := by
    intro m
    induction m with
    | zero =>
      intro k hk
      obtain rfl : n = k := hk.symm
      have hMk := (hM.tick0.gos n (Nat.le_refl n)).exp n
      refine x_iload_n hX dX1_ticks_100 2 rfl ?_
      refine x_aload_n hX dX1_ticks_101 0 rfl ?_
      refine gM5 hX hin (by decide +kernel) dX1_ticks_102 ?_
      refine x_icmp_ge hX 167 dX1_ticks_105 (by decide) (fun c_105 => ?_) (fun c_105 => ?_)
      · refine x_iload_n hX dX1_ticks_167 1 rfl ?_
        exact hret _ () _ _ (rfl) dX1_ticks_168
      · exact absurd (lp_yes hMk.2.1 hM.lt rfl) c_105
    | succ m ih =>
      intro k hk
      have hkn : k < n := by omega
      have e9 : (nI k).toNatClampNeg = k := nI_clamp (by have := hM.lt; omega)
      have hMk := (hM.tick0.gos n (Nat.le_refl n)).exp k
      refine x_iload_n hX dX1_ticks_100 2 rfl ?_
      refine x_aload_n hX dX1_ticks_101 0 rfl ?_
      refine gM5 hX hin (by decide +kernel) dX1_ticks_102 ?_
      refine x_icmp_ge hX 167 dX1_ticks_105 (by decide) (fun c_105 => ?_) (fun c_105 => ?_)
      · exact absurd c_105 (lp_no hMk.2.1 hM.lt hkn)
      · refine x_aload_n hX dX1_ticks_108 0 rfl ?_
        refine gM9 hX hin (by decide +kernel) dX1_ticks_109 ?_
        refine x_iload_n hX dX1_ticks_112 2 rfl ?_
        refine lM9 hX dX1_ticks_113 (okM_in hM hkn) e9 ?_
        refine x_iconstv hX dX1_ticks_114 1 (by decide) ?_
        refine x_icmp_ne hX 161 dX1_ticks_115 (by decide) (fun c_115 => ?_) (fun c_115 => ?_)
        · refine x_iinc hX (lv' := [_, _, _]) dX1_ticks_161 2 rfl (nI_i1 k) (by decide) rfl rfl ?_
          refine x_goto hX 100 dX1_ticks_164 (by decide) ?_
          exact x_as (congrArg (wM cx h) (by simp only [gExp, if_neg c_105, if_neg c_115]; try rfl)) rfl (ih (k + 1) (by omega))
        · refine x_aload_n hX dX1_ticks_118 0 rfl ?_
          refine gM0 hX hin (by decide +kernel) dX1_ticks_119 ?_
          refine x_aload_n hX dX1_ticks_122 0 rfl ?_
          refine gM12 hX hin (by decide +kernel) dX1_ticks_123 ?_
          refine x_iload_n hX dX1_ticks_126 2 rfl ?_
          refine lM12 hX dX1_ticks_127 (okM_in hM hkn) e9 ?_
          refine x_isub hX dX1_ticks_128 ?_
          refine x_bipushv hX dX1_ticks_129 20 (by decide) ?_
          refine x_icmp_ne hX 161 dX1_ticks_131 (by decide) (fun c_131 => ?_) (fun c_131 => ?_)
          · refine x_iinc hX (lv' := [_, _, _]) dX1_ticks_161 2 rfl (nI_i1 k) (by decide) rfl rfl ?_
            refine x_goto hX 100 dX1_ticks_164 (by decide) ?_
            exact x_as (congrArg (wM cx h) (by simp only [gExp, if_neg c_105, if_pos c_115, if_neg c_131]; try rfl)) rfl (ih (k + 1) (by omega))
          · refine x_aload_n hX dX1_ticks_134 0 rfl ?_
            refine gM9 hX hin (by decide +kernel) dX1_ticks_135 ?_
            refine x_iload_n hX dX1_ticks_138 2 rfl ?_
            refine x_iconstv hX dX1_ticks_139 5 (by decide) ?_
            refine sM9 hX dX1_ticks_140 (okM_in hM hkn) e9 ?_
            refine x_aload_n hX dX1_ticks_141 0 rfl ?_
            refine gM2 hX hin (by decide +kernel) dX1_ticks_142 ?_
            refine x_aload_n hX dX1_ticks_145 0 rfl ?_
            refine gM6 hX hin (by decide +kernel) dX1_ticks_146 ?_
            refine x_iload_n hX dX1_ticks_149 2 rfl ?_
            refine lM6 hX dX1_ticks_150 (okM_in hM hkn) e9 ?_
            refine x_dup2 hX dX1_ticks_151 rfl rfl ?_
            refine lM2 hX dX1_ticks_152 (P8_in (hMk.2.2.1 _ hkn).1) rfl ?_
            refine x_aload_n hX dX1_ticks_153 0 rfl ?_
            refine gM8 hX hin (by decide +kernel) dX1_ticks_154 ?_
            refine x_iload_n hX dX1_ticks_157 2 rfl ?_
            refine lM8 hX dX1_ticks_158 (okM_in hM hkn) e9 ?_
            refine x_iadd hX dX1_ticks_159 ?_
            refine sM2 hX dX1_ticks_160 (P8_in (hMk.2.2.1 _ hkn).1) rfl ?_
            refine x_iinc hX (lv' := [_, _, _]) dX1_ticks_161 2 rfl (nI_i1 k) (by decide) rfl rfl ?_
            refine x_goto hX 100 dX1_ticks_164 (by decide) ?_
            exact x_as (congrArg (wM cx h) (by simp only [gExp, if_neg c_105, if_pos c_115, if_pos c_131]; try rfl)) rfl (ih (k + 1) (by omega))
  have loop2 : ∀ (m k : Nat), k + m = n → xV X 3 0 0 (wM cx h (gGos (gTick0 s n) k)) 59 [(0, .ref (h 0)), (1, .int (gGosN (gTick0 s n) k)), (2, .int (nI k))] [] := by
    intro m
    induction m with
    | zero =>
      intro k hk
      obtain rfl : n = k := hk.symm
      have hMk := hM.tick0.gos n (by omega)
      refine x_iload_n hX dX1_ticks_59 2 rfl ?_
      refine x_aload_n hX dX1_ticks_60 0 rfl ?_
      refine gM5 hX hin (by decide +kernel) dX1_ticks_61 ?_
      refine x_icmp_ge hX 98 dX1_ticks_64 (by decide) (fun c_64 => ?_) (fun c_64 => ?_)
      · refine x_iconstv hX dX1_ticks_98 0 (by decide) ?_
        refine x_istore_n hX (lv' := [_, _, _]) dX1_ticks_99 2 rfl (by decide) rfl rfl ?_
        exact x_as rfl (by simp [gTickN, nI_0]) (loop3 n 0 (by omega))
      · exact absurd (lp_yes hMk.2.1 hM.lt rfl) c_64
    | succ m ih =>
      intro k hk
      have hkn : k < n := by omega
      have e9 : (nI k).toNatClampNeg = k := nI_clamp (by have := hM.lt; omega)
      have hMk := hM.tick0.gos k (by omega)
      refine x_iload_n hX dX1_ticks_59 2 rfl ?_
      refine x_aload_n hX dX1_ticks_60 0 rfl ?_
      refine gM5 hX hin (by decide +kernel) dX1_ticks_61 ?_
      refine x_icmp_ge hX 98 dX1_ticks_64 (by decide) (fun c_64 => ?_) (fun c_64 => ?_)
      · exact absurd c_64 (lp_no hMk.2.1 hM.lt hkn)
      · refine x_iload_n hX dX1_ticks_67 1 rfl ?_
        refine x_aload_n hX dX1_ticks_68 0 rfl ?_
        refine gM14 hX hin (by decide +kernel) dX1_ticks_69 ?_
        refine x_iload_n hX dX1_ticks_72 2 rfl ?_
        refine lM14 hX dX1_ticks_73 (okM_in hM hkn) e9 ?_
        refine x_if_eq hX 89 dX1_ticks_74 (by decide) (fun c_74 => ?_) (fun c_74 => ?_)
        · refine x_iconstv hX dX1_ticks_89 0 (by decide) ?_
          refine x_iadd hX dX1_ticks_90 ?_
          refine x_istore_n hX (lv' := [_, _, _]) dX1_ticks_91 1 rfl (by decide) rfl rfl ?_
          refine x_iinc hX (lv' := [_, _, _]) dX1_ticks_92 2 rfl (nI_i1 k) (by decide) rfl rfl ?_
          refine x_goto hX 59 dX1_ticks_95 (by decide) ?_
          exact x_as (congrArg (wM cx h) (by simp only [gGos, if_neg c_64, if_pos c_74])) (by simp only [gGosN, if_neg c_64, if_pos c_74]) (ih (k + 1) (by omega))
        · refine x_aload_n hX dX1_ticks_77 0 rfl ?_
          refine x_iload_n hX dX1_ticks_78 2 rfl ?_
          refine x_cvi hX dX1_ticks_79 1 rfl (kX1_goes l D cx h _ hMk _ (by rw [ix_n (by have := hMk.lt; omega)]; exact hkn) (okM_in hMk hkn)) gX1_ticks_X1_goes rfl ⟨rfl, by decide, by decide, by decide +kernel⟩ ⟨rfl, rfl, Nat.le_of_ble_eq_true rfl, Nat.le_of_ble_eq_true rfl, Nat.zero_le _, Nat.zero_le _⟩ rfl rfl (Nat.le_of_ble_eq_true rfl) rfl (fun r_79 _ hq_79 => ?_)
          obtain rfl := hq_79
          refine x_if_eq hX 89 dX1_ticks_82 (by decide) (fun c_82 => ?_) (fun c_82 => ?_)
          · replace c_82 := xb_f.mp c_82
            refine x_iconstv hX dX1_ticks_89 0 (by decide) ?_
            refine x_iadd hX dX1_ticks_90 ?_
            refine x_istore_n hX (lv' := [_, _, _]) dX1_ticks_91 1 rfl (by decide) rfl rfl ?_
            refine x_iinc hX (lv' := [_, _, _]) dX1_ticks_92 2 rfl (nI_i1 k) (by decide) rfl rfl ?_
            refine x_goto hX 59 dX1_ticks_95 (by decide) ?_
            exact x_as (congrArg (wM cx h) (by simp only [gGos, if_neg c_64, if_neg c_74, if_neg c_82])) (by simp only [gGosN, if_neg c_64, if_neg c_74, if_neg c_82]) (ih (k + 1) (by omega))
          · replace c_82 := xb_t.mp c_82
            refine x_iconstv hX dX1_ticks_85 1 (by decide) ?_
            refine x_goto hX 90 dX1_ticks_86 (by decide) ?_
            refine x_iadd hX dX1_ticks_90 ?_
            refine x_istore_n hX (lv' := [_, _, _]) dX1_ticks_91 1 rfl (by decide) rfl rfl ?_
            refine x_iinc hX (lv' := [_, _, _]) dX1_ticks_92 2 rfl (nI_i1 k) (by decide) rfl rfl ?_
            refine x_goto hX 59 dX1_ticks_95 (by decide) ?_
            exact x_as (congrArg (wM cx h) (by simp only [gGos, if_neg c_64, if_neg c_74, if_pos c_82])) (by simp only [gGosN, if_neg c_64, if_neg c_74, if_pos c_82]) (ih (k + 1) (by omega))
  have loop1 : ∀ (m k : Nat), k + m = n → xV X 3 0 0 (wM cx h (gMv (xup s 0 0 (s 0 0 + 1)) n k)) 14 [(0, .ref (h 0)), (1, .int 0), (2, .int (nI k))] [] := by
    intro m
    induction m with
    | zero =>
      intro k hk
      obtain rfl : n = k := hk.symm
      have hMk := (hM.up (j := 0) (i := 0) (v := s 0 0 + 1) rfl).mv n
      refine x_iload_n hX dX1_ticks_14 2 rfl ?_
      refine x_aload_n hX dX1_ticks_15 0 rfl ?_
      refine gM5 hX hin (by decide +kernel) dX1_ticks_16 ?_
      refine x_icmp_ge hX 57 dX1_ticks_19 (by decide) (fun c_19 => ?_) (fun c_19 => ?_)
      · refine x_iconstv hX dX1_ticks_57 0 (by decide) ?_
        refine x_istore_n hX (lv' := [_, _, _]) dX1_ticks_58 2 rfl (by decide) rfl rfl ?_
        exact x_as rfl (by simp [gGosN, nI_0]) (loop2 n 0 (by omega))
      · exact absurd (lp_yes hMk.2.1 hM.lt rfl) c_19
    | succ m ih =>
      intro k hk
      have hkn : k < n := by omega
      have e9 : (nI k).toNatClampNeg = k := nI_clamp (by have := hM.lt; omega)
      have hMk := (hM.up (j := 0) (i := 0) (v := s 0 0 + 1) rfl).mv k
      refine x_iload_n hX dX1_ticks_14 2 rfl ?_
      refine x_aload_n hX dX1_ticks_15 0 rfl ?_
      refine gM5 hX hin (by decide +kernel) dX1_ticks_16 ?_
      refine x_icmp_ge hX 57 dX1_ticks_19 (by decide) (fun c_19 => ?_) (fun c_19 => ?_)
      · exact absurd c_19 (lp_no hMk.2.1 hM.lt hkn)
      · refine x_aload_n hX dX1_ticks_22 0 rfl ?_
        refine gM14 hX hin (by decide +kernel) dX1_ticks_23 ?_
        refine x_iload_n hX dX1_ticks_26 2 rfl ?_
        refine x_aload_n hX dX1_ticks_27 0 rfl ?_
        refine gM9 hX hin (by decide +kernel) dX1_ticks_28 ?_
        refine x_iload_n hX dX1_ticks_31 2 rfl ?_
        refine lM9 hX dX1_ticks_32 (okM_in hM hkn) e9 ?_
        refine x_if_ne hX 49 dX1_ticks_33 (by decide) (fun c_33 => ?_) (fun c_33 => ?_)
        · refine x_iconstv hX dX1_ticks_49 0 (by decide) ?_
          refine sM14 hX dX1_ticks_50 (okM_in hM hkn) e9 ?_
          refine x_iinc hX (lv' := [_, _, _]) dX1_ticks_51 2 rfl (nI_i1 k) (by decide) rfl rfl ?_
          refine x_goto hX 14 dX1_ticks_54 (by decide) ?_
          exact x_as (congrArg (wM cx h) (by simp only [gMv, if_neg c_19, if_neg c_33])) rfl (ih (k + 1) (by omega))
        · refine x_aload_n hX dX1_ticks_36 0 rfl ?_
          refine x_iload_n hX dX1_ticks_37 2 rfl ?_
          refine x_cvi hX dX1_ticks_38 1 rfl (kX1_placeOf l D cx h _ hMk _ (okM_in hMk hkn)) gX1_ticks_X1_placeOf rfl ⟨rfl, by decide, by decide, by decide +kernel⟩ ⟨rfl, rfl, Nat.le_of_ble_eq_true rfl, Nat.le_of_ble_eq_true rfl, Nat.zero_le _, Nat.zero_le _⟩ rfl rfl (Nat.le_of_ble_eq_true rfl) rfl (fun r_38 _ hq_38 => ?_)
          obtain rfl := hq_38
          refine x_iconstv hX dX1_ticks_41 2 (by decide) ?_
          refine x_icmp_ge hX 49 dX1_ticks_42 (by decide) (fun c_42 => ?_) (fun c_42 => ?_)
          · refine x_iconstv hX dX1_ticks_49 0 (by decide) ?_
            refine sM14 hX dX1_ticks_50 (okM_in hM hkn) e9 ?_
            refine x_iinc hX (lv' := [_, _, _]) dX1_ticks_51 2 rfl (nI_i1 k) (by decide) rfl rfl ?_
            refine x_goto hX 14 dX1_ticks_54 (by decide) ?_
            exact x_as (congrArg (wM cx h) (by simp only [gMv, if_neg c_19, if_pos c_33, if_pos c_42])) rfl (ih (k + 1) (by omega))
          · refine x_iconstv hX dX1_ticks_45 1 (by decide) ?_
            refine x_goto hX 50 dX1_ticks_46 (by decide) ?_
            refine sM14 hX dX1_ticks_50 (okM_in hM hkn) e9 ?_
            refine x_iinc hX (lv' := [_, _, _]) dX1_ticks_51 2 rfl (nI_i1 k) (by decide) rfl rfl ?_
            refine x_goto hX 14 dX1_ticks_54 (by decide) ?_
            exact x_as (congrArg (wM cx h) (by simp only [gMv, if_neg c_19, if_pos c_33, if_neg c_42])) rfl (ih (k + 1) (by omega))
  refine x_iconstv hX dX1_ticks_0 0 (by decide) ?_
  refine x_istore_n hX (lv' := [_, _]) dX1_ticks_1 1 rfl (by decide) rfl rfl ?_
  refine x_aload_n hX dX1_ticks_2 0 rfl ?_
  refine x_dup hX dX1_ticks_3 rfl ?_
  refine gM0 hX hin (by decide +kernel) dX1_ticks_4 ?_
  refine x_iconstv hX dX1_ticks_7 1 (by decide) ?_
  refine x_iadd hX dX1_ticks_8 ?_
  refine pM0 hX hin (by decide +kernel) dX1_ticks_9 ?_
  refine x_iconstv hX dX1_ticks_12 0 (by decide) ?_
  refine x_istore_n hX (lv' := [_, _, _]) dX1_ticks_13 2 rfl (by decide) rfl rfl ?_
  exact x_as rfl (by simp [nI_0]) (loop1 n 0 (by omega))
