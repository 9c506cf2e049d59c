theorem in_X0_init : ∀ w ∈ wsX00, w ∈ wsX0_init := by decide +kernel
set_option maxRecDepth 100000 in
set_option maxHeartbeats 8000000 in
theorem kX0_init (l : Launch) (D : va_G) (cx : xC) (o : Nat) : xCt l yX0_init wsX0_init { frames := 1, cells := 14, slots := 584, locals := 20 } D cx [.ref o] [(o, .inr (0, [.null, .null, .null, .null, .null, .null, .null, .null, .null, .null, .null, .null, .int 0, .int 0, .null, .null]))] (fun h : Nat → Nat => wX cx h zX0) (fun h => h 0 = o) := by
  refine x_enterC (own := RX0) (by decide) rfl rfl rfl (Nat.le_of_ble_eq_true rfl) (fun X hX hname hret => ?_)
  have hin := in_X0_init
  change xV X 3 0 0 [(o, .inr (0, [.null, .null, .null, .null, .null, .null, .null, .null, .null, .null, .null, .null, .int 0, .int 0, .null, .null]))] 0 [(0, .ref o)] []
  refine x_aload_n hX dX0_init_0 0 rfl ?_
  refine x_obj hX dX0_init_1 (by decide +kernel) (by decide +kernel) (by decide +kernel) ⟨Nat.le_of_ble_eq_true rfl, Nat.le_of_ble_eq_true rfl⟩ ?_
  refine x_aload_n hX dX0_init_4 0 rfl ?_
  refine x_bipushv hX dX0_init_5 60 (by decide) ?_
  refine x_newi hX (by decide +kernel) (N := 60) dX0_init_7 ⟨by decide, by decide, by decide⟩ ⟨Nat.le_of_ble_eq_true rfl, Nat.le_of_ble_eq_true rfl⟩ (fun _ => rfl) (fun q0 => ?_)
  refine x_putr hX hname (ws' := [(o, .inr (0, [.ref q0, .null, .null, .null, .null, .null, .null, .null, .null, .null, .null, .null, .int 0, .int 0, .null, .null])), (q0, .inl (cx.1, 60, .inl (s0 0)))]) dX0_init_9 rfl rfl hin tyX0 tyX0_ok nmX0 0 (by decide) (by decide +kernel : Cond.fieldLink RX0 9 RX0 "senders" "[I" ∈ wsX0_init) rfl rfl rfl .int rfl (Nat.le_of_ble_eq_true rfl) rfl ?_
  refine x_aload_n hX dX0_init_12 0 rfl ?_
  refine x_bipushv hX dX0_init_13 60 (by decide) ?_
  refine x_newi hX (by decide +kernel) (N := 60) dX0_init_15 ⟨by decide, by decide, by decide⟩ ⟨Nat.le_of_ble_eq_true rfl, Nat.le_of_ble_eq_true rfl⟩ (fun _ => rfl) (fun q1 => ?_)
  refine x_putr hX hname (ws' := [(o, .inr (0, [.ref q0, .ref q1, .null, .null, .null, .null, .null, .null, .null, .null, .null, .null, .int 0, .int 0, .null, .null])), (q0, .inl (cx.1, 60, .inl (s0 0))), (q1, .inl (cx.1, 60, .inl (s0 0)))]) dX0_init_17 rfl rfl hin tyX0 tyX0_ok nmX0 1 (by decide) (by decide +kernel : Cond.fieldLink RX0 13 RX0 "readers" "[I" ∈ wsX0_init) rfl rfl rfl .int rfl (Nat.le_of_ble_eq_true rfl) rfl ?_
  refine x_aload_n hX dX0_init_20 0 rfl ?_
  refine x_bipushv hX dX0_init_21 60 (by decide) ?_
  refine x_newi hX (by decide +kernel) (N := 60) dX0_init_23 ⟨by decide, by decide, by decide⟩ ⟨Nat.le_of_ble_eq_true rfl, Nat.le_of_ble_eq_true rfl⟩ (fun _ => rfl) (fun q2 => ?_)
  refine x_putr hX hname (ws' := [(o, .inr (0, [.ref q0, .ref q1, .ref q2, .null, .null, .null, .null, .null, .null, .null, .null, .null, .int 0, .int 0, .null, .null])), (q0, .inl (cx.1, 60, .inl (s0 0))), (q1, .inl (cx.1, 60, .inl (s0 0))), (q2, .inl (cx.1, 60, .inl (s0 0)))]) dX0_init_25 rfl rfl hin tyX0 tyX0_ok nmX0 2 (by decide) (by decide +kernel : Cond.fieldLink RX0 16 RX0 "stakes" "[I" ∈ wsX0_init) rfl rfl rfl .int rfl (Nat.le_of_ble_eq_true rfl) rfl ?_
  refine x_aload_n hX dX0_init_28 0 rfl ?_
  refine x_bipushv hX dX0_init_29 60 (by decide) ?_
  refine x_newi hX (by decide +kernel) (N := 60) dX0_init_31 ⟨by decide, by decide, by decide⟩ ⟨Nat.le_of_ble_eq_true rfl, Nat.le_of_ble_eq_true rfl⟩ (fun _ => rfl) (fun q3 => ?_)
  refine x_putr hX hname (ws' := [(o, .inr (0, [.ref q0, .ref q1, .ref q2, .ref q3, .null, .null, .null, .null, .null, .null, .null, .null, .int 0, .int 0, .null, .null])), (q0, .inl (cx.1, 60, .inl (s0 0))), (q1, .inl (cx.1, 60, .inl (s0 0))), (q2, .inl (cx.1, 60, .inl (s0 0))), (q3, .inl (cx.1, 60, .inl (s0 0)))]) dX0_init_33 rfl rfl hin tyX0 tyX0_ok nmX0 3 (by decide) (by decide +kernel : Cond.fieldLink RX0 19 RX0 "states" "[I" ∈ wsX0_init) rfl rfl rfl .int rfl (Nat.le_of_ble_eq_true rfl) rfl ?_
  refine x_aload_n hX dX0_init_36 0 rfl ?_
  refine x_bipushv hX dX0_init_37 60 (by decide) ?_
  refine x_newi hX (by decide +kernel) (N := 60) dX0_init_39 ⟨by decide, by decide, by decide⟩ ⟨Nat.le_of_ble_eq_true rfl, Nat.le_of_ble_eq_true rfl⟩ (fun _ => rfl) (fun q4 => ?_)
  refine x_putr hX hname (ws' := [(o, .inr (0, [.ref q0, .ref q1, .ref q2, .ref q3, .ref q4, .null, .null, .null, .null, .null, .null, .null, .int 0, .int 0, .null, .null])), (q0, .inl (cx.1, 60, .inl (s0 0))), (q1, .inl (cx.1, 60, .inl (s0 0))), (q2, .inl (cx.1, 60, .inl (s0 0))), (q3, .inl (cx.1, 60, .inl (s0 0))), (q4, .inl (cx.1, 60, .inl (s0 0)))]) dX0_init_41 rfl rfl hin tyX0 tyX0_ok nmX0 4 (by decide) (by decide +kernel : Cond.fieldLink RX0 22 RX0 "places" "[I" ∈ wsX0_init) rfl rfl rfl .int rfl (Nat.le_of_ble_eq_true rfl) rfl ?_
  refine x_aload_n hX dX0_init_44 0 rfl ?_
  refine x_bipushv hX dX0_init_45 60 (by decide) ?_
  refine x_newi hX (by decide +kernel) (N := 60) dX0_init_47 ⟨by decide, by decide, by decide⟩ ⟨Nat.le_of_ble_eq_true rfl, Nat.le_of_ble_eq_true rfl⟩ (fun _ => rfl) (fun q5 => ?_)
  refine x_putr hX hname (ws' := [(o, .inr (0, [.ref q0, .ref q1, .ref q2, .ref q3, .ref q4, .ref q5, .null, .null, .null, .null, .null, .null, .int 0, .int 0, .null, .null])), (q0, .inl (cx.1, 60, .inl (s0 0))), (q1, .inl (cx.1, 60, .inl (s0 0))), (q2, .inl (cx.1, 60, .inl (s0 0))), (q3, .inl (cx.1, 60, .inl (s0 0))), (q4, .inl (cx.1, 60, .inl (s0 0))), (q5, .inl (cx.1, 60, .inl (s0 0)))]) dX0_init_49 rfl rfl hin tyX0 tyX0_ok nmX0 5 (by decide) (by decide +kernel : Cond.fieldLink RX0 25 RX0 "relaysSeen" "[I" ∈ wsX0_init) rfl rfl rfl .int rfl (Nat.le_of_ble_eq_true rfl) rfl ?_
  refine x_aload_n hX dX0_init_52 0 rfl ?_
  refine x_bipushv hX dX0_init_53 60 (by decide) ?_
  refine x_newi hX (by decide +kernel) (N := 60) dX0_init_55 ⟨by decide, by decide, by decide⟩ ⟨Nat.le_of_ble_eq_true rfl, Nat.le_of_ble_eq_true rfl⟩ (fun _ => rfl) (fun q6 => ?_)
  refine x_putr hX hname (ws' := [(o, .inr (0, [.ref q0, .ref q1, .ref q2, .ref q3, .ref q4, .ref q5, .ref q6, .null, .null, .null, .null, .null, .int 0, .int 0, .null, .null])), (q0, .inl (cx.1, 60, .inl (s0 0))), (q1, .inl (cx.1, 60, .inl (s0 0))), (q2, .inl (cx.1, 60, .inl (s0 0))), (q3, .inl (cx.1, 60, .inl (s0 0))), (q4, .inl (cx.1, 60, .inl (s0 0))), (q5, .inl (cx.1, 60, .inl (s0 0))), (q6, .inl (cx.1, 60, .inl (s0 0)))]) dX0_init_57 rfl rfl hin tyX0 tyX0_ok nmX0 6 (by decide) (by decide +kernel : Cond.fieldLink RX0 28 RX0 "deliveryTimes" "[I" ∈ wsX0_init) rfl rfl rfl .int rfl (Nat.le_of_ble_eq_true rfl) rfl ?_
  refine x_aload_n hX dX0_init_60 0 rfl ?_
  refine x_bipushv hX dX0_init_61 60 (by decide) ?_
  refine x_newz hX (by decide +kernel) (N := 60) dX0_init_63 ⟨by decide, by decide, by decide⟩ ⟨Nat.le_of_ble_eq_true rfl, Nat.le_of_ble_eq_true rfl⟩ (fun _ => rfl) (fun q7 => ?_)
  refine x_putr hX hname (ws' := [(o, .inr (0, [.ref q0, .ref q1, .ref q2, .ref q3, .ref q4, .ref q5, .ref q6, .ref q7, .null, .null, .null, .null, .int 0, .int 0, .null, .null])), (q0, .inl (cx.1, 60, .inl (s0 0))), (q1, .inl (cx.1, 60, .inl (s0 0))), (q2, .inl (cx.1, 60, .inl (s0 0))), (q3, .inl (cx.1, 60, .inl (s0 0))), (q4, .inl (cx.1, 60, .inl (s0 0))), (q5, .inl (cx.1, 60, .inl (s0 0))), (q6, .inl (cx.1, 60, .inl (s0 0))), (q7, .inl (cx.2.1, 60, .inl (s0 0)))]) dX0_init_65 rfl rfl hin tyX0 tyX0_ok nmX0 7 (by decide) (by decide +kernel : Cond.fieldLink RX0 31 RX0 "falselyMarked" "[Z" ∈ wsX0_init) rfl rfl rfl .boolean rfl (Nat.le_of_ble_eq_true rfl) rfl ?_
  refine x_aload_n hX dX0_init_68 0 rfl ?_
  refine x_bipushv hX dX0_init_69 8 (by decide) ?_
  refine x_newi hX (by decide +kernel) (N := 8) dX0_init_71 ⟨by decide, by decide, by decide⟩ ⟨Nat.le_of_ble_eq_true rfl, Nat.le_of_ble_eq_true rfl⟩ (fun _ => rfl) (fun q8 => ?_)
  refine x_putr hX hname (ws' := [(o, .inr (0, [.ref q0, .ref q1, .ref q2, .ref q3, .ref q4, .ref q5, .ref q6, .ref q7, .ref q8, .null, .null, .null, .int 0, .int 0, .null, .null])), (q0, .inl (cx.1, 60, .inl (s0 0))), (q1, .inl (cx.1, 60, .inl (s0 0))), (q2, .inl (cx.1, 60, .inl (s0 0))), (q3, .inl (cx.1, 60, .inl (s0 0))), (q4, .inl (cx.1, 60, .inl (s0 0))), (q5, .inl (cx.1, 60, .inl (s0 0))), (q6, .inl (cx.1, 60, .inl (s0 0))), (q7, .inl (cx.2.1, 60, .inl (s0 0))), (q8, .inl (cx.1, 8, .inl (s0 0)))]) dX0_init_73 rfl rfl hin tyX0 tyX0_ok nmX0 8 (by decide) (by decide +kernel : Cond.fieldLink RX0 35 RX0 "purses" "[I" ∈ wsX0_init) rfl rfl rfl .int rfl (Nat.le_of_ble_eq_true rfl) rfl ?_
  refine x_aload_n hX dX0_init_76 0 rfl ?_
  refine x_bipushv hX dX0_init_77 8 (by decide) ?_
  refine x_newi hX (by decide +kernel) (N := 8) dX0_init_79 ⟨by decide, by decide, by decide⟩ ⟨Nat.le_of_ble_eq_true rfl, Nat.le_of_ble_eq_true rfl⟩ (fun _ => rfl) (fun q9 => ?_)
  refine x_putr hX hname (ws' := [(o, .inr (0, [.ref q0, .ref q1, .ref q2, .ref q3, .ref q4, .ref q5, .ref q6, .ref q7, .ref q8, .ref q9, .null, .null, .int 0, .int 0, .null, .null])), (q0, .inl (cx.1, 60, .inl (s0 0))), (q1, .inl (cx.1, 60, .inl (s0 0))), (q2, .inl (cx.1, 60, .inl (s0 0))), (q3, .inl (cx.1, 60, .inl (s0 0))), (q4, .inl (cx.1, 60, .inl (s0 0))), (q5, .inl (cx.1, 60, .inl (s0 0))), (q6, .inl (cx.1, 60, .inl (s0 0))), (q7, .inl (cx.2.1, 60, .inl (s0 0))), (q8, .inl (cx.1, 8, .inl (s0 0))), (q9, .inl (cx.1, 8, .inl (s0 0)))]) dX0_init_81 rfl rfl hin tyX0 tyX0_ok nmX0 9 (by decide) (by decide +kernel : Cond.fieldLink RX0 38 RX0 "falseMarkCounts" "[I" ∈ wsX0_init) rfl rfl rfl .int rfl (Nat.le_of_ble_eq_true rfl) rfl ?_
  refine x_aload_n hX dX0_init_84 0 rfl ?_
  refine x_iconstv hX dX0_init_85 4 (by decide) ?_
  refine x_newi hX (by decide +kernel) (N := 4) dX0_init_86 ⟨by decide, by decide, by decide⟩ ⟨Nat.le_of_ble_eq_true rfl, Nat.le_of_ble_eq_true rfl⟩ (fun _ => rfl) (fun q10 => ?_)
  refine x_putr hX hname (ws' := [(o, .inr (0, [.ref q0, .ref q1, .ref q2, .ref q3, .ref q4, .ref q5, .ref q6, .ref q7, .ref q8, .ref q9, .ref q10, .null, .int 0, .int 0, .null, .null])), (q0, .inl (cx.1, 60, .inl (s0 0))), (q1, .inl (cx.1, 60, .inl (s0 0))), (q2, .inl (cx.1, 60, .inl (s0 0))), (q3, .inl (cx.1, 60, .inl (s0 0))), (q4, .inl (cx.1, 60, .inl (s0 0))), (q5, .inl (cx.1, 60, .inl (s0 0))), (q6, .inl (cx.1, 60, .inl (s0 0))), (q7, .inl (cx.2.1, 60, .inl (s0 0))), (q8, .inl (cx.1, 8, .inl (s0 0))), (q9, .inl (cx.1, 8, .inl (s0 0))), (q10, .inl (cx.1, 4, .inl (s0 0)))]) dX0_init_88 rfl rfl hin tyX0 tyX0_ok nmX0 10 (by decide) (by decide +kernel : Cond.fieldLink RX0 41 RX0 "pools" "[I" ∈ wsX0_init) rfl rfl rfl .int rfl (Nat.le_of_ble_eq_true rfl) rfl ?_
  refine x_aload_n hX dX0_init_91 0 rfl ?_
  refine x_bipushv hX dX0_init_92 16 (by decide) ?_
  refine x_newi hX (by decide +kernel) (N := 16) dX0_init_94 ⟨by decide, by decide, by decide⟩ ⟨Nat.le_of_ble_eq_true rfl, Nat.le_of_ble_eq_true rfl⟩ (fun _ => rfl) (fun q11 => ?_)
  refine x_putr hX hname (ws' := [(o, .inr (0, [.ref q0, .ref q1, .ref q2, .ref q3, .ref q4, .ref q5, .ref q6, .ref q7, .ref q8, .ref q9, .ref q10, .ref q11, .int 0, .int 0, .null, .null])), (q0, .inl (cx.1, 60, .inl (s0 0))), (q1, .inl (cx.1, 60, .inl (s0 0))), (q2, .inl (cx.1, 60, .inl (s0 0))), (q3, .inl (cx.1, 60, .inl (s0 0))), (q4, .inl (cx.1, 60, .inl (s0 0))), (q5, .inl (cx.1, 60, .inl (s0 0))), (q6, .inl (cx.1, 60, .inl (s0 0))), (q7, .inl (cx.2.1, 60, .inl (s0 0))), (q8, .inl (cx.1, 8, .inl (s0 0))), (q9, .inl (cx.1, 8, .inl (s0 0))), (q10, .inl (cx.1, 4, .inl (s0 0))), (q11, .inl (cx.1, 16, .inl (s0 0)))]) dX0_init_96 rfl rfl hin tyX0 tyX0_ok nmX0 11 (by decide) (by decide +kernel : Cond.fieldLink RX0 44 RX0 "routes" "[I" ∈ wsX0_init) rfl rfl rfl .int rfl (Nat.le_of_ble_eq_true rfl) rfl ?_
  refine x_aload_n hX dX0_init_99 0 rfl ?_
  refine x_iconstv hX dX0_init_100 0 (by decide) ?_
  refine x_put hX (ws' := [(o, .inr (0, [.ref q0, .ref q1, .ref q2, .ref q3, .ref q4, .ref q5, .ref q6, .ref q7, .ref q8, .ref q9, .ref q10, .ref q11, .int 0, .int 0, .null, .null])), (q0, .inl (cx.1, 60, .inl (s0 0))), (q1, .inl (cx.1, 60, .inl (s0 0))), (q2, .inl (cx.1, 60, .inl (s0 0))), (q3, .inl (cx.1, 60, .inl (s0 0))), (q4, .inl (cx.1, 60, .inl (s0 0))), (q5, .inl (cx.1, 60, .inl (s0 0))), (q6, .inl (cx.1, 60, .inl (s0 0))), (q7, .inl (cx.2.1, 60, .inl (s0 0))), (q8, .inl (cx.1, 8, .inl (s0 0))), (q9, .inl (cx.1, 8, .inl (s0 0))), (q10, .inl (cx.1, 4, .inl (s0 0))), (q11, .inl (cx.1, 16, .inl (s0 0)))]) dX0_init_101 rfl rfl hin tyX0 tyX0_ok nmX0 12 (by decide) (by decide +kernel : Cond.fieldLink RX0 47 RX0 "letterCount" "I" ∈ wsX0_init) rfl rfl rfl (Nat.le_of_ble_eq_true rfl) rfl ?_
  refine x_aload_n hX dX0_init_104 0 rfl ?_
  refine x_iconstv hX dX0_init_105 0 (by decide) ?_
  refine x_put hX (ws' := [(o, .inr (0, [.ref q0, .ref q1, .ref q2, .ref q3, .ref q4, .ref q5, .ref q6, .ref q7, .ref q8, .ref q9, .ref q10, .ref q11, .int 0, .int 0, .null, .null])), (q0, .inl (cx.1, 60, .inl (s0 0))), (q1, .inl (cx.1, 60, .inl (s0 0))), (q2, .inl (cx.1, 60, .inl (s0 0))), (q3, .inl (cx.1, 60, .inl (s0 0))), (q4, .inl (cx.1, 60, .inl (s0 0))), (q5, .inl (cx.1, 60, .inl (s0 0))), (q6, .inl (cx.1, 60, .inl (s0 0))), (q7, .inl (cx.2.1, 60, .inl (s0 0))), (q8, .inl (cx.1, 8, .inl (s0 0))), (q9, .inl (cx.1, 8, .inl (s0 0))), (q10, .inl (cx.1, 4, .inl (s0 0))), (q11, .inl (cx.1, 16, .inl (s0 0)))]) dX0_init_106 rfl rfl hin tyX0 tyX0_ok nmX0 13 (by decide) (by decide +kernel : Cond.fieldLink RX0 51 RX0 "now" "I" ∈ wsX0_init) rfl rfl rfl (Nat.le_of_ble_eq_true rfl) rfl ?_
  refine x_aload_n hX dX0_init_109 0 rfl ?_
  refine x_bipushv hX dX0_init_110 60 (by decide) ?_
  refine x_newi hX (by decide +kernel) (N := 60) dX0_init_112 ⟨by decide, by decide, by decide⟩ ⟨Nat.le_of_ble_eq_true rfl, Nat.le_of_ble_eq_true rfl⟩ (fun _ => rfl) (fun q12 => ?_)
  refine x_putr hX hname (ws' := [(o, .inr (0, [.ref q0, .ref q1, .ref q2, .ref q3, .ref q4, .ref q5, .ref q6, .ref q7, .ref q8, .ref q9, .ref q10, .ref q11, .int 0, .int 0, .ref q12, .null])), (q0, .inl (cx.1, 60, .inl (s0 0))), (q1, .inl (cx.1, 60, .inl (s0 0))), (q2, .inl (cx.1, 60, .inl (s0 0))), (q3, .inl (cx.1, 60, .inl (s0 0))), (q4, .inl (cx.1, 60, .inl (s0 0))), (q5, .inl (cx.1, 60, .inl (s0 0))), (q6, .inl (cx.1, 60, .inl (s0 0))), (q7, .inl (cx.2.1, 60, .inl (s0 0))), (q8, .inl (cx.1, 8, .inl (s0 0))), (q9, .inl (cx.1, 8, .inl (s0 0))), (q10, .inl (cx.1, 4, .inl (s0 0))), (q11, .inl (cx.1, 16, .inl (s0 0))), (q12, .inl (cx.1, 60, .inl (s0 0)))]) dX0_init_114 rfl rfl hin tyX0 tyX0_ok nmX0 14 (by decide) (by decide +kernel : Cond.fieldLink RX0 54 RX0 "waitingAt" "[I" ∈ wsX0_init) rfl rfl rfl .int rfl (Nat.le_of_ble_eq_true rfl) rfl ?_
  refine x_aload_n hX dX0_init_117 0 rfl ?_
  refine x_bipushv hX dX0_init_118 8 (by decide) ?_
  refine x_newi hX (by decide +kernel) (N := 8) dX0_init_120 ⟨by decide, by decide, by decide⟩ ⟨Nat.le_of_ble_eq_true rfl, Nat.le_of_ble_eq_true rfl⟩ (fun _ => rfl) (fun q13 => ?_)
  refine x_putr hX hname (ws' := [(o, .inr (0, [.ref q0, .ref q1, .ref q2, .ref q3, .ref q4, .ref q5, .ref q6, .ref q7, .ref q8, .ref q9, .ref q10, .ref q11, .int 0, .int 0, .ref q12, .ref q13])), (q0, .inl (cx.1, 60, .inl (s0 0))), (q1, .inl (cx.1, 60, .inl (s0 0))), (q2, .inl (cx.1, 60, .inl (s0 0))), (q3, .inl (cx.1, 60, .inl (s0 0))), (q4, .inl (cx.1, 60, .inl (s0 0))), (q5, .inl (cx.1, 60, .inl (s0 0))), (q6, .inl (cx.1, 60, .inl (s0 0))), (q7, .inl (cx.2.1, 60, .inl (s0 0))), (q8, .inl (cx.1, 8, .inl (s0 0))), (q9, .inl (cx.1, 8, .inl (s0 0))), (q10, .inl (cx.1, 4, .inl (s0 0))), (q11, .inl (cx.1, 16, .inl (s0 0))), (q12, .inl (cx.1, 60, .inl (s0 0))), (q13, .inl (cx.1, 8, .inl (s0 0)))]) dX0_init_122 rfl rfl hin tyX0 tyX0_ok nmX0 15 (by decide) (by decide +kernel : Cond.fieldLink RX0 57 RX0 "reputations" "[I" ∈ wsX0_init) rfl rfl rfl .int rfl (Nat.le_of_ble_eq_true rfl) rfl ?_
  obtain ⟨h, hh⟩ : ∃ h : Nat → Nat, h = fun i => [o, q0, q1, q2, q3, q4, q5, q6, q7, q8, q9, q10, q11, 0, 0, q12, q13].getD i 0 := ⟨_, rfl⟩
  have h0 : h 0 = o := by rw [hh]; rfl
  refine x_as (ws' := wX cx h s0) (by rw [hh]; rfl) (lv' := [(0, .ref (h 0))]) (by rw [h0]) ?_
  have inner : ∀ (r : Nat), r < 4 → (xV X 3 14 584 (wX cx h (sR (sP s0 8 8) 11 (4 * (r + 1)))) 178 [(0, .ref (h 0)), (1, .int (nI r)), (2, .int 4)] []) → ∀ (m k : Nat), k + m = 4 → xV X 3 14 584 (wX cx h (sR (sP s0 8 8) 11 (4 * r + k))) 156 [(0, .ref (h 0)), (1, .int (nI r)), (2, .int (nI k))] [] := by
    intro r hr hgo m
    induction m with
    | zero =>
      intro k hk
      obtain rfl : 4 = k := hk.symm
      refine x_iload_n hX dX0_init_156 2 rfl ?_
      refine x_iconstv hX dX0_init_157 4 (by decide) ?_
      refine x_icmp_ge hX 178 dX0_init_158 (by decide) (fun c_158 => ?_) (fun c_158 => ?_)
      · exact hgo
      · exact absurd (lp_yes (rfl : (4 : Int32) = nI 4) (by decide) rfl) c_158
    | succ m ih =>
      intro k hk
      have hkn : k < 4 := by omega
      have e8 : nI r * 4 + nI k = nI (4 * r + k) := by rw [show (4 : Int32) = nI 4 from rfl, pk_mul, nI_add, Nat.mul_comm]
      have e9 : nI k = nI ((4 * r + k) % 4) := by rw [show (4 * r + k) % 4 = k by omega]
      refine x_iload_n hX dX0_init_156 2 rfl ?_
      refine x_iconstv hX dX0_init_157 4 (by decide) ?_
      refine x_icmp_ge hX 178 dX0_init_158 (by decide) (fun c_158 => ?_) (fun c_158 => ?_)
      · exact absurd c_158 (lp_no (rfl : (4 : Int32) = nI 4) (by decide) hkn)
      · refine x_aload_n hX dX0_init_161 0 rfl ?_
        refine gX11 hX hin (by decide +kernel) dX0_init_162 ?_
        refine x_iload_n hX dX0_init_165 1 rfl ?_
        refine x_iconstv hX dX0_init_166 4 (by decide) ?_
        refine x_imul hX dX0_init_167 ?_
        refine x_iload_n hX dX0_init_168 2 rfl ?_
        refine x_iadd hX dX0_init_169 ?_
        refine x_iload_n hX dX0_init_170 2 rfl ?_
        refine sX11 hX dX0_init_171 (by rw [e8]; exact vp_in_nI (by omega) (by decide)) (by rw [e8]; exact nI_clamp (by omega) : (nI r * 4 + nI k).toNatClampNeg = 4 * r + k) ?_
        refine x_iinc hX (lv' := [_, _, _]) dX0_init_172 2 rfl (nI_i1 k) (by decide) rfl rfl ?_
        refine x_goto hX 156 dX0_init_175 (by decide) ?_
        refine x_as (congrArg (wX cx h) ?_) rfl (ih (k + 1) (by omega))
        have e7 := sR_1 (sP s0 8 8) 11 (4 * r + k)
        rw [← e9] at e7
        exact e7
  have outer : ∀ (m k : Nat), k + m = 4 → ∀ (lv3 : List (Nat × Value)), lv_pick lv3 [0, 1] = [(0, .ref (h 0)), (1, .int (nI k))] → xV X 3 14 584 (wX cx h (sR (sP s0 8 8) 11 (4 * k))) 149 lv3 [] := by
    intro m
    induction m with
    | zero =>
      intro k hk lv3 h3
      obtain rfl : 4 = k := hk.symm
      refine x_lv [0, 1] h3 ?_
      refine x_iload_n hX dX0_init_149 1 rfl ?_
      refine x_iconstv hX dX0_init_150 4 (by decide) ?_
      refine x_icmp_ge hX 184 dX0_init_151 (by decide) (fun c_151 => ?_) (fun c_151 => ?_)
      · exact hret h _ _ h0 dX0_init_184
      · exact absurd (lp_yes (rfl : (4 : Int32) = nI 4) (by decide) rfl) c_151
    | succ m ih =>
      intro k hk lv3 h3
      refine x_lv [0, 1] h3 ?_
      have hkn : k < 4 := by omega
      refine x_iload_n hX dX0_init_149 1 rfl ?_
      refine x_iconstv hX dX0_init_150 4 (by decide) ?_
      refine x_icmp_ge hX 184 dX0_init_151 (by decide) (fun c_151 => ?_) (fun c_151 => ?_)
      · exact absurd c_151 (lp_no (rfl : (4 : Int32) = nI 4) (by decide) hkn)
      · refine x_iconstv hX dX0_init_154 0 (by decide) ?_
        refine x_istore_n hX (lv' := [_, _, _]) dX0_init_155 2 rfl (by decide) rfl rfl ?_
        refine inner k hkn ?_ 4 0 rfl
        refine x_iinc hX (lv' := [_, _, _]) dX0_init_178 1 rfl (nI_i1 k) (by decide) rfl rfl ?_
        refine x_goto hX 149 dX0_init_181 (by decide) ?_
        exact ih (k + 1) (by omega) _ rfl
  have purse : ∀ (m k : Nat), k + m = 8 → xV X 3 14 584 (wX cx h (sP s0 8 k)) 127 [(0, .ref (h 0)), (1, .int (nI k))] [] := by
    intro m
    induction m with
    | zero =>
      intro k hk
      obtain rfl : 8 = k := hk.symm
      refine x_iload_n hX dX0_init_127 1 rfl ?_
      refine x_bipushv hX dX0_init_128 8 (by decide) ?_
      refine x_icmp_ge hX 147 dX0_init_130 (by decide) (fun c_130 => ?_) (fun c_130 => ?_)
      · refine x_iconstv hX dX0_init_147 0 (by decide) ?_
        refine x_istore_n hX (lv' := [_, _]) dX0_init_148 1 rfl (by decide) rfl rfl ?_
        exact x_as (congrArg (wX cx h) (sR_0 _ _).symm) rfl (outer 4 0 rfl _ rfl)
      · exact absurd (lp_yes (rfl : (8 : Int32) = nI 8) (by decide : 8 < 2 ^ 31) rfl) c_130
    | succ m ih =>
      intro k hk
      have hkn : k < 8 := by omega
      have e9 : (nI k).toNatClampNeg = k := nI_clamp (by have := (by decide : 8 < 2 ^ 31); omega)
      refine x_iload_n hX dX0_init_127 1 rfl ?_
      refine x_bipushv hX dX0_init_128 8 (by decide) ?_
      refine x_icmp_ge hX 147 dX0_init_130 (by decide) (fun c_130 => ?_) (fun c_130 => ?_)
      · exact absurd c_130 (lp_no (rfl : (8 : Int32) = nI 8) (by decide : 8 < 2 ^ 31) hkn)
      · refine x_aload_n hX dX0_init_133 0 rfl ?_
        refine gX8 hX hin (by decide +kernel) dX0_init_134 ?_
        refine x_iload_n hX dX0_init_137 1 rfl ?_
        refine x_bipushv hX dX0_init_138 100 (by decide) ?_
        refine sX8 hX dX0_init_140 (vp_in_nI hkn (by decide)) e9 ?_
        refine x_iinc hX (lv' := [_, _]) dX0_init_141 1 rfl (nI_i1 k) (by decide) rfl rfl ?_
        refine x_goto hX 127 dX0_init_144 (by decide) ?_
        exact x_as (congrArg (wX cx h) (sP_1 _ _ _)) rfl (ih (k + 1) (by omega))
  refine x_iconstv hX dX0_init_125 0 (by decide) ?_
  refine x_istore_n hX (lv' := [_, _]) dX0_init_126 1 rfl (by decide) rfl rfl ?_
  exact x_as (congrArg (wX cx h) (sP_0 _ _).symm) (by simp [nI_0]) (purse 8 0 rfl)
theorem in_X1_init : ∀ w ∈ wsX10, w ∈ wsX1_init := by decide +kernel
set_option maxRecDepth 100000 in
set_option maxHeartbeats 8000000 in
theorem kX1_init (l : Launch) (D : va_G) (cx : xC) (o : Nat) : xCt l yX1_init wsX1_init { frames := 1, cells := 13, slots := 576, locals := 20 } D cx [.ref o] [(o, .inr (1, [.int 0, .null, .null, .null, .null, .int 0, .null, .null, .null, .null, .null, .null, .null, .null, .null, .int 0]))] (fun h : Nat → Nat => wM cx h zM0) (fun h => h 0 = o) := by
  refine x_enterC (own := RX1) (by decide) rfl rfl rfl (Nat.le_of_ble_eq_true rfl) (fun X hX hname hret => ?_)
  have hin := in_X1_init
  change xV X 2 0 0 [(o, .inr (1, [.int 0, .null, .null, .null, .null, .int 0, .null, .null, .null, .null, .null, .null, .null, .null, .null, .int 0]))] 0 [(0, .ref o)] []
  refine x_aload_n hX dX1_init_0 0 rfl ?_
  refine x_obj hX dX1_init_1 (by decide +kernel) (by decide +kernel) (by decide +kernel) ⟨Nat.le_of_ble_eq_true rfl, Nat.le_of_ble_eq_true rfl⟩ ?_
  refine x_aload_n hX dX1_init_4 0 rfl ?_
  refine x_bipushv hX dX1_init_5 16 (by decide) ?_
  refine x_newi hX (by decide +kernel) (N := 16) dX1_init_7 ⟨by decide, by decide, by decide⟩ ⟨Nat.le_of_ble_eq_true rfl, Nat.le_of_ble_eq_true rfl⟩ (fun _ => rfl) (fun q0 => ?_)
  refine x_putr hX hname (ws' := [(o, .inr (1, [.int 0, .ref q0, .null, .null, .null, .int 0, .null, .null, .null, .null, .null, .null, .null, .null, .null, .int 0])), (q0, .inl (cx.1, 16, .inl (s0 0)))]) dX1_init_9 rfl rfl hin tyX1 tyX1_ok nmX1 1 (by decide) (by decide +kernel : Cond.fieldLink RX1 7 RX1 "routes" "[I" ∈ wsX1_init) rfl rfl rfl .int rfl (Nat.le_of_ble_eq_true rfl) rfl ?_
  refine x_aload_n hX dX1_init_12 0 rfl ?_
  refine x_bipushv hX dX1_init_13 8 (by decide) ?_
  refine x_newi hX (by decide +kernel) (N := 8) dX1_init_15 ⟨by decide, by decide, by decide⟩ ⟨Nat.le_of_ble_eq_true rfl, Nat.le_of_ble_eq_true rfl⟩ (fun _ => rfl) (fun q1 => ?_)
  refine x_putr hX hname (ws' := [(o, .inr (1, [.int 0, .ref q0, .ref q1, .null, .null, .int 0, .null, .null, .null, .null, .null, .null, .null, .null, .null, .int 0])), (q0, .inl (cx.1, 16, .inl (s0 0))), (q1, .inl (cx.1, 8, .inl (s0 0)))]) dX1_init_17 rfl rfl hin tyX1 tyX1_ok nmX1 2 (by decide) (by decide +kernel : Cond.fieldLink RX1 13 RX1 "coins" "[I" ∈ wsX1_init) rfl rfl rfl .int rfl (Nat.le_of_ble_eq_true rfl) rfl ?_
  refine x_aload_n hX dX1_init_20 0 rfl ?_
  refine x_iconstv hX dX1_init_21 4 (by decide) ?_
  refine x_newi hX (by decide +kernel) (N := 4) dX1_init_22 ⟨by decide, by decide, by decide⟩ ⟨Nat.le_of_ble_eq_true rfl, Nat.le_of_ble_eq_true rfl⟩ (fun _ => rfl) (fun q2 => ?_)
  refine x_putr hX hname (ws' := [(o, .inr (1, [.int 0, .ref q0, .ref q1, .ref q2, .null, .int 0, .null, .null, .null, .null, .null, .null, .null, .null, .null, .int 0])), (q0, .inl (cx.1, 16, .inl (s0 0))), (q1, .inl (cx.1, 8, .inl (s0 0))), (q2, .inl (cx.1, 4, .inl (s0 0)))]) dX1_init_24 rfl rfl hin tyX1 tyX1_ok nmX1 3 (by decide) (by decide +kernel : Cond.fieldLink RX1 16 RX1 "pools" "[I" ∈ wsX1_init) rfl rfl rfl .int rfl (Nat.le_of_ble_eq_true rfl) rfl ?_
  refine x_aload_n hX dX1_init_27 0 rfl ?_
  refine x_bipushv hX dX1_init_28 8 (by decide) ?_
  refine x_newi hX (by decide +kernel) (N := 8) dX1_init_30 ⟨by decide, by decide, by decide⟩ ⟨Nat.le_of_ble_eq_true rfl, Nat.le_of_ble_eq_true rfl⟩ (fun _ => rfl) (fun q3 => ?_)
  refine x_putr hX hname (ws' := [(o, .inr (1, [.int 0, .ref q0, .ref q1, .ref q2, .ref q3, .int 0, .null, .null, .null, .null, .null, .null, .null, .null, .null, .int 0])), (q0, .inl (cx.1, 16, .inl (s0 0))), (q1, .inl (cx.1, 8, .inl (s0 0))), (q2, .inl (cx.1, 4, .inl (s0 0))), (q3, .inl (cx.1, 8, .inl (s0 0)))]) dX1_init_32 rfl rfl hin tyX1 tyX1_ok nmX1 4 (by decide) (by decide +kernel : Cond.fieldLink RX1 19 RX1 "falsely" "[I" ∈ wsX1_init) rfl rfl rfl .int rfl (Nat.le_of_ble_eq_true rfl) rfl ?_
  refine x_aload_n hX dX1_init_35 0 rfl ?_
  refine x_bipushv hX dX1_init_36 60 (by decide) ?_
  refine x_newi hX (by decide +kernel) (N := 60) dX1_init_38 ⟨by decide, by decide, by decide⟩ ⟨Nat.le_of_ble_eq_true rfl, Nat.le_of_ble_eq_true rfl⟩ (fun _ => rfl) (fun q4 => ?_)
  refine x_putr hX hname (ws' := [(o, .inr (1, [.int 0, .ref q0, .ref q1, .ref q2, .ref q3, .int 0, .ref q4, .null, .null, .null, .null, .null, .null, .null, .null, .int 0])), (q0, .inl (cx.1, 16, .inl (s0 0))), (q1, .inl (cx.1, 8, .inl (s0 0))), (q2, .inl (cx.1, 4, .inl (s0 0))), (q3, .inl (cx.1, 8, .inl (s0 0))), (q4, .inl (cx.1, 60, .inl (s0 0)))]) dX1_init_40 rfl rfl hin tyX1 tyX1_ok nmX1 6 (by decide) (by decide +kernel : Cond.fieldLink RX1 22 RX1 "sender" "[I" ∈ wsX1_init) rfl rfl rfl .int rfl (Nat.le_of_ble_eq_true rfl) rfl ?_
  refine x_aload_n hX dX1_init_43 0 rfl ?_
  refine x_bipushv hX dX1_init_44 60 (by decide) ?_
  refine x_newi hX (by decide +kernel) (N := 60) dX1_init_46 ⟨by decide, by decide, by decide⟩ ⟨Nat.le_of_ble_eq_true rfl, Nat.le_of_ble_eq_true rfl⟩ (fun _ => rfl) (fun q5 => ?_)
  refine x_putr hX hname (ws' := [(o, .inr (1, [.int 0, .ref q0, .ref q1, .ref q2, .ref q3, .int 0, .ref q4, .ref q5, .null, .null, .null, .null, .null, .null, .null, .int 0])), (q0, .inl (cx.1, 16, .inl (s0 0))), (q1, .inl (cx.1, 8, .inl (s0 0))), (q2, .inl (cx.1, 4, .inl (s0 0))), (q3, .inl (cx.1, 8, .inl (s0 0))), (q4, .inl (cx.1, 60, .inl (s0 0))), (q5, .inl (cx.1, 60, .inl (s0 0)))]) dX1_init_48 rfl rfl hin tyX1 tyX1_ok nmX1 7 (by decide) (by decide +kernel : Cond.fieldLink RX1 25 RX1 "reader" "[I" ∈ wsX1_init) rfl rfl rfl .int rfl (Nat.le_of_ble_eq_true rfl) rfl ?_
  refine x_aload_n hX dX1_init_51 0 rfl ?_
  refine x_bipushv hX dX1_init_52 60 (by decide) ?_
  refine x_newi hX (by decide +kernel) (N := 60) dX1_init_54 ⟨by decide, by decide, by decide⟩ ⟨Nat.le_of_ble_eq_true rfl, Nat.le_of_ble_eq_true rfl⟩ (fun _ => rfl) (fun q6 => ?_)
  refine x_putr hX hname (ws' := [(o, .inr (1, [.int 0, .ref q0, .ref q1, .ref q2, .ref q3, .int 0, .ref q4, .ref q5, .ref q6, .null, .null, .null, .null, .null, .null, .int 0])), (q0, .inl (cx.1, 16, .inl (s0 0))), (q1, .inl (cx.1, 8, .inl (s0 0))), (q2, .inl (cx.1, 4, .inl (s0 0))), (q3, .inl (cx.1, 8, .inl (s0 0))), (q4, .inl (cx.1, 60, .inl (s0 0))), (q5, .inl (cx.1, 60, .inl (s0 0))), (q6, .inl (cx.1, 60, .inl (s0 0)))]) dX1_init_56 rfl rfl hin tyX1 tyX1_ok nmX1 8 (by decide) (by decide +kernel : Cond.fieldLink RX1 28 RX1 "stake" "[I" ∈ wsX1_init) rfl rfl rfl .int rfl (Nat.le_of_ble_eq_true rfl) rfl ?_
  refine x_aload_n hX dX1_init_59 0 rfl ?_
  refine x_bipushv hX dX1_init_60 60 (by decide) ?_
  refine x_newi hX (by decide +kernel) (N := 60) dX1_init_62 ⟨by decide, by decide, by decide⟩ ⟨Nat.le_of_ble_eq_true rfl, Nat.le_of_ble_eq_true rfl⟩ (fun _ => rfl) (fun q7 => ?_)
  refine x_putr hX hname (ws' := [(o, .inr (1, [.int 0, .ref q0, .ref q1, .ref q2, .ref q3, .int 0, .ref q4, .ref q5, .ref q6, .ref q7, .null, .null, .null, .null, .null, .int 0])), (q0, .inl (cx.1, 16, .inl (s0 0))), (q1, .inl (cx.1, 8, .inl (s0 0))), (q2, .inl (cx.1, 4, .inl (s0 0))), (q3, .inl (cx.1, 8, .inl (s0 0))), (q4, .inl (cx.1, 60, .inl (s0 0))), (q5, .inl (cx.1, 60, .inl (s0 0))), (q6, .inl (cx.1, 60, .inl (s0 0))), (q7, .inl (cx.1, 60, .inl (s0 0)))]) dX1_init_64 rfl rfl hin tyX1 tyX1_ok nmX1 9 (by decide) (by decide +kernel : Cond.fieldLink RX1 31 RX1 "state" "[I" ∈ wsX1_init) rfl rfl rfl .int rfl (Nat.le_of_ble_eq_true rfl) rfl ?_
  refine x_aload_n hX dX1_init_67 0 rfl ?_
  refine x_bipushv hX dX1_init_68 60 (by decide) ?_
  refine x_newi hX (by decide +kernel) (N := 60) dX1_init_70 ⟨by decide, by decide, by decide⟩ ⟨Nat.le_of_ble_eq_true rfl, Nat.le_of_ble_eq_true rfl⟩ (fun _ => rfl) (fun q8 => ?_)
  refine x_putr hX hname (ws' := [(o, .inr (1, [.int 0, .ref q0, .ref q1, .ref q2, .ref q3, .int 0, .ref q4, .ref q5, .ref q6, .ref q7, .ref q8, .null, .null, .null, .null, .int 0])), (q0, .inl (cx.1, 16, .inl (s0 0))), (q1, .inl (cx.1, 8, .inl (s0 0))), (q2, .inl (cx.1, 4, .inl (s0 0))), (q3, .inl (cx.1, 8, .inl (s0 0))), (q4, .inl (cx.1, 60, .inl (s0 0))), (q5, .inl (cx.1, 60, .inl (s0 0))), (q6, .inl (cx.1, 60, .inl (s0 0))), (q7, .inl (cx.1, 60, .inl (s0 0))), (q8, .inl (cx.1, 60, .inl (s0 0)))]) dX1_init_72 rfl rfl hin tyX1 tyX1_ok nmX1 10 (by decide) (by decide +kernel : Cond.fieldLink RX1 34 RX1 "relay" "[I" ∈ wsX1_init) rfl rfl rfl .int rfl (Nat.le_of_ble_eq_true rfl) rfl ?_
  refine x_aload_n hX dX1_init_75 0 rfl ?_
  refine x_bipushv hX dX1_init_76 60 (by decide) ?_
  refine x_newi hX (by decide +kernel) (N := 60) dX1_init_78 ⟨by decide, by decide, by decide⟩ ⟨Nat.le_of_ble_eq_true rfl, Nat.le_of_ble_eq_true rfl⟩ (fun _ => rfl) (fun q9 => ?_)
  refine x_putr hX hname (ws' := [(o, .inr (1, [.int 0, .ref q0, .ref q1, .ref q2, .ref q3, .int 0, .ref q4, .ref q5, .ref q6, .ref q7, .ref q8, .ref q9, .null, .null, .null, .int 0])), (q0, .inl (cx.1, 16, .inl (s0 0))), (q1, .inl (cx.1, 8, .inl (s0 0))), (q2, .inl (cx.1, 4, .inl (s0 0))), (q3, .inl (cx.1, 8, .inl (s0 0))), (q4, .inl (cx.1, 60, .inl (s0 0))), (q5, .inl (cx.1, 60, .inl (s0 0))), (q6, .inl (cx.1, 60, .inl (s0 0))), (q7, .inl (cx.1, 60, .inl (s0 0))), (q8, .inl (cx.1, 60, .inl (s0 0))), (q9, .inl (cx.1, 60, .inl (s0 0)))]) dX1_init_80 rfl rfl hin tyX1 tyX1_ok nmX1 11 (by decide) (by decide +kernel : Cond.fieldLink RX1 37 RX1 "marks" "[I" ∈ wsX1_init) rfl rfl rfl .int rfl (Nat.le_of_ble_eq_true rfl) rfl ?_
  refine x_aload_n hX dX1_init_83 0 rfl ?_
  refine x_bipushv hX dX1_init_84 60 (by decide) ?_
  refine x_newi hX (by decide +kernel) (N := 60) dX1_init_86 ⟨by decide, by decide, by decide⟩ ⟨Nat.le_of_ble_eq_true rfl, Nat.le_of_ble_eq_true rfl⟩ (fun _ => rfl) (fun q10 => ?_)
  refine x_putr hX hname (ws' := [(o, .inr (1, [.int 0, .ref q0, .ref q1, .ref q2, .ref q3, .int 0, .ref q4, .ref q5, .ref q6, .ref q7, .ref q8, .ref q9, .ref q10, .null, .null, .int 0])), (q0, .inl (cx.1, 16, .inl (s0 0))), (q1, .inl (cx.1, 8, .inl (s0 0))), (q2, .inl (cx.1, 4, .inl (s0 0))), (q3, .inl (cx.1, 8, .inl (s0 0))), (q4, .inl (cx.1, 60, .inl (s0 0))), (q5, .inl (cx.1, 60, .inl (s0 0))), (q6, .inl (cx.1, 60, .inl (s0 0))), (q7, .inl (cx.1, 60, .inl (s0 0))), (q8, .inl (cx.1, 60, .inl (s0 0))), (q9, .inl (cx.1, 60, .inl (s0 0))), (q10, .inl (cx.1, 60, .inl (s0 0)))]) dX1_init_88 rfl rfl hin tyX1 tyX1_ok nmX1 12 (by decide) (by decide +kernel : Cond.fieldLink RX1 40 RX1 "came" "[I" ∈ wsX1_init) rfl rfl rfl .int rfl (Nat.le_of_ble_eq_true rfl) rfl ?_
  refine x_aload_n hX dX1_init_91 0 rfl ?_
  refine x_bipushv hX dX1_init_92 60 (by decide) ?_
  refine x_newz hX (by decide +kernel) (N := 60) dX1_init_94 ⟨by decide, by decide, by decide⟩ ⟨Nat.le_of_ble_eq_true rfl, Nat.le_of_ble_eq_true rfl⟩ (fun _ => rfl) (fun q11 => ?_)
  refine x_putr hX hname (ws' := [(o, .inr (1, [.int 0, .ref q0, .ref q1, .ref q2, .ref q3, .int 0, .ref q4, .ref q5, .ref q6, .ref q7, .ref q8, .ref q9, .ref q10, .ref q11, .null, .int 0])), (q0, .inl (cx.1, 16, .inl (s0 0))), (q1, .inl (cx.1, 8, .inl (s0 0))), (q2, .inl (cx.1, 4, .inl (s0 0))), (q3, .inl (cx.1, 8, .inl (s0 0))), (q4, .inl (cx.1, 60, .inl (s0 0))), (q5, .inl (cx.1, 60, .inl (s0 0))), (q6, .inl (cx.1, 60, .inl (s0 0))), (q7, .inl (cx.1, 60, .inl (s0 0))), (q8, .inl (cx.1, 60, .inl (s0 0))), (q9, .inl (cx.1, 60, .inl (s0 0))), (q10, .inl (cx.1, 60, .inl (s0 0))), (q11, .inl (cx.2.1, 60, .inl (s0 0)))]) dX1_init_96 rfl rfl hin tyX1 tyX1_ok nmX1 13 (by decide) (by decide +kernel : Cond.fieldLink RX1 43 RX1 "isFalse" "[Z" ∈ wsX1_init) rfl rfl rfl .boolean rfl (Nat.le_of_ble_eq_true rfl) rfl ?_
  refine x_aload_n hX dX1_init_99 0 rfl ?_
  refine x_bipushv hX dX1_init_100 60 (by decide) ?_
  refine x_newz hX (by decide +kernel) (N := 60) dX1_init_102 ⟨by decide, by decide, by decide⟩ ⟨Nat.le_of_ble_eq_true rfl, Nat.le_of_ble_eq_true rfl⟩ (fun _ => rfl) (fun q12 => ?_)
  refine x_putr hX hname (ws' := [(o, .inr (1, [.int 0, .ref q0, .ref q1, .ref q2, .ref q3, .int 0, .ref q4, .ref q5, .ref q6, .ref q7, .ref q8, .ref q9, .ref q10, .ref q11, .ref q12, .int 0])), (q0, .inl (cx.1, 16, .inl (s0 0))), (q1, .inl (cx.1, 8, .inl (s0 0))), (q2, .inl (cx.1, 4, .inl (s0 0))), (q3, .inl (cx.1, 8, .inl (s0 0))), (q4, .inl (cx.1, 60, .inl (s0 0))), (q5, .inl (cx.1, 60, .inl (s0 0))), (q6, .inl (cx.1, 60, .inl (s0 0))), (q7, .inl (cx.1, 60, .inl (s0 0))), (q8, .inl (cx.1, 60, .inl (s0 0))), (q9, .inl (cx.1, 60, .inl (s0 0))), (q10, .inl (cx.1, 60, .inl (s0 0))), (q11, .inl (cx.2.1, 60, .inl (s0 0))), (q12, .inl (cx.2.1, 60, .inl (s0 0)))]) dX1_init_104 rfl rfl hin tyX1 tyX1_ok nmX1 14 (by decide) (by decide +kernel : Cond.fieldLink RX1 47 RX1 "moves" "[Z" ∈ wsX1_init) rfl rfl rfl .boolean rfl (Nat.le_of_ble_eq_true rfl) rfl ?_
  obtain ⟨h, hh⟩ : ∃ h : Nat → Nat, h = fun i => [o, 0, q0, q1, q2, q3, 0, q4, q5, q6, q7, q8, q9, q10, q11, q12, 0].getD i 0 := ⟨_, rfl⟩
  have h0 : h 0 = o := by rw [hh]; rfl
  refine x_as (ws' := wM cx h s0) (by rw [hh]; rfl) (lv' := [(0, .ref (h 0))]) (by rw [h0]) ?_
  have coin : ∀ (m k : Nat), k + m = 8 → xV X 2 13 576 (wM cx h (sP (sR s0 1 16) 2 k)) 132 [(0, .ref (h 0)), (1, .int (nI k))] [] := by
    intro m
    induction m with
    | zero =>
      intro k hk
      obtain rfl : 8 = k := hk.symm
      refine x_iload_n hX dX1_init_132 1 rfl ?_
      refine x_bipushv hX dX1_init_133 8 (by decide) ?_
      refine x_icmp_ge hX 152 dX1_init_135 (by decide) (fun c_135 => ?_) (fun c_135 => ?_)
      · exact hret h _ _ h0 dX1_init_152
      · exact absurd (lp_yes (rfl : (8 : Int32) = nI 8) (by decide : 8 < 2 ^ 31) rfl) c_135
    | succ m ih =>
      intro k hk
      have hkn : k < 8 := by omega
      have e9 : (nI k).toNatClampNeg = k := nI_clamp (by have := (by decide : 8 < 2 ^ 31); omega)
      refine x_iload_n hX dX1_init_132 1 rfl ?_
      refine x_bipushv hX dX1_init_133 8 (by decide) ?_
      refine x_icmp_ge hX 152 dX1_init_135 (by decide) (fun c_135 => ?_) (fun c_135 => ?_)
      · exact absurd c_135 (lp_no (rfl : (8 : Int32) = nI 8) (by decide : 8 < 2 ^ 31) hkn)
      · refine x_aload_n hX dX1_init_138 0 rfl ?_
        refine gM2 hX hin (by decide +kernel) dX1_init_139 ?_
        refine x_iload_n hX dX1_init_142 1 rfl ?_
        refine x_bipushv hX dX1_init_143 100 (by decide) ?_
        refine sM2 hX dX1_init_145 (vp_in_nI hkn (by decide)) e9 ?_
        refine x_iinc hX (lv' := [_, _]) dX1_init_146 1 rfl (nI_i1 k) (by decide) rfl rfl ?_
        refine x_goto hX 132 dX1_init_149 (by decide) ?_
        exact x_as (congrArg (wM cx h) (sP_1 _ _ _)) rfl (ih (k + 1) (by omega))
  have route : ∀ (m k : Nat), k + m = 16 → xV X 2 13 576 (wM cx h (sR s0 1 k)) 109 [(0, .ref (h 0)), (1, .int (nI k))] [] := by
    intro m
    induction m with
    | zero =>
      intro k hk
      obtain rfl : 16 = k := hk.symm
      refine x_iload_n hX dX1_init_109 1 rfl ?_
      refine x_bipushv hX dX1_init_110 16 (by decide) ?_
      refine x_icmp_ge hX 130 dX1_init_112 (by decide) (fun c_112 => ?_) (fun c_112 => ?_)
      · refine x_iconstv hX dX1_init_130 0 (by decide) ?_
        refine x_istore_n hX (lv' := [_, _]) dX1_init_131 1 rfl (by decide) rfl rfl ?_
        exact x_as (congrArg (wM cx h) (sP_0 _ _).symm) (by simp [nI_0]) (coin 8 0 rfl)
      · exact absurd (lp_yes (rfl : (16 : Int32) = nI 16) (by decide : 16 < 2 ^ 31) rfl) c_112
    | succ m ih =>
      intro k hk
      have hkn : k < 16 := by omega
      have e9 : (nI k).toNatClampNeg = k := nI_clamp (by have := (by decide : 16 < 2 ^ 31); omega)
      refine x_iload_n hX dX1_init_109 1 rfl ?_
      refine x_bipushv hX dX1_init_110 16 (by decide) ?_
      refine x_icmp_ge hX 130 dX1_init_112 (by decide) (fun c_112 => ?_) (fun c_112 => ?_)
      · exact absurd c_112 (lp_no (rfl : (16 : Int32) = nI 16) (by decide : 16 < 2 ^ 31) hkn)
      · refine x_aload_n hX dX1_init_115 0 rfl ?_
        refine gM1 hX hin (by decide +kernel) dX1_init_116 ?_
        refine x_iload_n hX dX1_init_119 1 rfl ?_
        refine x_iload_n hX dX1_init_120 1 rfl ?_
        refine x_iconstv hX dX1_init_121 4 (by decide) ?_
        refine x_irem hX dX1_init_122 (by decide) ?_
        refine sM1 hX dX1_init_123 (vp_in_nI hkn (by decide)) e9 ?_
        refine x_iinc hX (lv' := [_, _]) dX1_init_124 1 rfl (nI_i1 k) (by decide) rfl rfl ?_
        refine x_goto hX 109 dX1_init_127 (by decide) ?_
        have e7 : nI k - nI k / 4 * 4 = nI (k % 4) := pk_rem (d := 4) (by omega) (by decide) (by decide)
        exact x_as (congrArg (wM cx h) (by rw [e7]; exact sR_1 _ _ _)) rfl (ih (k + 1) (by omega))
  refine x_iconstv hX dX1_init_107 0 (by decide) ?_
  refine x_istore_n hX (lv' := [_, _]) dX1_init_108 1 rfl (by decide) rfl rfl ?_
  exact x_as (congrArg (wM cx h) (sR_0 _ _).symm) (by simp [nI_0]) (route 16 0 rfl)
