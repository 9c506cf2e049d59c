/-! the law, case by case: what both answer to one row of the script -/
set_option maxRecDepth 100000 in
set_option maxHeartbeats 4000000 in
theorem law_setRoute (l : Launch) (hfl : l.stackTraces = false) {D : va_G} {cx : xC} {X : xX} (hX : xOK l D cx room_1 X cL_law 7 RL wsL_law) (hTh : xTh X.2.2.2.2.2 X.2.1.1 X.2.1.1.heap) {b0 L : Nat} {xs : Nat → Int32} (hs : xSc X b0 L xs) {k0 n0 : Nat} {o : Nat} {f : Nat → Int64} {h h' : Nat → Nat} {s u : xS} {n cn j : Nat} (R : Rel s u n cn) (hcn : cn + 1 ≤ 512) (hj : j + 4 ≤ L) (hL : L ≤ 2048) (hk : k0 + 1 ≤ room_1.cells ∧ n0 + 6 ≤ room_1.slots) (cont : ∀ (f : Nat → Int64) (s u : xS) (n : Nat), Rel s u n (cn + 1) → xV X 7 (k0 + 1) (n0 + 6) (wLM cx o f h s h' u) 1195 [(0, .ref b0), (1, .ref (h 0)), (2, .ref (h' 0)), (3, .ref o), (4, .int (nI j))] []) : xV X 7 k0 n0 (wLM cx o f h s h' u) 132 [(0, .ref b0), (1, .ref (h 0)), (2, .ref (h' 0)), (3, .ref o), (4, .int (nI j))] [] := by
  have hi1 : vp_in (nI j + 1) L := by
    rw [show (1 : Int32) = nI 1 from rfl, nI_add]
    exact vp_in_nI (by omega) (by omega)
  obtain ⟨a, ha⟩ : ∃ v, xs (nI j + 1).toNatClampNeg = v := ⟨_, rfl⟩
  have hi2 : vp_in (nI j + 2) L := by
    rw [show (2 : Int32) = nI 2 from rfl, nI_add]
    exact vp_in_nI (by omega) (by omega)
  obtain ⟨b, hb⟩ : ∃ v, xs (nI j + 2).toNatClampNeg = v := ⟨_, rfl⟩
  have hi3 : vp_in (nI j + 3) L := by
    rw [show (3 : Int32) = nI 3 from rfl, nI_add]
    exact vp_in_nI (by omega) (by omega)
  obtain ⟨c, hc⟩ : ∃ v, xs (nI j + 3).toNatClampNeg = v := ⟨_, rfl⟩
  refine x_aload_n hX dL_law_132 1 rfl ?_
  refine x_aload_n hX dL_law_133 0 rfl ?_
  refine x_iload hX dL_law_134 4 rfl ?_
  refine x_iconstv hX dL_law_136 1 (by decide) ?_
  refine x_iadd hX dL_law_137 ?_
  refine x_sld hX hs dL_law_138 hi1 ha ?_
  refine x_aload_n hX dL_law_139 0 rfl ?_
  refine x_iload hX dL_law_140 4 rfl ?_
  refine x_iconstv hX dL_law_142 2 (by decide) ?_
  refine x_iadd hX dL_law_143 ?_
  refine x_sld hX hs dL_law_144 hi2 hb ?_
  refine x_aload_n hX dL_law_145 0 rfl ?_
  refine x_iload hX dL_law_146 4 rfl ?_
  refine x_iconstv hX dL_law_148 3 (by decide) ?_
  refine x_iadd hX dL_law_149 ?_
  refine x_sld hX hs dL_law_150 hi3 hc ?_
  refine x_aload_n hX dL_law_151 3 rfl ?_
  refine x_bsl [] (wM cx h' u) (wf' := fun _ => wLM cx o (if kRoute a b c = 0 then vp_updL f 0 (vRoute s a b).toInt64 else f) h (if kRoute a b c = 0 then sRoute s a b c else s) h' u) hX hTh dL_law_152 5 rfl (kL_setRoute l hfl D cx o f h s R.1 a b c) rfl (fun _ => rfl) gL_law_L_setRoute rfl ⟨by decide, by decide, by decide +kernel⟩ ⟨rfl, rfl, Nat.le_of_ble_eq_true rfl, Nat.le_of_ble_eq_true rfl, hk.1, hk.2⟩ (Nat.le_of_ble_eq_true rfl) rfl (fun r1 _ hq1 => ?_)
  subst hq1
  refine x_istore hX (lv' := [_, _, _, _, _, _]) dL_law_155 (by decide) rfl rfl ?_
  refine x_aload_n hX dL_law_157 2 rfl ?_
  refine x_aload_n hX dL_law_158 0 rfl ?_
  refine x_iload hX dL_law_159 4 rfl ?_
  refine x_iconstv hX dL_law_161 1 (by decide) ?_
  refine x_iadd hX dL_law_162 ?_
  refine x_sld hX hs dL_law_163 hi1 ha ?_
  refine x_aload_n hX dL_law_164 0 rfl ?_
  refine x_iload hX dL_law_165 4 rfl ?_
  refine x_iconstv hX dL_law_167 2 (by decide) ?_
  refine x_iadd hX dL_law_168 ?_
  refine x_sld hX hs dL_law_169 hi2 hb ?_
  refine x_aload_n hX dL_law_170 0 rfl ?_
  refine x_iload hX dL_law_171 4 rfl ?_
  refine x_iconstv hX dL_law_173 3 (by decide) ?_
  refine x_iadd hX dL_law_174 ?_
  refine x_sld hX hs dL_law_175 hi3 hc ?_
  refine x_bvi (wL cx o (if kRoute a b c = 0 then vp_updL f 0 (vRoute s a b).toInt64 else f) h (if kRoute a b c = 0 then sRoute s a b c else s)) [] (wf' := fun _ => wLM cx o (if kRoute a b c = 0 then vp_updL f 0 (vRoute s a b).toInt64 else f) h (if kRoute a b c = 0 then sRoute s a b c else s) h' (qRoute u a b c)) hX dL_law_176 3 rfl (kX1_setRoute l D cx h' u a b c) rfl (fun _ => rfl) gL_law_X1_setRoute rfl ⟨rfl, by decide, by decide, by decide +kernel⟩ ⟨rfl, rfl, Nat.le_of_ble_eq_true rfl, Nat.le_of_ble_eq_true rfl, hk.1, hk.2⟩ rfl rfl (Nat.le_of_ble_eq_true rfl) rfl (fun r2 _ hq2 => ?_)
  subst hq2
  refine x_istore hX (lv' := [_, _, _, _, _, _, _]) dL_law_179 (by decide) rfl rfl ?_
  refine x_aload_n hX dL_law_181 2 rfl ?_
  refine x_bvi (wL cx o (if kRoute a b c = 0 then vp_updL f 0 (vRoute s a b).toInt64 else f) h (if kRoute a b c = 0 then sRoute s a b c else s)) [] (wf' := fun _ => wLM cx o (if kRoute a b c = 0 then vp_updL f 0 (vRoute s a b).toInt64 else f) h (if kRoute a b c = 0 then sRoute s a b c else s) h' (qRoute u a b c)) hX dL_law_182 0 rfl (kX1_thrown l D cx h' (qRoute u a b c)) rfl (fun _ => rfl) gL_law_X1_thrown rfl ⟨rfl, by decide, by decide, by decide +kernel⟩ ⟨rfl, rfl, Nat.le_of_ble_eq_true rfl, Nat.le_of_ble_eq_true rfl, hk.1, hk.2⟩ rfl rfl (Nat.le_of_ble_eq_true rfl) rfl (fun r3 _ hq3 => ?_)
  subst hq3
  refine x_iload hX dL_law_185 5 rfl ?_
  refine x_icmp_eq hX 192 dL_law_187 (by decide) (fun _ => ?_) (fun c => absurd (qRoute_15) c)
  refine x_iload hX dL_law_192 5 rfl ?_
  refine x_if_ne hX 209 dL_law_194 (by decide) (fun _ => ?_) (fun c9 => ?_)
  · refine x_goto hX 1195 dL_law_209 (by decide) ?_
    refine x_lv [0, 1, 2, 3, 4] rfl ?_
    exact cont (if kRoute a b c = 0 then vp_updL f 0 (vRoute s a b).toInt64 else f) (if kRoute a b c = 0 then sRoute s a b c else s) (qRoute u a b c) n ((E_route R).2.1.mono (Nat.le_succ cn) hcn)
  · refine x_aload_n hX dL_law_197 3 rfl ?_
    refine x_iconstv hX dL_law_198 0 (by decide) ?_
    refine x_lald hX (N := 1) (f := (if kRoute a b c = 0 then vp_updL f 0 (vRoute s a b).toInt64 else f)) dL_law_199 0 rfl (vp_in_nI (n := 0) (by decide : 0 < 1) (by decide)) ?_
    refine x_iload hX dL_law_200 6 rfl ?_
    refine x_i2l hX dL_law_202 ?_
    refine x_lcmp hX dL_law_203 ?_
    refine x_if_eq hX 209 dL_law_204 (by decide) (fun _ => ?_) (fun c => absurd (cmp_z c9 ((E_route R).1 c9)) c)
    refine x_goto hX 1195 dL_law_209 (by decide) ?_
    refine x_lv [0, 1, 2, 3, 4] rfl ?_
    exact cont (if kRoute a b c = 0 then vp_updL f 0 (vRoute s a b).toInt64 else f) (if kRoute a b c = 0 then sRoute s a b c else s) (qRoute u a b c) n ((E_route R).2.1.mono (Nat.le_succ cn) hcn)
set_option maxRecDepth 100000 in
set_option maxHeartbeats 4000000 in
theorem law_steps (l : Launch) (hfl : l.stackTraces = false) {D : va_G} {cx : xC} {X : xX} (hX : xOK l D cx room_1 X cL_law 7 RL wsL_law) (hTh : xTh X.2.2.2.2.2 X.2.1.1 X.2.1.1.heap) {b0 L : Nat} {xs : Nat → Int32} (hs : xSc X b0 L xs) {k0 n0 : Nat} {o : Nat} {f : Nat → Int64} {h h' : Nat → Nat} {s u : xS} {n cn j : Nat} (R : Rel s u n cn) (hcn : cn + 1 ≤ 512) (hj : j + 4 ≤ L) (hL : L ≤ 2048) (hk : k0 + 1 ≤ room_1.cells ∧ n0 + 6 ≤ room_1.slots) (cont : ∀ (f : Nat → Int64) (s u : xS) (n : Nat), Rel s u n (cn + 1) → xV X 7 (k0 + 1) (n0 + 6) (wLM cx o f h s h' u) 1195 [(0, .ref b0), (1, .ref (h 0)), (2, .ref (h' 0)), (3, .ref o), (4, .int (nI j))] []) : xV X 7 k0 n0 (wLM cx o f h s h' u) 212 [(0, .ref b0), (1, .ref (h 0)), (2, .ref (h' 0)), (3, .ref o), (4, .int (nI j))] [] := by
  have hi1 : vp_in (nI j + 1) L := by
    rw [show (1 : Int32) = nI 1 from rfl, nI_add]
    exact vp_in_nI (by omega) (by omega)
  obtain ⟨a, ha⟩ : ∃ v, xs (nI j + 1).toNatClampNeg = v := ⟨_, rfl⟩
  have hi2 : vp_in (nI j + 2) L := by
    rw [show (2 : Int32) = nI 2 from rfl, nI_add]
    exact vp_in_nI (by omega) (by omega)
  obtain ⟨b, hb⟩ : ∃ v, xs (nI j + 2).toNatClampNeg = v := ⟨_, rfl⟩
  refine x_aload_n hX dL_law_212 1 rfl ?_
  refine x_aload_n hX dL_law_213 0 rfl ?_
  refine x_iload hX dL_law_214 4 rfl ?_
  refine x_iconstv hX dL_law_216 1 (by decide) ?_
  refine x_iadd hX dL_law_217 ?_
  refine x_sld hX hs dL_law_218 hi1 ha ?_
  refine x_aload_n hX dL_law_219 0 rfl ?_
  refine x_iload hX dL_law_220 4 rfl ?_
  refine x_iconstv hX dL_law_222 2 (by decide) ?_
  refine x_iadd hX dL_law_223 ?_
  refine x_sld hX hs dL_law_224 hi2 hb ?_
  refine x_aload_n hX dL_law_225 3 rfl ?_
  refine x_bsl [] (wM cx h' u) (wf' := fun _ => wLM cx o (if kTwo4 a b = 0 then vp_updL f 0 (fSteps s a b 4 0).toInt64 else f) h (if kTwo4 a b = 0 then s else s) h' u) hX hTh dL_law_226 4 rfl (kL_steps l hfl D cx o f h s R.1 a b) rfl (fun _ => rfl) gL_law_L_steps rfl ⟨by decide, by decide, by decide +kernel⟩ ⟨rfl, rfl, Nat.le_of_ble_eq_true rfl, Nat.le_of_ble_eq_true rfl, hk.1, hk.2⟩ (Nat.le_of_ble_eq_true rfl) rfl (fun r1 _ hq1 => ?_)
  subst hq1
  refine x_istore hX (lv' := [_, _, _, _, _, _]) dL_law_229 (by decide) rfl rfl ?_
  refine x_aload_n hX dL_law_231 2 rfl ?_
  refine x_aload_n hX dL_law_232 0 rfl ?_
  refine x_iload hX dL_law_233 4 rfl ?_
  refine x_iconstv hX dL_law_235 1 (by decide) ?_
  refine x_iadd hX dL_law_236 ?_
  refine x_sld hX hs dL_law_237 hi1 ha ?_
  refine x_aload_n hX dL_law_238 0 rfl ?_
  refine x_iload hX dL_law_239 4 rfl ?_
  refine x_iconstv hX dL_law_241 2 (by decide) ?_
  refine x_iadd hX dL_law_242 ?_
  refine x_sld hX hs dL_law_243 hi2 hb ?_
  refine x_bvi (wL cx o (if kTwo4 a b = 0 then vp_updL f 0 (fSteps s a b 4 0).toInt64 else f) h (if kTwo4 a b = 0 then s else s)) [] (wf' := fun _ => wLM cx o (if kTwo4 a b = 0 then vp_updL f 0 (fSteps s a b 4 0).toInt64 else f) h (if kTwo4 a b = 0 then s else s) h' (xup u 15 0 (kTwo4 a b))) hX dL_law_244 2 rfl (kX1_steps l D cx h' u R.2.1 a b) rfl (fun _ => rfl) gL_law_X1_steps rfl ⟨rfl, by decide, by decide, by decide +kernel⟩ ⟨rfl, rfl, Nat.le_of_ble_eq_true rfl, Nat.le_of_ble_eq_true rfl, hk.1, hk.2⟩ rfl rfl (Nat.le_of_ble_eq_true rfl) rfl (fun r2 _ hq2 => ?_)
  subst hq2
  refine x_istore hX (lv' := [_, _, _, _, _, _, _]) dL_law_247 (by decide) rfl rfl ?_
  refine x_aload_n hX dL_law_249 2 rfl ?_
  refine x_bvi (wL cx o (if kTwo4 a b = 0 then vp_updL f 0 (fSteps s a b 4 0).toInt64 else f) h (if kTwo4 a b = 0 then s else s)) [] (wf' := fun _ => wLM cx o (if kTwo4 a b = 0 then vp_updL f 0 (fSteps s a b 4 0).toInt64 else f) h (if kTwo4 a b = 0 then s else s) h' (xup u 15 0 (kTwo4 a b))) hX dL_law_250 0 rfl (kX1_thrown l D cx h' (xup u 15 0 (kTwo4 a b))) rfl (fun _ => rfl) gL_law_X1_thrown rfl ⟨rfl, by decide, by decide, by decide +kernel⟩ ⟨rfl, rfl, Nat.le_of_ble_eq_true rfl, Nat.le_of_ble_eq_true rfl, hk.1, hk.2⟩ rfl rfl (Nat.le_of_ble_eq_true rfl) rfl (fun r3 _ hq3 => ?_)
  subst hq3
  refine x_iload hX dL_law_253 5 rfl ?_
  refine x_icmp_eq hX 260 dL_law_255 (by decide) (fun _ => ?_) (fun c => absurd (xup_ss ..) c)
  refine x_iload hX dL_law_260 5 rfl ?_
  refine x_if_ne hX 277 dL_law_262 (by decide) (fun _ => ?_) (fun c9 => ?_)
  · refine x_goto hX 1195 dL_law_277 (by decide) ?_
    refine x_lv [0, 1, 2, 3, 4] rfl ?_
    exact cont (if kTwo4 a b = 0 then vp_updL f 0 (fSteps s a b 4 0).toInt64 else f) (if kTwo4 a b = 0 then s else s) (xup u 15 0 (kTwo4 a b)) n (by rw [ite_self]; exact (R.thr _).mono (Nat.le_succ cn) hcn)
  · refine x_aload_n hX dL_law_265 3 rfl ?_
    refine x_iconstv hX dL_law_266 0 (by decide) ?_
    refine x_lald hX (N := 1) (f := (if kTwo4 a b = 0 then vp_updL f 0 (fSteps s a b 4 0).toInt64 else f)) dL_law_267 0 rfl (vp_in_nI (n := 0) (by decide : 0 < 1) (by decide)) ?_
    refine x_iload hX dL_law_268 6 rfl ?_
    refine x_i2l hX dL_law_270 ?_
    refine x_lcmp hX dL_law_271 ?_
    refine x_if_eq hX 277 dL_law_272 (by decide) (fun _ => ?_) (fun c => absurd (cmp_z c9 (E_steps R c9)) c)
    refine x_goto hX 1195 dL_law_277 (by decide) ?_
    refine x_lv [0, 1, 2, 3, 4] rfl ?_
    exact cont (if kTwo4 a b = 0 then vp_updL f 0 (fSteps s a b 4 0).toInt64 else f) (if kTwo4 a b = 0 then s else s) (xup u 15 0 (kTwo4 a b)) n (by rw [ite_self]; exact (R.thr _).mono (Nat.le_succ cn) hcn)
set_option maxRecDepth 100000 in
set_option maxHeartbeats 4000000 in
theorem law_send (l : Launch) (hfl : l.stackTraces = false) {D : va_G} {cx : xC} {X : xX} (hX : xOK l D cx room_1 X cL_law 7 RL wsL_law) (hTh : xTh X.2.2.2.2.2 X.2.1.1 X.2.1.1.heap) {b0 L : Nat} {xs : Nat → Int32} (hs : xSc X b0 L xs) {k0 n0 : Nat} {o : Nat} {f : Nat → Int64} {h h' : Nat → Nat} {s u : xS} {n cn j : Nat} (R : Rel s u n cn) (hcn : cn + 1 ≤ 512) (hj : j + 4 ≤ L) (hL : L ≤ 2048) (hk : k0 + 1 ≤ room_1.cells ∧ n0 + 6 ≤ room_1.slots) (cont : ∀ (f : Nat → Int64) (s u : xS) (n : Nat), Rel s u n (cn + 1) → xV X 7 (k0 + 1) (n0 + 6) (wLM cx o f h s h' u) 1195 [(0, .ref b0), (1, .ref (h 0)), (2, .ref (h' 0)), (3, .ref o), (4, .int (nI j))] []) : xV X 7 k0 n0 (wLM cx o f h s h' u) 280 [(0, .ref b0), (1, .ref (h 0)), (2, .ref (h' 0)), (3, .ref o), (4, .int (nI j))] [] := by
  have hi1 : vp_in (nI j + 1) L := by
    rw [show (1 : Int32) = nI 1 from rfl, nI_add]
    exact vp_in_nI (by omega) (by omega)
  obtain ⟨a, ha⟩ : ∃ v, xs (nI j + 1).toNatClampNeg = v := ⟨_, rfl⟩
  have hi2 : vp_in (nI j + 2) L := by
    rw [show (2 : Int32) = nI 2 from rfl, nI_add]
    exact vp_in_nI (by omega) (by omega)
  obtain ⟨b, hb⟩ : ∃ v, xs (nI j + 2).toNatClampNeg = v := ⟨_, rfl⟩
  have hi3 : vp_in (nI j + 3) L := by
    rw [show (3 : Int32) = nI 3 from rfl, nI_add]
    exact vp_in_nI (by omega) (by omega)
  obtain ⟨c, hc⟩ : ∃ v, xs (nI j + 3).toNatClampNeg = v := ⟨_, rfl⟩
  refine x_aload_n hX dL_law_280 1 rfl ?_
  refine x_aload_n hX dL_law_281 0 rfl ?_
  refine x_iload hX dL_law_282 4 rfl ?_
  refine x_iconstv hX dL_law_284 1 (by decide) ?_
  refine x_iadd hX dL_law_285 ?_
  refine x_sld hX hs dL_law_286 hi1 ha ?_
  refine x_aload_n hX dL_law_287 0 rfl ?_
  refine x_iload hX dL_law_288 4 rfl ?_
  refine x_iconstv hX dL_law_290 2 (by decide) ?_
  refine x_iadd hX dL_law_291 ?_
  refine x_sld hX hs dL_law_292 hi2 hb ?_
  refine x_aload_n hX dL_law_293 0 rfl ?_
  refine x_iload hX dL_law_294 4 rfl ?_
  refine x_iconstv hX dL_law_296 3 (by decide) ?_
  refine x_iadd hX dL_law_297 ?_
  refine x_sld hX hs dL_law_298 hi3 hc ?_
  refine x_aload_n hX dL_law_299 3 rfl ?_
  refine x_bsl [] (wM cx h' u) (wf' := fun _ => wLM cx o (if kSend s n a b c = 0 then vp_updL f 0 (s 12 0).toInt64 else f) h (if kSend s n a b c = 0 then sSend s a b c else s) h' u) hX hTh dL_law_300 5 rfl (kL_send l hfl D cx o f h s R.1 a b c) rfl (fun _ => rfl) gL_law_L_send rfl ⟨by decide, by decide, by decide +kernel⟩ ⟨rfl, rfl, Nat.le_of_ble_eq_true rfl, Nat.le_of_ble_eq_true rfl, hk.1, hk.2⟩ (Nat.le_of_ble_eq_true rfl) rfl (fun r1 _ hq1 => ?_)
  subst hq1
  refine x_istore hX (lv' := [_, _, _, _, _, _]) dL_law_303 (by decide) rfl rfl ?_
  refine x_aload_n hX dL_law_305 2 rfl ?_
  refine x_aload_n hX dL_law_306 0 rfl ?_
  refine x_iload hX dL_law_307 4 rfl ?_
  refine x_iconstv hX dL_law_309 1 (by decide) ?_
  refine x_iadd hX dL_law_310 ?_
  refine x_sld hX hs dL_law_311 hi1 ha ?_
  refine x_aload_n hX dL_law_312 0 rfl ?_
  refine x_iload hX dL_law_313 4 rfl ?_
  refine x_iconstv hX dL_law_315 2 (by decide) ?_
  refine x_iadd hX dL_law_316 ?_
  refine x_sld hX hs dL_law_317 hi2 hb ?_
  refine x_aload_n hX dL_law_318 0 rfl ?_
  refine x_iload hX dL_law_319 4 rfl ?_
  refine x_iconstv hX dL_law_321 3 (by decide) ?_
  refine x_iadd hX dL_law_322 ?_
  refine x_sld hX hs dL_law_323 hi3 hc ?_
  refine x_bvi (wL cx o (if kSend s n a b c = 0 then vp_updL f 0 (s 12 0).toInt64 else f) h (if kSend s n a b c = 0 then sSend s a b c else s)) [] (wf' := fun _ => wLM cx o (if kSend s n a b c = 0 then vp_updL f 0 (s 12 0).toInt64 else f) h (if kSend s n a b c = 0 then sSend s a b c else s) h' (qSend u n a b c)) hX dL_law_324 3 rfl (kX1_send l D cx h' u R.2.1 a b c) rfl (fun _ => rfl) gL_law_X1_send rfl ⟨rfl, by decide, by decide, by decide +kernel⟩ ⟨rfl, rfl, Nat.le_of_ble_eq_true rfl, Nat.le_of_ble_eq_true rfl, hk.1, hk.2⟩ rfl rfl (Nat.le_of_ble_eq_true rfl) rfl (fun r2 _ hq2 => ?_)
  subst hq2
  refine x_istore hX (lv' := [_, _, _, _, _, _, _]) dL_law_327 (by decide) rfl rfl ?_
  refine x_aload_n hX dL_law_329 2 rfl ?_
  refine x_bvi (wL cx o (if kSend s n a b c = 0 then vp_updL f 0 (s 12 0).toInt64 else f) h (if kSend s n a b c = 0 then sSend s a b c else s)) [] (wf' := fun _ => wLM cx o (if kSend s n a b c = 0 then vp_updL f 0 (s 12 0).toInt64 else f) h (if kSend s n a b c = 0 then sSend s a b c else s) h' (qSend u n a b c)) hX dL_law_330 0 rfl (kX1_thrown l D cx h' (qSend u n a b c)) rfl (fun _ => rfl) gL_law_X1_thrown rfl ⟨rfl, by decide, by decide, by decide +kernel⟩ ⟨rfl, rfl, Nat.le_of_ble_eq_true rfl, Nat.le_of_ble_eq_true rfl, hk.1, hk.2⟩ rfl rfl (Nat.le_of_ble_eq_true rfl) rfl (fun r3 _ hq3 => ?_)
  subst hq3
  refine x_iload hX dL_law_333 5 rfl ?_
  refine x_icmp_eq hX 340 dL_law_335 (by decide) (fun _ => ?_) (fun c => absurd (qSend_15.trans R.send_k.symm) c)
  refine x_iload hX dL_law_340 5 rfl ?_
  obtain ⟨n9, R9⟩ := (E_send R (a := a) (b := b) (c := c)).2
  refine x_if_ne hX 357 dL_law_342 (by decide) (fun _ => ?_) (fun c9 => ?_)
  · refine x_goto hX 1195 dL_law_357 (by decide) ?_
    refine x_lv [0, 1, 2, 3, 4] rfl ?_
    exact cont (if kSend s n a b c = 0 then vp_updL f 0 (s 12 0).toInt64 else f) (if kSend s n a b c = 0 then sSend s a b c else s) (qSend u n a b c) n9 (R9.mono (Nat.le_succ cn) hcn)
  · refine x_aload_n hX dL_law_345 3 rfl ?_
    refine x_iconstv hX dL_law_346 0 (by decide) ?_
    refine x_lald hX (N := 1) (f := (if kSend s n a b c = 0 then vp_updL f 0 (s 12 0).toInt64 else f)) dL_law_347 0 rfl (vp_in_nI (n := 0) (by decide : 0 < 1) (by decide)) ?_
    refine x_iload hX dL_law_348 6 rfl ?_
    refine x_i2l hX dL_law_350 ?_
    refine x_lcmp hX dL_law_351 ?_
    refine x_if_eq hX 357 dL_law_352 (by decide) (fun _ => ?_) (fun c => absurd (cmp_z c9 ((E_send R).1 c9)) c)
    refine x_goto hX 1195 dL_law_357 (by decide) ?_
    refine x_lv [0, 1, 2, 3, 4] rfl ?_
    exact cont (if kSend s n a b c = 0 then vp_updL f 0 (s 12 0).toInt64 else f) (if kSend s n a b c = 0 then sSend s a b c else s) (qSend u n a b c) n9 (R9.mono (Nat.le_succ cn) hcn)
set_option maxRecDepth 100000 in
set_option maxHeartbeats 4000000 in
theorem law_pass (l : Launch) (hfl : l.stackTraces = false) {D : va_G} {cx : xC} {X : xX} (hX : xOK l D cx room_1 X cL_law 7 RL wsL_law) (hTh : xTh X.2.2.2.2.2 X.2.1.1 X.2.1.1.heap) {b0 L : Nat} {xs : Nat → Int32} (hs : xSc X b0 L xs) {k0 n0 : Nat} {o : Nat} {f : Nat → Int64} {h h' : Nat → Nat} {s u : xS} {n cn j : Nat} (R : Rel s u n cn) (hcn : cn + 1 ≤ 512) (hj : j + 4 ≤ L) (hL : L ≤ 2048) (hk : k0 + 1 ≤ room_1.cells ∧ n0 + 6 ≤ room_1.slots) (cont : ∀ (f : Nat → Int64) (s u : xS) (n : Nat), Rel s u n (cn + 1) → xV X 7 (k0 + 1) (n0 + 6) (wLM cx o f h s h' u) 1195 [(0, .ref b0), (1, .ref (h 0)), (2, .ref (h' 0)), (3, .ref o), (4, .int (nI j))] []) : xV X 7 k0 n0 (wLM cx o f h s h' u) 360 [(0, .ref b0), (1, .ref (h 0)), (2, .ref (h' 0)), (3, .ref o), (4, .int (nI j))] [] := by
  have hi1 : vp_in (nI j + 1) L := by
    rw [show (1 : Int32) = nI 1 from rfl, nI_add]
    exact vp_in_nI (by omega) (by omega)
  obtain ⟨a, ha⟩ : ∃ v, xs (nI j + 1).toNatClampNeg = v := ⟨_, rfl⟩
  refine x_aload_n hX dL_law_360 1 rfl ?_
  refine x_aload_n hX dL_law_361 0 rfl ?_
  refine x_iload hX dL_law_362 4 rfl ?_
  refine x_iconstv hX dL_law_364 1 (by decide) ?_
  refine x_iadd hX dL_law_365 ?_
  refine x_sld hX hs dL_law_366 hi1 ha ?_
  refine x_aload_n hX dL_law_367 3 rfl ?_
  refine x_bsl [] (wM cx h' u) (wf' := fun _ => wLM cx o (if kPass s a = 0 then vp_updL f 0 (fTicksN s n (ix a)).toInt64 else f) h (if kPass s a = 0 then fTicks s n (ix a) else s) h' u) hX hTh dL_law_368 3 rfl (kL_pass l hfl D cx o f h s R.1 a) rfl (fun _ => rfl) gL_law_L_pass rfl ⟨by decide, by decide, by decide +kernel⟩ ⟨rfl, rfl, Nat.le_of_ble_eq_true rfl, Nat.le_of_ble_eq_true rfl, hk.1, hk.2⟩ (Nat.le_of_ble_eq_true rfl) rfl (fun r1 _ hq1 => ?_)
  subst hq1
  refine x_istore hX (lv' := [_, _, _, _, _, _]) dL_law_371 (by decide) rfl rfl ?_
  refine x_aload_n hX dL_law_373 2 rfl ?_
  refine x_aload_n hX dL_law_374 0 rfl ?_
  refine x_iload hX dL_law_375 4 rfl ?_
  refine x_iconstv hX dL_law_377 1 (by decide) ?_
  refine x_iadd hX dL_law_378 ?_
  refine x_sld hX hs dL_law_379 hi1 ha ?_
  refine x_bvi (wL cx o (if kPass s a = 0 then vp_updL f 0 (fTicksN s n (ix a)).toInt64 else f) h (if kPass s a = 0 then fTicks s n (ix a) else s)) [] (wf' := fun _ => wLM cx o (if kPass s a = 0 then vp_updL f 0 (fTicksN s n (ix a)).toInt64 else f) h (if kPass s a = 0 then fTicks s n (ix a) else s) h' (qPass u n a)) hX dL_law_380 1 rfl (kX1_pass l D cx h' u R.2.1 a) rfl (fun _ => rfl) gL_law_X1_pass rfl ⟨rfl, by decide, by decide, by decide +kernel⟩ ⟨rfl, rfl, Nat.le_of_ble_eq_true rfl, Nat.le_of_ble_eq_true rfl, hk.1, hk.2⟩ rfl rfl (Nat.le_of_ble_eq_true rfl) rfl (fun r2 _ hq2 => ?_)
  subst hq2
  refine x_istore hX (lv' := [_, _, _, _, _, _, _]) dL_law_383 (by decide) rfl rfl ?_
  refine x_aload_n hX dL_law_385 2 rfl ?_
  refine x_bvi (wL cx o (if kPass s a = 0 then vp_updL f 0 (fTicksN s n (ix a)).toInt64 else f) h (if kPass s a = 0 then fTicks s n (ix a) else s)) [] (wf' := fun _ => wLM cx o (if kPass s a = 0 then vp_updL f 0 (fTicksN s n (ix a)).toInt64 else f) h (if kPass s a = 0 then fTicks s n (ix a) else s) h' (qPass u n a)) hX dL_law_386 0 rfl (kX1_thrown l D cx h' (qPass u n a)) rfl (fun _ => rfl) gL_law_X1_thrown rfl ⟨rfl, by decide, by decide, by decide +kernel⟩ ⟨rfl, rfl, Nat.le_of_ble_eq_true rfl, Nat.le_of_ble_eq_true rfl, hk.1, hk.2⟩ rfl rfl (Nat.le_of_ble_eq_true rfl) rfl (fun r3 _ hq3 => ?_)
  subst hq3
  refine x_iload hX dL_law_389 5 rfl ?_
  refine x_icmp_eq hX 396 dL_law_391 (by decide) (fun _ => ?_) (fun c => absurd (qPass_15.trans (E_pass R).1.symm) c)
  refine x_iload hX dL_law_396 5 rfl ?_
  refine x_if_ne hX 413 dL_law_398 (by decide) (fun _ => ?_) (fun c9 => ?_)
  · refine x_goto hX 1195 dL_law_413 (by decide) ?_
    refine x_lv [0, 1, 2, 3, 4] rfl ?_
    exact cont (if kPass s a = 0 then vp_updL f 0 (fTicksN s n (ix a)).toInt64 else f) (if kPass s a = 0 then fTicks s n (ix a) else s) (qPass u n a) n ((E_pass R).2.2.mono (Nat.le_succ cn) hcn)
  · refine x_aload_n hX dL_law_401 3 rfl ?_
    refine x_iconstv hX dL_law_402 0 (by decide) ?_
    refine x_lald hX (N := 1) (f := (if kPass s a = 0 then vp_updL f 0 (fTicksN s n (ix a)).toInt64 else f)) dL_law_403 0 rfl (vp_in_nI (n := 0) (by decide : 0 < 1) (by decide)) ?_
    refine x_iload hX dL_law_404 6 rfl ?_
    refine x_i2l hX dL_law_406 ?_
    refine x_lcmp hX dL_law_407 ?_
    refine x_if_eq hX 413 dL_law_408 (by decide) (fun _ => ?_) (fun c => absurd (cmp_z c9 ((E_pass R).2.1 c9)) c)
    refine x_goto hX 1195 dL_law_413 (by decide) ?_
    refine x_lv [0, 1, 2, 3, 4] rfl ?_
    exact cont (if kPass s a = 0 then vp_updL f 0 (fTicksN s n (ix a)).toInt64 else f) (if kPass s a = 0 then fTicks s n (ix a) else s) (qPass u n a) n ((E_pass R).2.2.mono (Nat.le_succ cn) hcn)
set_option maxRecDepth 100000 in
set_option maxHeartbeats 4000000 in
theorem law_answer (l : Launch) (hfl : l.stackTraces = false) {D : va_G} {cx : xC} {X : xX} (hX : xOK l D cx room_1 X cL_law 7 RL wsL_law) (hTh : xTh X.2.2.2.2.2 X.2.1.1 X.2.1.1.heap) {b0 L : Nat} {xs : Nat → Int32} (hs : xSc X b0 L xs) {k0 n0 : Nat} {o : Nat} {f : Nat → Int64} {h h' : Nat → Nat} {s u : xS} {n cn j : Nat} (R : Rel s u n cn) (hcn : cn + 1 ≤ 512) (hj : j + 4 ≤ L) (hL : L ≤ 2048) (hk : k0 + 1 ≤ room_1.cells ∧ n0 + 6 ≤ room_1.slots) (cont : ∀ (f : Nat → Int64) (s u : xS) (n : Nat), Rel s u n (cn + 1) → xV X 7 (k0 + 1) (n0 + 6) (wLM cx o f h s h' u) 1195 [(0, .ref b0), (1, .ref (h 0)), (2, .ref (h' 0)), (3, .ref o), (4, .int (nI j))] []) : xV X 7 k0 n0 (wLM cx o f h s h' u) 416 [(0, .ref b0), (1, .ref (h 0)), (2, .ref (h' 0)), (3, .ref o), (4, .int (nI j))] [] := by
  have hi1 : vp_in (nI j + 1) L := by
    rw [show (1 : Int32) = nI 1 from rfl, nI_add]
    exact vp_in_nI (by omega) (by omega)
  obtain ⟨a, ha⟩ : ∃ v, xs (nI j + 1).toNatClampNeg = v := ⟨_, rfl⟩
  refine x_aload_n hX dL_law_416 1 rfl ?_
  refine x_aload_n hX dL_law_417 0 rfl ?_
  refine x_iload hX dL_law_418 4 rfl ?_
  refine x_iconstv hX dL_law_420 1 (by decide) ?_
  refine x_iadd hX dL_law_421 ?_
  refine x_sld hX hs dL_law_422 hi1 ha ?_
  refine x_aload_n hX dL_law_423 3 rfl ?_
  refine x_bsl [] (wM cx h' u) (wf' := fun _ => wLM cx o (if kDel s a = 0 then vp_updL f 0 (fRep (sAns s a) ((sAns s a) 0 (ix a)) n).toInt64 else f) h (if kDel s a = 0 then sAns s a else s) h' u) hX hTh dL_law_424 3 rfl (kL_answer l hfl D cx o f h s R.1 a) rfl (fun _ => rfl) gL_law_L_answer rfl ⟨by decide, by decide, by decide +kernel⟩ ⟨rfl, rfl, Nat.le_of_ble_eq_true rfl, Nat.le_of_ble_eq_true rfl, hk.1, hk.2⟩ (Nat.le_of_ble_eq_true rfl) rfl (fun r1 _ hq1 => ?_)
  subst hq1
  refine x_istore hX (lv' := [_, _, _, _, _, _]) dL_law_427 (by decide) rfl rfl ?_
  refine x_aload_n hX dL_law_429 2 rfl ?_
  refine x_aload_n hX dL_law_430 0 rfl ?_
  refine x_iload hX dL_law_431 4 rfl ?_
  refine x_iconstv hX dL_law_433 1 (by decide) ?_
  refine x_iadd hX dL_law_434 ?_
  refine x_sld hX hs dL_law_435 hi1 ha ?_
  refine x_bvi (wL cx o (if kDel s a = 0 then vp_updL f 0 (fRep (sAns s a) ((sAns s a) 0 (ix a)) n).toInt64 else f) h (if kDel s a = 0 then sAns s a else s)) [] (wf' := fun _ => wLM cx o (if kDel s a = 0 then vp_updL f 0 (fRep (sAns s a) ((sAns s a) 0 (ix a)) n).toInt64 else f) h (if kDel s a = 0 then sAns s a else s) h' (qAns u a)) hX dL_law_436 1 rfl (kX1_answer l D cx h' u R.2.1 a) rfl (fun _ => rfl) gL_law_X1_answer rfl ⟨rfl, by decide, by decide, by decide +kernel⟩ ⟨rfl, rfl, Nat.le_of_ble_eq_true rfl, Nat.le_of_ble_eq_true rfl, hk.1, hk.2⟩ rfl rfl (Nat.le_of_ble_eq_true rfl) rfl (fun r2 _ hq2 => ?_)
  subst hq2
  refine x_istore hX (lv' := [_, _, _, _, _, _, _]) dL_law_439 (by decide) rfl rfl ?_
  refine x_aload_n hX dL_law_441 2 rfl ?_
  refine x_bvi (wL cx o (if kDel s a = 0 then vp_updL f 0 (fRep (sAns s a) ((sAns s a) 0 (ix a)) n).toInt64 else f) h (if kDel s a = 0 then sAns s a else s)) [] (wf' := fun _ => wLM cx o (if kDel s a = 0 then vp_updL f 0 (fRep (sAns s a) ((sAns s a) 0 (ix a)) n).toInt64 else f) h (if kDel s a = 0 then sAns s a else s) h' (qAns u a)) hX dL_law_442 0 rfl (kX1_thrown l D cx h' (qAns u a)) rfl (fun _ => rfl) gL_law_X1_thrown rfl ⟨rfl, by decide, by decide, by decide +kernel⟩ ⟨rfl, rfl, Nat.le_of_ble_eq_true rfl, Nat.le_of_ble_eq_true rfl, hk.1, hk.2⟩ rfl rfl (Nat.le_of_ble_eq_true rfl) rfl (fun r3 _ hq3 => ?_)
  subst hq3
  refine x_iload hX dL_law_445 5 rfl ?_
  refine x_icmp_eq hX 452 dL_law_447 (by decide) (fun _ => ?_) (fun c => absurd (qAns_15.trans (R.del a).symm) c)
  refine x_iload hX dL_law_452 5 rfl ?_
  refine x_if_ne hX 469 dL_law_454 (by decide) (fun _ => ?_) (fun c9 => ?_)
  · refine x_goto hX 1195 dL_law_469 (by decide) ?_
    refine x_lv [0, 1, 2, 3, 4] rfl ?_
    exact cont (if kDel s a = 0 then vp_updL f 0 (fRep (sAns s a) ((sAns s a) 0 (ix a)) n).toInt64 else f) (if kDel s a = 0 then sAns s a else s) (qAns u a) n ((E_ans R).2.mono (Nat.le_succ cn) hcn)
  · refine x_aload_n hX dL_law_457 3 rfl ?_
    refine x_iconstv hX dL_law_458 0 (by decide) ?_
    refine x_lald hX (N := 1) (f := (if kDel s a = 0 then vp_updL f 0 (fRep (sAns s a) ((sAns s a) 0 (ix a)) n).toInt64 else f)) dL_law_459 0 rfl (vp_in_nI (n := 0) (by decide : 0 < 1) (by decide)) ?_
    refine x_iload hX dL_law_460 6 rfl ?_
    refine x_i2l hX dL_law_462 ?_
    refine x_lcmp hX dL_law_463 ?_
    refine x_if_eq hX 469 dL_law_464 (by decide) (fun _ => ?_) (fun c => absurd (cmp_z c9 ((E_ans R).1 c9)) c)
    refine x_goto hX 1195 dL_law_469 (by decide) ?_
    refine x_lv [0, 1, 2, 3, 4] rfl ?_
    exact cont (if kDel s a = 0 then vp_updL f 0 (fRep (sAns s a) ((sAns s a) 0 (ix a)) n).toInt64 else f) (if kDel s a = 0 then sAns s a else s) (qAns u a) n ((E_ans R).2.mono (Nat.le_succ cn) hcn)
set_option maxRecDepth 100000 in
set_option maxHeartbeats 4000000 in
theorem law_mark (l : Launch) (hfl : l.stackTraces = false) {D : va_G} {cx : xC} {X : xX} (hX : xOK l D cx room_1 X cL_law 7 RL wsL_law) (hTh : xTh X.2.2.2.2.2 X.2.1.1 X.2.1.1.heap) {b0 L : Nat} {xs : Nat → Int32} (hs : xSc X b0 L xs) {k0 n0 : Nat} {o : Nat} {f : Nat → Int64} {h h' : Nat → Nat} {s u : xS} {n cn j : Nat} (R : Rel s u n cn) (hcn : cn + 1 ≤ 512) (hj : j + 4 ≤ L) (hL : L ≤ 2048) (hk : k0 + 1 ≤ room_1.cells ∧ n0 + 6 ≤ room_1.slots) (cont : ∀ (f : Nat → Int64) (s u : xS) (n : Nat), Rel s u n (cn + 1) → xV X 7 (k0 + 1) (n0 + 6) (wLM cx o f h s h' u) 1195 [(0, .ref b0), (1, .ref (h 0)), (2, .ref (h' 0)), (3, .ref o), (4, .int (nI j))] []) : xV X 7 k0 n0 (wLM cx o f h s h' u) 472 [(0, .ref b0), (1, .ref (h 0)), (2, .ref (h' 0)), (3, .ref o), (4, .int (nI j))] [] := by
  have hi1 : vp_in (nI j + 1) L := by
    rw [show (1 : Int32) = nI 1 from rfl, nI_add]
    exact vp_in_nI (by omega) (by omega)
  obtain ⟨a, ha⟩ : ∃ v, xs (nI j + 1).toNatClampNeg = v := ⟨_, rfl⟩
  refine x_aload_n hX dL_law_472 1 rfl ?_
  refine x_aload_n hX dL_law_473 0 rfl ?_
  refine x_iload hX dL_law_474 4 rfl ?_
  refine x_iconstv hX dL_law_476 1 (by decide) ?_
  refine x_iadd hX dL_law_477 ?_
  refine x_sld hX hs dL_law_478 hi1 ha ?_
  refine x_aload_n hX dL_law_479 3 rfl ?_
  refine x_bsl [] (wM cx h' u) (wf' := fun _ => wLM cx o (if kDel s a = 0 then vp_updL f 0 (vMark s n a).toInt64 else f) h (if kDel s a = 0 then sMark s n a else s) h' u) hX hTh dL_law_480 3 rfl (kL_mark l hfl D cx o f h s R.1 a) rfl (fun _ => rfl) gL_law_L_mark rfl ⟨by decide, by decide, by decide +kernel⟩ ⟨rfl, rfl, Nat.le_of_ble_eq_true rfl, Nat.le_of_ble_eq_true rfl, hk.1, hk.2⟩ (Nat.le_of_ble_eq_true rfl) rfl (fun r1 _ hq1 => ?_)
  subst hq1
  refine x_istore hX (lv' := [_, _, _, _, _, _]) dL_law_483 (by decide) rfl rfl ?_
  refine x_aload_n hX dL_law_485 2 rfl ?_
  refine x_aload_n hX dL_law_486 0 rfl ?_
  refine x_iload hX dL_law_487 4 rfl ?_
  refine x_iconstv hX dL_law_489 1 (by decide) ?_
  refine x_iadd hX dL_law_490 ?_
  refine x_sld hX hs dL_law_491 hi1 ha ?_
  refine x_bvi (wL cx o (if kDel s a = 0 then vp_updL f 0 (vMark s n a).toInt64 else f) h (if kDel s a = 0 then sMark s n a else s)) [] (wf' := fun _ => wLM cx o (if kDel s a = 0 then vp_updL f 0 (vMark s n a).toInt64 else f) h (if kDel s a = 0 then sMark s n a else s) h' (qMark u n a)) hX dL_law_492 1 rfl (kX1_mark l D cx h' u R.2.1 a) rfl (fun _ => rfl) gL_law_X1_mark rfl ⟨rfl, by decide, by decide, by decide +kernel⟩ ⟨rfl, rfl, Nat.le_of_ble_eq_true rfl, Nat.le_of_ble_eq_true rfl, hk.1, hk.2⟩ rfl rfl (Nat.le_of_ble_eq_true rfl) rfl (fun r2 _ hq2 => ?_)
  subst hq2
  refine x_istore hX (lv' := [_, _, _, _, _, _, _]) dL_law_495 (by decide) rfl rfl ?_
  refine x_aload_n hX dL_law_497 2 rfl ?_
  refine x_bvi (wL cx o (if kDel s a = 0 then vp_updL f 0 (vMark s n a).toInt64 else f) h (if kDel s a = 0 then sMark s n a else s)) [] (wf' := fun _ => wLM cx o (if kDel s a = 0 then vp_updL f 0 (vMark s n a).toInt64 else f) h (if kDel s a = 0 then sMark s n a else s) h' (qMark u n a)) hX dL_law_498 0 rfl (kX1_thrown l D cx h' (qMark u n a)) rfl (fun _ => rfl) gL_law_X1_thrown rfl ⟨rfl, by decide, by decide, by decide +kernel⟩ ⟨rfl, rfl, Nat.le_of_ble_eq_true rfl, Nat.le_of_ble_eq_true rfl, hk.1, hk.2⟩ rfl rfl (Nat.le_of_ble_eq_true rfl) rfl (fun r3 _ hq3 => ?_)
  subst hq3
  refine x_iload hX dL_law_501 5 rfl ?_
  refine x_icmp_eq hX 508 dL_law_503 (by decide) (fun _ => ?_) (fun c => absurd (qMark_15.trans (R.del a).symm) c)
  refine x_iload hX dL_law_508 5 rfl ?_
  refine x_if_ne hX 525 dL_law_510 (by decide) (fun _ => ?_) (fun c9 => ?_)
  · refine x_goto hX 1195 dL_law_525 (by decide) ?_
    refine x_lv [0, 1, 2, 3, 4] rfl ?_
    exact cont (if kDel s a = 0 then vp_updL f 0 (vMark s n a).toInt64 else f) (if kDel s a = 0 then sMark s n a else s) (qMark u n a) n ((E_mark R hcn).2)
  · refine x_aload_n hX dL_law_513 3 rfl ?_
    refine x_iconstv hX dL_law_514 0 (by decide) ?_
    refine x_lald hX (N := 1) (f := (if kDel s a = 0 then vp_updL f 0 (vMark s n a).toInt64 else f)) dL_law_515 0 rfl (vp_in_nI (n := 0) (by decide : 0 < 1) (by decide)) ?_
    refine x_iload hX dL_law_516 6 rfl ?_
    refine x_i2l hX dL_law_518 ?_
    refine x_lcmp hX dL_law_519 ?_
    refine x_if_eq hX 525 dL_law_520 (by decide) (fun _ => ?_) (fun c => absurd (cmp_z c9 ((E_mark R hcn).1 c9)) c)
    refine x_goto hX 1195 dL_law_525 (by decide) ?_
    refine x_lv [0, 1, 2, 3, 4] rfl ?_
    exact cont (if kDel s a = 0 then vp_updL f 0 (vMark s n a).toInt64 else f) (if kDel s a = 0 then sMark s n a else s) (qMark u n a) n ((E_mark R hcn).2)
set_option maxRecDepth 100000 in
set_option maxHeartbeats 4000000 in
theorem law_letters (l : Launch) (hfl : l.stackTraces = false) {D : va_G} {cx : xC} {X : xX} (hX : xOK l D cx room_1 X cL_law 7 RL wsL_law) (hTh : xTh X.2.2.2.2.2 X.2.1.1 X.2.1.1.heap) {b0 L : Nat} {xs : Nat → Int32} (hs : xSc X b0 L xs) {k0 n0 : Nat} {o : Nat} {f : Nat → Int64} {h h' : Nat → Nat} {s u : xS} {n cn j : Nat} (R : Rel s u n cn) (hcn : cn + 1 ≤ 512) (hj : j + 4 ≤ L) (hL : L ≤ 2048) (hk : k0 + 1 ≤ room_1.cells ∧ n0 + 6 ≤ room_1.slots) (cont : ∀ (f : Nat → Int64) (s u : xS) (n : Nat), Rel s u n (cn + 1) → xV X 7 (k0 + 1) (n0 + 6) (wLM cx o f h s h' u) 1195 [(0, .ref b0), (1, .ref (h 0)), (2, .ref (h' 0)), (3, .ref o), (4, .int (nI j))] []) : xV X 7 k0 n0 (wLM cx o f h s h' u) 528 [(0, .ref b0), (1, .ref (h 0)), (2, .ref (h' 0)), (3, .ref o), (4, .int (nI j))] [] := by
  refine x_aload_n hX dL_law_528 1 rfl ?_
  refine x_bvi [(o, .inl (cx.2.2, 1, .inr (.inl f)))] (wM cx h' u) (wf' := fun _ => wLM cx o f h s h' u) hX dL_law_529 0 rfl (kX0_letters l D cx h s) rfl (fun _ => rfl) gL_law_X0_letters rfl ⟨rfl, by decide, by decide, by decide +kernel⟩ ⟨rfl, rfl, Nat.le_of_ble_eq_true rfl, Nat.le_of_ble_eq_true rfl, Nat.le_of_succ_le hk.1, by have := hk.2; omega⟩ rfl rfl (Nat.le_of_ble_eq_true rfl) rfl (fun r1 _ hq1 => ?_)
  subst hq1
  refine x_aload_n hX dL_law_532 2 rfl ?_
  refine x_bvi (wL cx o f h s) [] (wf' := fun _ => wLM cx o f h s h' (xup u 15 0 0)) hX dL_law_533 0 rfl (kX1_letters l D cx h' u) rfl (fun _ => rfl) gL_law_X1_letters rfl ⟨rfl, by decide, by decide, by decide +kernel⟩ ⟨rfl, rfl, Nat.le_of_ble_eq_true rfl, Nat.le_of_ble_eq_true rfl, Nat.le_of_succ_le hk.1, by have := hk.2; omega⟩ rfl rfl (Nat.le_of_ble_eq_true rfl) rfl (fun r2 _ hq2 => ?_)
  subst hq2
  refine x_icmp_eq hX 1195 dL_law_536 (by decide) (fun _ => ?_) (fun c => absurd (R.1.2.trans R.2.1.2.1.symm) c)
  exact x_widen (Nat.le_succ k0) (Nat.le_add_right n0 6) (cont _ _ _ n ((R.thr 0).mono (Nat.le_succ cn) hcn))
set_option maxRecDepth 100000 in
set_option maxHeartbeats 4000000 in
theorem law_time (l : Launch) (hfl : l.stackTraces = false) {D : va_G} {cx : xC} {X : xX} (hX : xOK l D cx room_1 X cL_law 7 RL wsL_law) (hTh : xTh X.2.2.2.2.2 X.2.1.1 X.2.1.1.heap) {b0 L : Nat} {xs : Nat → Int32} (hs : xSc X b0 L xs) {k0 n0 : Nat} {o : Nat} {f : Nat → Int64} {h h' : Nat → Nat} {s u : xS} {n cn j : Nat} (R : Rel s u n cn) (hcn : cn + 1 ≤ 512) (hj : j + 4 ≤ L) (hL : L ≤ 2048) (hk : k0 + 1 ≤ room_1.cells ∧ n0 + 6 ≤ room_1.slots) (cont : ∀ (f : Nat → Int64) (s u : xS) (n : Nat), Rel s u n (cn + 1) → xV X 7 (k0 + 1) (n0 + 6) (wLM cx o f h s h' u) 1195 [(0, .ref b0), (1, .ref (h 0)), (2, .ref (h' 0)), (3, .ref o), (4, .int (nI j))] []) : xV X 7 k0 n0 (wLM cx o f h s h' u) 541 [(0, .ref b0), (1, .ref (h 0)), (2, .ref (h' 0)), (3, .ref o), (4, .int (nI j))] [] := by
  refine x_aload_n hX dL_law_541 1 rfl ?_
  refine x_bvi [(o, .inl (cx.2.2, 1, .inr (.inl f)))] (wM cx h' u) (wf' := fun _ => wLM cx o f h s h' u) hX dL_law_542 0 rfl (kX0_time l D cx h s) rfl (fun _ => rfl) gL_law_X0_time rfl ⟨rfl, by decide, by decide, by decide +kernel⟩ ⟨rfl, rfl, Nat.le_of_ble_eq_true rfl, Nat.le_of_ble_eq_true rfl, Nat.le_of_succ_le hk.1, by have := hk.2; omega⟩ rfl rfl (Nat.le_of_ble_eq_true rfl) rfl (fun r1 _ hq1 => ?_)
  subst hq1
  refine x_aload_n hX dL_law_545 2 rfl ?_
  refine x_bvi (wL cx o f h s) [] (wf' := fun _ => wLM cx o f h s h' (xup u 15 0 0)) hX dL_law_546 0 rfl (kX1_time l D cx h' u) rfl (fun _ => rfl) gL_law_X1_time rfl ⟨rfl, by decide, by decide, by decide +kernel⟩ ⟨rfl, rfl, Nat.le_of_ble_eq_true rfl, Nat.le_of_ble_eq_true rfl, Nat.le_of_succ_le hk.1, by have := hk.2; omega⟩ rfl rfl (Nat.le_of_ble_eq_true rfl) rfl (fun r2 _ hq2 => ?_)
  subst hq2
  refine x_icmp_eq hX 1195 dL_law_549 (by decide) (fun _ => ?_) (fun c => absurd (R.2.2.2.1.2.2.2.2.2.2.2.2.2.2.2) c)
  exact x_widen (Nat.le_succ k0) (Nat.le_add_right n0 6) (cont _ _ _ n ((R.thr 0).mono (Nat.le_succ cn) hcn))
set_option maxRecDepth 100000 in
set_option maxHeartbeats 4000000 in
theorem law_stateOf (l : Launch) (hfl : l.stackTraces = false) {D : va_G} {cx : xC} {X : xX} (hX : xOK l D cx room_1 X cL_law 7 RL wsL_law) (hTh : xTh X.2.2.2.2.2 X.2.1.1 X.2.1.1.heap) {b0 L : Nat} {xs : Nat → Int32} (hs : xSc X b0 L xs) {k0 n0 : Nat} {o : Nat} {f : Nat → Int64} {h h' : Nat → Nat} {s u : xS} {n cn j : Nat} (R : Rel s u n cn) (hcn : cn + 1 ≤ 512) (hj : j + 4 ≤ L) (hL : L ≤ 2048) (hk : k0 + 1 ≤ room_1.cells ∧ n0 + 6 ≤ room_1.slots) (cont : ∀ (f : Nat → Int64) (s u : xS) (n : Nat), Rel s u n (cn + 1) → xV X 7 (k0 + 1) (n0 + 6) (wLM cx o f h s h' u) 1195 [(0, .ref b0), (1, .ref (h 0)), (2, .ref (h' 0)), (3, .ref o), (4, .int (nI j))] []) : xV X 7 k0 n0 (wLM cx o f h s h' u) 554 [(0, .ref b0), (1, .ref (h 0)), (2, .ref (h' 0)), (3, .ref o), (4, .int (nI j))] [] := by
  have hi1 : vp_in (nI j + 1) L := by
    rw [show (1 : Int32) = nI 1 from rfl, nI_add]
    exact vp_in_nI (by omega) (by omega)
  obtain ⟨a, ha⟩ : ∃ v, xs (nI j + 1).toNatClampNeg = v := ⟨_, rfl⟩
  refine x_aload_n hX dL_law_554 1 rfl ?_
  refine x_aload_n hX dL_law_555 0 rfl ?_
  refine x_iload hX dL_law_556 4 rfl ?_
  refine x_iconstv hX dL_law_558 1 (by decide) ?_
  refine x_iadd hX dL_law_559 ?_
  refine x_sld hX hs dL_law_560 hi1 ha ?_
  refine x_aload_n hX dL_law_561 3 rfl ?_
  refine x_bsl [] (wM cx h' u) (wf' := fun _ => wLM cx o (if kLet s a = 0 then vp_updL f 0 (s 3 (ix a)).toInt64 else f) h (if kLet s a = 0 then s else s) h' u) hX hTh dL_law_562 3 rfl (kL_stateOf l hfl D cx o f h s R.1 a) rfl (fun _ => rfl) gL_law_L_stateOf rfl ⟨by decide, by decide, by decide +kernel⟩ ⟨rfl, rfl, Nat.le_of_ble_eq_true rfl, Nat.le_of_ble_eq_true rfl, hk.1, hk.2⟩ (Nat.le_of_ble_eq_true rfl) rfl (fun r1 _ hq1 => ?_)
  subst hq1
  refine x_istore hX (lv' := [_, _, _, _, _, _]) dL_law_565 (by decide) rfl rfl ?_
  refine x_aload_n hX dL_law_567 2 rfl ?_
  refine x_aload_n hX dL_law_568 0 rfl ?_
  refine x_iload hX dL_law_569 4 rfl ?_
  refine x_iconstv hX dL_law_571 1 (by decide) ?_
  refine x_iadd hX dL_law_572 ?_
  refine x_sld hX hs dL_law_573 hi1 ha ?_
  refine x_bvi (wL cx o (if kLet s a = 0 then vp_updL f 0 (s 3 (ix a)).toInt64 else f) h (if kLet s a = 0 then s else s)) [] (wf' := fun _ => wLM cx o (if kLet s a = 0 then vp_updL f 0 (s 3 (ix a)).toInt64 else f) h (if kLet s a = 0 then s else s) h' (xup u 15 0 (jLet u a))) hX dL_law_574 1 rfl (kX1_stateOf l D cx h' u R.2.1 a) rfl (fun _ => rfl) gL_law_X1_stateOf rfl ⟨rfl, by decide, by decide, by decide +kernel⟩ ⟨rfl, rfl, Nat.le_of_ble_eq_true rfl, Nat.le_of_ble_eq_true rfl, hk.1, hk.2⟩ rfl rfl (Nat.le_of_ble_eq_true rfl) rfl (fun r2 _ hq2 => ?_)
  subst hq2
  refine x_istore hX (lv' := [_, _, _, _, _, _, _]) dL_law_577 (by decide) rfl rfl ?_
  refine x_aload_n hX dL_law_579 2 rfl ?_
  refine x_bvi (wL cx o (if kLet s a = 0 then vp_updL f 0 (s 3 (ix a)).toInt64 else f) h (if kLet s a = 0 then s else s)) [] (wf' := fun _ => wLM cx o (if kLet s a = 0 then vp_updL f 0 (s 3 (ix a)).toInt64 else f) h (if kLet s a = 0 then s else s) h' (xup u 15 0 (jLet u a))) hX dL_law_580 0 rfl (kX1_thrown l D cx h' (xup u 15 0 (jLet u a))) rfl (fun _ => rfl) gL_law_X1_thrown rfl ⟨rfl, by decide, by decide, by decide +kernel⟩ ⟨rfl, rfl, Nat.le_of_ble_eq_true rfl, Nat.le_of_ble_eq_true rfl, hk.1, hk.2⟩ rfl rfl (Nat.le_of_ble_eq_true rfl) rfl (fun r3 _ hq3 => ?_)
  subst hq3
  refine x_iload hX dL_law_583 5 rfl ?_
  refine x_icmp_eq hX 590 dL_law_585 (by decide) (fun _ => ?_) (fun c => absurd ((xup_ss ..).trans (R.klet a).symm) c)
  refine x_iload hX dL_law_590 5 rfl ?_
  refine x_if_ne hX 607 dL_law_592 (by decide) (fun _ => ?_) (fun c9 => ?_)
  · refine x_goto hX 1195 dL_law_607 (by decide) ?_
    refine x_lv [0, 1, 2, 3, 4] rfl ?_
    exact cont (if kLet s a = 0 then vp_updL f 0 (s 3 (ix a)).toInt64 else f) (if kLet s a = 0 then s else s) (xup u 15 0 (jLet u a)) n (by rw [ite_self]; exact (R.thr _).mono (Nat.le_succ cn) hcn)
  · refine x_aload_n hX dL_law_595 3 rfl ?_
    refine x_iconstv hX dL_law_596 0 (by decide) ?_
    refine x_lald hX (N := 1) (f := (if kLet s a = 0 then vp_updL f 0 (s 3 (ix a)).toInt64 else f)) dL_law_597 0 rfl (vp_in_nI (n := 0) (by decide : 0 < 1) (by decide)) ?_
    refine x_iload hX dL_law_598 6 rfl ?_
    refine x_i2l hX dL_law_600 ?_
    refine x_lcmp hX dL_law_601 ?_
    refine x_if_eq hX 607 dL_law_602 (by decide) (fun _ => ?_) (fun c => absurd (cmp_z c9 (E_w9 R c9)) c)
    refine x_goto hX 1195 dL_law_607 (by decide) ?_
    refine x_lv [0, 1, 2, 3, 4] rfl ?_
    exact cont (if kLet s a = 0 then vp_updL f 0 (s 3 (ix a)).toInt64 else f) (if kLet s a = 0 then s else s) (xup u 15 0 (jLet u a)) n (by rw [ite_self]; exact (R.thr _).mono (Nat.le_succ cn) hcn)
set_option maxRecDepth 100000 in
set_option maxHeartbeats 4000000 in
theorem law_relayOf (l : Launch) (hfl : l.stackTraces = false) {D : va_G} {cx : xC} {X : xX} (hX : xOK l D cx room_1 X cL_law 7 RL wsL_law) (hTh : xTh X.2.2.2.2.2 X.2.1.1 X.2.1.1.heap) {b0 L : Nat} {xs : Nat → Int32} (hs : xSc X b0 L xs) {k0 n0 : Nat} {o : Nat} {f : Nat → Int64} {h h' : Nat → Nat} {s u : xS} {n cn j : Nat} (R : Rel s u n cn) (hcn : cn + 1 ≤ 512) (hj : j + 4 ≤ L) (hL : L ≤ 2048) (hk : k0 + 1 ≤ room_1.cells ∧ n0 + 6 ≤ room_1.slots) (cont : ∀ (f : Nat → Int64) (s u : xS) (n : Nat), Rel s u n (cn + 1) → xV X 7 (k0 + 1) (n0 + 6) (wLM cx o f h s h' u) 1195 [(0, .ref b0), (1, .ref (h 0)), (2, .ref (h' 0)), (3, .ref o), (4, .int (nI j))] []) : xV X 7 k0 n0 (wLM cx o f h s h' u) 610 [(0, .ref b0), (1, .ref (h 0)), (2, .ref (h' 0)), (3, .ref o), (4, .int (nI j))] [] := by
  have hi1 : vp_in (nI j + 1) L := by
    rw [show (1 : Int32) = nI 1 from rfl, nI_add]
    exact vp_in_nI (by omega) (by omega)
  obtain ⟨a, ha⟩ : ∃ v, xs (nI j + 1).toNatClampNeg = v := ⟨_, rfl⟩
  refine x_aload_n hX dL_law_610 1 rfl ?_
  refine x_aload_n hX dL_law_611 0 rfl ?_
  refine x_iload hX dL_law_612 4 rfl ?_
  refine x_iconstv hX dL_law_614 1 (by decide) ?_
  refine x_iadd hX dL_law_615 ?_
  refine x_sld hX hs dL_law_616 hi1 ha ?_
  refine x_aload_n hX dL_law_617 3 rfl ?_
  refine x_bsl [] (wM cx h' u) (wf' := fun _ => wLM cx o (if kLet s a = 0 then vp_updL f 0 (s 4 (ix a)).toInt64 else f) h (if kLet s a = 0 then s else s) h' u) hX hTh dL_law_618 3 rfl (kL_relayOf l hfl D cx o f h s R.1 a) rfl (fun _ => rfl) gL_law_L_relayOf rfl ⟨by decide, by decide, by decide +kernel⟩ ⟨rfl, rfl, Nat.le_of_ble_eq_true rfl, Nat.le_of_ble_eq_true rfl, hk.1, hk.2⟩ (Nat.le_of_ble_eq_true rfl) rfl (fun r1 _ hq1 => ?_)
  subst hq1
  refine x_istore hX (lv' := [_, _, _, _, _, _]) dL_law_621 (by decide) rfl rfl ?_
  refine x_aload_n hX dL_law_623 2 rfl ?_
  refine x_aload_n hX dL_law_624 0 rfl ?_
  refine x_iload hX dL_law_625 4 rfl ?_
  refine x_iconstv hX dL_law_627 1 (by decide) ?_
  refine x_iadd hX dL_law_628 ?_
  refine x_sld hX hs dL_law_629 hi1 ha ?_
  refine x_bvi (wL cx o (if kLet s a = 0 then vp_updL f 0 (s 4 (ix a)).toInt64 else f) h (if kLet s a = 0 then s else s)) [] (wf' := fun _ => wLM cx o (if kLet s a = 0 then vp_updL f 0 (s 4 (ix a)).toInt64 else f) h (if kLet s a = 0 then s else s) h' (xup u 15 0 (jLet u a))) hX dL_law_630 1 rfl (kX1_relayOf l D cx h' u R.2.1 a) rfl (fun _ => rfl) gL_law_X1_relayOf rfl ⟨rfl, by decide, by decide, by decide +kernel⟩ ⟨rfl, rfl, Nat.le_of_ble_eq_true rfl, Nat.le_of_ble_eq_true rfl, hk.1, hk.2⟩ rfl rfl (Nat.le_of_ble_eq_true rfl) rfl (fun r2 _ hq2 => ?_)
  subst hq2
  refine x_istore hX (lv' := [_, _, _, _, _, _, _]) dL_law_633 (by decide) rfl rfl ?_
  refine x_aload_n hX dL_law_635 2 rfl ?_
  refine x_bvi (wL cx o (if kLet s a = 0 then vp_updL f 0 (s 4 (ix a)).toInt64 else f) h (if kLet s a = 0 then s else s)) [] (wf' := fun _ => wLM cx o (if kLet s a = 0 then vp_updL f 0 (s 4 (ix a)).toInt64 else f) h (if kLet s a = 0 then s else s) h' (xup u 15 0 (jLet u a))) hX dL_law_636 0 rfl (kX1_thrown l D cx h' (xup u 15 0 (jLet u a))) rfl (fun _ => rfl) gL_law_X1_thrown rfl ⟨rfl, by decide, by decide, by decide +kernel⟩ ⟨rfl, rfl, Nat.le_of_ble_eq_true rfl, Nat.le_of_ble_eq_true rfl, hk.1, hk.2⟩ rfl rfl (Nat.le_of_ble_eq_true rfl) rfl (fun r3 _ hq3 => ?_)
  subst hq3
  refine x_iload hX dL_law_639 5 rfl ?_
  refine x_icmp_eq hX 646 dL_law_641 (by decide) (fun _ => ?_) (fun c => absurd ((xup_ss ..).trans (R.klet a).symm) c)
  refine x_iload hX dL_law_646 5 rfl ?_
  refine x_if_ne hX 663 dL_law_648 (by decide) (fun _ => ?_) (fun c9 => ?_)
  · refine x_goto hX 1195 dL_law_663 (by decide) ?_
    refine x_lv [0, 1, 2, 3, 4] rfl ?_
    exact cont (if kLet s a = 0 then vp_updL f 0 (s 4 (ix a)).toInt64 else f) (if kLet s a = 0 then s else s) (xup u 15 0 (jLet u a)) n (by rw [ite_self]; exact (R.thr _).mono (Nat.le_succ cn) hcn)
  · refine x_aload_n hX dL_law_651 3 rfl ?_
    refine x_iconstv hX dL_law_652 0 (by decide) ?_
    refine x_lald hX (N := 1) (f := (if kLet s a = 0 then vp_updL f 0 (s 4 (ix a)).toInt64 else f)) dL_law_653 0 rfl (vp_in_nI (n := 0) (by decide : 0 < 1) (by decide)) ?_
    refine x_iload hX dL_law_654 6 rfl ?_
    refine x_i2l hX dL_law_656 ?_
    refine x_lcmp hX dL_law_657 ?_
    refine x_if_eq hX 663 dL_law_658 (by decide) (fun _ => ?_) (fun c => absurd (cmp_z c9 (E_w10 R c9)) c)
    refine x_goto hX 1195 dL_law_663 (by decide) ?_
    refine x_lv [0, 1, 2, 3, 4] rfl ?_
    exact cont (if kLet s a = 0 then vp_updL f 0 (s 4 (ix a)).toInt64 else f) (if kLet s a = 0 then s else s) (xup u 15 0 (jLet u a)) n (by rw [ite_self]; exact (R.thr _).mono (Nat.le_succ cn) hcn)
set_option maxRecDepth 100000 in
set_option maxHeartbeats 4000000 in
theorem law_marksOn (l : Launch) (hfl : l.stackTraces = false) {D : va_G} {cx : xC} {X : xX} (hX : xOK l D cx room_1 X cL_law 7 RL wsL_law) (hTh : xTh X.2.2.2.2.2 X.2.1.1 X.2.1.1.heap) {b0 L : Nat} {xs : Nat → Int32} (hs : xSc X b0 L xs) {k0 n0 : Nat} {o : Nat} {f : Nat → Int64} {h h' : Nat → Nat} {s u : xS} {n cn j : Nat} (R : Rel s u n cn) (hcn : cn + 1 ≤ 512) (hj : j + 4 ≤ L) (hL : L ≤ 2048) (hk : k0 + 1 ≤ room_1.cells ∧ n0 + 6 ≤ room_1.slots) (cont : ∀ (f : Nat → Int64) (s u : xS) (n : Nat), Rel s u n (cn + 1) → xV X 7 (k0 + 1) (n0 + 6) (wLM cx o f h s h' u) 1195 [(0, .ref b0), (1, .ref (h 0)), (2, .ref (h' 0)), (3, .ref o), (4, .int (nI j))] []) : xV X 7 k0 n0 (wLM cx o f h s h' u) 666 [(0, .ref b0), (1, .ref (h 0)), (2, .ref (h' 0)), (3, .ref o), (4, .int (nI j))] [] := by
  have hi1 : vp_in (nI j + 1) L := by
    rw [show (1 : Int32) = nI 1 from rfl, nI_add]
    exact vp_in_nI (by omega) (by omega)
  obtain ⟨a, ha⟩ : ∃ v, xs (nI j + 1).toNatClampNeg = v := ⟨_, rfl⟩
  refine x_aload_n hX dL_law_666 1 rfl ?_
  refine x_aload_n hX dL_law_667 0 rfl ?_
  refine x_iload hX dL_law_668 4 rfl ?_
  refine x_iconstv hX dL_law_670 1 (by decide) ?_
  refine x_iadd hX dL_law_671 ?_
  refine x_sld hX hs dL_law_672 hi1 ha ?_
  refine x_aload_n hX dL_law_673 3 rfl ?_
  refine x_bsl [] (wM cx h' u) (wf' := fun _ => wLM cx o (if kLet s a = 0 then vp_updL f 0 (s 5 (ix a)).toInt64 else f) h (if kLet s a = 0 then s else s) h' u) hX hTh dL_law_674 3 rfl (kL_marksOn l hfl D cx o f h s R.1 a) rfl (fun _ => rfl) gL_law_L_marksOn rfl ⟨by decide, by decide, by decide +kernel⟩ ⟨rfl, rfl, Nat.le_of_ble_eq_true rfl, Nat.le_of_ble_eq_true rfl, hk.1, hk.2⟩ (Nat.le_of_ble_eq_true rfl) rfl (fun r1 _ hq1 => ?_)
  subst hq1
  refine x_istore hX (lv' := [_, _, _, _, _, _]) dL_law_677 (by decide) rfl rfl ?_
  refine x_aload_n hX dL_law_679 2 rfl ?_
  refine x_aload_n hX dL_law_680 0 rfl ?_
  refine x_iload hX dL_law_681 4 rfl ?_
  refine x_iconstv hX dL_law_683 1 (by decide) ?_
  refine x_iadd hX dL_law_684 ?_
  refine x_sld hX hs dL_law_685 hi1 ha ?_
  refine x_bvi (wL cx o (if kLet s a = 0 then vp_updL f 0 (s 5 (ix a)).toInt64 else f) h (if kLet s a = 0 then s else s)) [] (wf' := fun _ => wLM cx o (if kLet s a = 0 then vp_updL f 0 (s 5 (ix a)).toInt64 else f) h (if kLet s a = 0 then s else s) h' (xup u 15 0 (jLet u a))) hX dL_law_686 1 rfl (kX1_marksOn l D cx h' u R.2.1 a) rfl (fun _ => rfl) gL_law_X1_marksOn rfl ⟨rfl, by decide, by decide, by decide +kernel⟩ ⟨rfl, rfl, Nat.le_of_ble_eq_true rfl, Nat.le_of_ble_eq_true rfl, hk.1, hk.2⟩ rfl rfl (Nat.le_of_ble_eq_true rfl) rfl (fun r2 _ hq2 => ?_)
  subst hq2
  refine x_istore hX (lv' := [_, _, _, _, _, _, _]) dL_law_689 (by decide) rfl rfl ?_
  refine x_aload_n hX dL_law_691 2 rfl ?_
  refine x_bvi (wL cx o (if kLet s a = 0 then vp_updL f 0 (s 5 (ix a)).toInt64 else f) h (if kLet s a = 0 then s else s)) [] (wf' := fun _ => wLM cx o (if kLet s a = 0 then vp_updL f 0 (s 5 (ix a)).toInt64 else f) h (if kLet s a = 0 then s else s) h' (xup u 15 0 (jLet u a))) hX dL_law_692 0 rfl (kX1_thrown l D cx h' (xup u 15 0 (jLet u a))) rfl (fun _ => rfl) gL_law_X1_thrown rfl ⟨rfl, by decide, by decide, by decide +kernel⟩ ⟨rfl, rfl, Nat.le_of_ble_eq_true rfl, Nat.le_of_ble_eq_true rfl, hk.1, hk.2⟩ rfl rfl (Nat.le_of_ble_eq_true rfl) rfl (fun r3 _ hq3 => ?_)
  subst hq3
  refine x_iload hX dL_law_695 5 rfl ?_
  refine x_icmp_eq hX 702 dL_law_697 (by decide) (fun _ => ?_) (fun c => absurd ((xup_ss ..).trans (R.klet a).symm) c)
  refine x_iload hX dL_law_702 5 rfl ?_
  refine x_if_ne hX 719 dL_law_704 (by decide) (fun _ => ?_) (fun c9 => ?_)
  · refine x_goto hX 1195 dL_law_719 (by decide) ?_
    refine x_lv [0, 1, 2, 3, 4] rfl ?_
    exact cont (if kLet s a = 0 then vp_updL f 0 (s 5 (ix a)).toInt64 else f) (if kLet s a = 0 then s else s) (xup u 15 0 (jLet u a)) n (by rw [ite_self]; exact (R.thr _).mono (Nat.le_succ cn) hcn)
  · refine x_aload_n hX dL_law_707 3 rfl ?_
    refine x_iconstv hX dL_law_708 0 (by decide) ?_
    refine x_lald hX (N := 1) (f := (if kLet s a = 0 then vp_updL f 0 (s 5 (ix a)).toInt64 else f)) dL_law_709 0 rfl (vp_in_nI (n := 0) (by decide : 0 < 1) (by decide)) ?_
    refine x_iload hX dL_law_710 6 rfl ?_
    refine x_i2l hX dL_law_712 ?_
    refine x_lcmp hX dL_law_713 ?_
    refine x_if_eq hX 719 dL_law_714 (by decide) (fun _ => ?_) (fun c => absurd (cmp_z c9 (E_w11 R c9)) c)
    refine x_goto hX 1195 dL_law_719 (by decide) ?_
    refine x_lv [0, 1, 2, 3, 4] rfl ?_
    exact cont (if kLet s a = 0 then vp_updL f 0 (s 5 (ix a)).toInt64 else f) (if kLet s a = 0 then s else s) (xup u 15 0 (jLet u a)) n (by rw [ite_self]; exact (R.thr _).mono (Nat.le_succ cn) hcn)
set_option maxRecDepth 100000 in
set_option maxHeartbeats 4000000 in
theorem law_queue (l : Launch) (hfl : l.stackTraces = false) {D : va_G} {cx : xC} {X : xX} (hX : xOK l D cx room_1 X cL_law 7 RL wsL_law) (hTh : xTh X.2.2.2.2.2 X.2.1.1 X.2.1.1.heap) {b0 L : Nat} {xs : Nat → Int32} (hs : xSc X b0 L xs) {k0 n0 : Nat} {o : Nat} {f : Nat → Int64} {h h' : Nat → Nat} {s u : xS} {n cn j : Nat} (R : Rel s u n cn) (hcn : cn + 1 ≤ 512) (hj : j + 4 ≤ L) (hL : L ≤ 2048) (hk : k0 + 1 ≤ room_1.cells ∧ n0 + 6 ≤ room_1.slots) (cont : ∀ (f : Nat → Int64) (s u : xS) (n : Nat), Rel s u n (cn + 1) → xV X 7 (k0 + 1) (n0 + 6) (wLM cx o f h s h' u) 1195 [(0, .ref b0), (1, .ref (h 0)), (2, .ref (h' 0)), (3, .ref o), (4, .int (nI j))] []) : xV X 7 k0 n0 (wLM cx o f h s h' u) 722 [(0, .ref b0), (1, .ref (h 0)), (2, .ref (h' 0)), (3, .ref o), (4, .int (nI j))] [] := by
  have hi1 : vp_in (nI j + 1) L := by
    rw [show (1 : Int32) = nI 1 from rfl, nI_add]
    exact vp_in_nI (by omega) (by omega)
  obtain ⟨a, ha⟩ : ∃ v, xs (nI j + 1).toNatClampNeg = v := ⟨_, rfl⟩
  refine x_aload_n hX dL_law_722 1 rfl ?_
  refine x_aload_n hX dL_law_723 0 rfl ?_
  refine x_iload hX dL_law_724 4 rfl ?_
  refine x_iconstv hX dL_law_726 1 (by decide) ?_
  refine x_iadd hX dL_law_727 ?_
  refine x_sld hX hs dL_law_728 hi1 ha ?_
  refine x_aload_n hX dL_law_729 3 rfl ?_
  refine x_bsl [] (wM cx h' u) (wf' := fun _ => wLM cx o (if k4 a = 0 then vp_updL f 0 (fLen s a n).toInt64 else f) h (if k4 a = 0 then s else s) h' u) hX hTh dL_law_730 3 rfl (kL_queue l hfl D cx o f h s R.1 a) rfl (fun _ => rfl) gL_law_L_queue rfl ⟨by decide, by decide, by decide +kernel⟩ ⟨rfl, rfl, Nat.le_of_ble_eq_true rfl, Nat.le_of_ble_eq_true rfl, hk.1, hk.2⟩ (Nat.le_of_ble_eq_true rfl) rfl (fun r1 _ hq1 => ?_)
  subst hq1
  refine x_istore hX (lv' := [_, _, _, _, _, _]) dL_law_733 (by decide) rfl rfl ?_
  refine x_aload_n hX dL_law_735 2 rfl ?_
  refine x_aload_n hX dL_law_736 0 rfl ?_
  refine x_iload hX dL_law_737 4 rfl ?_
  refine x_iconstv hX dL_law_739 1 (by decide) ?_
  refine x_iadd hX dL_law_740 ?_
  refine x_sld hX hs dL_law_741 hi1 ha ?_
  refine x_bvi (wL cx o (if k4 a = 0 then vp_updL f 0 (fLen s a n).toInt64 else f) h (if k4 a = 0 then s else s)) [] (wf' := fun _ => wLM cx o (if k4 a = 0 then vp_updL f 0 (fLen s a n).toInt64 else f) h (if k4 a = 0 then s else s) h' (xup u 15 0 (k4 a))) hX dL_law_742 1 rfl (kX1_queue l D cx h' u R.2.1 a) rfl (fun _ => rfl) gL_law_X1_queue rfl ⟨rfl, by decide, by decide, by decide +kernel⟩ ⟨rfl, rfl, Nat.le_of_ble_eq_true rfl, Nat.le_of_ble_eq_true rfl, hk.1, hk.2⟩ rfl rfl (Nat.le_of_ble_eq_true rfl) rfl (fun r2 _ hq2 => ?_)
  subst hq2
  refine x_istore hX (lv' := [_, _, _, _, _, _, _]) dL_law_745 (by decide) rfl rfl ?_
  refine x_aload_n hX dL_law_747 2 rfl ?_
  refine x_bvi (wL cx o (if k4 a = 0 then vp_updL f 0 (fLen s a n).toInt64 else f) h (if k4 a = 0 then s else s)) [] (wf' := fun _ => wLM cx o (if k4 a = 0 then vp_updL f 0 (fLen s a n).toInt64 else f) h (if k4 a = 0 then s else s) h' (xup u 15 0 (k4 a))) hX dL_law_748 0 rfl (kX1_thrown l D cx h' (xup u 15 0 (k4 a))) rfl (fun _ => rfl) gL_law_X1_thrown rfl ⟨rfl, by decide, by decide, by decide +kernel⟩ ⟨rfl, rfl, Nat.le_of_ble_eq_true rfl, Nat.le_of_ble_eq_true rfl, hk.1, hk.2⟩ rfl rfl (Nat.le_of_ble_eq_true rfl) rfl (fun r3 _ hq3 => ?_)
  subst hq3
  refine x_iload hX dL_law_751 5 rfl ?_
  refine x_icmp_eq hX 758 dL_law_753 (by decide) (fun _ => ?_) (fun c => absurd (xup_ss ..) c)
  refine x_iload hX dL_law_758 5 rfl ?_
  refine x_if_ne hX 775 dL_law_760 (by decide) (fun _ => ?_) (fun c9 => ?_)
  · refine x_goto hX 1195 dL_law_775 (by decide) ?_
    refine x_lv [0, 1, 2, 3, 4] rfl ?_
    exact cont (if k4 a = 0 then vp_updL f 0 (fLen s a n).toInt64 else f) (if k4 a = 0 then s else s) (xup u 15 0 (k4 a)) n (by rw [ite_self]; exact (R.thr _).mono (Nat.le_succ cn) hcn)
  · refine x_aload_n hX dL_law_763 3 rfl ?_
    refine x_iconstv hX dL_law_764 0 (by decide) ?_
    refine x_lald hX (N := 1) (f := (if k4 a = 0 then vp_updL f 0 (fLen s a n).toInt64 else f)) dL_law_765 0 rfl (vp_in_nI (n := 0) (by decide : 0 < 1) (by decide)) ?_
    refine x_iload hX dL_law_766 6 rfl ?_
    refine x_i2l hX dL_law_768 ?_
    refine x_lcmp hX dL_law_769 ?_
    refine x_if_eq hX 775 dL_law_770 (by decide) (fun _ => ?_) (fun c => absurd (cmp_z c9 (by rw [if_pos (k4_0 c9)]; exact (R.thr _).len (k4_0 c9) n (Nat.le_refl n))) c)
    refine x_goto hX 1195 dL_law_775 (by decide) ?_
    refine x_lv [0, 1, 2, 3, 4] rfl ?_
    exact cont (if k4 a = 0 then vp_updL f 0 (fLen s a n).toInt64 else f) (if k4 a = 0 then s else s) (xup u 15 0 (k4 a)) n (by rw [ite_self]; exact (R.thr _).mono (Nat.le_succ cn) hcn)
set_option maxRecDepth 100000 in
set_option maxHeartbeats 4000000 in
theorem law_queueAt (l : Launch) (hfl : l.stackTraces = false) {D : va_G} {cx : xC} {X : xX} (hX : xOK l D cx room_1 X cL_law 7 RL wsL_law) (hTh : xTh X.2.2.2.2.2 X.2.1.1 X.2.1.1.heap) {b0 L : Nat} {xs : Nat → Int32} (hs : xSc X b0 L xs) {k0 n0 : Nat} {o : Nat} {f : Nat → Int64} {h h' : Nat → Nat} {s u : xS} {n cn j : Nat} (R : Rel s u n cn) (hcn : cn + 1 ≤ 512) (hj : j + 4 ≤ L) (hL : L ≤ 2048) (hk : k0 + 1 ≤ room_1.cells ∧ n0 + 6 ≤ room_1.slots) (cont : ∀ (f : Nat → Int64) (s u : xS) (n : Nat), Rel s u n (cn + 1) → xV X 7 (k0 + 1) (n0 + 6) (wLM cx o f h s h' u) 1195 [(0, .ref b0), (1, .ref (h 0)), (2, .ref (h' 0)), (3, .ref o), (4, .int (nI j))] []) : xV X 7 k0 n0 (wLM cx o f h s h' u) 778 [(0, .ref b0), (1, .ref (h 0)), (2, .ref (h' 0)), (3, .ref o), (4, .int (nI j))] [] := by
  have hi1 : vp_in (nI j + 1) L := by
    rw [show (1 : Int32) = nI 1 from rfl, nI_add]
    exact vp_in_nI (by omega) (by omega)
  obtain ⟨a, ha⟩ : ∃ v, xs (nI j + 1).toNatClampNeg = v := ⟨_, rfl⟩
  have hi2 : vp_in (nI j + 2) L := by
    rw [show (2 : Int32) = nI 2 from rfl, nI_add]
    exact vp_in_nI (by omega) (by omega)
  obtain ⟨b, hb⟩ : ∃ v, xs (nI j + 2).toNatClampNeg = v := ⟨_, rfl⟩
  refine x_aload_n hX dL_law_778 1 rfl ?_
  refine x_aload_n hX dL_law_779 0 rfl ?_
  refine x_iload hX dL_law_780 4 rfl ?_
  refine x_iconstv hX dL_law_782 1 (by decide) ?_
  refine x_iadd hX dL_law_783 ?_
  refine x_sld hX hs dL_law_784 hi1 ha ?_
  refine x_aload_n hX dL_law_785 0 rfl ?_
  refine x_iload hX dL_law_786 4 rfl ?_
  refine x_iconstv hX dL_law_788 2 (by decide) ?_
  refine x_iadd hX dL_law_789 ?_
  refine x_sld hX hs dL_law_790 hi2 hb ?_
  refine x_aload_n hX dL_law_791 3 rfl ?_
  refine x_bsl [] (wM cx h' u) (wf' := fun _ => wLM cx o (if kAt s n a b = 0 then vp_updL f 0 (fBest (fTakes (fBegin s n) n a (ix b)) a n).toInt64 else f) h (if kAt s n a b = 0 then fTakes (fBegin s n) n a (ix b + 1) else s) h' u) hX hTh dL_law_792 4 rfl (kL_queueAt l hfl D cx o f h s R.1 a b) rfl (fun _ => rfl) gL_law_L_queueAt rfl ⟨by decide, by decide, by decide +kernel⟩ ⟨rfl, rfl, Nat.le_of_ble_eq_true rfl, Nat.le_of_ble_eq_true rfl, hk.1, hk.2⟩ (Nat.le_of_ble_eq_true rfl) rfl (fun r1 _ hq1 => ?_)
  subst hq1
  refine x_istore hX (lv' := [_, _, _, _, _, _]) dL_law_795 (by decide) rfl rfl ?_
  refine x_aload_n hX dL_law_797 2 rfl ?_
  refine x_aload_n hX dL_law_798 0 rfl ?_
  refine x_iload hX dL_law_799 4 rfl ?_
  refine x_iconstv hX dL_law_801 1 (by decide) ?_
  refine x_iadd hX dL_law_802 ?_
  refine x_sld hX hs dL_law_803 hi1 ha ?_
  refine x_aload_n hX dL_law_804 0 rfl ?_
  refine x_iload hX dL_law_805 4 rfl ?_
  refine x_iconstv hX dL_law_807 2 (by decide) ?_
  refine x_iadd hX dL_law_808 ?_
  refine x_sld hX hs dL_law_809 hi2 hb ?_
  refine x_bvi (wL cx o (if kAt s n a b = 0 then vp_updL f 0 (fBest (fTakes (fBegin s n) n a (ix b)) a n).toInt64 else f) h (if kAt s n a b = 0 then fTakes (fBegin s n) n a (ix b + 1) else s)) [] (wf' := fun _ => wLM cx o (if kAt s n a b = 0 then vp_updL f 0 (fBest (fTakes (fBegin s n) n a (ix b)) a n).toInt64 else f) h (if kAt s n a b = 0 then fTakes (fBegin s n) n a (ix b + 1) else s) h' (xup u 15 0 (jAt u n a b))) hX dL_law_810 2 rfl (kX1_queueAt l D cx h' u R.2.1 a b) rfl (fun _ => rfl) gL_law_X1_queueAt rfl ⟨rfl, by decide, by decide, by decide +kernel⟩ ⟨rfl, rfl, Nat.le_of_ble_eq_true rfl, Nat.le_of_ble_eq_true rfl, hk.1, hk.2⟩ rfl rfl (Nat.le_of_ble_eq_true rfl) rfl (fun r2 _ hq2 => ?_)
  subst hq2
  refine x_istore hX (lv' := [_, _, _, _, _, _, _]) dL_law_813 (by decide) rfl rfl ?_
  refine x_aload_n hX dL_law_815 2 rfl ?_
  refine x_bvi (wL cx o (if kAt s n a b = 0 then vp_updL f 0 (fBest (fTakes (fBegin s n) n a (ix b)) a n).toInt64 else f) h (if kAt s n a b = 0 then fTakes (fBegin s n) n a (ix b + 1) else s)) [] (wf' := fun _ => wLM cx o (if kAt s n a b = 0 then vp_updL f 0 (fBest (fTakes (fBegin s n) n a (ix b)) a n).toInt64 else f) h (if kAt s n a b = 0 then fTakes (fBegin s n) n a (ix b + 1) else s) h' (xup u 15 0 (jAt u n a b))) hX dL_law_816 0 rfl (kX1_thrown l D cx h' (xup u 15 0 (jAt u n a b))) rfl (fun _ => rfl) gL_law_X1_thrown rfl ⟨rfl, by decide, by decide, by decide +kernel⟩ ⟨rfl, rfl, Nat.le_of_ble_eq_true rfl, Nat.le_of_ble_eq_true rfl, hk.1, hk.2⟩ rfl rfl (Nat.le_of_ble_eq_true rfl) rfl (fun r3 _ hq3 => ?_)
  subst hq3
  refine x_iload hX dL_law_819 5 rfl ?_
  refine x_icmp_eq hX 826 dL_law_821 (by decide) (fun _ => ?_) (fun c => absurd ((xup_ss ..).trans R.at_k.symm) c)
  refine x_iload hX dL_law_826 5 rfl ?_
  refine x_if_ne hX 843 dL_law_828 (by decide) (fun _ => ?_) (fun c9 => ?_)
  · refine x_goto hX 1195 dL_law_843 (by decide) ?_
    refine x_lv [0, 1, 2, 3, 4] rfl ?_
    exact cont (if kAt s n a b = 0 then vp_updL f 0 (fBest (fTakes (fBegin s n) n a (ix b)) a n).toInt64 else f) (if kAt s n a b = 0 then fTakes (fBegin s n) n a (ix b + 1) else s) (xup u 15 0 (jAt u n a b)) n ((E_atR R _).mono (Nat.le_succ cn) hcn)
  · refine x_aload_n hX dL_law_831 3 rfl ?_
    refine x_iconstv hX dL_law_832 0 (by decide) ?_
    refine x_lald hX (N := 1) (f := (if kAt s n a b = 0 then vp_updL f 0 (fBest (fTakes (fBegin s n) n a (ix b)) a n).toInt64 else f)) dL_law_833 0 rfl (vp_in_nI (n := 0) (by decide : 0 < 1) (by decide)) ?_
    refine x_iload hX dL_law_834 6 rfl ?_
    refine x_i2l hX dL_law_836 ?_
    refine x_lcmp hX dL_law_837 ?_
    refine x_if_eq hX 843 dL_law_838 (by decide) (fun _ => ?_) (fun c => absurd (cmp_z c9 (by rw [if_pos (R.at_k ▸ c9), gFind_thr]; exact E_at R c9)) c)
    refine x_goto hX 1195 dL_law_843 (by decide) ?_
    refine x_lv [0, 1, 2, 3, 4] rfl ?_
    exact cont (if kAt s n a b = 0 then vp_updL f 0 (fBest (fTakes (fBegin s n) n a (ix b)) a n).toInt64 else f) (if kAt s n a b = 0 then fTakes (fBegin s n) n a (ix b + 1) else s) (xup u 15 0 (jAt u n a b)) n ((E_atR R _).mono (Nat.le_succ cn) hcn)
set_option maxRecDepth 100000 in
set_option maxHeartbeats 4000000 in
theorem law_coins (l : Launch) (hfl : l.stackTraces = false) {D : va_G} {cx : xC} {X : xX} (hX : xOK l D cx room_1 X cL_law 7 RL wsL_law) (hTh : xTh X.2.2.2.2.2 X.2.1.1 X.2.1.1.heap) {b0 L : Nat} {xs : Nat → Int32} (hs : xSc X b0 L xs) {k0 n0 : Nat} {o : Nat} {f : Nat → Int64} {h h' : Nat → Nat} {s u : xS} {n cn j : Nat} (R : Rel s u n cn) (hcn : cn + 1 ≤ 512) (hj : j + 4 ≤ L) (hL : L ≤ 2048) (hk : k0 + 1 ≤ room_1.cells ∧ n0 + 6 ≤ room_1.slots) (cont : ∀ (f : Nat → Int64) (s u : xS) (n : Nat), Rel s u n (cn + 1) → xV X 7 (k0 + 1) (n0 + 6) (wLM cx o f h s h' u) 1195 [(0, .ref b0), (1, .ref (h 0)), (2, .ref (h' 0)), (3, .ref o), (4, .int (nI j))] []) : xV X 7 k0 n0 (wLM cx o f h s h' u) 846 [(0, .ref b0), (1, .ref (h 0)), (2, .ref (h' 0)), (3, .ref o), (4, .int (nI j))] [] := by
  have hi1 : vp_in (nI j + 1) L := by
    rw [show (1 : Int32) = nI 1 from rfl, nI_add]
    exact vp_in_nI (by omega) (by omega)
  obtain ⟨a, ha⟩ : ∃ v, xs (nI j + 1).toNatClampNeg = v := ⟨_, rfl⟩
  refine x_aload_n hX dL_law_846 1 rfl ?_
  refine x_aload_n hX dL_law_847 0 rfl ?_
  refine x_iload hX dL_law_848 4 rfl ?_
  refine x_iconstv hX dL_law_850 1 (by decide) ?_
  refine x_iadd hX dL_law_851 ?_
  refine x_sld hX hs dL_law_852 hi1 ha ?_
  refine x_aload_n hX dL_law_853 3 rfl ?_
  refine x_bsl [] (wM cx h' u) (wf' := fun _ => wLM cx o (if k8 a = 0 then vp_updL f 0 (s 8 (ix a)).toInt64 else f) h (if k8 a = 0 then s else s) h' u) hX hTh dL_law_854 3 rfl (kL_coins l hfl D cx o f h s R.1 a) rfl (fun _ => rfl) gL_law_L_coins rfl ⟨by decide, by decide, by decide +kernel⟩ ⟨rfl, rfl, Nat.le_of_ble_eq_true rfl, Nat.le_of_ble_eq_true rfl, hk.1, hk.2⟩ (Nat.le_of_ble_eq_true rfl) rfl (fun r1 _ hq1 => ?_)
  subst hq1
  refine x_istore hX (lv' := [_, _, _, _, _, _]) dL_law_857 (by decide) rfl rfl ?_
  refine x_aload_n hX dL_law_859 2 rfl ?_
  refine x_aload_n hX dL_law_860 0 rfl ?_
  refine x_iload hX dL_law_861 4 rfl ?_
  refine x_iconstv hX dL_law_863 1 (by decide) ?_
  refine x_iadd hX dL_law_864 ?_
  refine x_sld hX hs dL_law_865 hi1 ha ?_
  refine x_bvi (wL cx o (if k8 a = 0 then vp_updL f 0 (s 8 (ix a)).toInt64 else f) h (if k8 a = 0 then s else s)) [] (wf' := fun _ => wLM cx o (if k8 a = 0 then vp_updL f 0 (s 8 (ix a)).toInt64 else f) h (if k8 a = 0 then s else s) h' (xup u 15 0 (k8 a))) hX dL_law_866 1 rfl (kX1_coins l D cx h' u R.2.1 a) rfl (fun _ => rfl) gL_law_X1_coins rfl ⟨rfl, by decide, by decide, by decide +kernel⟩ ⟨rfl, rfl, Nat.le_of_ble_eq_true rfl, Nat.le_of_ble_eq_true rfl, hk.1, hk.2⟩ rfl rfl (Nat.le_of_ble_eq_true rfl) rfl (fun r2 _ hq2 => ?_)
  subst hq2
  refine x_istore hX (lv' := [_, _, _, _, _, _, _]) dL_law_869 (by decide) rfl rfl ?_
  refine x_aload_n hX dL_law_871 2 rfl ?_
  refine x_bvi (wL cx o (if k8 a = 0 then vp_updL f 0 (s 8 (ix a)).toInt64 else f) h (if k8 a = 0 then s else s)) [] (wf' := fun _ => wLM cx o (if k8 a = 0 then vp_updL f 0 (s 8 (ix a)).toInt64 else f) h (if k8 a = 0 then s else s) h' (xup u 15 0 (k8 a))) hX dL_law_872 0 rfl (kX1_thrown l D cx h' (xup u 15 0 (k8 a))) rfl (fun _ => rfl) gL_law_X1_thrown rfl ⟨rfl, by decide, by decide, by decide +kernel⟩ ⟨rfl, rfl, Nat.le_of_ble_eq_true rfl, Nat.le_of_ble_eq_true rfl, hk.1, hk.2⟩ rfl rfl (Nat.le_of_ble_eq_true rfl) rfl (fun r3 _ hq3 => ?_)
  subst hq3
  refine x_iload hX dL_law_875 5 rfl ?_
  refine x_icmp_eq hX 882 dL_law_877 (by decide) (fun _ => ?_) (fun c => absurd (xup_ss ..) c)
  refine x_iload hX dL_law_882 5 rfl ?_
  refine x_if_ne hX 899 dL_law_884 (by decide) (fun _ => ?_) (fun c9 => ?_)
  · refine x_goto hX 1195 dL_law_899 (by decide) ?_
    refine x_lv [0, 1, 2, 3, 4] rfl ?_
    exact cont (if k8 a = 0 then vp_updL f 0 (s 8 (ix a)).toInt64 else f) (if k8 a = 0 then s else s) (xup u 15 0 (k8 a)) n (by rw [ite_self]; exact (R.thr _).mono (Nat.le_succ cn) hcn)
  · refine x_aload_n hX dL_law_887 3 rfl ?_
    refine x_iconstv hX dL_law_888 0 (by decide) ?_
    refine x_lald hX (N := 1) (f := (if k8 a = 0 then vp_updL f 0 (s 8 (ix a)).toInt64 else f)) dL_law_889 0 rfl (vp_in_nI (n := 0) (by decide : 0 < 1) (by decide)) ?_
    refine x_iload hX dL_law_890 6 rfl ?_
    refine x_i2l hX dL_law_892 ?_
    refine x_lcmp hX dL_law_893 ?_
    refine x_if_eq hX 899 dL_law_894 (by decide) (fun _ => ?_) (fun c => absurd (cmp_z c9 (by rw [if_pos (k8_0 c9)]; exact (congrFun R.2.2.2.1.2.2.2.2.2.2.2.1 _).symm)) c)
    refine x_goto hX 1195 dL_law_899 (by decide) ?_
    refine x_lv [0, 1, 2, 3, 4] rfl ?_
    exact cont (if k8 a = 0 then vp_updL f 0 (s 8 (ix a)).toInt64 else f) (if k8 a = 0 then s else s) (xup u 15 0 (k8 a)) n (by rw [ite_self]; exact (R.thr _).mono (Nat.le_succ cn) hcn)
set_option maxRecDepth 100000 in
set_option maxHeartbeats 4000000 in
theorem law_pool (l : Launch) (hfl : l.stackTraces = false) {D : va_G} {cx : xC} {X : xX} (hX : xOK l D cx room_1 X cL_law 7 RL wsL_law) (hTh : xTh X.2.2.2.2.2 X.2.1.1 X.2.1.1.heap) {b0 L : Nat} {xs : Nat → Int32} (hs : xSc X b0 L xs) {k0 n0 : Nat} {o : Nat} {f : Nat → Int64} {h h' : Nat → Nat} {s u : xS} {n cn j : Nat} (R : Rel s u n cn) (hcn : cn + 1 ≤ 512) (hj : j + 4 ≤ L) (hL : L ≤ 2048) (hk : k0 + 1 ≤ room_1.cells ∧ n0 + 6 ≤ room_1.slots) (cont : ∀ (f : Nat → Int64) (s u : xS) (n : Nat), Rel s u n (cn + 1) → xV X 7 (k0 + 1) (n0 + 6) (wLM cx o f h s h' u) 1195 [(0, .ref b0), (1, .ref (h 0)), (2, .ref (h' 0)), (3, .ref o), (4, .int (nI j))] []) : xV X 7 k0 n0 (wLM cx o f h s h' u) 902 [(0, .ref b0), (1, .ref (h 0)), (2, .ref (h' 0)), (3, .ref o), (4, .int (nI j))] [] := by
  have hi1 : vp_in (nI j + 1) L := by
    rw [show (1 : Int32) = nI 1 from rfl, nI_add]
    exact vp_in_nI (by omega) (by omega)
  obtain ⟨a, ha⟩ : ∃ v, xs (nI j + 1).toNatClampNeg = v := ⟨_, rfl⟩
  refine x_aload_n hX dL_law_902 1 rfl ?_
  refine x_aload_n hX dL_law_903 0 rfl ?_
  refine x_iload hX dL_law_904 4 rfl ?_
  refine x_iconstv hX dL_law_906 1 (by decide) ?_
  refine x_iadd hX dL_law_907 ?_
  refine x_sld hX hs dL_law_908 hi1 ha ?_
  refine x_aload_n hX dL_law_909 3 rfl ?_
  refine x_bsl [] (wM cx h' u) (wf' := fun _ => wLM cx o (if k4 a = 0 then vp_updL f 0 (s 10 (ix a)).toInt64 else f) h (if k4 a = 0 then s else s) h' u) hX hTh dL_law_910 3 rfl (kL_pool l hfl D cx o f h s R.1 a) rfl (fun _ => rfl) gL_law_L_pool rfl ⟨by decide, by decide, by decide +kernel⟩ ⟨rfl, rfl, Nat.le_of_ble_eq_true rfl, Nat.le_of_ble_eq_true rfl, hk.1, hk.2⟩ (Nat.le_of_ble_eq_true rfl) rfl (fun r1 _ hq1 => ?_)
  subst hq1
  refine x_istore hX (lv' := [_, _, _, _, _, _]) dL_law_913 (by decide) rfl rfl ?_
  refine x_aload_n hX dL_law_915 2 rfl ?_
  refine x_aload_n hX dL_law_916 0 rfl ?_
  refine x_iload hX dL_law_917 4 rfl ?_
  refine x_iconstv hX dL_law_919 1 (by decide) ?_
  refine x_iadd hX dL_law_920 ?_
  refine x_sld hX hs dL_law_921 hi1 ha ?_
  refine x_bvi (wL cx o (if k4 a = 0 then vp_updL f 0 (s 10 (ix a)).toInt64 else f) h (if k4 a = 0 then s else s)) [] (wf' := fun _ => wLM cx o (if k4 a = 0 then vp_updL f 0 (s 10 (ix a)).toInt64 else f) h (if k4 a = 0 then s else s) h' (xup u 15 0 (k4 a))) hX dL_law_922 1 rfl (kX1_pool l D cx h' u R.2.1 a) rfl (fun _ => rfl) gL_law_X1_pool rfl ⟨rfl, by decide, by decide, by decide +kernel⟩ ⟨rfl, rfl, Nat.le_of_ble_eq_true rfl, Nat.le_of_ble_eq_true rfl, hk.1, hk.2⟩ rfl rfl (Nat.le_of_ble_eq_true rfl) rfl (fun r2 _ hq2 => ?_)
  subst hq2
  refine x_istore hX (lv' := [_, _, _, _, _, _, _]) dL_law_925 (by decide) rfl rfl ?_
  refine x_aload_n hX dL_law_927 2 rfl ?_
  refine x_bvi (wL cx o (if k4 a = 0 then vp_updL f 0 (s 10 (ix a)).toInt64 else f) h (if k4 a = 0 then s else s)) [] (wf' := fun _ => wLM cx o (if k4 a = 0 then vp_updL f 0 (s 10 (ix a)).toInt64 else f) h (if k4 a = 0 then s else s) h' (xup u 15 0 (k4 a))) hX dL_law_928 0 rfl (kX1_thrown l D cx h' (xup u 15 0 (k4 a))) rfl (fun _ => rfl) gL_law_X1_thrown rfl ⟨rfl, by decide, by decide, by decide +kernel⟩ ⟨rfl, rfl, Nat.le_of_ble_eq_true rfl, Nat.le_of_ble_eq_true rfl, hk.1, hk.2⟩ rfl rfl (Nat.le_of_ble_eq_true rfl) rfl (fun r3 _ hq3 => ?_)
  subst hq3
  refine x_iload hX dL_law_931 5 rfl ?_
  refine x_icmp_eq hX 938 dL_law_933 (by decide) (fun _ => ?_) (fun c => absurd (xup_ss ..) c)
  refine x_iload hX dL_law_938 5 rfl ?_
  refine x_if_ne hX 955 dL_law_940 (by decide) (fun _ => ?_) (fun c9 => ?_)
  · refine x_goto hX 1195 dL_law_955 (by decide) ?_
    refine x_lv [0, 1, 2, 3, 4] rfl ?_
    exact cont (if k4 a = 0 then vp_updL f 0 (s 10 (ix a)).toInt64 else f) (if k4 a = 0 then s else s) (xup u 15 0 (k4 a)) n (by rw [ite_self]; exact (R.thr _).mono (Nat.le_succ cn) hcn)
  · refine x_aload_n hX dL_law_943 3 rfl ?_
    refine x_iconstv hX dL_law_944 0 (by decide) ?_
    refine x_lald hX (N := 1) (f := (if k4 a = 0 then vp_updL f 0 (s 10 (ix a)).toInt64 else f)) dL_law_945 0 rfl (vp_in_nI (n := 0) (by decide : 0 < 1) (by decide)) ?_
    refine x_iload hX dL_law_946 6 rfl ?_
    refine x_i2l hX dL_law_948 ?_
    refine x_lcmp hX dL_law_949 ?_
    refine x_if_eq hX 955 dL_law_950 (by decide) (fun _ => ?_) (fun c => absurd (cmp_z c9 (by rw [if_pos (k4_0 c9)]; exact (congrFun R.2.2.2.1.2.2.2.2.2.2.2.2.2.1 _).symm)) c)
    refine x_goto hX 1195 dL_law_955 (by decide) ?_
    refine x_lv [0, 1, 2, 3, 4] rfl ?_
    exact cont (if k4 a = 0 then vp_updL f 0 (s 10 (ix a)).toInt64 else f) (if k4 a = 0 then s else s) (xup u 15 0 (k4 a)) n (by rw [ite_self]; exact (R.thr _).mono (Nat.le_succ cn) hcn)
set_option maxRecDepth 100000 in
set_option maxHeartbeats 4000000 in
theorem law_escrow (l : Launch) (hfl : l.stackTraces = false) {D : va_G} {cx : xC} {X : xX} (hX : xOK l D cx room_1 X cL_law 7 RL wsL_law) (hTh : xTh X.2.2.2.2.2 X.2.1.1 X.2.1.1.heap) {b0 L : Nat} {xs : Nat → Int32} (hs : xSc X b0 L xs) {k0 n0 : Nat} {o : Nat} {f : Nat → Int64} {h h' : Nat → Nat} {s u : xS} {n cn j : Nat} (R : Rel s u n cn) (hcn : cn + 1 ≤ 512) (hj : j + 4 ≤ L) (hL : L ≤ 2048) (hk : k0 + 1 ≤ room_1.cells ∧ n0 + 6 ≤ room_1.slots) (cont : ∀ (f : Nat → Int64) (s u : xS) (n : Nat), Rel s u n (cn + 1) → xV X 7 (k0 + 1) (n0 + 6) (wLM cx o f h s h' u) 1195 [(0, .ref b0), (1, .ref (h 0)), (2, .ref (h' 0)), (3, .ref o), (4, .int (nI j))] []) : xV X 7 k0 n0 (wLM cx o f h s h' u) 958 [(0, .ref b0), (1, .ref (h 0)), (2, .ref (h' 0)), (3, .ref o), (4, .int (nI j))] [] := by
  refine x_aload_n hX dL_law_958 1 rfl ?_
  refine x_bvi [(o, .inl (cx.2.2, 1, .inr (.inl f)))] (wM cx h' u) (wf' := fun _ => wLM cx o f h s h' u) hX dL_law_959 0 rfl (kX0_escrow l D cx h s R.1) rfl (fun _ => rfl) gL_law_X0_escrow rfl ⟨rfl, by decide, by decide, by decide +kernel⟩ ⟨rfl, rfl, Nat.le_of_ble_eq_true rfl, Nat.le_of_ble_eq_true rfl, Nat.le_of_succ_le hk.1, by have := hk.2; omega⟩ rfl rfl (Nat.le_of_ble_eq_true rfl) rfl (fun r1 _ hq1 => ?_)
  subst hq1
  refine x_aload_n hX dL_law_962 2 rfl ?_
  refine x_bvi (wL cx o f h s) [] (wf' := fun _ => wLM cx o f h s h' (xup u 15 0 0)) hX dL_law_963 0 rfl (kX1_escrow l D cx h' u R.2.1) rfl (fun _ => rfl) gL_law_X1_escrow rfl ⟨rfl, by decide, by decide, by decide +kernel⟩ ⟨rfl, rfl, Nat.le_of_ble_eq_true rfl, Nat.le_of_ble_eq_true rfl, Nat.le_of_succ_le hk.1, by have := hk.2; omega⟩ rfl rfl (Nat.le_of_ble_eq_true rfl) rfl (fun r2 _ hq2 => ?_)
  subst hq2
  refine x_icmp_eq hX 1195 dL_law_966 (by decide) (fun _ => ?_) (fun c => absurd (((R.thr 0).esc n).symm) c)
  exact x_widen (Nat.le_succ k0) (Nat.le_add_right n0 6) (cont _ _ _ n ((R.thr 0).mono (Nat.le_succ cn) hcn))
set_option maxRecDepth 100000 in
set_option maxHeartbeats 4000000 in
theorem law_reputation (l : Launch) (hfl : l.stackTraces = false) {D : va_G} {cx : xC} {X : xX} (hX : xOK l D cx room_1 X cL_law 7 RL wsL_law) (hTh : xTh X.2.2.2.2.2 X.2.1.1 X.2.1.1.heap) {b0 L : Nat} {xs : Nat → Int32} (hs : xSc X b0 L xs) {k0 n0 : Nat} {o : Nat} {f : Nat → Int64} {h h' : Nat → Nat} {s u : xS} {n cn j : Nat} (R : Rel s u n cn) (hcn : cn + 1 ≤ 512) (hj : j + 4 ≤ L) (hL : L ≤ 2048) (hk : k0 + 1 ≤ room_1.cells ∧ n0 + 6 ≤ room_1.slots) (cont : ∀ (f : Nat → Int64) (s u : xS) (n : Nat), Rel s u n (cn + 1) → xV X 7 (k0 + 1) (n0 + 6) (wLM cx o f h s h' u) 1195 [(0, .ref b0), (1, .ref (h 0)), (2, .ref (h' 0)), (3, .ref o), (4, .int (nI j))] []) : xV X 7 k0 n0 (wLM cx o f h s h' u) 971 [(0, .ref b0), (1, .ref (h 0)), (2, .ref (h' 0)), (3, .ref o), (4, .int (nI j))] [] := by
  have hi1 : vp_in (nI j + 1) L := by
    rw [show (1 : Int32) = nI 1 from rfl, nI_add]
    exact vp_in_nI (by omega) (by omega)
  obtain ⟨a, ha⟩ : ∃ v, xs (nI j + 1).toNatClampNeg = v := ⟨_, rfl⟩
  refine x_aload_n hX dL_law_971 1 rfl ?_
  refine x_aload_n hX dL_law_972 0 rfl ?_
  refine x_iload hX dL_law_973 4 rfl ?_
  refine x_iconstv hX dL_law_975 1 (by decide) ?_
  refine x_iadd hX dL_law_976 ?_
  refine x_sld hX hs dL_law_977 hi1 ha ?_
  refine x_aload_n hX dL_law_978 3 rfl ?_
  refine x_bsl [] (wM cx h' u) (wf' := fun _ => wLM cx o (if k8 a = 0 then vp_updL f 0 (fRep s a n).toInt64 else f) h (if k8 a = 0 then s else s) h' u) hX hTh dL_law_979 3 rfl (kL_reputation l hfl D cx o f h s R.1 a) rfl (fun _ => rfl) gL_law_L_reputation rfl ⟨by decide, by decide, by decide +kernel⟩ ⟨rfl, rfl, Nat.le_of_ble_eq_true rfl, Nat.le_of_ble_eq_true rfl, hk.1, hk.2⟩ (Nat.le_of_ble_eq_true rfl) rfl (fun r1 _ hq1 => ?_)
  subst hq1
  refine x_istore hX (lv' := [_, _, _, _, _, _]) dL_law_982 (by decide) rfl rfl ?_
  refine x_aload_n hX dL_law_984 2 rfl ?_
  refine x_aload_n hX dL_law_985 0 rfl ?_
  refine x_iload hX dL_law_986 4 rfl ?_
  refine x_iconstv hX dL_law_988 1 (by decide) ?_
  refine x_iadd hX dL_law_989 ?_
  refine x_sld hX hs dL_law_990 hi1 ha ?_
  refine x_bvi (wL cx o (if k8 a = 0 then vp_updL f 0 (fRep s a n).toInt64 else f) h (if k8 a = 0 then s else s)) [] (wf' := fun _ => wLM cx o (if k8 a = 0 then vp_updL f 0 (fRep s a n).toInt64 else f) h (if k8 a = 0 then s else s) h' (xup u 15 0 (k8 a))) hX dL_law_991 1 rfl (kX1_reputation l D cx h' u R.2.1 a) rfl (fun _ => rfl) gL_law_X1_reputation rfl ⟨rfl, by decide, by decide, by decide +kernel⟩ ⟨rfl, rfl, Nat.le_of_ble_eq_true rfl, Nat.le_of_ble_eq_true rfl, hk.1, hk.2⟩ rfl rfl (Nat.le_of_ble_eq_true rfl) rfl (fun r2 _ hq2 => ?_)
  subst hq2
  refine x_istore hX (lv' := [_, _, _, _, _, _, _]) dL_law_994 (by decide) rfl rfl ?_
  refine x_aload_n hX dL_law_996 2 rfl ?_
  refine x_bvi (wL cx o (if k8 a = 0 then vp_updL f 0 (fRep s a n).toInt64 else f) h (if k8 a = 0 then s else s)) [] (wf' := fun _ => wLM cx o (if k8 a = 0 then vp_updL f 0 (fRep s a n).toInt64 else f) h (if k8 a = 0 then s else s) h' (xup u 15 0 (k8 a))) hX dL_law_997 0 rfl (kX1_thrown l D cx h' (xup u 15 0 (k8 a))) rfl (fun _ => rfl) gL_law_X1_thrown rfl ⟨rfl, by decide, by decide, by decide +kernel⟩ ⟨rfl, rfl, Nat.le_of_ble_eq_true rfl, Nat.le_of_ble_eq_true rfl, hk.1, hk.2⟩ rfl rfl (Nat.le_of_ble_eq_true rfl) rfl (fun r3 _ hq3 => ?_)
  subst hq3
  refine x_iload hX dL_law_1000 5 rfl ?_
  refine x_icmp_eq hX 1007 dL_law_1002 (by decide) (fun _ => ?_) (fun c => absurd (xup_ss ..) c)
  refine x_iload hX dL_law_1007 5 rfl ?_
  refine x_if_ne hX 1024 dL_law_1009 (by decide) (fun _ => ?_) (fun c9 => ?_)
  · refine x_goto hX 1195 dL_law_1024 (by decide) ?_
    refine x_lv [0, 1, 2, 3, 4] rfl ?_
    exact cont (if k8 a = 0 then vp_updL f 0 (fRep s a n).toInt64 else f) (if k8 a = 0 then s else s) (xup u 15 0 (k8 a)) n (by rw [ite_self]; exact (R.thr _).mono (Nat.le_succ cn) hcn)
  · refine x_aload_n hX dL_law_1012 3 rfl ?_
    refine x_iconstv hX dL_law_1013 0 (by decide) ?_
    refine x_lald hX (N := 1) (f := (if k8 a = 0 then vp_updL f 0 (fRep s a n).toInt64 else f)) dL_law_1014 0 rfl (vp_in_nI (n := 0) (by decide : 0 < 1) (by decide)) ?_
    refine x_iload hX dL_law_1015 6 rfl ?_
    refine x_i2l hX dL_law_1017 ?_
    refine x_lcmp hX dL_law_1018 ?_
    refine x_if_eq hX 1024 dL_law_1019 (by decide) (fun _ => ?_) (fun c => absurd (cmp_z c9 (by rw [if_pos (k8_0 c9)]; exact ((R.thr _).rep a n (Nat.le_refl n)).symm)) c)
    refine x_goto hX 1195 dL_law_1024 (by decide) ?_
    refine x_lv [0, 1, 2, 3, 4] rfl ?_
    exact cont (if k8 a = 0 then vp_updL f 0 (fRep s a n).toInt64 else f) (if k8 a = 0 then s else s) (xup u 15 0 (k8 a)) n (by rw [ite_self]; exact (R.thr _).mono (Nat.le_succ cn) hcn)
set_option maxRecDepth 100000 in
set_option maxHeartbeats 4000000 in
theorem law_reputationAtOnce (l : Launch) (hfl : l.stackTraces = false) {D : va_G} {cx : xC} {X : xX} (hX : xOK l D cx room_1 X cL_law 7 RL wsL_law) (hTh : xTh X.2.2.2.2.2 X.2.1.1 X.2.1.1.heap) {b0 L : Nat} {xs : Nat → Int32} (hs : xSc X b0 L xs) {k0 n0 : Nat} {o : Nat} {f : Nat → Int64} {h h' : Nat → Nat} {s u : xS} {n cn j : Nat} (R : Rel s u n cn) (hcn : cn + 1 ≤ 512) (hj : j + 4 ≤ L) (hL : L ≤ 2048) (hk : k0 + 1 ≤ room_1.cells ∧ n0 + 6 ≤ room_1.slots) (cont : ∀ (f : Nat → Int64) (s u : xS) (n : Nat), Rel s u n (cn + 1) → xV X 7 (k0 + 1) (n0 + 6) (wLM cx o f h s h' u) 1195 [(0, .ref b0), (1, .ref (h 0)), (2, .ref (h' 0)), (3, .ref o), (4, .int (nI j))] []) : xV X 7 k0 n0 (wLM cx o f h s h' u) 1027 [(0, .ref b0), (1, .ref (h 0)), (2, .ref (h' 0)), (3, .ref o), (4, .int (nI j))] [] := by
  have hi1 : vp_in (nI j + 1) L := by
    rw [show (1 : Int32) = nI 1 from rfl, nI_add]
    exact vp_in_nI (by omega) (by omega)
  obtain ⟨a, ha⟩ : ∃ v, xs (nI j + 1).toNatClampNeg = v := ⟨_, rfl⟩
  refine x_aload_n hX dL_law_1027 1 rfl ?_
  refine x_aload_n hX dL_law_1028 0 rfl ?_
  refine x_iload hX dL_law_1029 4 rfl ?_
  refine x_iconstv hX dL_law_1031 1 (by decide) ?_
  refine x_iadd hX dL_law_1032 ?_
  refine x_sld hX hs dL_law_1033 hi1 ha ?_
  refine x_aload_n hX dL_law_1034 3 rfl ?_
  refine x_bsl [] (wM cx h' u) (wf' := fun _ => wLM cx o (if k8 a = 0 then vp_updL f 0 ((fAll s n) 15 (ix a)).toInt64 else f) h (if k8 a = 0 then fAll s n else s) h' u) hX hTh dL_law_1035 3 rfl (kL_reputationAtOnce l hfl D cx o f h s R.1 a) rfl (fun _ => rfl) gL_law_L_reputationAtOnce rfl ⟨by decide, by decide, by decide +kernel⟩ ⟨rfl, rfl, Nat.le_of_ble_eq_true rfl, Nat.le_of_ble_eq_true rfl, hk.1, hk.2⟩ (Nat.le_of_ble_eq_true rfl) rfl (fun r1 _ hq1 => ?_)
  subst hq1
  refine x_istore hX (lv' := [_, _, _, _, _, _]) dL_law_1038 (by decide) rfl rfl ?_
  refine x_aload_n hX dL_law_1040 2 rfl ?_
  refine x_aload_n hX dL_law_1041 0 rfl ?_
  refine x_iload hX dL_law_1042 4 rfl ?_
  refine x_iconstv hX dL_law_1044 1 (by decide) ?_
  refine x_iadd hX dL_law_1045 ?_
  refine x_sld hX hs dL_law_1046 hi1 ha ?_
  refine x_bvi (wL cx o (if k8 a = 0 then vp_updL f 0 ((fAll s n) 15 (ix a)).toInt64 else f) h (if k8 a = 0 then fAll s n else s)) [] (wf' := fun _ => wLM cx o (if k8 a = 0 then vp_updL f 0 ((fAll s n) 15 (ix a)).toInt64 else f) h (if k8 a = 0 then fAll s n else s) h' (xup u 15 0 (k8 a))) hX dL_law_1047 1 rfl (kX1_reputationAtOnce l D cx h' u R.2.1 a) rfl (fun _ => rfl) gL_law_X1_reputationAtOnce rfl ⟨rfl, by decide, by decide, by decide +kernel⟩ ⟨rfl, rfl, Nat.le_of_ble_eq_true rfl, Nat.le_of_ble_eq_true rfl, hk.1, hk.2⟩ rfl rfl (Nat.le_of_ble_eq_true rfl) rfl (fun r2 _ hq2 => ?_)
  subst hq2
  refine x_istore hX (lv' := [_, _, _, _, _, _, _]) dL_law_1050 (by decide) rfl rfl ?_
  refine x_aload_n hX dL_law_1052 2 rfl ?_
  refine x_bvi (wL cx o (if k8 a = 0 then vp_updL f 0 ((fAll s n) 15 (ix a)).toInt64 else f) h (if k8 a = 0 then fAll s n else s)) [] (wf' := fun _ => wLM cx o (if k8 a = 0 then vp_updL f 0 ((fAll s n) 15 (ix a)).toInt64 else f) h (if k8 a = 0 then fAll s n else s) h' (xup u 15 0 (k8 a))) hX dL_law_1053 0 rfl (kX1_thrown l D cx h' (xup u 15 0 (k8 a))) rfl (fun _ => rfl) gL_law_X1_thrown rfl ⟨rfl, by decide, by decide, by decide +kernel⟩ ⟨rfl, rfl, Nat.le_of_ble_eq_true rfl, Nat.le_of_ble_eq_true rfl, hk.1, hk.2⟩ rfl rfl (Nat.le_of_ble_eq_true rfl) rfl (fun r3 _ hq3 => ?_)
  subst hq3
  refine x_iload hX dL_law_1056 5 rfl ?_
  refine x_icmp_eq hX 1063 dL_law_1058 (by decide) (fun _ => ?_) (fun c => absurd (xup_ss ..) c)
  refine x_iload hX dL_law_1063 5 rfl ?_
  refine x_if_ne hX 1080 dL_law_1065 (by decide) (fun _ => ?_) (fun c9 => ?_)
  · refine x_goto hX 1195 dL_law_1080 (by decide) ?_
    refine x_lv [0, 1, 2, 3, 4] rfl ?_
    exact cont (if k8 a = 0 then vp_updL f 0 ((fAll s n) 15 (ix a)).toInt64 else f) (if k8 a = 0 then fAll s n else s) (xup u 15 0 (k8 a)) n ((E_once R).mono (Nat.le_succ cn) hcn)
  · refine x_aload_n hX dL_law_1068 3 rfl ?_
    refine x_iconstv hX dL_law_1069 0 (by decide) ?_
    refine x_lald hX (N := 1) (f := (if k8 a = 0 then vp_updL f 0 ((fAll s n) 15 (ix a)).toInt64 else f)) dL_law_1070 0 rfl (vp_in_nI (n := 0) (by decide : 0 < 1) (by decide)) ?_
    refine x_iload hX dL_law_1071 6 rfl ?_
    refine x_i2l hX dL_law_1073 ?_
    refine x_lcmp hX dL_law_1074 ?_
    refine x_if_eq hX 1080 dL_law_1075 (by decide) (fun _ => ?_) (fun c => absurd (cmp_z c9 (by rw [if_pos (k8_0 c9)]; exact ((R.thr _).atOnce (k8_0 c9)).symm)) c)
    refine x_goto hX 1195 dL_law_1080 (by decide) ?_
    refine x_lv [0, 1, 2, 3, 4] rfl ?_
    exact cont (if k8 a = 0 then vp_updL f 0 ((fAll s n) 15 (ix a)).toInt64 else f) (if k8 a = 0 then fAll s n else s) (xup u 15 0 (k8 a)) n ((E_once R).mono (Nat.le_succ cn) hcn)
set_option maxRecDepth 100000 in
set_option maxHeartbeats 4000000 in
theorem law_leastStake (l : Launch) (hfl : l.stackTraces = false) {D : va_G} {cx : xC} {X : xX} (hX : xOK l D cx room_1 X cL_law 7 RL wsL_law) (hTh : xTh X.2.2.2.2.2 X.2.1.1 X.2.1.1.heap) {b0 L : Nat} {xs : Nat → Int32} (hs : xSc X b0 L xs) {k0 n0 : Nat} {o : Nat} {f : Nat → Int64} {h h' : Nat → Nat} {s u : xS} {n cn j : Nat} (R : Rel s u n cn) (hcn : cn + 1 ≤ 512) (hj : j + 4 ≤ L) (hL : L ≤ 2048) (hk : k0 + 1 ≤ room_1.cells ∧ n0 + 6 ≤ room_1.slots) (cont : ∀ (f : Nat → Int64) (s u : xS) (n : Nat), Rel s u n (cn + 1) → xV X 7 (k0 + 1) (n0 + 6) (wLM cx o f h s h' u) 1195 [(0, .ref b0), (1, .ref (h 0)), (2, .ref (h' 0)), (3, .ref o), (4, .int (nI j))] []) : xV X 7 k0 n0 (wLM cx o f h s h' u) 1083 [(0, .ref b0), (1, .ref (h 0)), (2, .ref (h' 0)), (3, .ref o), (4, .int (nI j))] [] := by
  have hi1 : vp_in (nI j + 1) L := by
    rw [show (1 : Int32) = nI 1 from rfl, nI_add]
    exact vp_in_nI (by omega) (by omega)
  obtain ⟨a, ha⟩ : ∃ v, xs (nI j + 1).toNatClampNeg = v := ⟨_, rfl⟩
  refine x_aload_n hX dL_law_1083 1 rfl ?_
  refine x_aload_n hX dL_law_1084 0 rfl ?_
  refine x_iload hX dL_law_1085 4 rfl ?_
  refine x_iconstv hX dL_law_1087 1 (by decide) ?_
  refine x_iadd hX dL_law_1088 ?_
  refine x_sld hX hs dL_law_1089 hi1 ha ?_
  refine x_aload_n hX dL_law_1090 3 rfl ?_
  refine x_bsl [] (wM cx h' u) (wf' := fun _ => wLM cx o (if k8 a = 0 then vp_updL f 0 (fLeast s n a).toInt64 else f) h (if k8 a = 0 then s else s) h' u) hX hTh dL_law_1091 3 rfl (kL_leastStake l hfl D cx o f h s R.1 a) rfl (fun _ => rfl) gL_law_L_leastStake rfl ⟨by decide, by decide, by decide +kernel⟩ ⟨rfl, rfl, Nat.le_of_ble_eq_true rfl, Nat.le_of_ble_eq_true rfl, hk.1, hk.2⟩ (Nat.le_of_ble_eq_true rfl) rfl (fun r1 _ hq1 => ?_)
  subst hq1
  refine x_istore hX (lv' := [_, _, _, _, _, _]) dL_law_1094 (by decide) rfl rfl ?_
  refine x_aload_n hX dL_law_1096 2 rfl ?_
  refine x_aload_n hX dL_law_1097 0 rfl ?_
  refine x_iload hX dL_law_1098 4 rfl ?_
  refine x_iconstv hX dL_law_1100 1 (by decide) ?_
  refine x_iadd hX dL_law_1101 ?_
  refine x_sld hX hs dL_law_1102 hi1 ha ?_
  refine x_bvi (wL cx o (if k8 a = 0 then vp_updL f 0 (fLeast s n a).toInt64 else f) h (if k8 a = 0 then s else s)) [] (wf' := fun _ => wLM cx o (if k8 a = 0 then vp_updL f 0 (fLeast s n a).toInt64 else f) h (if k8 a = 0 then s else s) h' (xup u 15 0 (k8 a))) hX dL_law_1103 1 rfl (kX1_leastStake l D cx h' u R.2.1 a) rfl (fun _ => rfl) gL_law_X1_leastStake rfl ⟨rfl, by decide, by decide, by decide +kernel⟩ ⟨rfl, rfl, Nat.le_of_ble_eq_true rfl, Nat.le_of_ble_eq_true rfl, hk.1, hk.2⟩ rfl rfl (Nat.le_of_ble_eq_true rfl) rfl (fun r2 _ hq2 => ?_)
  subst hq2
  refine x_istore hX (lv' := [_, _, _, _, _, _, _]) dL_law_1106 (by decide) rfl rfl ?_
  refine x_aload_n hX dL_law_1108 2 rfl ?_
  refine x_bvi (wL cx o (if k8 a = 0 then vp_updL f 0 (fLeast s n a).toInt64 else f) h (if k8 a = 0 then s else s)) [] (wf' := fun _ => wLM cx o (if k8 a = 0 then vp_updL f 0 (fLeast s n a).toInt64 else f) h (if k8 a = 0 then s else s) h' (xup u 15 0 (k8 a))) hX dL_law_1109 0 rfl (kX1_thrown l D cx h' (xup u 15 0 (k8 a))) rfl (fun _ => rfl) gL_law_X1_thrown rfl ⟨rfl, by decide, by decide, by decide +kernel⟩ ⟨rfl, rfl, Nat.le_of_ble_eq_true rfl, Nat.le_of_ble_eq_true rfl, hk.1, hk.2⟩ rfl rfl (Nat.le_of_ble_eq_true rfl) rfl (fun r3 _ hq3 => ?_)
  subst hq3
  refine x_iload hX dL_law_1112 5 rfl ?_
  refine x_icmp_eq hX 1119 dL_law_1114 (by decide) (fun _ => ?_) (fun c => absurd (xup_ss ..) c)
  refine x_iload hX dL_law_1119 5 rfl ?_
  refine x_if_ne hX 1136 dL_law_1121 (by decide) (fun _ => ?_) (fun c9 => ?_)
  · refine x_goto hX 1195 dL_law_1136 (by decide) ?_
    refine x_lv [0, 1, 2, 3, 4] rfl ?_
    exact cont (if k8 a = 0 then vp_updL f 0 (fLeast s n a).toInt64 else f) (if k8 a = 0 then s else s) (xup u 15 0 (k8 a)) n (by rw [ite_self]; exact (R.thr _).mono (Nat.le_succ cn) hcn)
  · refine x_aload_n hX dL_law_1124 3 rfl ?_
    refine x_iconstv hX dL_law_1125 0 (by decide) ?_
    refine x_lald hX (N := 1) (f := (if k8 a = 0 then vp_updL f 0 (fLeast s n a).toInt64 else f)) dL_law_1126 0 rfl (vp_in_nI (n := 0) (by decide : 0 < 1) (by decide)) ?_
    refine x_iload hX dL_law_1127 6 rfl ?_
    refine x_i2l hX dL_law_1129 ?_
    refine x_lcmp hX dL_law_1130 ?_
    refine x_if_eq hX 1136 dL_law_1131 (by decide) (fun _ => ?_) (fun c => absurd (cmp_z c9 (by rw [if_pos (k8_0 c9)]; exact ((R.thr _).least a).symm)) c)
    refine x_goto hX 1195 dL_law_1136 (by decide) ?_
    refine x_lv [0, 1, 2, 3, 4] rfl ?_
    exact cont (if k8 a = 0 then vp_updL f 0 (fLeast s n a).toInt64 else f) (if k8 a = 0 then s else s) (xup u 15 0 (k8 a)) n (by rw [ite_self]; exact (R.thr _).mono (Nat.le_succ cn) hcn)
set_option maxRecDepth 100000 in
set_option maxHeartbeats 4000000 in
theorem law_falseMarks (l : Launch) (hfl : l.stackTraces = false) {D : va_G} {cx : xC} {X : xX} (hX : xOK l D cx room_1 X cL_law 7 RL wsL_law) (hTh : xTh X.2.2.2.2.2 X.2.1.1 X.2.1.1.heap) {b0 L : Nat} {xs : Nat → Int32} (hs : xSc X b0 L xs) {k0 n0 : Nat} {o : Nat} {f : Nat → Int64} {h h' : Nat → Nat} {s u : xS} {n cn j : Nat} (R : Rel s u n cn) (hcn : cn + 1 ≤ 512) (hj : j + 4 ≤ L) (hL : L ≤ 2048) (hk : k0 + 1 ≤ room_1.cells ∧ n0 + 6 ≤ room_1.slots) (cont : ∀ (f : Nat → Int64) (s u : xS) (n : Nat), Rel s u n (cn + 1) → xV X 7 (k0 + 1) (n0 + 6) (wLM cx o f h s h' u) 1195 [(0, .ref b0), (1, .ref (h 0)), (2, .ref (h' 0)), (3, .ref o), (4, .int (nI j))] []) : xV X 7 k0 n0 (wLM cx o f h s h' u) 1139 [(0, .ref b0), (1, .ref (h 0)), (2, .ref (h' 0)), (3, .ref o), (4, .int (nI j))] [] := by
  have hi1 : vp_in (nI j + 1) L := by
    rw [show (1 : Int32) = nI 1 from rfl, nI_add]
    exact vp_in_nI (by omega) (by omega)
  obtain ⟨a, ha⟩ : ∃ v, xs (nI j + 1).toNatClampNeg = v := ⟨_, rfl⟩
  refine x_aload_n hX dL_law_1139 1 rfl ?_
  refine x_aload_n hX dL_law_1140 0 rfl ?_
  refine x_iload hX dL_law_1141 4 rfl ?_
  refine x_iconstv hX dL_law_1143 1 (by decide) ?_
  refine x_iadd hX dL_law_1144 ?_
  refine x_sld hX hs dL_law_1145 hi1 ha ?_
  refine x_aload_n hX dL_law_1146 3 rfl ?_
  refine x_bsl [] (wM cx h' u) (wf' := fun _ => wLM cx o (if k8 a = 0 then vp_updL f 0 (s 9 (ix a)).toInt64 else f) h (if k8 a = 0 then s else s) h' u) hX hTh dL_law_1147 3 rfl (kL_falseMarks l hfl D cx o f h s R.1 a) rfl (fun _ => rfl) gL_law_L_falseMarks rfl ⟨by decide, by decide, by decide +kernel⟩ ⟨rfl, rfl, Nat.le_of_ble_eq_true rfl, Nat.le_of_ble_eq_true rfl, hk.1, hk.2⟩ (Nat.le_of_ble_eq_true rfl) rfl (fun r1 _ hq1 => ?_)
  subst hq1
  refine x_istore hX (lv' := [_, _, _, _, _, _]) dL_law_1150 (by decide) rfl rfl ?_
  refine x_aload_n hX dL_law_1152 2 rfl ?_
  refine x_aload_n hX dL_law_1153 0 rfl ?_
  refine x_iload hX dL_law_1154 4 rfl ?_
  refine x_iconstv hX dL_law_1156 1 (by decide) ?_
  refine x_iadd hX dL_law_1157 ?_
  refine x_sld hX hs dL_law_1158 hi1 ha ?_
  refine x_bvi (wL cx o (if k8 a = 0 then vp_updL f 0 (s 9 (ix a)).toInt64 else f) h (if k8 a = 0 then s else s)) [] (wf' := fun _ => wLM cx o (if k8 a = 0 then vp_updL f 0 (s 9 (ix a)).toInt64 else f) h (if k8 a = 0 then s else s) h' (xup u 15 0 (k8 a))) hX dL_law_1159 1 rfl (kX1_falseMarks l D cx h' u R.2.1 a) rfl (fun _ => rfl) gL_law_X1_falseMarks rfl ⟨rfl, by decide, by decide, by decide +kernel⟩ ⟨rfl, rfl, Nat.le_of_ble_eq_true rfl, Nat.le_of_ble_eq_true rfl, hk.1, hk.2⟩ rfl rfl (Nat.le_of_ble_eq_true rfl) rfl (fun r2 _ hq2 => ?_)
  subst hq2
  refine x_istore hX (lv' := [_, _, _, _, _, _, _]) dL_law_1162 (by decide) rfl rfl ?_
  refine x_aload_n hX dL_law_1164 2 rfl ?_
  refine x_bvi (wL cx o (if k8 a = 0 then vp_updL f 0 (s 9 (ix a)).toInt64 else f) h (if k8 a = 0 then s else s)) [] (wf' := fun _ => wLM cx o (if k8 a = 0 then vp_updL f 0 (s 9 (ix a)).toInt64 else f) h (if k8 a = 0 then s else s) h' (xup u 15 0 (k8 a))) hX dL_law_1165 0 rfl (kX1_thrown l D cx h' (xup u 15 0 (k8 a))) rfl (fun _ => rfl) gL_law_X1_thrown rfl ⟨rfl, by decide, by decide, by decide +kernel⟩ ⟨rfl, rfl, Nat.le_of_ble_eq_true rfl, Nat.le_of_ble_eq_true rfl, hk.1, hk.2⟩ rfl rfl (Nat.le_of_ble_eq_true rfl) rfl (fun r3 _ hq3 => ?_)
  subst hq3
  refine x_iload hX dL_law_1168 5 rfl ?_
  refine x_icmp_eq hX 1175 dL_law_1170 (by decide) (fun _ => ?_) (fun c => absurd (xup_ss ..) c)
  refine x_iload hX dL_law_1175 5 rfl ?_
  refine x_if_ne hX 1192 dL_law_1177 (by decide) (fun _ => ?_) (fun c9 => ?_)
  · refine x_goto hX 1195 dL_law_1192 (by decide) ?_
    refine x_lv [0, 1, 2, 3, 4] rfl ?_
    exact cont (if k8 a = 0 then vp_updL f 0 (s 9 (ix a)).toInt64 else f) (if k8 a = 0 then s else s) (xup u 15 0 (k8 a)) n (by rw [ite_self]; exact (R.thr _).mono (Nat.le_succ cn) hcn)
  · refine x_aload_n hX dL_law_1180 3 rfl ?_
    refine x_iconstv hX dL_law_1181 0 (by decide) ?_
    refine x_lald hX (N := 1) (f := (if k8 a = 0 then vp_updL f 0 (s 9 (ix a)).toInt64 else f)) dL_law_1182 0 rfl (vp_in_nI (n := 0) (by decide : 0 < 1) (by decide)) ?_
    refine x_iload hX dL_law_1183 6 rfl ?_
    refine x_i2l hX dL_law_1185 ?_
    refine x_lcmp hX dL_law_1186 ?_
    refine x_if_eq hX 1192 dL_law_1187 (by decide) (fun _ => ?_) (fun c => absurd (cmp_z c9 (by rw [if_pos (k8_0 c9)]; exact (congrFun R.2.2.2.1.2.2.2.2.2.2.2.2.1 _).symm)) c)
    refine x_goto hX 1195 dL_law_1192 (by decide) ?_
    refine x_lv [0, 1, 2, 3, 4] rfl ?_
    exact cont (if k8 a = 0 then vp_updL f 0 (s 9 (ix a)).toInt64 else f) (if k8 a = 0 then s else s) (xup u 15 0 (k8 a)) n (by rw [ite_self]; exact (R.thr _).mono (Nat.le_succ cn) hcn)
