set_option maxHeartbeats 4000000 in
set_option maxRecDepth 100000 in
theorem k_begin {p : Program} {l : Launch} {e : Env} {s : State} {m : MethodId} {args : Array Value} {below : List Frame} {meth : Method} {c : Code} {Q : State → Prop} {G : gG} {b0 n b y i : Nat} {xs : Nat → Int32} {H0 H : Heap} {locs : List Loc} {L : List Nat} {txt : Nat → List Nat} {th : Int32} {cs ss : Nat} {ls : Array Slot} (hC : LC p l s m args c G b0 n xs H0) (hb0 : H0.size ≤ b) (hby : b + 115 ≤ y) (hi : i + 5 ≤ n) (hn : n ≤ 2560) (hXW : XW G b L txt H) (hMW : MW G y L txt th H) (hOJ : OJ G (y + 34) H) (hS : va_S (gA 0 0 H0.size) H0 H locs) (hcs : cs ≤ 844000) (hss : ss ≤ 6540000) (hl : lv_has ls 9 [(4, .int (nI i)), (3, .ref (y + 34)), (2, .ref y), (1, .ref b), (0, .ref b0)])
    (kk : ∀ (H1 : Heap) (locs1 : List Loc) (L1 : List Nat) (t1 : Nat → List Nat) (th1 : Int32) (cs1 ss1 : Nat) (ls1 : Array Slot), XW G b L1 t1 H1 → MW G y L1 t1 th1 H1 → OJ G (y + 34) H1 → va_S (gA 0 0 H0.size) H0 H1 locs1 → cs1 ≤ cs + 1600 → ss1 ≤ ss + 12000 → lv_has ls1 9 [(4, .int (nI i)), (3, .ref (y + 34)), (2, .ref y), (1, .ref b), (0, .ref b0)] → W p l e room_1 s m args below meth c H1 locs1 cs1 ss1 Q (F0 m 1817 ls1 [])) : W p l e room_1 s m args below meth c H locs cs ss Q (F0 m 160 ls []) := by
  obtain ⟨hx, hb, hml, hown, hts, hXs, hbl, h0, hE, hX⟩ := hC
  have hK := hE.1
  have hgs := hMW.gs
  refine lv_aload_n hx hb dL_law_160 rfl (lv_at hl 3 rfl) ?_
  refine lv_aload_n hx hb dL_law_161 rfl (lv_at hl 4 rfl) ?_
  refine lv_iload hx hb dL_law_162 (lv_at hl 0 rfl) ?_
  refine lv_iconst (v := nI 1) hx hb dL_law_164 (by decide) ?_
  refine lv_iadd hx hb dL_law_165 ?_
  refine x_rw (z := nI (i + 1)) (nI_add _ _) ?_
  refine x_sld hx hb hXs hbl hS (by omega) (by omega) dL_law_166 ?_
  refine lv_aload_n hx hb dL_law_167 rfl (lv_at hl 4 rfl) ?_
  refine lv_iload hx hb dL_law_168 (lv_at hl 0 rfl) ?_
  refine lv_iconst (v := nI 2) hx hb dL_law_170 (by decide) ?_
  refine lv_iadd hx hb dL_law_171 ?_
  refine x_rw (z := nI (i + 2)) (nI_add _ _) ?_
  refine x_sld hx hb hXs hbl hS (by omega) (by omega) dL_law_172 ?_
  refine lv_aload_n hx hb dL_law_173 rfl (lv_at hl 1 rfl) ?_
  obtain ⟨fo, hOut⟩ := id hOJ
  refine x_goI (x_runSL (As := [.ref b, .int (xs (i + 1)), .int (xs (i + 2)), .ref (y + 34)]) (rest := []) ⟨hx, hb, hml, hown, hts⟩ hE hX h0 hS (c_L_begin l G b y L txt L txt th fo hby (xs (i + 1)) (xs (i + 2)) H hXW hMW hOut) (vx_cwSW 4 hts gL_law_L_begin rfl rfl rfl (by decide +kernel) ⟨Nat.le_of_ble_eq_true rfl, Nat.le_of_ble_eq_true rfl⟩) (by omega) rfl rfl hl.1 rfl (lv_room (Nat.le_of_ble_eq_true rfl)) dL_law_174 ⟨Nat.le_trans (m := 846140) (by omega) (Nat.le_of_ble_eq_true rfl), Nat.le_trans (m := 6557685) (by omega) (Nat.le_of_ble_eq_true rfl)⟩) hS (by omega) (fun _ _ _ _ _ h => h.elim) (fun r2 H1 locs hq hF hS => ?_)
  obtain ⟨⟨hR, hV, hXW⟩, hMW, hOJ⟩ := hq
  replace hV : OVk r2 G (y + 34) (nI (num (ix (xs (i + 1))) (ix (xs (i + 2)))).length).toInt64 H1 := hV
  refine lv_istore (lv' := [(5, .int r2), (4, .int (nI i)), (3, .ref (y + 34)), (2, .ref y), (1, .ref b), (0, .ref b0)]) hx hb dL_law_177 hl (by decide) rfl (fun ls hl => ?_)
  refine lv_aload_n hx hb dL_law_179 rfl (lv_at hl 3 rfl) ?_
  refine lv_aload_n hx hb dL_law_180 rfl (lv_at hl 5 rfl) ?_
  refine lv_iload hx hb dL_law_181 (lv_at hl 1 rfl) ?_
  refine lv_iconst (v := nI 1) hx hb dL_law_183 (by decide) ?_
  refine lv_iadd hx hb dL_law_184 ?_
  refine x_rw (z := nI (i + 1)) (nI_add _ _) ?_
  refine x_sld hx hb hXs hbl hS (by omega) (by omega) dL_law_185 ?_
  refine lv_aload_n hx hb dL_law_186 rfl (lv_at hl 5 rfl) ?_
  refine lv_iload hx hb dL_law_187 (lv_at hl 1 rfl) ?_
  refine lv_iconst (v := nI 2) hx hb dL_law_189 (by decide) ?_
  refine lv_iadd hx hb dL_law_190 ?_
  refine x_rw (z := nI (i + 2)) (nI_add _ _) ?_
  refine x_sld hx hb hXs hbl hS (by omega) (by omega) dL_law_191 ?_
  refine x_goI (x_runV (As := [.int (xs (i + 1)), .int (xs (i + 2))]) (rest := []) ⟨hx, hb, hml, hown, hts⟩ hE h0 hS (c_X3_begin l G y L txt th (xs (i + 1)) (xs (i + 2)) H1 hMW) (cwV 2 hts gL_law_X3_begin rfl rfl rfl (by decide +kernel) ⟨Nat.le_of_ble_eq_true rfl, Nat.le_of_ble_eq_true rfl⟩) (gO.recv (C := RX3) hK hMW.O rfl) (by omega) rfl rfl hl.1 rfl (lv_room (Nat.le_of_ble_eq_true rfl)) dL_law_192 ⟨Nat.le_trans (m := 846140) (by omega) (Nat.le_of_ble_eq_true rfl), Nat.le_trans (m := 6557685) (by omega) (Nat.le_of_ble_eq_true rfl)⟩) hS (by omega) (fun _ _ _ _ _ h => h.elim) (fun r4 H3 locs hq hF hS => ?_)
  have hXW := hXW.fr hF (by omega)
  have hOJ := hOJ.fr hF (by omega)
  have hV := hV.fr hF (by omega)
  obtain ⟨t, hRt, hVt, hMW⟩ := hq
  have hkt : r2 = t := rs1_u hR hRt
  subst hkt
  refine lv_istore (lv' := [(6, .int r4), (5, .int r2), (4, .int (nI i)), (3, .ref (y + 34)), (2, .ref y), (1, .ref b), (0, .ref b0)]) hx hb dL_law_195 hl (by decide) rfl (fun ls hl => ?_)
  refine lv_aload_n hx hb dL_law_197 rfl (lv_at hl 4 rfl) ?_
  refine x_goI_ro (x_runV (As := []) (rest := []) ⟨hx, hb, hml, hown, hts⟩ hE h0 hS (c_X3_thrown l G y (nI (sel r2 (num (ix (xs (i + 1))) (ix (xs (i + 2)))) L).length) r2 H3 hMW.O) (cwV 0 hts gL_law_X3_thrown rfl rfl rfl (by decide +kernel) ⟨Nat.le_of_ble_eq_true rfl, Nat.le_of_ble_eq_true rfl⟩) (gO.recv (C := RX3) hK hMW.O rfl) (by omega) rfl rfl hl.1 rfl (lv_room (Nat.le_of_ble_eq_true rfl)) dL_law_198 ⟨Nat.le_trans (m := 846140) (by omega) (Nat.le_of_ble_eq_true rfl), Nat.le_trans (m := 6557685) (by omega) (Nat.le_of_ble_eq_true rfl)⟩) hS (by omega) (fun _ _ _ _ _ h => h.elim) (fun locs hq hS => ?_)
  refine lv_iload hx hb dL_law_201 (lv_at hl 1 rfl) ?_
  refine lv_icmp_eq (tgt := 208) hx hb dL_law_203 (by decide) (fun c203 => ?_) (fun c203 => ?_)
  · refine lv_iload hx hb dL_law_208 (lv_at hl 1 rfl) ?_
    refine lv_if_ne (tgt := 225) hx hb dL_law_210 (by decide) (fun c210 => ?_) (fun c210 => ?_)
    · refine lv_goto (tgt := 1817) hx hb dL_law_225 (by decide) ?_
      exact kk H3 _ (sel r2 (num (ix (xs (i + 1))) (ix (xs (i + 2)))) L) (sel r2 txt txt) r2 _ _ ls hXW hMW hOJ hS (by omega) (by omega) (lv_sub hl [2, 3, 4, 5, 6] rfl)
    · obtain ⟨fo2, hOut2, hv2⟩ := hV c210
      refine lv_aload_n hx hb dL_law_213 rfl (lv_at hl 3 rfl) ?_
      refine lv_iconst (v := nI 0) hx hb dL_law_214 (by decide) ?_
      refine x_lald hx hb hK hOut2 (by omega) (by decide) dL_law_215 ?_
      refine x_rwl (z := (nI (num (ix (xs (i + 1))) (ix (xs (i + 2)))).length).toInt64) hv2 ?_
      refine lv_iload hx hb dL_law_216 (lv_at hl 0 rfl) ?_
      refine lv_i2l hx hb dL_law_218 rfl ?_
      refine x_rwl (z := (nI (num (ix (xs (i + 1))) (ix (xs (i + 2)))).length).toInt64) (by rw [hVt c210]) ?_
      refine x_lcmp0 hx hb dL_law_219 ?_
      refine x_if_eqN (tgt := 225) hx hb (by omega) dL_law_220 (by decide) (fun c220 => ?_) (fun c220 => ?_)
      · refine lv_goto (tgt := 1817) hx hb dL_law_225 (by decide) ?_
        exact kk H3 _ (sel r2 (num (ix (xs (i + 1))) (ix (xs (i + 2)))) L) (sel r2 txt txt) r2 _ _ ls hXW hMW hOJ hS (by omega) (by omega) (lv_sub hl [2, 3, 4, 5, 6] rfl)
      · exact absurd c220 (by decide)
  · exact absurd rfl c203

set_option maxHeartbeats 4000000 in
set_option maxRecDepth 100000 in
theorem k_add {p : Program} {l : Launch} {e : Env} {s : State} {m : MethodId} {args : Array Value} {below : List Frame} {meth : Method} {c : Code} {Q : State → Prop} {G : gG} {b0 n b y i : Nat} {xs : Nat → Int32} {H0 H : Heap} {locs : List Loc} {L : List Nat} {txt : Nat → List Nat} {th : Int32} {cs ss : Nat} {ls : Array Slot} (hC : LC p l s m args c G b0 n xs H0) (hb0 : H0.size ≤ b) (hby : b + 115 ≤ y) (hi : i + 5 ≤ n) (hn : n ≤ 2560) (hXW : XW G b L txt H) (hMW : MW G y L txt th H) (hOJ : OJ G (y + 34) H) (hS : va_S (gA 0 0 H0.size) H0 H locs) (hcs : cs ≤ 844000) (hss : ss ≤ 6540000) (hl : lv_has ls 9 [(4, .int (nI i)), (3, .ref (y + 34)), (2, .ref y), (1, .ref b), (0, .ref b0)])
    (kk : ∀ (H1 : Heap) (locs1 : List Loc) (L1 : List Nat) (t1 : Nat → List Nat) (th1 : Int32) (cs1 ss1 : Nat) (ls1 : Array Slot), XW G b L1 t1 H1 → MW G y L1 t1 th1 H1 → OJ G (y + 34) H1 → va_S (gA 0 0 H0.size) H0 H1 locs1 → cs1 ≤ cs + 1600 → ss1 ≤ ss + 12000 → lv_has ls1 9 [(4, .int (nI i)), (3, .ref (y + 34)), (2, .ref y), (1, .ref b), (0, .ref b0)] → W p l e room_1 s m args below meth c H1 locs1 cs1 ss1 Q (F0 m 1817 ls1 [])) : W p l e room_1 s m args below meth c H locs cs ss Q (F0 m 228 ls []) := by
  obtain ⟨hx, hb, hml, hown, hts, hXs, hbl, h0, hE, hX⟩ := hC
  have hK := hE.1
  have hgs := hMW.gs
  refine lv_aload_n hx hb dL_law_228 rfl (lv_at hl 3 rfl) ?_
  refine lv_aload_n hx hb dL_law_229 rfl (lv_at hl 4 rfl) ?_
  refine lv_iload hx hb dL_law_230 (lv_at hl 0 rfl) ?_
  refine lv_iconst (v := nI 1) hx hb dL_law_232 (by decide) ?_
  refine lv_iadd hx hb dL_law_233 ?_
  refine x_rw (z := nI (i + 1)) (nI_add _ _) ?_
  refine x_sld hx hb hXs hbl hS (by omega) (by omega) dL_law_234 ?_
  refine lv_aload_n hx hb dL_law_235 rfl (lv_at hl 4 rfl) ?_
  refine lv_iload hx hb dL_law_236 (lv_at hl 0 rfl) ?_
  refine lv_iconst (v := nI 2) hx hb dL_law_238 (by decide) ?_
  refine lv_iadd hx hb dL_law_239 ?_
  refine x_rw (z := nI (i + 2)) (nI_add _ _) ?_
  refine x_sld hx hb hXs hbl hS (by omega) (by omega) dL_law_240 ?_
  refine lv_aload_n hx hb dL_law_241 rfl (lv_at hl 4 rfl) ?_
  refine lv_iload hx hb dL_law_242 (lv_at hl 0 rfl) ?_
  refine lv_iconst (v := nI 3) hx hb dL_law_244 (by decide) ?_
  refine lv_iadd hx hb dL_law_245 ?_
  refine x_rw (z := nI (i + 3)) (nI_add _ _) ?_
  refine x_sld hx hb hXs hbl hS (by omega) (by omega) dL_law_246 ?_
  refine lv_i2c (v := (nI (chn (xs (i + 3))))) hx hb dL_law_247 (chn_i2c _) ?_
  refine lv_aload_n hx hb dL_law_248 rfl (lv_at hl 1 rfl) ?_
  obtain ⟨fo, hOut⟩ := id hOJ
  refine x_goI (x_runSL (As := [.ref b, .int (xs (i + 1)), .int (xs (i + 2)), .int (nI (chn (xs (i + 3)))), .ref (y + 34)]) (rest := []) ⟨hx, hb, hml, hown, hts⟩ hE hX h0 hS (c_L_add l G b y L txt L txt th fo hby (xs (i + 1)) (xs (i + 2)) (chn (xs (i + 3))) (chn_lt (xs (i + 3))) H hXW hMW hOut) (vx_cwSW 5 hts gL_law_L_add rfl rfl rfl (by decide +kernel) ⟨Nat.le_of_ble_eq_true rfl, Nat.le_of_ble_eq_true rfl⟩) (by omega) rfl rfl hl.1 rfl (lv_room (Nat.le_of_ble_eq_true rfl)) dL_law_249 ⟨Nat.le_trans (m := 846140) (by omega) (Nat.le_of_ble_eq_true rfl), Nat.le_trans (m := 6557685) (by omega) (Nat.le_of_ble_eq_true rfl)⟩) hS (by omega) (fun _ _ _ _ _ h => h.elim) (fun r2 H1 locs hq hF hS => ?_)
  obtain ⟨⟨hR, hV, hXW⟩, hMW, hOJ⟩ := hq
  replace hV : OVk r2 G (y + 34) (nI (jn L (chn (xs (i + 3))) ++ num (ix (xs (i + 1))) (ix (xs (i + 2)))).length).toInt64 H1 := hV
  refine lv_istore (lv' := [(5, .int r2), (4, .int (nI i)), (3, .ref (y + 34)), (2, .ref y), (1, .ref b), (0, .ref b0)]) hx hb dL_law_252 hl (by decide) rfl (fun ls hl => ?_)
  refine lv_aload_n hx hb dL_law_254 rfl (lv_at hl 3 rfl) ?_
  refine lv_aload_n hx hb dL_law_255 rfl (lv_at hl 5 rfl) ?_
  refine lv_iload hx hb dL_law_256 (lv_at hl 1 rfl) ?_
  refine lv_iconst (v := nI 1) hx hb dL_law_258 (by decide) ?_
  refine lv_iadd hx hb dL_law_259 ?_
  refine x_rw (z := nI (i + 1)) (nI_add _ _) ?_
  refine x_sld hx hb hXs hbl hS (by omega) (by omega) dL_law_260 ?_
  refine lv_aload_n hx hb dL_law_261 rfl (lv_at hl 5 rfl) ?_
  refine lv_iload hx hb dL_law_262 (lv_at hl 1 rfl) ?_
  refine lv_iconst (v := nI 2) hx hb dL_law_264 (by decide) ?_
  refine lv_iadd hx hb dL_law_265 ?_
  refine x_rw (z := nI (i + 2)) (nI_add _ _) ?_
  refine x_sld hx hb hXs hbl hS (by omega) (by omega) dL_law_266 ?_
  refine lv_aload_n hx hb dL_law_267 rfl (lv_at hl 5 rfl) ?_
  refine lv_iload hx hb dL_law_268 (lv_at hl 1 rfl) ?_
  refine lv_iconst (v := nI 3) hx hb dL_law_270 (by decide) ?_
  refine lv_iadd hx hb dL_law_271 ?_
  refine x_rw (z := nI (i + 3)) (nI_add _ _) ?_
  refine x_sld hx hb hXs hbl hS (by omega) (by omega) dL_law_272 ?_
  refine lv_i2c (v := (nI (chn (xs (i + 3))))) hx hb dL_law_273 (chn_i2c _) ?_
  refine x_goI (x_runV (As := [.int (xs (i + 1)), .int (xs (i + 2)), .int (nI (chn (xs (i + 3))))]) (rest := []) ⟨hx, hb, hml, hown, hts⟩ hE h0 hS (c_X3_add l G y L txt th (xs (i + 1)) (xs (i + 2)) (chn (xs (i + 3))) (chn_lt (xs (i + 3))) H1 hMW) (cwV 3 hts gL_law_X3_add rfl rfl rfl (by decide +kernel) ⟨Nat.le_of_ble_eq_true rfl, Nat.le_of_ble_eq_true rfl⟩) (gO.recv (C := RX3) hK hMW.O rfl) (by omega) rfl rfl hl.1 rfl (lv_room (Nat.le_of_ble_eq_true rfl)) dL_law_274 ⟨Nat.le_trans (m := 846140) (by omega) (Nat.le_of_ble_eq_true rfl), Nat.le_trans (m := 6557685) (by omega) (Nat.le_of_ble_eq_true rfl)⟩) hS (by omega) (fun _ _ _ _ _ h => h.elim) (fun r4 H3 locs hq hF hS => ?_)
  have hXW := hXW.fr hF (by omega)
  have hOJ := hOJ.fr hF (by omega)
  have hV := hV.fr hF (by omega)
  obtain ⟨t, hRt, hVt, hMW⟩ := hq
  have hkt : r2 = t := rs2_u hR hRt
  subst hkt
  refine lv_istore (lv' := [(6, .int r4), (5, .int r2), (4, .int (nI i)), (3, .ref (y + 34)), (2, .ref y), (1, .ref b), (0, .ref b0)]) hx hb dL_law_277 hl (by decide) rfl (fun ls hl => ?_)
  refine lv_aload_n hx hb dL_law_279 rfl (lv_at hl 4 rfl) ?_
  refine x_goI_ro (x_runV (As := []) (rest := []) ⟨hx, hb, hml, hown, hts⟩ hE h0 hS (c_X3_thrown l G y (nI (sel r2 (jn L (chn (xs (i + 3))) ++ num (ix (xs (i + 1))) (ix (xs (i + 2)))) L).length) r2 H3 hMW.O) (cwV 0 hts gL_law_X3_thrown rfl rfl rfl (by decide +kernel) ⟨Nat.le_of_ble_eq_true rfl, Nat.le_of_ble_eq_true rfl⟩) (gO.recv (C := RX3) hK hMW.O rfl) (by omega) rfl rfl hl.1 rfl (lv_room (Nat.le_of_ble_eq_true rfl)) dL_law_280 ⟨Nat.le_trans (m := 846140) (by omega) (Nat.le_of_ble_eq_true rfl), Nat.le_trans (m := 6557685) (by omega) (Nat.le_of_ble_eq_true rfl)⟩) hS (by omega) (fun _ _ _ _ _ h => h.elim) (fun locs hq hS => ?_)
  refine lv_iload hx hb dL_law_283 (lv_at hl 1 rfl) ?_
  refine lv_icmp_eq (tgt := 290) hx hb dL_law_285 (by decide) (fun c285 => ?_) (fun c285 => ?_)
  · refine lv_iload hx hb dL_law_290 (lv_at hl 1 rfl) ?_
    refine lv_if_ne (tgt := 307) hx hb dL_law_292 (by decide) (fun c292 => ?_) (fun c292 => ?_)
    · refine lv_goto (tgt := 1817) hx hb dL_law_307 (by decide) ?_
      exact kk H3 _ (sel r2 (jn L (chn (xs (i + 3))) ++ num (ix (xs (i + 1))) (ix (xs (i + 2)))) L) (sel r2 txt txt) r2 _ _ ls hXW hMW hOJ hS (by omega) (by omega) (lv_sub hl [2, 3, 4, 5, 6] rfl)
    · obtain ⟨fo2, hOut2, hv2⟩ := hV c292
      refine lv_aload_n hx hb dL_law_295 rfl (lv_at hl 3 rfl) ?_
      refine lv_iconst (v := nI 0) hx hb dL_law_296 (by decide) ?_
      refine x_lald hx hb hK hOut2 (by omega) (by decide) dL_law_297 ?_
      refine x_rwl (z := (nI (jn L (chn (xs (i + 3))) ++ num (ix (xs (i + 1))) (ix (xs (i + 2)))).length).toInt64) hv2 ?_
      refine lv_iload hx hb dL_law_298 (lv_at hl 0 rfl) ?_
      refine lv_i2l hx hb dL_law_300 rfl ?_
      refine x_rwl (z := (nI (jn L (chn (xs (i + 3))) ++ num (ix (xs (i + 1))) (ix (xs (i + 2)))).length).toInt64) (by rw [hVt c292]) ?_
      refine x_lcmp0 hx hb dL_law_301 ?_
      refine x_if_eqN (tgt := 307) hx hb (by omega) dL_law_302 (by decide) (fun c302 => ?_) (fun c302 => ?_)
      · refine lv_goto (tgt := 1817) hx hb dL_law_307 (by decide) ?_
        exact kk H3 _ (sel r2 (jn L (chn (xs (i + 3))) ++ num (ix (xs (i + 1))) (ix (xs (i + 2)))) L) (sel r2 txt txt) r2 _ _ ls hXW hMW hOJ hS (by omega) (by omega) (lv_sub hl [2, 3, 4, 5, 6] rfl)
      · exact absurd c302 (by decide)
  · exact absurd rfl c285

set_option maxHeartbeats 4000000 in
set_option maxRecDepth 100000 in
theorem k_word {p : Program} {l : Launch} {e : Env} {s : State} {m : MethodId} {args : Array Value} {below : List Frame} {meth : Method} {c : Code} {Q : State → Prop} {G : gG} {b0 n b y i : Nat} {xs : Nat → Int32} {H0 H : Heap} {locs : List Loc} {L : List Nat} {txt : Nat → List Nat} {th : Int32} {cs ss : Nat} {ls : Array Slot} (hC : LC p l s m args c G b0 n xs H0) (hb0 : H0.size ≤ b) (hby : b + 115 ≤ y) (hi : i + 5 ≤ n) (hn : n ≤ 2560) (hXW : XW G b L txt H) (hMW : MW G y L txt th H) (hOJ : OJ G (y + 34) H) (hS : va_S (gA 0 0 H0.size) H0 H locs) (hcs : cs ≤ 844000) (hss : ss ≤ 6540000) (hl : lv_has ls 9 [(4, .int (nI i)), (3, .ref (y + 34)), (2, .ref y), (1, .ref b), (0, .ref b0)])
    (kk : ∀ (H1 : Heap) (locs1 : List Loc) (L1 : List Nat) (t1 : Nat → List Nat) (th1 : Int32) (cs1 ss1 : Nat) (ls1 : Array Slot), XW G b L1 t1 H1 → MW G y L1 t1 th1 H1 → OJ G (y + 34) H1 → va_S (gA 0 0 H0.size) H0 H1 locs1 → cs1 ≤ cs + 1600 → ss1 ≤ ss + 12000 → lv_has ls1 9 [(4, .int (nI i)), (3, .ref (y + 34)), (2, .ref y), (1, .ref b), (0, .ref b0)] → W p l e room_1 s m args below meth c H1 locs1 cs1 ss1 Q (F0 m 1817 ls1 [])) : W p l e room_1 s m args below meth c H locs cs ss Q (F0 m 310 ls []) := by
  obtain ⟨hx, hb, hml, hown, hts, hXs, hbl, h0, hE, hX⟩ := hC
  have hK := hE.1
  have hgs := hMW.gs
  refine lv_aload_n hx hb dL_law_310 rfl (lv_at hl 3 rfl) ?_
  refine lv_aload_n hx hb dL_law_311 rfl (lv_at hl 4 rfl) ?_
  refine lv_iload hx hb dL_law_312 (lv_at hl 0 rfl) ?_
  refine lv_iconst (v := nI 1) hx hb dL_law_314 (by decide) ?_
  refine lv_iadd hx hb dL_law_315 ?_
  refine x_rw (z := nI (i + 1)) (nI_add _ _) ?_
  refine x_sld hx hb hXs hbl hS (by omega) (by omega) dL_law_316 ?_
  refine lv_aload_n hx hb dL_law_317 rfl (lv_at hl 4 rfl) ?_
  refine lv_iload hx hb dL_law_318 (lv_at hl 0 rfl) ?_
  refine lv_iconst (v := nI 2) hx hb dL_law_320 (by decide) ?_
  refine lv_iadd hx hb dL_law_321 ?_
  refine x_rw (z := nI (i + 2)) (nI_add _ _) ?_
  refine x_sld hx hb hXs hbl hS (by omega) (by omega) dL_law_322 ?_
  refine lv_aload_n hx hb dL_law_323 rfl (lv_at hl 4 rfl) ?_
  refine lv_iload hx hb dL_law_324 (lv_at hl 0 rfl) ?_
  refine lv_iconst (v := nI 3) hx hb dL_law_326 (by decide) ?_
  refine lv_iadd hx hb dL_law_327 ?_
  refine x_rw (z := nI (i + 3)) (nI_add _ _) ?_
  refine x_sld hx hb hXs hbl hS (by omega) (by omega) dL_law_328 ?_
  refine lv_i2c (v := (nI (chn (xs (i + 3))))) hx hb dL_law_329 (chn_i2c _) ?_
  refine lv_aload_n hx hb dL_law_330 rfl (lv_at hl 1 rfl) ?_
  obtain ⟨fo, hOut⟩ := id hOJ
  refine x_goI (x_runSL (As := [.ref b, .int (xs (i + 1)), .int (xs (i + 2)), .int (nI (chn (xs (i + 3)))), .ref (y + 34)]) (rest := []) ⟨hx, hb, hml, hown, hts⟩ hE hX h0 hS (c_L_word l G b y L txt L txt th fo hby (xs (i + 1)) (xs (i + 2)) (chn (xs (i + 3))) (chn_lt (xs (i + 3))) H hXW hMW hOut) (vx_cwSW 5 hts gL_law_L_word rfl rfl rfl (by decide +kernel) ⟨Nat.le_of_ble_eq_true rfl, Nat.le_of_ble_eq_true rfl⟩) (by omega) rfl rfl hl.1 rfl (lv_room (Nat.le_of_ble_eq_true rfl)) dL_law_331 ⟨Nat.le_trans (m := 846140) (by omega) (Nat.le_of_ble_eq_true rfl), Nat.le_trans (m := 6557685) (by omega) (Nat.le_of_ble_eq_true rfl)⟩) hS (by omega) (fun _ _ _ _ _ h => h.elim) (fun r2 H1 locs hq hF hS => ?_)
  obtain ⟨⟨hR, hV, hXW⟩, hMW, hOJ⟩ := hq
  replace hV : OVk r2 G (y + 34) (nI (jn L (chn (xs (i + 3))) ++ wd (cd (xs (i + 1))) (ix (xs (i + 2)))).length).toInt64 H1 := hV
  refine lv_istore (lv' := [(5, .int r2), (4, .int (nI i)), (3, .ref (y + 34)), (2, .ref y), (1, .ref b), (0, .ref b0)]) hx hb dL_law_334 hl (by decide) rfl (fun ls hl => ?_)
  refine lv_aload_n hx hb dL_law_336 rfl (lv_at hl 3 rfl) ?_
  refine lv_aload_n hx hb dL_law_337 rfl (lv_at hl 5 rfl) ?_
  refine lv_iload hx hb dL_law_338 (lv_at hl 1 rfl) ?_
  refine lv_iconst (v := nI 1) hx hb dL_law_340 (by decide) ?_
  refine lv_iadd hx hb dL_law_341 ?_
  refine x_rw (z := nI (i + 1)) (nI_add _ _) ?_
  refine x_sld hx hb hXs hbl hS (by omega) (by omega) dL_law_342 ?_
  refine lv_aload_n hx hb dL_law_343 rfl (lv_at hl 5 rfl) ?_
  refine lv_iload hx hb dL_law_344 (lv_at hl 1 rfl) ?_
  refine lv_iconst (v := nI 2) hx hb dL_law_346 (by decide) ?_
  refine lv_iadd hx hb dL_law_347 ?_
  refine x_rw (z := nI (i + 2)) (nI_add _ _) ?_
  refine x_sld hx hb hXs hbl hS (by omega) (by omega) dL_law_348 ?_
  refine lv_aload_n hx hb dL_law_349 rfl (lv_at hl 5 rfl) ?_
  refine lv_iload hx hb dL_law_350 (lv_at hl 1 rfl) ?_
  refine lv_iconst (v := nI 3) hx hb dL_law_352 (by decide) ?_
  refine lv_iadd hx hb dL_law_353 ?_
  refine x_rw (z := nI (i + 3)) (nI_add _ _) ?_
  refine x_sld hx hb hXs hbl hS (by omega) (by omega) dL_law_354 ?_
  refine lv_i2c (v := (nI (chn (xs (i + 3))))) hx hb dL_law_355 (chn_i2c _) ?_
  refine x_goI (x_runV (As := [.int (xs (i + 1)), .int (xs (i + 2)), .int (nI (chn (xs (i + 3))))]) (rest := []) ⟨hx, hb, hml, hown, hts⟩ hE h0 hS (c_X3_word l G y L txt th (xs (i + 1)) (xs (i + 2)) (chn (xs (i + 3))) (chn_lt (xs (i + 3))) H1 hMW) (cwV 3 hts gL_law_X3_word rfl rfl rfl (by decide +kernel) ⟨Nat.le_of_ble_eq_true rfl, Nat.le_of_ble_eq_true rfl⟩) (gO.recv (C := RX3) hK hMW.O rfl) (by omega) rfl rfl hl.1 rfl (lv_room (Nat.le_of_ble_eq_true rfl)) dL_law_356 ⟨Nat.le_trans (m := 846140) (by omega) (Nat.le_of_ble_eq_true rfl), Nat.le_trans (m := 6557685) (by omega) (Nat.le_of_ble_eq_true rfl)⟩) hS (by omega) (fun _ _ _ _ _ h => h.elim) (fun r4 H3 locs hq hF hS => ?_)
  have hXW := hXW.fr hF (by omega)
  have hOJ := hOJ.fr hF (by omega)
  have hV := hV.fr hF (by omega)
  obtain ⟨t, hRt, hVt, hMW⟩ := hq
  have hkt : r2 = t := rs2_u hR hRt
  subst hkt
  refine lv_istore (lv' := [(6, .int r4), (5, .int r2), (4, .int (nI i)), (3, .ref (y + 34)), (2, .ref y), (1, .ref b), (0, .ref b0)]) hx hb dL_law_359 hl (by decide) rfl (fun ls hl => ?_)
  refine lv_aload_n hx hb dL_law_361 rfl (lv_at hl 4 rfl) ?_
  refine x_goI_ro (x_runV (As := []) (rest := []) ⟨hx, hb, hml, hown, hts⟩ hE h0 hS (c_X3_thrown l G y (nI (sel r2 (jn L (chn (xs (i + 3))) ++ wd (cd (xs (i + 1))) (ix (xs (i + 2)))) L).length) r2 H3 hMW.O) (cwV 0 hts gL_law_X3_thrown rfl rfl rfl (by decide +kernel) ⟨Nat.le_of_ble_eq_true rfl, Nat.le_of_ble_eq_true rfl⟩) (gO.recv (C := RX3) hK hMW.O rfl) (by omega) rfl rfl hl.1 rfl (lv_room (Nat.le_of_ble_eq_true rfl)) dL_law_362 ⟨Nat.le_trans (m := 846140) (by omega) (Nat.le_of_ble_eq_true rfl), Nat.le_trans (m := 6557685) (by omega) (Nat.le_of_ble_eq_true rfl)⟩) hS (by omega) (fun _ _ _ _ _ h => h.elim) (fun locs hq hS => ?_)
  refine lv_iload hx hb dL_law_365 (lv_at hl 1 rfl) ?_
  refine lv_icmp_eq (tgt := 372) hx hb dL_law_367 (by decide) (fun c367 => ?_) (fun c367 => ?_)
  · refine lv_iload hx hb dL_law_372 (lv_at hl 1 rfl) ?_
    refine lv_if_ne (tgt := 389) hx hb dL_law_374 (by decide) (fun c374 => ?_) (fun c374 => ?_)
    · refine lv_goto (tgt := 1817) hx hb dL_law_389 (by decide) ?_
      exact kk H3 _ (sel r2 (jn L (chn (xs (i + 3))) ++ wd (cd (xs (i + 1))) (ix (xs (i + 2)))) L) (sel r2 txt txt) r2 _ _ ls hXW hMW hOJ hS (by omega) (by omega) (lv_sub hl [2, 3, 4, 5, 6] rfl)
    · obtain ⟨fo2, hOut2, hv2⟩ := hV c374
      refine lv_aload_n hx hb dL_law_377 rfl (lv_at hl 3 rfl) ?_
      refine lv_iconst (v := nI 0) hx hb dL_law_378 (by decide) ?_
      refine x_lald hx hb hK hOut2 (by omega) (by decide) dL_law_379 ?_
      refine x_rwl (z := (nI (jn L (chn (xs (i + 3))) ++ wd (cd (xs (i + 1))) (ix (xs (i + 2)))).length).toInt64) hv2 ?_
      refine lv_iload hx hb dL_law_380 (lv_at hl 0 rfl) ?_
      refine lv_i2l hx hb dL_law_382 rfl ?_
      refine x_rwl (z := (nI (jn L (chn (xs (i + 3))) ++ wd (cd (xs (i + 1))) (ix (xs (i + 2)))).length).toInt64) (by rw [hVt c374]) ?_
      refine x_lcmp0 hx hb dL_law_383 ?_
      refine x_if_eqN (tgt := 389) hx hb (by omega) dL_law_384 (by decide) (fun c384 => ?_) (fun c384 => ?_)
      · refine lv_goto (tgt := 1817) hx hb dL_law_389 (by decide) ?_
        exact kk H3 _ (sel r2 (jn L (chn (xs (i + 3))) ++ wd (cd (xs (i + 1))) (ix (xs (i + 2)))) L) (sel r2 txt txt) r2 _ _ ls hXW hMW hOJ hS (by omega) (by omega) (lv_sub hl [2, 3, 4, 5, 6] rfl)
      · exact absurd c384 (by decide)
  · exact absurd rfl c367

set_option maxHeartbeats 4000000 in
set_option maxRecDepth 100000 in
theorem k_sign {p : Program} {l : Launch} {e : Env} {s : State} {m : MethodId} {args : Array Value} {below : List Frame} {meth : Method} {c : Code} {Q : State → Prop} {G : gG} {b0 n b y i : Nat} {xs : Nat → Int32} {H0 H : Heap} {locs : List Loc} {L : List Nat} {txt : Nat → List Nat} {th : Int32} {cs ss : Nat} {ls : Array Slot} (hC : LC p l s m args c G b0 n xs H0) (hb0 : H0.size ≤ b) (hby : b + 115 ≤ y) (hi : i + 5 ≤ n) (hn : n ≤ 2560) (hXW : XW G b L txt H) (hMW : MW G y L txt th H) (hOJ : OJ G (y + 34) H) (hS : va_S (gA 0 0 H0.size) H0 H locs) (hcs : cs ≤ 844000) (hss : ss ≤ 6540000) (hl : lv_has ls 9 [(4, .int (nI i)), (3, .ref (y + 34)), (2, .ref y), (1, .ref b), (0, .ref b0)])
    (kk : ∀ (H1 : Heap) (locs1 : List Loc) (L1 : List Nat) (t1 : Nat → List Nat) (th1 : Int32) (cs1 ss1 : Nat) (ls1 : Array Slot), XW G b L1 t1 H1 → MW G y L1 t1 th1 H1 → OJ G (y + 34) H1 → va_S (gA 0 0 H0.size) H0 H1 locs1 → cs1 ≤ cs + 1600 → ss1 ≤ ss + 12000 → lv_has ls1 9 [(4, .int (nI i)), (3, .ref (y + 34)), (2, .ref y), (1, .ref b), (0, .ref b0)] → W p l e room_1 s m args below meth c H1 locs1 cs1 ss1 Q (F0 m 1817 ls1 [])) : W p l e room_1 s m args below meth c H locs cs ss Q (F0 m 405 ls []) := by
  obtain ⟨hx, hb, hml, hown, hts, hXs, hbl, h0, hE, hX⟩ := hC
  have hK := hE.1
  have hgs := hMW.gs
  refine lv_aload_n hx hb dL_law_405 rfl (lv_at hl 3 rfl) ?_
  refine lv_aload_n hx hb dL_law_406 rfl (lv_at hl 4 rfl) ?_
  refine lv_iload hx hb dL_law_407 (lv_at hl 0 rfl) ?_
  refine lv_iconst (v := nI 1) hx hb dL_law_409 (by decide) ?_
  refine lv_iadd hx hb dL_law_410 ?_
  refine x_rw (z := nI (i + 1)) (nI_add _ _) ?_
  refine x_sld hx hb hXs hbl hS (by omega) (by omega) dL_law_411 ?_
  refine lv_aload_n hx hb dL_law_412 rfl (lv_at hl 1 rfl) ?_
  obtain ⟨fo, hOut⟩ := id hOJ
  refine x_goI (x_runSL (As := [.ref b, .int (xs (i + 1)), .ref (y + 34)]) (rest := []) ⟨hx, hb, hml, hown, hts⟩ hE hX h0 hS (c_L_sign l G b y L txt L txt th fo hby (xs (i + 1)) H hXW hMW hOut) (vx_cwSW 3 hts gL_law_L_sign rfl rfl rfl (by decide +kernel) ⟨Nat.le_of_ble_eq_true rfl, Nat.le_of_ble_eq_true rfl⟩) (by omega) rfl rfl hl.1 rfl (lv_room (Nat.le_of_ble_eq_true rfl)) dL_law_413 ⟨Nat.le_trans (m := 846140) (by omega) (Nat.le_of_ble_eq_true rfl), Nat.le_trans (m := 6557685) (by omega) (Nat.le_of_ble_eq_true rfl)⟩) hS (by omega) (fun _ _ _ _ _ h => h.elim) (fun r2 H1 locs hq hF hS => ?_)
  obtain ⟨⟨hR, hV, hXW⟩, hMW, hOJ⟩ := hq
  replace hV : OVk r2 G (y + 34) (nI (cg L (ix (xs (i + 1))))).toInt64 H1 := hV
  refine lv_istore (lv' := [(5, .int r2), (4, .int (nI i)), (3, .ref (y + 34)), (2, .ref y), (1, .ref b), (0, .ref b0)]) hx hb dL_law_416 hl (by decide) rfl (fun ls hl => ?_)
  refine lv_aload_n hx hb dL_law_418 rfl (lv_at hl 3 rfl) ?_
  refine lv_aload_n hx hb dL_law_419 rfl (lv_at hl 5 rfl) ?_
  refine lv_iload hx hb dL_law_420 (lv_at hl 1 rfl) ?_
  refine lv_iconst (v := nI 1) hx hb dL_law_422 (by decide) ?_
  refine lv_iadd hx hb dL_law_423 ?_
  refine x_rw (z := nI (i + 1)) (nI_add _ _) ?_
  refine x_sld hx hb hXs hbl hS (by omega) (by omega) dL_law_424 ?_
  refine x_goI (x_runV (As := [.int (xs (i + 1))]) (rest := []) ⟨hx, hb, hml, hown, hts⟩ hE h0 hS (c_X3_sign l G y L txt th (xs (i + 1)) H1 hMW) (cwV 1 hts gL_law_X3_sign rfl rfl rfl (by decide +kernel) ⟨Nat.le_of_ble_eq_true rfl, Nat.le_of_ble_eq_true rfl⟩) (gO.recv (C := RX3) hK hMW.O rfl) (by omega) rfl rfl hl.1 rfl (lv_room (Nat.le_of_ble_eq_true rfl)) dL_law_425 ⟨Nat.le_trans (m := 846140) (by omega) (Nat.le_of_ble_eq_true rfl), Nat.le_trans (m := 6557685) (by omega) (Nat.le_of_ble_eq_true rfl)⟩) hS (by omega) (fun _ _ _ _ _ h => h.elim) (fun r4 H3 locs hq hF hS => ?_)
  have hXW := hXW.fr hF (by omega)
  have hOJ := hOJ.fr hF (by omega)
  have hV := hV.fr hF (by omega)
  obtain ⟨t, hRt, hVt, hMW⟩ := hq
  have hkt : r2 = t := rs1_u hR hRt
  subst hkt
  refine lv_istore (lv' := [(6, .int r4), (5, .int r2), (4, .int (nI i)), (3, .ref (y + 34)), (2, .ref y), (1, .ref b), (0, .ref b0)]) hx hb dL_law_428 hl (by decide) rfl (fun ls hl => ?_)
  refine lv_aload_n hx hb dL_law_430 rfl (lv_at hl 4 rfl) ?_
  refine x_goI_ro (x_runV (As := []) (rest := []) ⟨hx, hb, hml, hown, hts⟩ hE h0 hS (c_X3_thrown l G y (nI (sel r2 L L).length) r2 H3 hMW.O) (cwV 0 hts gL_law_X3_thrown rfl rfl rfl (by decide +kernel) ⟨Nat.le_of_ble_eq_true rfl, Nat.le_of_ble_eq_true rfl⟩) (gO.recv (C := RX3) hK hMW.O rfl) (by omega) rfl rfl hl.1 rfl (lv_room (Nat.le_of_ble_eq_true rfl)) dL_law_431 ⟨Nat.le_trans (m := 846140) (by omega) (Nat.le_of_ble_eq_true rfl), Nat.le_trans (m := 6557685) (by omega) (Nat.le_of_ble_eq_true rfl)⟩) hS (by omega) (fun _ _ _ _ _ h => h.elim) (fun locs hq hS => ?_)
  refine lv_iload hx hb dL_law_434 (lv_at hl 1 rfl) ?_
  refine lv_icmp_eq (tgt := 441) hx hb dL_law_436 (by decide) (fun c436 => ?_) (fun c436 => ?_)
  · refine lv_iload hx hb dL_law_441 (lv_at hl 1 rfl) ?_
    refine lv_if_ne (tgt := 458) hx hb dL_law_443 (by decide) (fun c443 => ?_) (fun c443 => ?_)
    · refine lv_goto (tgt := 1817) hx hb dL_law_458 (by decide) ?_
      exact kk H3 _ (sel r2 L L) (sel r2 txt txt) r2 _ _ ls hXW hMW hOJ hS (by omega) (by omega) (lv_sub hl [2, 3, 4, 5, 6] rfl)
    · obtain ⟨fo2, hOut2, hv2⟩ := hV c443
      refine lv_aload_n hx hb dL_law_446 rfl (lv_at hl 3 rfl) ?_
      refine lv_iconst (v := nI 0) hx hb dL_law_447 (by decide) ?_
      refine x_lald hx hb hK hOut2 (by omega) (by decide) dL_law_448 ?_
      refine x_rwl (z := (nI (cg L (ix (xs (i + 1))))).toInt64) hv2 ?_
      refine lv_iload hx hb dL_law_449 (lv_at hl 0 rfl) ?_
      refine lv_i2l hx hb dL_law_451 rfl ?_
      refine x_rwl (z := (nI (cg L (ix (xs (i + 1))))).toInt64) (by rw [hVt c443]) ?_
      refine x_lcmp0 hx hb dL_law_452 ?_
      refine x_if_eqN (tgt := 458) hx hb (by omega) dL_law_453 (by decide) (fun c453 => ?_) (fun c453 => ?_)
      · refine lv_goto (tgt := 1817) hx hb dL_law_458 (by decide) ?_
        exact kk H3 _ (sel r2 L L) (sel r2 txt txt) r2 _ _ ls hXW hMW hOJ hS (by omega) (by omega) (lv_sub hl [2, 3, 4, 5, 6] rfl)
      · exact absurd c453 (by decide)
  · exact absurd rfl c436

set_option maxHeartbeats 4000000 in
set_option maxRecDepth 100000 in
theorem k_parse {p : Program} {l : Launch} {e : Env} {s : State} {m : MethodId} {args : Array Value} {below : List Frame} {meth : Method} {c : Code} {Q : State → Prop} {G : gG} {b0 n b y i : Nat} {xs : Nat → Int32} {H0 H : Heap} {locs : List Loc} {L : List Nat} {txt : Nat → List Nat} {th : Int32} {cs ss : Nat} {ls : Array Slot} (hC : LC p l s m args c G b0 n xs H0) (hb0 : H0.size ≤ b) (hby : b + 115 ≤ y) (hi : i + 5 ≤ n) (hn : n ≤ 2560) (hXW : XW G b L txt H) (hMW : MW G y L txt th H) (hOJ : OJ G (y + 34) H) (hS : va_S (gA 0 0 H0.size) H0 H locs) (hcs : cs ≤ 844000) (hss : ss ≤ 6540000) (hl : lv_has ls 9 [(4, .int (nI i)), (3, .ref (y + 34)), (2, .ref y), (1, .ref b), (0, .ref b0)])
    (kk : ∀ (H1 : Heap) (locs1 : List Loc) (L1 : List Nat) (t1 : Nat → List Nat) (th1 : Int32) (cs1 ss1 : Nat) (ls1 : Array Slot), XW G b L1 t1 H1 → MW G y L1 t1 th1 H1 → OJ G (y + 34) H1 → va_S (gA 0 0 H0.size) H0 H1 locs1 → cs1 ≤ cs + 1600 → ss1 ≤ ss + 12000 → lv_has ls1 9 [(4, .int (nI i)), (3, .ref (y + 34)), (2, .ref y), (1, .ref b), (0, .ref b0)] → W p l e room_1 s m args below meth c H1 locs1 cs1 ss1 Q (F0 m 1817 ls1 [])) : W p l e room_1 s m args below meth c H locs cs ss Q (F0 m 461 ls []) := by
  obtain ⟨hx, hb, hml, hown, hts, hXs, hbl, h0, hE, hX⟩ := hC
  have hK := hE.1
  have hgs := hMW.gs
  refine lv_aload_n hx hb dL_law_461 rfl (lv_at hl 3 rfl) ?_
  refine lv_aload_n hx hb dL_law_462 rfl (lv_at hl 4 rfl) ?_
  refine lv_iload hx hb dL_law_463 (lv_at hl 0 rfl) ?_
  refine lv_iconst (v := nI 1) hx hb dL_law_465 (by decide) ?_
  refine lv_iadd hx hb dL_law_466 ?_
  refine x_rw (z := nI (i + 1)) (nI_add _ _) ?_
  refine x_sld hx hb hXs hbl hS (by omega) (by omega) dL_law_467 ?_
  refine lv_aload_n hx hb dL_law_468 rfl (lv_at hl 1 rfl) ?_
  obtain ⟨fo, hOut⟩ := id hOJ
  refine x_goI (x_runSL (As := [.ref b, .int (xs (i + 1)), .ref (y + 34)]) (rest := []) ⟨hx, hb, hml, hown, hts⟩ hE hX h0 hS (c_L_parse l G b y L txt L txt th fo hby (xs (i + 1)) H hXW hMW hOut) (vx_cwSW 3 hts gL_law_L_parse rfl rfl rfl (by decide +kernel) ⟨Nat.le_of_ble_eq_true rfl, Nat.le_of_ble_eq_true rfl⟩) (by omega) rfl rfl hl.1 rfl (lv_room (Nat.le_of_ble_eq_true rfl)) dL_law_469 ⟨Nat.le_trans (m := 846140) (by omega) (Nat.le_of_ble_eq_true rfl), Nat.le_trans (m := 6557685) (by omega) (Nat.le_of_ble_eq_true rfl)⟩) hS (by omega) (fun _ _ _ _ _ h => h.elim) (fun r2 H1 locs hq hF hS => ?_)
  obtain ⟨⟨hR, hV, hXW⟩, hMW, hOJ⟩ := hq
  replace hV : OVk r2 G (y + 34) (ordr L (txt (ix (xs (i + 1))))).toInt64 H1 := hV
  refine lv_istore (lv' := [(5, .int r2), (4, .int (nI i)), (3, .ref (y + 34)), (2, .ref y), (1, .ref b), (0, .ref b0)]) hx hb dL_law_472 hl (by decide) rfl (fun ls hl => ?_)
  refine lv_aload_n hx hb dL_law_474 rfl (lv_at hl 3 rfl) ?_
  refine lv_aload_n hx hb dL_law_475 rfl (lv_at hl 5 rfl) ?_
  refine lv_iload hx hb dL_law_476 (lv_at hl 1 rfl) ?_
  refine lv_iconst (v := nI 1) hx hb dL_law_478 (by decide) ?_
  refine lv_iadd hx hb dL_law_479 ?_
  refine x_rw (z := nI (i + 1)) (nI_add _ _) ?_
  refine x_sld hx hb hXs hbl hS (by omega) (by omega) dL_law_480 ?_
  refine x_goI (x_runV (As := [.int (xs (i + 1))]) (rest := []) ⟨hx, hb, hml, hown, hts⟩ hE h0 hS (c_X3_parse l G y L txt th (xs (i + 1)) H1 hMW) (cwV 1 hts gL_law_X3_parse rfl rfl rfl (by decide +kernel) ⟨Nat.le_of_ble_eq_true rfl, Nat.le_of_ble_eq_true rfl⟩) (gO.recv (C := RX3) hK hMW.O rfl) (by omega) rfl rfl hl.1 rfl (lv_room (Nat.le_of_ble_eq_true rfl)) dL_law_481 ⟨Nat.le_trans (m := 846140) (by omega) (Nat.le_of_ble_eq_true rfl), Nat.le_trans (m := 6557685) (by omega) (Nat.le_of_ble_eq_true rfl)⟩) hS (by omega) (fun _ _ _ _ _ h => h.elim) (fun r4 H3 locs hq hF hS => ?_)
  have hXW := hXW.fr hF (by omega)
  have hOJ := hOJ.fr hF (by omega)
  have hV := hV.fr hF (by omega)
  obtain ⟨t, hRt, hVt, hMW⟩ := hq
  have hkt : r2 = t := rs2_u hR hRt
  subst hkt
  refine lv_istore (lv' := [(6, .int r4), (5, .int r2), (4, .int (nI i)), (3, .ref (y + 34)), (2, .ref y), (1, .ref b), (0, .ref b0)]) hx hb dL_law_484 hl (by decide) rfl (fun ls hl => ?_)
  refine lv_aload_n hx hb dL_law_486 rfl (lv_at hl 4 rfl) ?_
  refine x_goI_ro (x_runV (As := []) (rest := []) ⟨hx, hb, hml, hown, hts⟩ hE h0 hS (c_X3_thrown l G y (nI (sel r2 L L).length) r2 H3 hMW.O) (cwV 0 hts gL_law_X3_thrown rfl rfl rfl (by decide +kernel) ⟨Nat.le_of_ble_eq_true rfl, Nat.le_of_ble_eq_true rfl⟩) (gO.recv (C := RX3) hK hMW.O rfl) (by omega) rfl rfl hl.1 rfl (lv_room (Nat.le_of_ble_eq_true rfl)) dL_law_487 ⟨Nat.le_trans (m := 846140) (by omega) (Nat.le_of_ble_eq_true rfl), Nat.le_trans (m := 6557685) (by omega) (Nat.le_of_ble_eq_true rfl)⟩) hS (by omega) (fun _ _ _ _ _ h => h.elim) (fun locs hq hS => ?_)
  refine lv_iload hx hb dL_law_490 (lv_at hl 1 rfl) ?_
  refine lv_icmp_eq (tgt := 497) hx hb dL_law_492 (by decide) (fun c492 => ?_) (fun c492 => ?_)
  · refine lv_iload hx hb dL_law_497 (lv_at hl 1 rfl) ?_
    refine lv_if_ne (tgt := 514) hx hb dL_law_499 (by decide) (fun c499 => ?_) (fun c499 => ?_)
    · refine lv_goto (tgt := 1817) hx hb dL_law_514 (by decide) ?_
      exact kk H3 _ (sel r2 L L) (sel r2 (up txt (ix (xs (i + 1))) L) txt) r2 _ _ ls hXW hMW hOJ hS (by omega) (by omega) (lv_sub hl [2, 3, 4, 5, 6] rfl)
    · obtain ⟨fo2, hOut2, hv2⟩ := hV c499
      refine lv_aload_n hx hb dL_law_502 rfl (lv_at hl 3 rfl) ?_
      refine lv_iconst (v := nI 0) hx hb dL_law_503 (by decide) ?_
      refine x_lald hx hb hK hOut2 (by omega) (by decide) dL_law_504 ?_
      refine x_rwl (z := (ordr L (txt (ix (xs (i + 1))))).toInt64) hv2 ?_
      refine lv_iload hx hb dL_law_505 (lv_at hl 0 rfl) ?_
      refine lv_i2l hx hb dL_law_507 rfl ?_
      refine x_rwl (z := (ordr L (txt (ix (xs (i + 1))))).toInt64) (by rw [hVt c499]) ?_
      refine x_lcmp0 hx hb dL_law_508 ?_
      refine x_if_eqN (tgt := 514) hx hb (by omega) dL_law_509 (by decide) (fun c509 => ?_) (fun c509 => ?_)
      · refine lv_goto (tgt := 1817) hx hb dL_law_514 (by decide) ?_
        exact kk H3 _ (sel r2 L L) (sel r2 (up txt (ix (xs (i + 1))) L) txt) r2 _ _ ls hXW hMW hOJ hS (by omega) (by omega) (lv_sub hl [2, 3, 4, 5, 6] rfl)
      · exact absurd c509 (by decide)
  · exact absurd rfl c492

set_option maxHeartbeats 4000000 in
set_option maxRecDepth 100000 in
theorem k_triple {p : Program} {l : Launch} {e : Env} {s : State} {m : MethodId} {args : Array Value} {below : List Frame} {meth : Method} {c : Code} {Q : State → Prop} {G : gG} {b0 n b y i : Nat} {xs : Nat → Int32} {H0 H : Heap} {locs : List Loc} {L : List Nat} {txt : Nat → List Nat} {th : Int32} {cs ss : Nat} {ls : Array Slot} (hC : LC p l s m args c G b0 n xs H0) (hb0 : H0.size ≤ b) (hby : b + 115 ≤ y) (hi : i + 5 ≤ n) (hn : n ≤ 2560) (hXW : XW G b L txt H) (hMW : MW G y L txt th H) (hOJ : OJ G (y + 34) H) (hS : va_S (gA 0 0 H0.size) H0 H locs) (hcs : cs ≤ 844000) (hss : ss ≤ 6540000) (hl : lv_has ls 9 [(4, .int (nI i)), (3, .ref (y + 34)), (2, .ref y), (1, .ref b), (0, .ref b0)])
    (kk : ∀ (H1 : Heap) (locs1 : List Loc) (L1 : List Nat) (t1 : Nat → List Nat) (th1 : Int32) (cs1 ss1 : Nat) (ls1 : Array Slot), XW G b L1 t1 H1 → MW G y L1 t1 th1 H1 → OJ G (y + 34) H1 → va_S (gA 0 0 H0.size) H0 H1 locs1 → cs1 ≤ cs + 1600 → ss1 ≤ ss + 12000 → lv_has ls1 9 [(4, .int (nI i)), (3, .ref (y + 34)), (2, .ref y), (1, .ref b), (0, .ref b0)] → W p l e room_1 s m args below meth c H1 locs1 cs1 ss1 Q (F0 m 1817 ls1 [])) : W p l e room_1 s m args below meth c H locs cs ss Q (F0 m 517 ls []) := by
  obtain ⟨hx, hb, hml, hown, hts, hXs, hbl, h0, hE, hX⟩ := hC
  have hK := hE.1
  have hgs := hMW.gs
  refine lv_aload_n hx hb dL_law_517 rfl (lv_at hl 3 rfl) ?_
  refine lv_aload_n hx hb dL_law_518 rfl (lv_at hl 4 rfl) ?_
  refine lv_iload hx hb dL_law_519 (lv_at hl 0 rfl) ?_
  refine lv_iconst (v := nI 1) hx hb dL_law_521 (by decide) ?_
  refine lv_iadd hx hb dL_law_522 ?_
  refine x_rw (z := nI (i + 1)) (nI_add _ _) ?_
  refine x_sld hx hb hXs hbl hS (by omega) (by omega) dL_law_523 ?_
  refine lv_aload_n hx hb dL_law_524 rfl (lv_at hl 4 rfl) ?_
  refine lv_iload hx hb dL_law_525 (lv_at hl 0 rfl) ?_
  refine lv_iconst (v := nI 2) hx hb dL_law_527 (by decide) ?_
  refine lv_iadd hx hb dL_law_528 ?_
  refine x_rw (z := nI (i + 2)) (nI_add _ _) ?_
  refine x_sld hx hb hXs hbl hS (by omega) (by omega) dL_law_529 ?_
  refine lv_aload_n hx hb dL_law_530 rfl (lv_at hl 4 rfl) ?_
  refine lv_iload hx hb dL_law_531 (lv_at hl 0 rfl) ?_
  refine lv_iconst (v := nI 3) hx hb dL_law_533 (by decide) ?_
  refine lv_iadd hx hb dL_law_534 ?_
  refine x_rw (z := nI (i + 3)) (nI_add _ _) ?_
  refine x_sld hx hb hXs hbl hS (by omega) (by omega) dL_law_535 ?_
  refine lv_aload_n hx hb dL_law_536 rfl (lv_at hl 4 rfl) ?_
  refine lv_iload hx hb dL_law_537 (lv_at hl 0 rfl) ?_
  refine lv_iconst (v := nI 4) hx hb dL_law_539 (by decide) ?_
  refine lv_iadd hx hb dL_law_540 ?_
  refine x_rw (z := nI (i + 4)) (nI_add _ _) ?_
  refine x_sld hx hb hXs hbl hS (by omega) (by omega) dL_law_541 ?_
  refine lv_aload_n hx hb dL_law_542 rfl (lv_at hl 1 rfl) ?_
  obtain ⟨fo, hOut⟩ := id hOJ
  refine x_goI (x_runSL (As := [.ref b, .int (xs (i + 1)), .int (xs (i + 2)), .int (xs (i + 3)), .int (xs (i + 4)), .ref (y + 34)]) (rest := []) ⟨hx, hb, hml, hown, hts⟩ hE hX h0 hS (c_L_triple l G b y L txt L txt th fo hby (xs (i + 1)) (xs (i + 2)) (xs (i + 3)) (xs (i + 4)) H hXW hMW hOut) (vx_cwSW 6 hts gL_law_L_triple rfl rfl rfl (by decide +kernel) ⟨Nat.le_of_ble_eq_true rfl, Nat.le_of_ble_eq_true rfl⟩) (by omega) rfl rfl hl.1 rfl (lv_room (Nat.le_of_ble_eq_true rfl)) dL_law_543 ⟨Nat.le_trans (m := 846140) (by omega) (Nat.le_of_ble_eq_true rfl), Nat.le_trans (m := 6557685) (by omega) (Nat.le_of_ble_eq_true rfl)⟩) hS (by omega) (fun _ _ _ _ _ h => h.elim) (fun r2 H1 locs hq hF hS => ?_)
  obtain ⟨⟨hR, hV, hXW⟩, hMW, hOJ⟩ := hq
  replace hV : OVk r2 G (y + 34) (ordr (dg (ix (xs (i + 2))) ++ [46] ++ dg (ix (xs (i + 3))) ++ [46] ++ dg (ix (xs (i + 4)))) (txt (ix (xs (i + 1))))).toInt64 H1 := hV
  refine lv_istore (lv' := [(5, .int r2), (4, .int (nI i)), (3, .ref (y + 34)), (2, .ref y), (1, .ref b), (0, .ref b0)]) hx hb dL_law_546 hl (by decide) rfl (fun ls hl => ?_)
  refine lv_aload_n hx hb dL_law_548 rfl (lv_at hl 3 rfl) ?_
  refine lv_aload_n hx hb dL_law_549 rfl (lv_at hl 5 rfl) ?_
  refine lv_iload hx hb dL_law_550 (lv_at hl 1 rfl) ?_
  refine lv_iconst (v := nI 1) hx hb dL_law_552 (by decide) ?_
  refine lv_iadd hx hb dL_law_553 ?_
  refine x_rw (z := nI (i + 1)) (nI_add _ _) ?_
  refine x_sld hx hb hXs hbl hS (by omega) (by omega) dL_law_554 ?_
  refine lv_aload_n hx hb dL_law_555 rfl (lv_at hl 5 rfl) ?_
  refine lv_iload hx hb dL_law_556 (lv_at hl 1 rfl) ?_
  refine lv_iconst (v := nI 2) hx hb dL_law_558 (by decide) ?_
  refine lv_iadd hx hb dL_law_559 ?_
  refine x_rw (z := nI (i + 2)) (nI_add _ _) ?_
  refine x_sld hx hb hXs hbl hS (by omega) (by omega) dL_law_560 ?_
  refine lv_aload_n hx hb dL_law_561 rfl (lv_at hl 5 rfl) ?_
  refine lv_iload hx hb dL_law_562 (lv_at hl 1 rfl) ?_
  refine lv_iconst (v := nI 3) hx hb dL_law_564 (by decide) ?_
  refine lv_iadd hx hb dL_law_565 ?_
  refine x_rw (z := nI (i + 3)) (nI_add _ _) ?_
  refine x_sld hx hb hXs hbl hS (by omega) (by omega) dL_law_566 ?_
  refine lv_aload_n hx hb dL_law_567 rfl (lv_at hl 5 rfl) ?_
  refine lv_iload hx hb dL_law_568 (lv_at hl 1 rfl) ?_
  refine lv_iconst (v := nI 4) hx hb dL_law_570 (by decide) ?_
  refine lv_iadd hx hb dL_law_571 ?_
  refine x_rw (z := nI (i + 4)) (nI_add _ _) ?_
  refine x_sld hx hb hXs hbl hS (by omega) (by omega) dL_law_572 ?_
  refine x_goI (x_runV (As := [.int (xs (i + 1)), .int (xs (i + 2)), .int (xs (i + 3)), .int (xs (i + 4))]) (rest := []) ⟨hx, hb, hml, hown, hts⟩ hE h0 hS (c_X3_triple l G y L txt th (xs (i + 1)) (xs (i + 2)) (xs (i + 3)) (xs (i + 4)) H1 hMW) (cwV 4 hts gL_law_X3_triple rfl rfl rfl (by decide +kernel) ⟨Nat.le_of_ble_eq_true rfl, Nat.le_of_ble_eq_true rfl⟩) (gO.recv (C := RX3) hK hMW.O rfl) (by omega) rfl rfl hl.1 rfl (lv_room (Nat.le_of_ble_eq_true rfl)) dL_law_573 ⟨Nat.le_trans (m := 846140) (by omega) (Nat.le_of_ble_eq_true rfl), Nat.le_trans (m := 6557685) (by omega) (Nat.le_of_ble_eq_true rfl)⟩) hS (by omega) (fun _ _ _ _ _ h => h.elim) (fun r4 H3 locs hq hF hS => ?_)
  have hXW := hXW.fr hF (by omega)
  have hOJ := hOJ.fr hF (by omega)
  have hV := hV.fr hF (by omega)
  obtain ⟨t, hRt, hVt, hMW⟩ := hq
  have hkt : r2 = t := rs2_u hR hRt
  subst hkt
  refine lv_istore (lv' := [(6, .int r4), (5, .int r2), (4, .int (nI i)), (3, .ref (y + 34)), (2, .ref y), (1, .ref b), (0, .ref b0)]) hx hb dL_law_576 hl (by decide) rfl (fun ls hl => ?_)
  refine lv_aload_n hx hb dL_law_578 rfl (lv_at hl 4 rfl) ?_
  refine x_goI_ro (x_runV (As := []) (rest := []) ⟨hx, hb, hml, hown, hts⟩ hE h0 hS (c_X3_thrown l G y (nI (sel r2 L L).length) r2 H3 hMW.O) (cwV 0 hts gL_law_X3_thrown rfl rfl rfl (by decide +kernel) ⟨Nat.le_of_ble_eq_true rfl, Nat.le_of_ble_eq_true rfl⟩) (gO.recv (C := RX3) hK hMW.O rfl) (by omega) rfl rfl hl.1 rfl (lv_room (Nat.le_of_ble_eq_true rfl)) dL_law_579 ⟨Nat.le_trans (m := 846140) (by omega) (Nat.le_of_ble_eq_true rfl), Nat.le_trans (m := 6557685) (by omega) (Nat.le_of_ble_eq_true rfl)⟩) hS (by omega) (fun _ _ _ _ _ h => h.elim) (fun locs hq hS => ?_)
  refine lv_iload hx hb dL_law_582 (lv_at hl 1 rfl) ?_
  refine lv_icmp_eq (tgt := 589) hx hb dL_law_584 (by decide) (fun c584 => ?_) (fun c584 => ?_)
  · refine lv_iload hx hb dL_law_589 (lv_at hl 1 rfl) ?_
    refine lv_if_ne (tgt := 606) hx hb dL_law_591 (by decide) (fun c591 => ?_) (fun c591 => ?_)
    · refine lv_goto (tgt := 1817) hx hb dL_law_606 (by decide) ?_
      exact kk H3 _ (sel r2 L L) (sel r2 (up txt (ix (xs (i + 1))) (dg (ix (xs (i + 2))) ++ [46] ++ dg (ix (xs (i + 3))) ++ [46] ++ dg (ix (xs (i + 4))))) txt) r2 _ _ ls hXW hMW hOJ hS (by omega) (by omega) (lv_sub hl [2, 3, 4, 5, 6] rfl)
    · obtain ⟨fo2, hOut2, hv2⟩ := hV c591
      refine lv_aload_n hx hb dL_law_594 rfl (lv_at hl 3 rfl) ?_
      refine lv_iconst (v := nI 0) hx hb dL_law_595 (by decide) ?_
      refine x_lald hx hb hK hOut2 (by omega) (by decide) dL_law_596 ?_
      refine x_rwl (z := (ordr (dg (ix (xs (i + 2))) ++ [46] ++ dg (ix (xs (i + 3))) ++ [46] ++ dg (ix (xs (i + 4)))) (txt (ix (xs (i + 1))))).toInt64) hv2 ?_
      refine lv_iload hx hb dL_law_597 (lv_at hl 0 rfl) ?_
      refine lv_i2l hx hb dL_law_599 rfl ?_
      refine x_rwl (z := (ordr (dg (ix (xs (i + 2))) ++ [46] ++ dg (ix (xs (i + 3))) ++ [46] ++ dg (ix (xs (i + 4)))) (txt (ix (xs (i + 1))))).toInt64) (by rw [hVt c591]) ?_
      refine x_lcmp0 hx hb dL_law_600 ?_
      refine x_if_eqN (tgt := 606) hx hb (by omega) dL_law_601 (by decide) (fun c601 => ?_) (fun c601 => ?_)
      · refine lv_goto (tgt := 1817) hx hb dL_law_606 (by decide) ?_
        exact kk H3 _ (sel r2 L L) (sel r2 (up txt (ix (xs (i + 1))) (dg (ix (xs (i + 2))) ++ [46] ++ dg (ix (xs (i + 3))) ++ [46] ++ dg (ix (xs (i + 4))))) txt) r2 _ _ ls hXW hMW hOJ hS (by omega) (by omega) (lv_sub hl [2, 3, 4, 5, 6] rfl)
      · exact absurd c601 (by decide)
  · exact absurd rfl c584

set_option maxHeartbeats 4000000 in
set_option maxRecDepth 100000 in
theorem k_copy {p : Program} {l : Launch} {e : Env} {s : State} {m : MethodId} {args : Array Value} {below : List Frame} {meth : Method} {c : Code} {Q : State → Prop} {G : gG} {b0 n b y i : Nat} {xs : Nat → Int32} {H0 H : Heap} {locs : List Loc} {L : List Nat} {txt : Nat → List Nat} {th : Int32} {cs ss : Nat} {ls : Array Slot} (hC : LC p l s m args c G b0 n xs H0) (hb0 : H0.size ≤ b) (hby : b + 115 ≤ y) (hi : i + 5 ≤ n) (hn : n ≤ 2560) (hXW : XW G b L txt H) (hMW : MW G y L txt th H) (hOJ : OJ G (y + 34) H) (hS : va_S (gA 0 0 H0.size) H0 H locs) (hcs : cs ≤ 844000) (hss : ss ≤ 6540000) (hl : lv_has ls 9 [(4, .int (nI i)), (3, .ref (y + 34)), (2, .ref y), (1, .ref b), (0, .ref b0)])
    (kk : ∀ (H1 : Heap) (locs1 : List Loc) (L1 : List Nat) (t1 : Nat → List Nat) (th1 : Int32) (cs1 ss1 : Nat) (ls1 : Array Slot), XW G b L1 t1 H1 → MW G y L1 t1 th1 H1 → OJ G (y + 34) H1 → va_S (gA 0 0 H0.size) H0 H1 locs1 → cs1 ≤ cs + 1600 → ss1 ≤ ss + 12000 → lv_has ls1 9 [(4, .int (nI i)), (3, .ref (y + 34)), (2, .ref y), (1, .ref b), (0, .ref b0)] → W p l e room_1 s m args below meth c H1 locs1 cs1 ss1 Q (F0 m 1817 ls1 [])) : W p l e room_1 s m args below meth c H locs cs ss Q (F0 m 609 ls []) := by
  obtain ⟨hx, hb, hml, hown, hts, hXs, hbl, h0, hE, hX⟩ := hC
  have hK := hE.1
  have hgs := hMW.gs
  refine lv_aload_n hx hb dL_law_609 rfl (lv_at hl 3 rfl) ?_
  refine lv_aload_n hx hb dL_law_610 rfl (lv_at hl 4 rfl) ?_
  refine lv_iload hx hb dL_law_611 (lv_at hl 0 rfl) ?_
  refine lv_iconst (v := nI 1) hx hb dL_law_613 (by decide) ?_
  refine lv_iadd hx hb dL_law_614 ?_
  refine x_rw (z := nI (i + 1)) (nI_add _ _) ?_
  refine x_sld hx hb hXs hbl hS (by omega) (by omega) dL_law_615 ?_
  refine lv_aload_n hx hb dL_law_616 rfl (lv_at hl 4 rfl) ?_
  refine lv_iload hx hb dL_law_617 (lv_at hl 0 rfl) ?_
  refine lv_iconst (v := nI 2) hx hb dL_law_619 (by decide) ?_
  refine lv_iadd hx hb dL_law_620 ?_
  refine x_rw (z := nI (i + 2)) (nI_add _ _) ?_
  refine x_sld hx hb hXs hbl hS (by omega) (by omega) dL_law_621 ?_
  refine lv_aload_n hx hb dL_law_622 rfl (lv_at hl 1 rfl) ?_
  obtain ⟨fo, hOut⟩ := id hOJ
  refine x_goI (x_runSL (As := [.ref b, .int (xs (i + 1)), .int (xs (i + 2)), .ref (y + 34)]) (rest := []) ⟨hx, hb, hml, hown, hts⟩ hE hX h0 hS (c_L_copy l G b y L txt L txt th fo hby (xs (i + 1)) (xs (i + 2)) H hXW hMW hOut) (vx_cwSW 4 hts gL_law_L_copy rfl rfl rfl (by decide +kernel) ⟨Nat.le_of_ble_eq_true rfl, Nat.le_of_ble_eq_true rfl⟩) (by omega) rfl rfl hl.1 rfl (lv_room (Nat.le_of_ble_eq_true rfl)) dL_law_623 ⟨Nat.le_trans (m := 846140) (by omega) (Nat.le_of_ble_eq_true rfl), Nat.le_trans (m := 6557685) (by omega) (Nat.le_of_ble_eq_true rfl)⟩) hS (by omega) (fun _ _ _ _ _ h => h.elim) (fun r2 H1 locs hq hF hS => ?_)
  obtain ⟨⟨hR, hV, hXW⟩, hMW, hOJ⟩ := hq
  replace hV : OVk r2 G (y + 34) (ordr (txt (ix (xs (i + 1)))) (txt (ix (xs (i + 2))))).toInt64 H1 := hV
  refine lv_istore (lv' := [(5, .int r2), (4, .int (nI i)), (3, .ref (y + 34)), (2, .ref y), (1, .ref b), (0, .ref b0)]) hx hb dL_law_626 hl (by decide) rfl (fun ls hl => ?_)
  refine lv_aload_n hx hb dL_law_628 rfl (lv_at hl 3 rfl) ?_
  refine lv_aload_n hx hb dL_law_629 rfl (lv_at hl 5 rfl) ?_
  refine lv_iload hx hb dL_law_630 (lv_at hl 1 rfl) ?_
  refine lv_iconst (v := nI 1) hx hb dL_law_632 (by decide) ?_
  refine lv_iadd hx hb dL_law_633 ?_
  refine x_rw (z := nI (i + 1)) (nI_add _ _) ?_
  refine x_sld hx hb hXs hbl hS (by omega) (by omega) dL_law_634 ?_
  refine lv_aload_n hx hb dL_law_635 rfl (lv_at hl 5 rfl) ?_
  refine lv_iload hx hb dL_law_636 (lv_at hl 1 rfl) ?_
  refine lv_iconst (v := nI 2) hx hb dL_law_638 (by decide) ?_
  refine lv_iadd hx hb dL_law_639 ?_
  refine x_rw (z := nI (i + 2)) (nI_add _ _) ?_
  refine x_sld hx hb hXs hbl hS (by omega) (by omega) dL_law_640 ?_
  refine x_goI (x_runV (As := [.int (xs (i + 1)), .int (xs (i + 2))]) (rest := []) ⟨hx, hb, hml, hown, hts⟩ hE h0 hS (c_X3_copy l G y L txt th (xs (i + 1)) (xs (i + 2)) H1 hMW) (cwV 2 hts gL_law_X3_copy rfl rfl rfl (by decide +kernel) ⟨Nat.le_of_ble_eq_true rfl, Nat.le_of_ble_eq_true rfl⟩) (gO.recv (C := RX3) hK hMW.O rfl) (by omega) rfl rfl hl.1 rfl (lv_room (Nat.le_of_ble_eq_true rfl)) dL_law_641 ⟨Nat.le_trans (m := 846140) (by omega) (Nat.le_of_ble_eq_true rfl), Nat.le_trans (m := 6557685) (by omega) (Nat.le_of_ble_eq_true rfl)⟩) hS (by omega) (fun _ _ _ _ _ h => h.elim) (fun r4 H3 locs hq hF hS => ?_)
  have hXW := hXW.fr hF (by omega)
  have hOJ := hOJ.fr hF (by omega)
  have hV := hV.fr hF (by omega)
  obtain ⟨t, hRt, hVt, hMW⟩ := hq
  have hkt : r2 = t := rs1_u hR hRt
  subst hkt
  refine lv_istore (lv' := [(6, .int r4), (5, .int r2), (4, .int (nI i)), (3, .ref (y + 34)), (2, .ref y), (1, .ref b), (0, .ref b0)]) hx hb dL_law_644 hl (by decide) rfl (fun ls hl => ?_)
  refine lv_aload_n hx hb dL_law_646 rfl (lv_at hl 4 rfl) ?_
  refine x_goI_ro (x_runV (As := []) (rest := []) ⟨hx, hb, hml, hown, hts⟩ hE h0 hS (c_X3_thrown l G y (nI (sel r2 L L).length) r2 H3 hMW.O) (cwV 0 hts gL_law_X3_thrown rfl rfl rfl (by decide +kernel) ⟨Nat.le_of_ble_eq_true rfl, Nat.le_of_ble_eq_true rfl⟩) (gO.recv (C := RX3) hK hMW.O rfl) (by omega) rfl rfl hl.1 rfl (lv_room (Nat.le_of_ble_eq_true rfl)) dL_law_647 ⟨Nat.le_trans (m := 846140) (by omega) (Nat.le_of_ble_eq_true rfl), Nat.le_trans (m := 6557685) (by omega) (Nat.le_of_ble_eq_true rfl)⟩) hS (by omega) (fun _ _ _ _ _ h => h.elim) (fun locs hq hS => ?_)
  refine lv_iload hx hb dL_law_650 (lv_at hl 1 rfl) ?_
  refine lv_icmp_eq (tgt := 657) hx hb dL_law_652 (by decide) (fun c652 => ?_) (fun c652 => ?_)
  · refine lv_iload hx hb dL_law_657 (lv_at hl 1 rfl) ?_
    refine lv_if_ne (tgt := 674) hx hb dL_law_659 (by decide) (fun c659 => ?_) (fun c659 => ?_)
    · refine lv_goto (tgt := 1817) hx hb dL_law_674 (by decide) ?_
      exact kk H3 _ (sel r2 L L) (sel r2 (up txt (ix (xs (i + 2))) (txt (ix (xs (i + 1))))) txt) r2 _ _ ls hXW hMW hOJ hS (by omega) (by omega) (lv_sub hl [2, 3, 4, 5, 6] rfl)
    · obtain ⟨fo2, hOut2, hv2⟩ := hV c659
      refine lv_aload_n hx hb dL_law_662 rfl (lv_at hl 3 rfl) ?_
      refine lv_iconst (v := nI 0) hx hb dL_law_663 (by decide) ?_
      refine x_lald hx hb hK hOut2 (by omega) (by decide) dL_law_664 ?_
      refine x_rwl (z := (ordr (txt (ix (xs (i + 1)))) (txt (ix (xs (i + 2))))).toInt64) hv2 ?_
      refine lv_iload hx hb dL_law_665 (lv_at hl 0 rfl) ?_
      refine lv_i2l hx hb dL_law_667 rfl ?_
      refine x_rwl (z := (ordr (txt (ix (xs (i + 1)))) (txt (ix (xs (i + 2))))).toInt64) (by rw [hVt c659]) ?_
      refine x_lcmp0 hx hb dL_law_668 ?_
      refine x_if_eqN (tgt := 674) hx hb (by omega) dL_law_669 (by decide) (fun c669 => ?_) (fun c669 => ?_)
      · refine lv_goto (tgt := 1817) hx hb dL_law_674 (by decide) ?_
        exact kk H3 _ (sel r2 L L) (sel r2 (up txt (ix (xs (i + 2))) (txt (ix (xs (i + 1))))) txt) r2 _ _ ls hXW hMW hOJ hS (by omega) (by omega) (lv_sub hl [2, 3, 4, 5, 6] rfl)
      · exact absurd c669 (by decide)
  · exact absurd rfl c652

set_option maxHeartbeats 4000000 in
set_option maxRecDepth 100000 in
theorem k_size {p : Program} {l : Launch} {e : Env} {s : State} {m : MethodId} {args : Array Value} {below : List Frame} {meth : Method} {c : Code} {Q : State → Prop} {G : gG} {b0 n b y i : Nat} {xs : Nat → Int32} {H0 H : Heap} {locs : List Loc} {L : List Nat} {txt : Nat → List Nat} {th : Int32} {cs ss : Nat} {ls : Array Slot} (hC : LC p l s m args c G b0 n xs H0) (hb0 : H0.size ≤ b) (hby : b + 115 ≤ y) (hi : i + 5 ≤ n) (hn : n ≤ 2560) (hXW : XW G b L txt H) (hMW : MW G y L txt th H) (hOJ : OJ G (y + 34) H) (hS : va_S (gA 0 0 H0.size) H0 H locs) (hcs : cs ≤ 844000) (hss : ss ≤ 6540000) (hl : lv_has ls 9 [(4, .int (nI i)), (3, .ref (y + 34)), (2, .ref y), (1, .ref b), (0, .ref b0)])
    (kk : ∀ (H1 : Heap) (locs1 : List Loc) (L1 : List Nat) (t1 : Nat → List Nat) (th1 : Int32) (cs1 ss1 : Nat) (ls1 : Array Slot), XW G b L1 t1 H1 → MW G y L1 t1 th1 H1 → OJ G (y + 34) H1 → va_S (gA 0 0 H0.size) H0 H1 locs1 → cs1 ≤ cs + 1600 → ss1 ≤ ss + 12000 → lv_has ls1 9 [(4, .int (nI i)), (3, .ref (y + 34)), (2, .ref y), (1, .ref b), (0, .ref b0)] → W p l e room_1 s m args below meth c H1 locs1 cs1 ss1 Q (F0 m 1817 ls1 [])) : W p l e room_1 s m args below meth c H locs cs ss Q (F0 m 677 ls []) := by
  obtain ⟨hx, hb, hml, hown, hts, hXs, hbl, h0, hE, hX⟩ := hC
  have hK := hE.1
  have hgs := hMW.gs
  refine lv_aload_n hx hb dL_law_677 rfl (lv_at hl 3 rfl) ?_
  refine lv_aload_n hx hb dL_law_678 rfl (lv_at hl 4 rfl) ?_
  refine lv_iload hx hb dL_law_679 (lv_at hl 0 rfl) ?_
  refine lv_iconst (v := nI 1) hx hb dL_law_681 (by decide) ?_
  refine lv_iadd hx hb dL_law_682 ?_
  refine x_rw (z := nI (i + 1)) (nI_add _ _) ?_
  refine x_sld hx hb hXs hbl hS (by omega) (by omega) dL_law_683 ?_
  refine lv_aload_n hx hb dL_law_684 rfl (lv_at hl 1 rfl) ?_
  obtain ⟨fo, hOut⟩ := id hOJ
  refine x_goI (x_runSL (As := [.ref b, .int (xs (i + 1)), .ref (y + 34)]) (rest := []) ⟨hx, hb, hml, hown, hts⟩ hE hX h0 hS (c_L_size l G b y L txt L txt th fo hby (xs (i + 1)) H hXW hMW hOut) (vx_cwSW 3 hts gL_law_L_size rfl rfl rfl (by decide +kernel) ⟨Nat.le_of_ble_eq_true rfl, Nat.le_of_ble_eq_true rfl⟩) (by omega) rfl rfl hl.1 rfl (lv_room (Nat.le_of_ble_eq_true rfl)) dL_law_685 ⟨Nat.le_trans (m := 846140) (by omega) (Nat.le_of_ble_eq_true rfl), Nat.le_trans (m := 6557685) (by omega) (Nat.le_of_ble_eq_true rfl)⟩) hS (by omega) (fun _ _ _ _ _ h => h.elim) (fun r2 H1 locs hq hF hS => ?_)
  obtain ⟨⟨hR, hV, hXW⟩, hMW, hOJ⟩ := hq
  replace hV : OVk r2 G (y + 34) (nI (txt (ix (xs (i + 1)))).length).toInt64 H1 := hV
  refine lv_istore (lv' := [(5, .int r2), (4, .int (nI i)), (3, .ref (y + 34)), (2, .ref y), (1, .ref b), (0, .ref b0)]) hx hb dL_law_688 hl (by decide) rfl (fun ls hl => ?_)
  refine lv_aload_n hx hb dL_law_690 rfl (lv_at hl 3 rfl) ?_
  refine lv_aload_n hx hb dL_law_691 rfl (lv_at hl 5 rfl) ?_
  refine lv_iload hx hb dL_law_692 (lv_at hl 1 rfl) ?_
  refine lv_iconst (v := nI 1) hx hb dL_law_694 (by decide) ?_
  refine lv_iadd hx hb dL_law_695 ?_
  refine x_rw (z := nI (i + 1)) (nI_add _ _) ?_
  refine x_sld hx hb hXs hbl hS (by omega) (by omega) dL_law_696 ?_
  refine x_goI (x_runV (As := [.int (xs (i + 1))]) (rest := []) ⟨hx, hb, hml, hown, hts⟩ hE h0 hS (c_X3_size l G y L txt th (xs (i + 1)) H1 hMW) (cwV 1 hts gL_law_X3_size rfl rfl rfl (by decide +kernel) ⟨Nat.le_of_ble_eq_true rfl, Nat.le_of_ble_eq_true rfl⟩) (gO.recv (C := RX3) hK hMW.O rfl) (by omega) rfl rfl hl.1 rfl (lv_room (Nat.le_of_ble_eq_true rfl)) dL_law_697 ⟨Nat.le_trans (m := 846140) (by omega) (Nat.le_of_ble_eq_true rfl), Nat.le_trans (m := 6557685) (by omega) (Nat.le_of_ble_eq_true rfl)⟩) hS (by omega) (fun _ _ _ _ _ h => h.elim) (fun r4 H3 locs hq hF hS => ?_)
  have hXW := hXW.fr hF (by omega)
  have hOJ := hOJ.fr hF (by omega)
  have hV := hV.fr hF (by omega)
  obtain ⟨t, hRt, hVt, hMW⟩ := hq
  have hkt : r2 = t := rs1_u hR hRt
  subst hkt
  refine lv_istore (lv' := [(6, .int r4), (5, .int r2), (4, .int (nI i)), (3, .ref (y + 34)), (2, .ref y), (1, .ref b), (0, .ref b0)]) hx hb dL_law_700 hl (by decide) rfl (fun ls hl => ?_)
  refine lv_aload_n hx hb dL_law_702 rfl (lv_at hl 4 rfl) ?_
  refine x_goI_ro (x_runV (As := []) (rest := []) ⟨hx, hb, hml, hown, hts⟩ hE h0 hS (c_X3_thrown l G y (nI (sel r2 L L).length) r2 H3 hMW.O) (cwV 0 hts gL_law_X3_thrown rfl rfl rfl (by decide +kernel) ⟨Nat.le_of_ble_eq_true rfl, Nat.le_of_ble_eq_true rfl⟩) (gO.recv (C := RX3) hK hMW.O rfl) (by omega) rfl rfl hl.1 rfl (lv_room (Nat.le_of_ble_eq_true rfl)) dL_law_703 ⟨Nat.le_trans (m := 846140) (by omega) (Nat.le_of_ble_eq_true rfl), Nat.le_trans (m := 6557685) (by omega) (Nat.le_of_ble_eq_true rfl)⟩) hS (by omega) (fun _ _ _ _ _ h => h.elim) (fun locs hq hS => ?_)
  refine lv_iload hx hb dL_law_706 (lv_at hl 1 rfl) ?_
  refine lv_icmp_eq (tgt := 713) hx hb dL_law_708 (by decide) (fun c708 => ?_) (fun c708 => ?_)
  · refine lv_iload hx hb dL_law_713 (lv_at hl 1 rfl) ?_
    refine lv_if_ne (tgt := 730) hx hb dL_law_715 (by decide) (fun c715 => ?_) (fun c715 => ?_)
    · refine lv_goto (tgt := 1817) hx hb dL_law_730 (by decide) ?_
      exact kk H3 _ (sel r2 L L) (sel r2 txt txt) r2 _ _ ls hXW hMW hOJ hS (by omega) (by omega) (lv_sub hl [2, 3, 4, 5, 6] rfl)
    · obtain ⟨fo2, hOut2, hv2⟩ := hV c715
      refine lv_aload_n hx hb dL_law_718 rfl (lv_at hl 3 rfl) ?_
      refine lv_iconst (v := nI 0) hx hb dL_law_719 (by decide) ?_
      refine x_lald hx hb hK hOut2 (by omega) (by decide) dL_law_720 ?_
      refine x_rwl (z := (nI (txt (ix (xs (i + 1)))).length).toInt64) hv2 ?_
      refine lv_iload hx hb dL_law_721 (lv_at hl 0 rfl) ?_
      refine lv_i2l hx hb dL_law_723 rfl ?_
      refine x_rwl (z := (nI (txt (ix (xs (i + 1)))).length).toInt64) (by rw [hVt c715]) ?_
      refine x_lcmp0 hx hb dL_law_724 ?_
      refine x_if_eqN (tgt := 730) hx hb (by omega) dL_law_725 (by decide) (fun c725 => ?_) (fun c725 => ?_)
      · refine lv_goto (tgt := 1817) hx hb dL_law_730 (by decide) ?_
        exact kk H3 _ (sel r2 L L) (sel r2 txt txt) r2 _ _ ls hXW hMW hOJ hS (by omega) (by omega) (lv_sub hl [2, 3, 4, 5, 6] rfl)
      · exact absurd c725 (by decide)
  · exact absurd rfl c708

set_option maxHeartbeats 4000000 in
set_option maxRecDepth 100000 in
theorem k_text {p : Program} {l : Launch} {e : Env} {s : State} {m : MethodId} {args : Array Value} {below : List Frame} {meth : Method} {c : Code} {Q : State → Prop} {G : gG} {b0 n b y i : Nat} {xs : Nat → Int32} {H0 H : Heap} {locs : List Loc} {L : List Nat} {txt : Nat → List Nat} {th : Int32} {cs ss : Nat} {ls : Array Slot} (hC : LC p l s m args c G b0 n xs H0) (hb0 : H0.size ≤ b) (hby : b + 115 ≤ y) (hi : i + 5 ≤ n) (hn : n ≤ 2560) (hXW : XW G b L txt H) (hMW : MW G y L txt th H) (hOJ : OJ G (y + 34) H) (hS : va_S (gA 0 0 H0.size) H0 H locs) (hcs : cs ≤ 844000) (hss : ss ≤ 6540000) (hl : lv_has ls 9 [(4, .int (nI i)), (3, .ref (y + 34)), (2, .ref y), (1, .ref b), (0, .ref b0)])
    (kk : ∀ (H1 : Heap) (locs1 : List Loc) (L1 : List Nat) (t1 : Nat → List Nat) (th1 : Int32) (cs1 ss1 : Nat) (ls1 : Array Slot), XW G b L1 t1 H1 → MW G y L1 t1 th1 H1 → OJ G (y + 34) H1 → va_S (gA 0 0 H0.size) H0 H1 locs1 → cs1 ≤ cs + 1600 → ss1 ≤ ss + 12000 → lv_has ls1 9 [(4, .int (nI i)), (3, .ref (y + 34)), (2, .ref y), (1, .ref b), (0, .ref b0)] → W p l e room_1 s m args below meth c H1 locs1 cs1 ss1 Q (F0 m 1817 ls1 [])) : W p l e room_1 s m args below meth c H locs cs ss Q (F0 m 733 ls []) := by
  obtain ⟨hx, hb, hml, hown, hts, hXs, hbl, h0, hE, hX⟩ := hC
  have hK := hE.1
  have hgs := hMW.gs
  refine lv_aload_n hx hb dL_law_733 rfl (lv_at hl 3 rfl) ?_
  refine lv_aload_n hx hb dL_law_734 rfl (lv_at hl 4 rfl) ?_
  refine lv_iload hx hb dL_law_735 (lv_at hl 0 rfl) ?_
  refine lv_iconst (v := nI 1) hx hb dL_law_737 (by decide) ?_
  refine lv_iadd hx hb dL_law_738 ?_
  refine x_rw (z := nI (i + 1)) (nI_add _ _) ?_
  refine x_sld hx hb hXs hbl hS (by omega) (by omega) dL_law_739 ?_
  refine lv_aload_n hx hb dL_law_740 rfl (lv_at hl 4 rfl) ?_
  refine lv_iload hx hb dL_law_741 (lv_at hl 0 rfl) ?_
  refine lv_iconst (v := nI 2) hx hb dL_law_743 (by decide) ?_
  refine lv_iadd hx hb dL_law_744 ?_
  refine x_rw (z := nI (i + 2)) (nI_add _ _) ?_
  refine x_sld hx hb hXs hbl hS (by omega) (by omega) dL_law_745 ?_
  refine lv_aload_n hx hb dL_law_746 rfl (lv_at hl 1 rfl) ?_
  obtain ⟨fo, hOut⟩ := id hOJ
  refine x_goI (x_runSL (As := [.ref b, .int (xs (i + 1)), .int (xs (i + 2)), .ref (y + 34)]) (rest := []) ⟨hx, hb, hml, hown, hts⟩ hE hX h0 hS (c_L_text l G b y L txt L txt th fo hby (xs (i + 1)) (xs (i + 2)) H hXW hMW hOut) (vx_cwSW 4 hts gL_law_L_text rfl rfl rfl (by decide +kernel) ⟨Nat.le_of_ble_eq_true rfl, Nat.le_of_ble_eq_true rfl⟩) (by omega) rfl rfl hl.1 rfl (lv_room (Nat.le_of_ble_eq_true rfl)) dL_law_747 ⟨Nat.le_trans (m := 846140) (by omega) (Nat.le_of_ble_eq_true rfl), Nat.le_trans (m := 6557685) (by omega) (Nat.le_of_ble_eq_true rfl)⟩) hS (by omega) (fun _ _ _ _ _ h => h.elim) (fun r2 H1 locs hq hF hS => ?_)
  obtain ⟨⟨hR, hV, hXW⟩, hMW, hOJ⟩ := hq
  replace hV : OVk r2 G (y + 34) (nI (cg (txt (ix (xs (i + 1)))) (ix (xs (i + 2))))).toInt64 H1 := hV
  refine lv_istore (lv' := [(5, .int r2), (4, .int (nI i)), (3, .ref (y + 34)), (2, .ref y), (1, .ref b), (0, .ref b0)]) hx hb dL_law_750 hl (by decide) rfl (fun ls hl => ?_)
  refine lv_aload_n hx hb dL_law_752 rfl (lv_at hl 3 rfl) ?_
  refine lv_aload_n hx hb dL_law_753 rfl (lv_at hl 5 rfl) ?_
  refine lv_iload hx hb dL_law_754 (lv_at hl 1 rfl) ?_
  refine lv_iconst (v := nI 1) hx hb dL_law_756 (by decide) ?_
  refine lv_iadd hx hb dL_law_757 ?_
  refine x_rw (z := nI (i + 1)) (nI_add _ _) ?_
  refine x_sld hx hb hXs hbl hS (by omega) (by omega) dL_law_758 ?_
  refine lv_aload_n hx hb dL_law_759 rfl (lv_at hl 5 rfl) ?_
  refine lv_iload hx hb dL_law_760 (lv_at hl 1 rfl) ?_
  refine lv_iconst (v := nI 2) hx hb dL_law_762 (by decide) ?_
  refine lv_iadd hx hb dL_law_763 ?_
  refine x_rw (z := nI (i + 2)) (nI_add _ _) ?_
  refine x_sld hx hb hXs hbl hS (by omega) (by omega) dL_law_764 ?_
  refine x_goI (x_runV (As := [.int (xs (i + 1)), .int (xs (i + 2))]) (rest := []) ⟨hx, hb, hml, hown, hts⟩ hE h0 hS (c_X3_text l G y L txt th (xs (i + 1)) (xs (i + 2)) H1 hMW) (cwV 2 hts gL_law_X3_text rfl rfl rfl (by decide +kernel) ⟨Nat.le_of_ble_eq_true rfl, Nat.le_of_ble_eq_true rfl⟩) (gO.recv (C := RX3) hK hMW.O rfl) (by omega) rfl rfl hl.1 rfl (lv_room (Nat.le_of_ble_eq_true rfl)) dL_law_765 ⟨Nat.le_trans (m := 846140) (by omega) (Nat.le_of_ble_eq_true rfl), Nat.le_trans (m := 6557685) (by omega) (Nat.le_of_ble_eq_true rfl)⟩) hS (by omega) (fun _ _ _ _ _ h => h.elim) (fun r4 H3 locs hq hF hS => ?_)
  have hXW := hXW.fr hF (by omega)
  have hOJ := hOJ.fr hF (by omega)
  have hV := hV.fr hF (by omega)
  obtain ⟨t, hRt, hVt, hMW⟩ := hq
  have hkt : r2 = t := rs1_u hR hRt
  subst hkt
  refine lv_istore (lv' := [(6, .int r4), (5, .int r2), (4, .int (nI i)), (3, .ref (y + 34)), (2, .ref y), (1, .ref b), (0, .ref b0)]) hx hb dL_law_768 hl (by decide) rfl (fun ls hl => ?_)
  refine lv_aload_n hx hb dL_law_770 rfl (lv_at hl 4 rfl) ?_
  refine x_goI_ro (x_runV (As := []) (rest := []) ⟨hx, hb, hml, hown, hts⟩ hE h0 hS (c_X3_thrown l G y (nI (sel r2 L L).length) r2 H3 hMW.O) (cwV 0 hts gL_law_X3_thrown rfl rfl rfl (by decide +kernel) ⟨Nat.le_of_ble_eq_true rfl, Nat.le_of_ble_eq_true rfl⟩) (gO.recv (C := RX3) hK hMW.O rfl) (by omega) rfl rfl hl.1 rfl (lv_room (Nat.le_of_ble_eq_true rfl)) dL_law_771 ⟨Nat.le_trans (m := 846140) (by omega) (Nat.le_of_ble_eq_true rfl), Nat.le_trans (m := 6557685) (by omega) (Nat.le_of_ble_eq_true rfl)⟩) hS (by omega) (fun _ _ _ _ _ h => h.elim) (fun locs hq hS => ?_)
  refine lv_iload hx hb dL_law_774 (lv_at hl 1 rfl) ?_
  refine lv_icmp_eq (tgt := 781) hx hb dL_law_776 (by decide) (fun c776 => ?_) (fun c776 => ?_)
  · refine lv_iload hx hb dL_law_781 (lv_at hl 1 rfl) ?_
    refine lv_if_ne (tgt := 798) hx hb dL_law_783 (by decide) (fun c783 => ?_) (fun c783 => ?_)
    · refine lv_goto (tgt := 1817) hx hb dL_law_798 (by decide) ?_
      exact kk H3 _ (sel r2 L L) (sel r2 txt txt) r2 _ _ ls hXW hMW hOJ hS (by omega) (by omega) (lv_sub hl [2, 3, 4, 5, 6] rfl)
    · obtain ⟨fo2, hOut2, hv2⟩ := hV c783
      refine lv_aload_n hx hb dL_law_786 rfl (lv_at hl 3 rfl) ?_
      refine lv_iconst (v := nI 0) hx hb dL_law_787 (by decide) ?_
      refine x_lald hx hb hK hOut2 (by omega) (by decide) dL_law_788 ?_
      refine x_rwl (z := (nI (cg (txt (ix (xs (i + 1)))) (ix (xs (i + 2))))).toInt64) hv2 ?_
      refine lv_iload hx hb dL_law_789 (lv_at hl 0 rfl) ?_
      refine lv_i2l hx hb dL_law_791 rfl ?_
      refine x_rwl (z := (nI (cg (txt (ix (xs (i + 1)))) (ix (xs (i + 2))))).toInt64) (by rw [hVt c783]) ?_
      refine x_lcmp0 hx hb dL_law_792 ?_
      refine x_if_eqN (tgt := 798) hx hb (by omega) dL_law_793 (by decide) (fun c793 => ?_) (fun c793 => ?_)
      · refine lv_goto (tgt := 1817) hx hb dL_law_798 (by decide) ?_
        exact kk H3 _ (sel r2 L L) (sel r2 txt txt) r2 _ _ ls hXW hMW hOJ hS (by omega) (by omega) (lv_sub hl [2, 3, 4, 5, 6] rfl)
      · exact absurd c793 (by decide)
  · exact absurd rfl c776

set_option maxHeartbeats 4000000 in
set_option maxRecDepth 100000 in
theorem k_tokens {p : Program} {l : Launch} {e : Env} {s : State} {m : MethodId} {args : Array Value} {below : List Frame} {meth : Method} {c : Code} {Q : State → Prop} {G : gG} {b0 n b y i : Nat} {xs : Nat → Int32} {H0 H : Heap} {locs : List Loc} {L : List Nat} {txt : Nat → List Nat} {th : Int32} {cs ss : Nat} {ls : Array Slot} (hC : LC p l s m args c G b0 n xs H0) (hb0 : H0.size ≤ b) (hby : b + 115 ≤ y) (hi : i + 5 ≤ n) (hn : n ≤ 2560) (hXW : XW G b L txt H) (hMW : MW G y L txt th H) (hOJ : OJ G (y + 34) H) (hS : va_S (gA 0 0 H0.size) H0 H locs) (hcs : cs ≤ 844000) (hss : ss ≤ 6540000) (hl : lv_has ls 9 [(4, .int (nI i)), (3, .ref (y + 34)), (2, .ref y), (1, .ref b), (0, .ref b0)])
    (kk : ∀ (H1 : Heap) (locs1 : List Loc) (L1 : List Nat) (t1 : Nat → List Nat) (th1 : Int32) (cs1 ss1 : Nat) (ls1 : Array Slot), XW G b L1 t1 H1 → MW G y L1 t1 th1 H1 → OJ G (y + 34) H1 → va_S (gA 0 0 H0.size) H0 H1 locs1 → cs1 ≤ cs + 1600 → ss1 ≤ ss + 12000 → lv_has ls1 9 [(4, .int (nI i)), (3, .ref (y + 34)), (2, .ref y), (1, .ref b), (0, .ref b0)] → W p l e room_1 s m args below meth c H1 locs1 cs1 ss1 Q (F0 m 1817 ls1 [])) : W p l e room_1 s m args below meth c H locs cs ss Q (F0 m 801 ls []) := by
  obtain ⟨hx, hb, hml, hown, hts, hXs, hbl, h0, hE, hX⟩ := hC
  have hK := hE.1
  have hgs := hMW.gs
  refine lv_aload_n hx hb dL_law_801 rfl (lv_at hl 3 rfl) ?_
  refine lv_aload_n hx hb dL_law_802 rfl (lv_at hl 4 rfl) ?_
  refine lv_iload hx hb dL_law_803 (lv_at hl 0 rfl) ?_
  refine lv_iconst (v := nI 1) hx hb dL_law_805 (by decide) ?_
  refine lv_iadd hx hb dL_law_806 ?_
  refine x_rw (z := nI (i + 1)) (nI_add _ _) ?_
  refine x_sld hx hb hXs hbl hS (by omega) (by omega) dL_law_807 ?_
  refine lv_aload_n hx hb dL_law_808 rfl (lv_at hl 4 rfl) ?_
  refine lv_iload hx hb dL_law_809 (lv_at hl 0 rfl) ?_
  refine lv_iconst (v := nI 2) hx hb dL_law_811 (by decide) ?_
  refine lv_iadd hx hb dL_law_812 ?_
  refine x_rw (z := nI (i + 2)) (nI_add _ _) ?_
  refine x_sld hx hb hXs hbl hS (by omega) (by omega) dL_law_813 ?_
  refine lv_aload_n hx hb dL_law_814 rfl (lv_at hl 1 rfl) ?_
  obtain ⟨fo, hOut⟩ := id hOJ
  refine x_goI (x_runSL (As := [.ref b, .int (xs (i + 1)), .int (xs (i + 2)), .ref (y + 34)]) (rest := []) ⟨hx, hb, hml, hown, hts⟩ hE hX h0 hS (c_L_tokens l G b y L txt L txt th fo hby (xs (i + 1)) (xs (i + 2)) H hXW hMW hOut) (vx_cwSW 4 hts gL_law_L_tokens rfl rfl rfl (by decide +kernel) ⟨Nat.le_of_ble_eq_true rfl, Nat.le_of_ble_eq_true rfl⟩) (by omega) rfl rfl hl.1 rfl (lv_room (Nat.le_of_ble_eq_true rfl)) dL_law_815 ⟨Nat.le_trans (m := 846140) (by omega) (Nat.le_of_ble_eq_true rfl), Nat.le_trans (m := 6557685) (by omega) (Nat.le_of_ble_eq_true rfl)⟩) hS (by omega) (fun _ _ _ _ _ h => h.elim) (fun r2 H1 locs hq hF hS => ?_)
  obtain ⟨⟨hR, hV, hXW⟩, hMW, hOJ⟩ := hq
  replace hV : OVk r2 G (y + 34) (nI (tk (txt (ix (xs (i + 1)))) (ix (xs (i + 2)))).length).toInt64 H1 := hV
  refine lv_istore (lv' := [(5, .int r2), (4, .int (nI i)), (3, .ref (y + 34)), (2, .ref y), (1, .ref b), (0, .ref b0)]) hx hb dL_law_818 hl (by decide) rfl (fun ls hl => ?_)
  refine lv_aload_n hx hb dL_law_820 rfl (lv_at hl 3 rfl) ?_
  refine lv_aload_n hx hb dL_law_821 rfl (lv_at hl 5 rfl) ?_
  refine lv_iload hx hb dL_law_822 (lv_at hl 1 rfl) ?_
  refine lv_iconst (v := nI 1) hx hb dL_law_824 (by decide) ?_
  refine lv_iadd hx hb dL_law_825 ?_
  refine x_rw (z := nI (i + 1)) (nI_add _ _) ?_
  refine x_sld hx hb hXs hbl hS (by omega) (by omega) dL_law_826 ?_
  refine lv_aload_n hx hb dL_law_827 rfl (lv_at hl 5 rfl) ?_
  refine lv_iload hx hb dL_law_828 (lv_at hl 1 rfl) ?_
  refine lv_iconst (v := nI 2) hx hb dL_law_830 (by decide) ?_
  refine lv_iadd hx hb dL_law_831 ?_
  refine x_rw (z := nI (i + 2)) (nI_add _ _) ?_
  refine x_sld hx hb hXs hbl hS (by omega) (by omega) dL_law_832 ?_
  refine x_goI (x_runV (As := [.int (xs (i + 1)), .int (xs (i + 2))]) (rest := []) ⟨hx, hb, hml, hown, hts⟩ hE h0 hS (c_X3_tokens l G y L txt th (xs (i + 1)) (xs (i + 2)) H1 hMW) (cwV 2 hts gL_law_X3_tokens rfl rfl rfl (by decide +kernel) ⟨Nat.le_of_ble_eq_true rfl, Nat.le_of_ble_eq_true rfl⟩) (gO.recv (C := RX3) hK hMW.O rfl) (by omega) rfl rfl hl.1 rfl (lv_room (Nat.le_of_ble_eq_true rfl)) dL_law_833 ⟨Nat.le_trans (m := 846140) (by omega) (Nat.le_of_ble_eq_true rfl), Nat.le_trans (m := 6557685) (by omega) (Nat.le_of_ble_eq_true rfl)⟩) hS (by omega) (fun _ _ _ _ _ h => h.elim) (fun r4 H3 locs hq hF hS => ?_)
  have hXW := hXW.fr hF (by omega)
  have hOJ := hOJ.fr hF (by omega)
  have hV := hV.fr hF (by omega)
  obtain ⟨t, hRt, hVt, hMW⟩ := hq
  have hkt : r2 = t := rs2_u hR hRt
  subst hkt
  refine lv_istore (lv' := [(6, .int r4), (5, .int r2), (4, .int (nI i)), (3, .ref (y + 34)), (2, .ref y), (1, .ref b), (0, .ref b0)]) hx hb dL_law_836 hl (by decide) rfl (fun ls hl => ?_)
  refine lv_aload_n hx hb dL_law_838 rfl (lv_at hl 4 rfl) ?_
  refine x_goI_ro (x_runV (As := []) (rest := []) ⟨hx, hb, hml, hown, hts⟩ hE h0 hS (c_X3_thrown l G y (nI (sel r2 L L).length) r2 H3 hMW.O) (cwV 0 hts gL_law_X3_thrown rfl rfl rfl (by decide +kernel) ⟨Nat.le_of_ble_eq_true rfl, Nat.le_of_ble_eq_true rfl⟩) (gO.recv (C := RX3) hK hMW.O rfl) (by omega) rfl rfl hl.1 rfl (lv_room (Nat.le_of_ble_eq_true rfl)) dL_law_839 ⟨Nat.le_trans (m := 846140) (by omega) (Nat.le_of_ble_eq_true rfl), Nat.le_trans (m := 6557685) (by omega) (Nat.le_of_ble_eq_true rfl)⟩) hS (by omega) (fun _ _ _ _ _ h => h.elim) (fun locs hq hS => ?_)
  refine lv_iload hx hb dL_law_842 (lv_at hl 1 rfl) ?_
  refine lv_icmp_eq (tgt := 849) hx hb dL_law_844 (by decide) (fun c844 => ?_) (fun c844 => ?_)
  · refine lv_iload hx hb dL_law_849 (lv_at hl 1 rfl) ?_
    refine lv_if_ne (tgt := 866) hx hb dL_law_851 (by decide) (fun c851 => ?_) (fun c851 => ?_)
    · refine lv_goto (tgt := 1817) hx hb dL_law_866 (by decide) ?_
      exact kk H3 _ (sel r2 L L) (sel r2 txt txt) r2 _ _ ls hXW hMW hOJ hS (by omega) (by omega) (lv_sub hl [2, 3, 4, 5, 6] rfl)
    · obtain ⟨fo2, hOut2, hv2⟩ := hV c851
      refine lv_aload_n hx hb dL_law_854 rfl (lv_at hl 3 rfl) ?_
      refine lv_iconst (v := nI 0) hx hb dL_law_855 (by decide) ?_
      refine x_lald hx hb hK hOut2 (by omega) (by decide) dL_law_856 ?_
      refine x_rwl (z := (nI (tk (txt (ix (xs (i + 1)))) (ix (xs (i + 2)))).length).toInt64) hv2 ?_
      refine lv_iload hx hb dL_law_857 (lv_at hl 0 rfl) ?_
      refine lv_i2l hx hb dL_law_859 rfl ?_
      refine x_rwl (z := (nI (tk (txt (ix (xs (i + 1)))) (ix (xs (i + 2)))).length).toInt64) (by rw [hVt c851]) ?_
      refine x_lcmp0 hx hb dL_law_860 ?_
      refine x_if_eqN (tgt := 866) hx hb (by omega) dL_law_861 (by decide) (fun c861 => ?_) (fun c861 => ?_)
      · refine lv_goto (tgt := 1817) hx hb dL_law_866 (by decide) ?_
        exact kk H3 _ (sel r2 L L) (sel r2 txt txt) r2 _ _ ls hXW hMW hOJ hS (by omega) (by omega) (lv_sub hl [2, 3, 4, 5, 6] rfl)
      · exact absurd c861 (by decide)
  · exact absurd rfl c844

set_option maxHeartbeats 4000000 in
set_option maxRecDepth 100000 in
theorem k_token {p : Program} {l : Launch} {e : Env} {s : State} {m : MethodId} {args : Array Value} {below : List Frame} {meth : Method} {c : Code} {Q : State → Prop} {G : gG} {b0 n b y i : Nat} {xs : Nat → Int32} {H0 H : Heap} {locs : List Loc} {L : List Nat} {txt : Nat → List Nat} {th : Int32} {cs ss : Nat} {ls : Array Slot} (hC : LC p l s m args c G b0 n xs H0) (hb0 : H0.size ≤ b) (hby : b + 115 ≤ y) (hi : i + 5 ≤ n) (hn : n ≤ 2560) (hXW : XW G b L txt H) (hMW : MW G y L txt th H) (hOJ : OJ G (y + 34) H) (hS : va_S (gA 0 0 H0.size) H0 H locs) (hcs : cs ≤ 844000) (hss : ss ≤ 6540000) (hl : lv_has ls 9 [(4, .int (nI i)), (3, .ref (y + 34)), (2, .ref y), (1, .ref b), (0, .ref b0)])
    (kk : ∀ (H1 : Heap) (locs1 : List Loc) (L1 : List Nat) (t1 : Nat → List Nat) (th1 : Int32) (cs1 ss1 : Nat) (ls1 : Array Slot), XW G b L1 t1 H1 → MW G y L1 t1 th1 H1 → OJ G (y + 34) H1 → va_S (gA 0 0 H0.size) H0 H1 locs1 → cs1 ≤ cs + 1600 → ss1 ≤ ss + 12000 → lv_has ls1 9 [(4, .int (nI i)), (3, .ref (y + 34)), (2, .ref y), (1, .ref b), (0, .ref b0)] → W p l e room_1 s m args below meth c H1 locs1 cs1 ss1 Q (F0 m 1817 ls1 [])) : W p l e room_1 s m args below meth c H locs cs ss Q (F0 m 869 ls []) := by
  obtain ⟨hx, hb, hml, hown, hts, hXs, hbl, h0, hE, hX⟩ := hC
  have hK := hE.1
  have hgs := hMW.gs
  refine lv_aload_n hx hb dL_law_869 rfl (lv_at hl 3 rfl) ?_
  refine lv_aload_n hx hb dL_law_870 rfl (lv_at hl 4 rfl) ?_
  refine lv_iload hx hb dL_law_871 (lv_at hl 0 rfl) ?_
  refine lv_iconst (v := nI 1) hx hb dL_law_873 (by decide) ?_
  refine lv_iadd hx hb dL_law_874 ?_
  refine x_rw (z := nI (i + 1)) (nI_add _ _) ?_
  refine x_sld hx hb hXs hbl hS (by omega) (by omega) dL_law_875 ?_
  refine lv_aload_n hx hb dL_law_876 rfl (lv_at hl 4 rfl) ?_
  refine lv_iload hx hb dL_law_877 (lv_at hl 0 rfl) ?_
  refine lv_iconst (v := nI 2) hx hb dL_law_879 (by decide) ?_
  refine lv_iadd hx hb dL_law_880 ?_
  refine x_rw (z := nI (i + 2)) (nI_add _ _) ?_
  refine x_sld hx hb hXs hbl hS (by omega) (by omega) dL_law_881 ?_
  refine lv_aload_n hx hb dL_law_882 rfl (lv_at hl 4 rfl) ?_
  refine lv_iload hx hb dL_law_883 (lv_at hl 0 rfl) ?_
  refine lv_iconst (v := nI 3) hx hb dL_law_885 (by decide) ?_
  refine lv_iadd hx hb dL_law_886 ?_
  refine x_rw (z := nI (i + 3)) (nI_add _ _) ?_
  refine x_sld hx hb hXs hbl hS (by omega) (by omega) dL_law_887 ?_
  refine lv_aload_n hx hb dL_law_888 rfl (lv_at hl 1 rfl) ?_
  obtain ⟨fo, hOut⟩ := id hOJ
  refine x_goI (x_runSL (As := [.ref b, .int (xs (i + 1)), .int (xs (i + 2)), .int (xs (i + 3)), .ref (y + 34)]) (rest := []) ⟨hx, hb, hml, hown, hts⟩ hE hX h0 hS (c_L_token l G b y L txt L txt th fo hby (xs (i + 1)) (xs (i + 2)) (xs (i + 3)) H hXW hMW hOut) (vx_cwSW 5 hts gL_law_L_token rfl rfl rfl (by decide +kernel) ⟨Nat.le_of_ble_eq_true rfl, Nat.le_of_ble_eq_true rfl⟩) (by omega) rfl rfl hl.1 rfl (lv_room (Nat.le_of_ble_eq_true rfl)) dL_law_889 ⟨Nat.le_trans (m := 846140) (by omega) (Nat.le_of_ble_eq_true rfl), Nat.le_trans (m := 6557685) (by omega) (Nat.le_of_ble_eq_true rfl)⟩) hS (by omega) (fun _ _ _ _ _ h => h.elim) (fun r2 H1 locs hq hF hS => ?_)
  obtain ⟨⟨hR, hV, hXW⟩, hMW, hOJ⟩ := hq
  replace hV : OVk r2 G (y + 34) (tsz (txt (ix (xs (i + 1)))) (tk (txt (ix (xs (i + 1))))) (ix (xs (i + 2))) (ix (xs (i + 3)))).toInt64 H1 := hV
  refine lv_istore (lv' := [(5, .int r2), (4, .int (nI i)), (3, .ref (y + 34)), (2, .ref y), (1, .ref b), (0, .ref b0)]) hx hb dL_law_892 hl (by decide) rfl (fun ls hl => ?_)
  refine lv_aload_n hx hb dL_law_894 rfl (lv_at hl 3 rfl) ?_
  refine lv_aload_n hx hb dL_law_895 rfl (lv_at hl 5 rfl) ?_
  refine lv_iload hx hb dL_law_896 (lv_at hl 1 rfl) ?_
  refine lv_iconst (v := nI 1) hx hb dL_law_898 (by decide) ?_
  refine lv_iadd hx hb dL_law_899 ?_
  refine x_rw (z := nI (i + 1)) (nI_add _ _) ?_
  refine x_sld hx hb hXs hbl hS (by omega) (by omega) dL_law_900 ?_
  refine lv_aload_n hx hb dL_law_901 rfl (lv_at hl 5 rfl) ?_
  refine lv_iload hx hb dL_law_902 (lv_at hl 1 rfl) ?_
  refine lv_iconst (v := nI 2) hx hb dL_law_904 (by decide) ?_
  refine lv_iadd hx hb dL_law_905 ?_
  refine x_rw (z := nI (i + 2)) (nI_add _ _) ?_
  refine x_sld hx hb hXs hbl hS (by omega) (by omega) dL_law_906 ?_
  refine lv_aload_n hx hb dL_law_907 rfl (lv_at hl 5 rfl) ?_
  refine lv_iload hx hb dL_law_908 (lv_at hl 1 rfl) ?_
  refine lv_iconst (v := nI 3) hx hb dL_law_910 (by decide) ?_
  refine lv_iadd hx hb dL_law_911 ?_
  refine x_rw (z := nI (i + 3)) (nI_add _ _) ?_
  refine x_sld hx hb hXs hbl hS (by omega) (by omega) dL_law_912 ?_
  refine x_goI (x_runV (As := [.int (xs (i + 1)), .int (xs (i + 2)), .int (xs (i + 3))]) (rest := []) ⟨hx, hb, hml, hown, hts⟩ hE h0 hS (c_X3_token l G y L txt th (xs (i + 1)) (xs (i + 2)) (xs (i + 3)) H1 hMW) (cwV 3 hts gL_law_X3_token rfl rfl rfl (by decide +kernel) ⟨Nat.le_of_ble_eq_true rfl, Nat.le_of_ble_eq_true rfl⟩) (gO.recv (C := RX3) hK hMW.O rfl) (by omega) rfl rfl hl.1 rfl (lv_room (Nat.le_of_ble_eq_true rfl)) dL_law_913 ⟨Nat.le_trans (m := 846140) (by omega) (Nat.le_of_ble_eq_true rfl), Nat.le_trans (m := 6557685) (by omega) (Nat.le_of_ble_eq_true rfl)⟩) hS (by omega) (fun _ _ _ _ _ h => h.elim) (fun r4 H3 locs hq hF hS => ?_)
  have hXW := hXW.fr hF (by omega)
  have hOJ := hOJ.fr hF (by omega)
  have hV := hV.fr hF (by omega)
  obtain ⟨t, hRt, hVt, hMW⟩ := hq
  have hkt : r2 = t := rsT_u hR hRt
  subst hkt
  refine lv_istore (lv' := [(6, .int r4), (5, .int r2), (4, .int (nI i)), (3, .ref (y + 34)), (2, .ref y), (1, .ref b), (0, .ref b0)]) hx hb dL_law_916 hl (by decide) rfl (fun ls hl => ?_)
  refine lv_aload_n hx hb dL_law_918 rfl (lv_at hl 4 rfl) ?_
  refine x_goI_ro (x_runV (As := []) (rest := []) ⟨hx, hb, hml, hown, hts⟩ hE h0 hS (c_X3_thrown l G y (nI (sel r2 L L).length) r2 H3 hMW.O) (cwV 0 hts gL_law_X3_thrown rfl rfl rfl (by decide +kernel) ⟨Nat.le_of_ble_eq_true rfl, Nat.le_of_ble_eq_true rfl⟩) (gO.recv (C := RX3) hK hMW.O rfl) (by omega) rfl rfl hl.1 rfl (lv_room (Nat.le_of_ble_eq_true rfl)) dL_law_919 ⟨Nat.le_trans (m := 846140) (by omega) (Nat.le_of_ble_eq_true rfl), Nat.le_trans (m := 6557685) (by omega) (Nat.le_of_ble_eq_true rfl)⟩) hS (by omega) (fun _ _ _ _ _ h => h.elim) (fun locs hq hS => ?_)
  refine lv_iload hx hb dL_law_922 (lv_at hl 1 rfl) ?_
  refine lv_icmp_eq (tgt := 929) hx hb dL_law_924 (by decide) (fun c924 => ?_) (fun c924 => ?_)
  · refine lv_iload hx hb dL_law_929 (lv_at hl 1 rfl) ?_
    refine lv_if_ne (tgt := 946) hx hb dL_law_931 (by decide) (fun c931 => ?_) (fun c931 => ?_)
    · refine lv_goto (tgt := 1817) hx hb dL_law_946 (by decide) ?_
      exact kk H3 _ (sel r2 L L) (sel r2 txt txt) r2 _ _ ls hXW hMW hOJ hS (by omega) (by omega) (lv_sub hl [2, 3, 4, 5, 6] rfl)
    · obtain ⟨fo2, hOut2, hv2⟩ := hV c931
      refine lv_aload_n hx hb dL_law_934 rfl (lv_at hl 3 rfl) ?_
      refine lv_iconst (v := nI 0) hx hb dL_law_935 (by decide) ?_
      refine x_lald hx hb hK hOut2 (by omega) (by decide) dL_law_936 ?_
      refine x_rwl (z := (tsz (txt (ix (xs (i + 1)))) (tk (txt (ix (xs (i + 1))))) (ix (xs (i + 2))) (ix (xs (i + 3)))).toInt64) hv2 ?_
      refine lv_iload hx hb dL_law_937 (lv_at hl 0 rfl) ?_
      refine lv_i2l hx hb dL_law_939 rfl ?_
      refine x_rwl (z := (tsz (txt (ix (xs (i + 1)))) (tk (txt (ix (xs (i + 1))))) (ix (xs (i + 2))) (ix (xs (i + 3)))).toInt64) (by rw [hVt c931]) ?_
      refine x_lcmp0 hx hb dL_law_940 ?_
      refine x_if_eqN (tgt := 946) hx hb (by omega) dL_law_941 (by decide) (fun c941 => ?_) (fun c941 => ?_)
      · refine lv_goto (tgt := 1817) hx hb dL_law_946 (by decide) ?_
        exact kk H3 _ (sel r2 L L) (sel r2 txt txt) r2 _ _ ls hXW hMW hOJ hS (by omega) (by omega) (lv_sub hl [2, 3, 4, 5, 6] rfl)
      · exact absurd c941 (by decide)
  · exact absurd rfl c924

set_option maxHeartbeats 4000000 in
set_option maxRecDepth 100000 in
theorem k_compare {p : Program} {l : Launch} {e : Env} {s : State} {m : MethodId} {args : Array Value} {below : List Frame} {meth : Method} {c : Code} {Q : State → Prop} {G : gG} {b0 n b y i : Nat} {xs : Nat → Int32} {H0 H : Heap} {locs : List Loc} {L : List Nat} {txt : Nat → List Nat} {th : Int32} {cs ss : Nat} {ls : Array Slot} (hC : LC p l s m args c G b0 n xs H0) (hb0 : H0.size ≤ b) (hby : b + 115 ≤ y) (hi : i + 5 ≤ n) (hn : n ≤ 2560) (hXW : XW G b L txt H) (hMW : MW G y L txt th H) (hOJ : OJ G (y + 34) H) (hS : va_S (gA 0 0 H0.size) H0 H locs) (hcs : cs ≤ 844000) (hss : ss ≤ 6540000) (hl : lv_has ls 9 [(4, .int (nI i)), (3, .ref (y + 34)), (2, .ref y), (1, .ref b), (0, .ref b0)])
    (kk : ∀ (H1 : Heap) (locs1 : List Loc) (L1 : List Nat) (t1 : Nat → List Nat) (th1 : Int32) (cs1 ss1 : Nat) (ls1 : Array Slot), XW G b L1 t1 H1 → MW G y L1 t1 th1 H1 → OJ G (y + 34) H1 → va_S (gA 0 0 H0.size) H0 H1 locs1 → cs1 ≤ cs + 1600 → ss1 ≤ ss + 12000 → lv_has ls1 9 [(4, .int (nI i)), (3, .ref (y + 34)), (2, .ref y), (1, .ref b), (0, .ref b0)] → W p l e room_1 s m args below meth c H1 locs1 cs1 ss1 Q (F0 m 1817 ls1 [])) : W p l e room_1 s m args below meth c H locs cs ss Q (F0 m 949 ls []) := by
  obtain ⟨hx, hb, hml, hown, hts, hXs, hbl, h0, hE, hX⟩ := hC
  have hK := hE.1
  have hgs := hMW.gs
  refine lv_aload_n hx hb dL_law_949 rfl (lv_at hl 3 rfl) ?_
  refine lv_aload_n hx hb dL_law_950 rfl (lv_at hl 4 rfl) ?_
  refine lv_iload hx hb dL_law_951 (lv_at hl 0 rfl) ?_
  refine lv_iconst (v := nI 1) hx hb dL_law_953 (by decide) ?_
  refine lv_iadd hx hb dL_law_954 ?_
  refine x_rw (z := nI (i + 1)) (nI_add _ _) ?_
  refine x_sld hx hb hXs hbl hS (by omega) (by omega) dL_law_955 ?_
  refine lv_aload_n hx hb dL_law_956 rfl (lv_at hl 4 rfl) ?_
  refine lv_iload hx hb dL_law_957 (lv_at hl 0 rfl) ?_
  refine lv_iconst (v := nI 2) hx hb dL_law_959 (by decide) ?_
  refine lv_iadd hx hb dL_law_960 ?_
  refine x_rw (z := nI (i + 2)) (nI_add _ _) ?_
  refine x_sld hx hb hXs hbl hS (by omega) (by omega) dL_law_961 ?_
  refine lv_aload_n hx hb dL_law_962 rfl (lv_at hl 1 rfl) ?_
  obtain ⟨fo, hOut⟩ := id hOJ
  refine x_goI (x_runSL (As := [.ref b, .int (xs (i + 1)), .int (xs (i + 2)), .ref (y + 34)]) (rest := []) ⟨hx, hb, hml, hown, hts⟩ hE hX h0 hS (c_L_compare l G b y L txt L txt th fo hby (xs (i + 1)) (xs (i + 2)) H hXW hMW hOut) (vx_cwSW 4 hts gL_law_L_compare rfl rfl rfl (by decide +kernel) ⟨Nat.le_of_ble_eq_true rfl, Nat.le_of_ble_eq_true rfl⟩) (by omega) rfl rfl hl.1 rfl (lv_room (Nat.le_of_ble_eq_true rfl)) dL_law_963 ⟨Nat.le_trans (m := 846140) (by omega) (Nat.le_of_ble_eq_true rfl), Nat.le_trans (m := 6557685) (by omega) (Nat.le_of_ble_eq_true rfl)⟩) hS (by omega) (fun _ _ _ _ _ h => h.elim) (fun r2 H1 locs hq hF hS => ?_)
  obtain ⟨⟨hR, hV, hXW⟩, hMW, hOJ⟩ := hq
  replace hV : OVk r2 G (y + 34) (ordr (txt (ix (xs (i + 1)))) (txt (ix (xs (i + 2))))).toInt64 H1 := hV
  refine lv_istore (lv' := [(5, .int r2), (4, .int (nI i)), (3, .ref (y + 34)), (2, .ref y), (1, .ref b), (0, .ref b0)]) hx hb dL_law_966 hl (by decide) rfl (fun ls hl => ?_)
  refine lv_aload_n hx hb dL_law_968 rfl (lv_at hl 3 rfl) ?_
  refine lv_aload_n hx hb dL_law_969 rfl (lv_at hl 5 rfl) ?_
  refine lv_iload hx hb dL_law_970 (lv_at hl 1 rfl) ?_
  refine lv_iconst (v := nI 1) hx hb dL_law_972 (by decide) ?_
  refine lv_iadd hx hb dL_law_973 ?_
  refine x_rw (z := nI (i + 1)) (nI_add _ _) ?_
  refine x_sld hx hb hXs hbl hS (by omega) (by omega) dL_law_974 ?_
  refine lv_aload_n hx hb dL_law_975 rfl (lv_at hl 5 rfl) ?_
  refine lv_iload hx hb dL_law_976 (lv_at hl 1 rfl) ?_
  refine lv_iconst (v := nI 2) hx hb dL_law_978 (by decide) ?_
  refine lv_iadd hx hb dL_law_979 ?_
  refine x_rw (z := nI (i + 2)) (nI_add _ _) ?_
  refine x_sld hx hb hXs hbl hS (by omega) (by omega) dL_law_980 ?_
  refine x_goI (x_runV (As := [.int (xs (i + 1)), .int (xs (i + 2))]) (rest := []) ⟨hx, hb, hml, hown, hts⟩ hE h0 hS (c_X3_compare l G y L txt th (xs (i + 1)) (xs (i + 2)) H1 hMW) (cwV 2 hts gL_law_X3_compare rfl rfl rfl (by decide +kernel) ⟨Nat.le_of_ble_eq_true rfl, Nat.le_of_ble_eq_true rfl⟩) (gO.recv (C := RX3) hK hMW.O rfl) (by omega) rfl rfl hl.1 rfl (lv_room (Nat.le_of_ble_eq_true rfl)) dL_law_981 ⟨Nat.le_trans (m := 846140) (by omega) (Nat.le_of_ble_eq_true rfl), Nat.le_trans (m := 6557685) (by omega) (Nat.le_of_ble_eq_true rfl)⟩) hS (by omega) (fun _ _ _ _ _ h => h.elim) (fun r4 H3 locs hq hF hS => ?_)
  have hXW := hXW.fr hF (by omega)
  have hOJ := hOJ.fr hF (by omega)
  have hV := hV.fr hF (by omega)
  obtain ⟨t, hRt, hVt, hMW⟩ := hq
  have hkt : r2 = t := rs1_u hR hRt
  subst hkt
  refine lv_istore (lv' := [(6, .int r4), (5, .int r2), (4, .int (nI i)), (3, .ref (y + 34)), (2, .ref y), (1, .ref b), (0, .ref b0)]) hx hb dL_law_984 hl (by decide) rfl (fun ls hl => ?_)
  refine lv_aload_n hx hb dL_law_986 rfl (lv_at hl 4 rfl) ?_
  refine x_goI_ro (x_runV (As := []) (rest := []) ⟨hx, hb, hml, hown, hts⟩ hE h0 hS (c_X3_thrown l G y (nI (sel r2 L L).length) r2 H3 hMW.O) (cwV 0 hts gL_law_X3_thrown rfl rfl rfl (by decide +kernel) ⟨Nat.le_of_ble_eq_true rfl, Nat.le_of_ble_eq_true rfl⟩) (gO.recv (C := RX3) hK hMW.O rfl) (by omega) rfl rfl hl.1 rfl (lv_room (Nat.le_of_ble_eq_true rfl)) dL_law_987 ⟨Nat.le_trans (m := 846140) (by omega) (Nat.le_of_ble_eq_true rfl), Nat.le_trans (m := 6557685) (by omega) (Nat.le_of_ble_eq_true rfl)⟩) hS (by omega) (fun _ _ _ _ _ h => h.elim) (fun locs hq hS => ?_)
  refine lv_iload hx hb dL_law_990 (lv_at hl 1 rfl) ?_
  refine lv_icmp_eq (tgt := 997) hx hb dL_law_992 (by decide) (fun c992 => ?_) (fun c992 => ?_)
  · refine lv_iload hx hb dL_law_997 (lv_at hl 1 rfl) ?_
    refine lv_if_ne (tgt := 1014) hx hb dL_law_999 (by decide) (fun c999 => ?_) (fun c999 => ?_)
    · refine lv_goto (tgt := 1817) hx hb dL_law_1014 (by decide) ?_
      exact kk H3 _ (sel r2 L L) (sel r2 txt txt) r2 _ _ ls hXW hMW hOJ hS (by omega) (by omega) (lv_sub hl [2, 3, 4, 5, 6] rfl)
    · obtain ⟨fo2, hOut2, hv2⟩ := hV c999
      refine lv_aload_n hx hb dL_law_1002 rfl (lv_at hl 3 rfl) ?_
      refine lv_iconst (v := nI 0) hx hb dL_law_1003 (by decide) ?_
      refine x_lald hx hb hK hOut2 (by omega) (by decide) dL_law_1004 ?_
      refine x_rwl (z := (ordr (txt (ix (xs (i + 1)))) (txt (ix (xs (i + 2))))).toInt64) hv2 ?_
      refine lv_iload hx hb dL_law_1005 (lv_at hl 0 rfl) ?_
      refine lv_i2l hx hb dL_law_1007 rfl ?_
      refine x_rwl (z := (ordr (txt (ix (xs (i + 1)))) (txt (ix (xs (i + 2))))).toInt64) (by rw [hVt c999]) ?_
      refine x_lcmp0 hx hb dL_law_1008 ?_
      refine x_if_eqN (tgt := 1014) hx hb (by omega) dL_law_1009 (by decide) (fun c1009 => ?_) (fun c1009 => ?_)
      · refine lv_goto (tgt := 1817) hx hb dL_law_1014 (by decide) ?_
        exact kk H3 _ (sel r2 L L) (sel r2 txt txt) r2 _ _ ls hXW hMW hOJ hS (by omega) (by omega) (lv_sub hl [2, 3, 4, 5, 6] rfl)
      · exact absurd c1009 (by decide)
  · exact absurd rfl c992

set_option maxHeartbeats 4000000 in
set_option maxRecDepth 100000 in
theorem k_isSame {p : Program} {l : Launch} {e : Env} {s : State} {m : MethodId} {args : Array Value} {below : List Frame} {meth : Method} {c : Code} {Q : State → Prop} {G : gG} {b0 n b y i : Nat} {xs : Nat → Int32} {H0 H : Heap} {locs : List Loc} {L : List Nat} {txt : Nat → List Nat} {th : Int32} {cs ss : Nat} {ls : Array Slot} (hC : LC p l s m args c G b0 n xs H0) (hb0 : H0.size ≤ b) (hby : b + 115 ≤ y) (hi : i + 5 ≤ n) (hn : n ≤ 2560) (hXW : XW G b L txt H) (hMW : MW G y L txt th H) (hOJ : OJ G (y + 34) H) (hS : va_S (gA 0 0 H0.size) H0 H locs) (hcs : cs ≤ 844000) (hss : ss ≤ 6540000) (hl : lv_has ls 9 [(4, .int (nI i)), (3, .ref (y + 34)), (2, .ref y), (1, .ref b), (0, .ref b0)])
    (kk : ∀ (H1 : Heap) (locs1 : List Loc) (L1 : List Nat) (t1 : Nat → List Nat) (th1 : Int32) (cs1 ss1 : Nat) (ls1 : Array Slot), XW G b L1 t1 H1 → MW G y L1 t1 th1 H1 → OJ G (y + 34) H1 → va_S (gA 0 0 H0.size) H0 H1 locs1 → cs1 ≤ cs + 1600 → ss1 ≤ ss + 12000 → lv_has ls1 9 [(4, .int (nI i)), (3, .ref (y + 34)), (2, .ref y), (1, .ref b), (0, .ref b0)] → W p l e room_1 s m args below meth c H1 locs1 cs1 ss1 Q (F0 m 1817 ls1 [])) : W p l e room_1 s m args below meth c H locs cs ss Q (F0 m 1017 ls []) := by
  obtain ⟨hx, hb, hml, hown, hts, hXs, hbl, h0, hE, hX⟩ := hC
  have hK := hE.1
  have hgs := hMW.gs
  refine lv_aload_n hx hb dL_law_1017 rfl (lv_at hl 3 rfl) ?_
  refine lv_aload_n hx hb dL_law_1018 rfl (lv_at hl 4 rfl) ?_
  refine lv_iload hx hb dL_law_1019 (lv_at hl 0 rfl) ?_
  refine lv_iconst (v := nI 1) hx hb dL_law_1021 (by decide) ?_
  refine lv_iadd hx hb dL_law_1022 ?_
  refine x_rw (z := nI (i + 1)) (nI_add _ _) ?_
  refine x_sld hx hb hXs hbl hS (by omega) (by omega) dL_law_1023 ?_
  refine lv_aload_n hx hb dL_law_1024 rfl (lv_at hl 4 rfl) ?_
  refine lv_iload hx hb dL_law_1025 (lv_at hl 0 rfl) ?_
  refine lv_iconst (v := nI 2) hx hb dL_law_1027 (by decide) ?_
  refine lv_iadd hx hb dL_law_1028 ?_
  refine x_rw (z := nI (i + 2)) (nI_add _ _) ?_
  refine x_sld hx hb hXs hbl hS (by omega) (by omega) dL_law_1029 ?_
  refine lv_aload_n hx hb dL_law_1030 rfl (lv_at hl 1 rfl) ?_
  obtain ⟨fo, hOut⟩ := id hOJ
  refine x_goI (x_runSL (As := [.ref b, .int (xs (i + 1)), .int (xs (i + 2)), .ref (y + 34)]) (rest := []) ⟨hx, hb, hml, hown, hts⟩ hE hX h0 hS (c_L_isSame l G b y L txt L txt th fo hby (xs (i + 1)) (xs (i + 2)) H hXW hMW hOut) (vx_cwSW 4 hts gL_law_L_isSame rfl rfl rfl (by decide +kernel) ⟨Nat.le_of_ble_eq_true rfl, Nat.le_of_ble_eq_true rfl⟩) (by omega) rfl rfl hl.1 rfl (lv_room (Nat.le_of_ble_eq_true rfl)) dL_law_1031 ⟨Nat.le_trans (m := 846140) (by omega) (Nat.le_of_ble_eq_true rfl), Nat.le_trans (m := 6557685) (by omega) (Nat.le_of_ble_eq_true rfl)⟩) hS (by omega) (fun _ _ _ _ _ h => h.elim) (fun r2 H1 locs hq hF hS => ?_)
  obtain ⟨⟨hR, hV, hXW⟩, hMW, hOJ⟩ := hq
  replace hV : OVk r2 G (y + 34) (bI (decide (ordr (txt (ix (xs (i + 1)))) (txt (ix (xs (i + 2)))) = 0))).toInt64 H1 := hV
  refine lv_istore (lv' := [(5, .int r2), (4, .int (nI i)), (3, .ref (y + 34)), (2, .ref y), (1, .ref b), (0, .ref b0)]) hx hb dL_law_1034 hl (by decide) rfl (fun ls hl => ?_)
  refine lv_aload_n hx hb dL_law_1036 rfl (lv_at hl 3 rfl) ?_
  refine lv_aload_n hx hb dL_law_1037 rfl (lv_at hl 5 rfl) ?_
  refine lv_iload hx hb dL_law_1038 (lv_at hl 1 rfl) ?_
  refine lv_iconst (v := nI 1) hx hb dL_law_1040 (by decide) ?_
  refine lv_iadd hx hb dL_law_1041 ?_
  refine x_rw (z := nI (i + 1)) (nI_add _ _) ?_
  refine x_sld hx hb hXs hbl hS (by omega) (by omega) dL_law_1042 ?_
  refine lv_aload_n hx hb dL_law_1043 rfl (lv_at hl 5 rfl) ?_
  refine lv_iload hx hb dL_law_1044 (lv_at hl 1 rfl) ?_
  refine lv_iconst (v := nI 2) hx hb dL_law_1046 (by decide) ?_
  refine lv_iadd hx hb dL_law_1047 ?_
  refine x_rw (z := nI (i + 2)) (nI_add _ _) ?_
  refine x_sld hx hb hXs hbl hS (by omega) (by omega) dL_law_1048 ?_
  refine x_goI (x_runV (As := [.int (xs (i + 1)), .int (xs (i + 2))]) (rest := []) ⟨hx, hb, hml, hown, hts⟩ hE h0 hS (c_X3_isSame l G y L txt th (xs (i + 1)) (xs (i + 2)) H1 hMW) (cwV 2 hts gL_law_X3_isSame rfl rfl rfl (by decide +kernel) ⟨Nat.le_of_ble_eq_true rfl, Nat.le_of_ble_eq_true rfl⟩) (gO.recv (C := RX3) hK hMW.O rfl) (by omega) rfl rfl hl.1 rfl (lv_room (Nat.le_of_ble_eq_true rfl)) dL_law_1049 ⟨Nat.le_trans (m := 846140) (by omega) (Nat.le_of_ble_eq_true rfl), Nat.le_trans (m := 6557685) (by omega) (Nat.le_of_ble_eq_true rfl)⟩) hS (by omega) (fun _ _ _ _ _ h => h.elim) (fun r4 H3 locs hq hF hS => ?_)
  have hXW := hXW.fr hF (by omega)
  have hOJ := hOJ.fr hF (by omega)
  have hV := hV.fr hF (by omega)
  obtain ⟨t, hRt, hVt, hMW⟩ := hq
  have hkt : r2 = t := rs1_u hR hRt
  subst hkt
  refine lv_istore (lv' := [(6, .int r4), (5, .int r2), (4, .int (nI i)), (3, .ref (y + 34)), (2, .ref y), (1, .ref b), (0, .ref b0)]) hx hb dL_law_1052 hl (by decide) rfl (fun ls hl => ?_)
  refine lv_aload_n hx hb dL_law_1054 rfl (lv_at hl 4 rfl) ?_
  refine x_goI_ro (x_runV (As := []) (rest := []) ⟨hx, hb, hml, hown, hts⟩ hE h0 hS (c_X3_thrown l G y (nI (sel r2 L L).length) r2 H3 hMW.O) (cwV 0 hts gL_law_X3_thrown rfl rfl rfl (by decide +kernel) ⟨Nat.le_of_ble_eq_true rfl, Nat.le_of_ble_eq_true rfl⟩) (gO.recv (C := RX3) hK hMW.O rfl) (by omega) rfl rfl hl.1 rfl (lv_room (Nat.le_of_ble_eq_true rfl)) dL_law_1055 ⟨Nat.le_trans (m := 846140) (by omega) (Nat.le_of_ble_eq_true rfl), Nat.le_trans (m := 6557685) (by omega) (Nat.le_of_ble_eq_true rfl)⟩) hS (by omega) (fun _ _ _ _ _ h => h.elim) (fun locs hq hS => ?_)
  refine lv_iload hx hb dL_law_1058 (lv_at hl 1 rfl) ?_
  refine lv_icmp_eq (tgt := 1065) hx hb dL_law_1060 (by decide) (fun c1060 => ?_) (fun c1060 => ?_)
  · refine lv_iload hx hb dL_law_1065 (lv_at hl 1 rfl) ?_
    refine lv_if_ne (tgt := 1089) hx hb dL_law_1067 (by decide) (fun c1067 => ?_) (fun c1067 => ?_)
    · refine lv_goto (tgt := 1817) hx hb dL_law_1089 (by decide) ?_
      exact kk H3 _ (sel r2 L L) (sel r2 txt txt) r2 _ _ ls hXW hMW hOJ hS (by omega) (by omega) (lv_sub hl [2, 3, 4, 5, 6] rfl)
    · obtain ⟨fo2, hOut2, hv2⟩ := hV c1067
      refine lv_aload_n hx hb dL_law_1070 rfl (lv_at hl 3 rfl) ?_
      refine lv_iconst (v := nI 0) hx hb dL_law_1071 (by decide) ?_
      refine x_lald hx hb hK hOut2 (by omega) (by decide) dL_law_1072 ?_
      refine x_rwl (z := (bI (decide (ordr (txt (ix (xs (i + 1)))) (txt (ix (xs (i + 2)))) = 0))).toInt64) hv2 ?_
      refine lv_iload hx hb dL_law_1073 (lv_at hl 0 rfl) ?_
      refine x_rw (z := bI (decide (ordr (txt (ix (xs (i + 1)))) (txt (ix (xs (i + 2)))) = 0))) (hVt c1067) ?_
      refine x_if_eqB (tgt := 1082) hx hb dL_law_1075 (by decide) (fun c1075 => ?_) (fun c1075 => ?_)
      · refine lv_lconst (v := 0) hx hb dL_law_1082 (by decide) ?_
        refine x_rwl (z := (bI (decide (ordr (txt (ix (xs (i + 1)))) (txt (ix (xs (i + 2)))) = 0))).toInt64) (by rw [c1075]; exact bJ_f) ?_
        refine x_lcmp0 hx hb dL_law_1083 ?_
        refine x_if_eqN (tgt := 1089) hx hb (by omega) dL_law_1084 (by decide) (fun c1084 => ?_) (fun c1084 => ?_)
        · refine lv_goto (tgt := 1817) hx hb dL_law_1089 (by decide) ?_
          exact kk H3 _ (sel r2 L L) (sel r2 txt txt) r2 _ _ ls hXW hMW hOJ hS (by omega) (by omega) (lv_sub hl [2, 3, 4, 5, 6] rfl)
        · exact absurd c1084 (by decide)
      · refine lv_lconst (v := 1) hx hb dL_law_1078 (by decide) ?_
        refine lv_goto (tgt := 1083) hx hb dL_law_1079 (by decide) ?_
        refine x_rwl (z := (bI (decide (ordr (txt (ix (xs (i + 1)))) (txt (ix (xs (i + 2)))) = 0))).toInt64) (by rw [c1075]; exact bJ_t) ?_
        refine x_lcmp0 hx hb dL_law_1083 ?_
        refine x_if_eqN (tgt := 1089) hx hb (by omega) dL_law_1084 (by decide) (fun c1084 => ?_) (fun c1084 => ?_)
        · refine lv_goto (tgt := 1817) hx hb dL_law_1089 (by decide) ?_
          exact kk H3 _ (sel r2 L L) (sel r2 txt txt) r2 _ _ ls hXW hMW hOJ hS (by omega) (by omega) (lv_sub hl [2, 3, 4, 5, 6] rfl)
        · exact absurd c1084 (by decide)
  · exact absurd rfl c1060

set_option maxHeartbeats 4000000 in
set_option maxRecDepth 100000 in
theorem k_apart {p : Program} {l : Launch} {e : Env} {s : State} {m : MethodId} {args : Array Value} {below : List Frame} {meth : Method} {c : Code} {Q : State → Prop} {G : gG} {b0 n b y i : Nat} {xs : Nat → Int32} {H0 H : Heap} {locs : List Loc} {L : List Nat} {txt : Nat → List Nat} {th : Int32} {cs ss : Nat} {ls : Array Slot} (hC : LC p l s m args c G b0 n xs H0) (hb0 : H0.size ≤ b) (hby : b + 115 ≤ y) (hi : i + 5 ≤ n) (hn : n ≤ 2560) (hXW : XW G b L txt H) (hMW : MW G y L txt th H) (hOJ : OJ G (y + 34) H) (hS : va_S (gA 0 0 H0.size) H0 H locs) (hcs : cs ≤ 844000) (hss : ss ≤ 6540000) (hl : lv_has ls 9 [(4, .int (nI i)), (3, .ref (y + 34)), (2, .ref y), (1, .ref b), (0, .ref b0)])
    (kk : ∀ (H1 : Heap) (locs1 : List Loc) (L1 : List Nat) (t1 : Nat → List Nat) (th1 : Int32) (cs1 ss1 : Nat) (ls1 : Array Slot), XW G b L1 t1 H1 → MW G y L1 t1 th1 H1 → OJ G (y + 34) H1 → va_S (gA 0 0 H0.size) H0 H1 locs1 → cs1 ≤ cs + 1600 → ss1 ≤ ss + 12000 → lv_has ls1 9 [(4, .int (nI i)), (3, .ref (y + 34)), (2, .ref y), (1, .ref b), (0, .ref b0)] → W p l e room_1 s m args below meth c H1 locs1 cs1 ss1 Q (F0 m 1817 ls1 [])) : W p l e room_1 s m args below meth c H locs cs ss Q (F0 m 1092 ls []) := by
  obtain ⟨hx, hb, hml, hown, hts, hXs, hbl, h0, hE, hX⟩ := hC
  have hK := hE.1
  have hgs := hMW.gs
  refine lv_aload_n hx hb dL_law_1092 rfl (lv_at hl 3 rfl) ?_
  refine lv_aload_n hx hb dL_law_1093 rfl (lv_at hl 4 rfl) ?_
  refine lv_iload hx hb dL_law_1094 (lv_at hl 0 rfl) ?_
  refine lv_iconst (v := nI 1) hx hb dL_law_1096 (by decide) ?_
  refine lv_iadd hx hb dL_law_1097 ?_
  refine x_rw (z := nI (i + 1)) (nI_add _ _) ?_
  refine x_sld hx hb hXs hbl hS (by omega) (by omega) dL_law_1098 ?_
  refine lv_aload_n hx hb dL_law_1099 rfl (lv_at hl 4 rfl) ?_
  refine lv_iload hx hb dL_law_1100 (lv_at hl 0 rfl) ?_
  refine lv_iconst (v := nI 2) hx hb dL_law_1102 (by decide) ?_
  refine lv_iadd hx hb dL_law_1103 ?_
  refine x_rw (z := nI (i + 2)) (nI_add _ _) ?_
  refine x_sld hx hb hXs hbl hS (by omega) (by omega) dL_law_1104 ?_
  refine lv_aload_n hx hb dL_law_1105 rfl (lv_at hl 1 rfl) ?_
  obtain ⟨fo, hOut⟩ := id hOJ
  refine x_goI (x_runSL (As := [.ref b, .int (xs (i + 1)), .int (xs (i + 2)), .ref (y + 34)]) (rest := []) ⟨hx, hb, hml, hown, hts⟩ hE hX h0 hS (c_L_apart l G b y L txt L txt th fo hby (xs (i + 1)) (xs (i + 2)) H hXW hMW hOut) (vx_cwSW 4 hts gL_law_L_apart rfl rfl rfl (by decide +kernel) ⟨Nat.le_of_ble_eq_true rfl, Nat.le_of_ble_eq_true rfl⟩) (by omega) rfl rfl hl.1 rfl (lv_room (Nat.le_of_ble_eq_true rfl)) dL_law_1106 ⟨Nat.le_trans (m := 846140) (by omega) (Nat.le_of_ble_eq_true rfl), Nat.le_trans (m := 6557685) (by omega) (Nat.le_of_ble_eq_true rfl)⟩) hS (by omega) (fun _ _ _ _ _ h => h.elim) (fun r2 H1 locs hq hF hS => ?_)
  obtain ⟨⟨hR, hV, hXW⟩, hMW, hOJ⟩ := hq
  replace hV : OVk r2 G (y + 34) (tellr (txt (ix (xs (i + 1)))) (txt (ix (xs (i + 2))))).toInt64 H1 := hV
  refine lv_istore (lv' := [(5, .int r2), (4, .int (nI i)), (3, .ref (y + 34)), (2, .ref y), (1, .ref b), (0, .ref b0)]) hx hb dL_law_1109 hl (by decide) rfl (fun ls hl => ?_)
  refine lv_aload_n hx hb dL_law_1111 rfl (lv_at hl 3 rfl) ?_
  refine lv_aload_n hx hb dL_law_1112 rfl (lv_at hl 5 rfl) ?_
  refine lv_iload hx hb dL_law_1113 (lv_at hl 1 rfl) ?_
  refine lv_iconst (v := nI 1) hx hb dL_law_1115 (by decide) ?_
  refine lv_iadd hx hb dL_law_1116 ?_
  refine x_rw (z := nI (i + 1)) (nI_add _ _) ?_
  refine x_sld hx hb hXs hbl hS (by omega) (by omega) dL_law_1117 ?_
  refine lv_aload_n hx hb dL_law_1118 rfl (lv_at hl 5 rfl) ?_
  refine lv_iload hx hb dL_law_1119 (lv_at hl 1 rfl) ?_
  refine lv_iconst (v := nI 2) hx hb dL_law_1121 (by decide) ?_
  refine lv_iadd hx hb dL_law_1122 ?_
  refine x_rw (z := nI (i + 2)) (nI_add _ _) ?_
  refine x_sld hx hb hXs hbl hS (by omega) (by omega) dL_law_1123 ?_
  refine x_goI (x_runV (As := [.int (xs (i + 1)), .int (xs (i + 2))]) (rest := []) ⟨hx, hb, hml, hown, hts⟩ hE h0 hS (c_X3_apart l G y L txt th (xs (i + 1)) (xs (i + 2)) H1 hMW) (cwV 2 hts gL_law_X3_apart rfl rfl rfl (by decide +kernel) ⟨Nat.le_of_ble_eq_true rfl, Nat.le_of_ble_eq_true rfl⟩) (gO.recv (C := RX3) hK hMW.O rfl) (by omega) rfl rfl hl.1 rfl (lv_room (Nat.le_of_ble_eq_true rfl)) dL_law_1124 ⟨Nat.le_trans (m := 846140) (by omega) (Nat.le_of_ble_eq_true rfl), Nat.le_trans (m := 6557685) (by omega) (Nat.le_of_ble_eq_true rfl)⟩) hS (by omega) (fun _ _ _ _ _ h => h.elim) (fun r4 H3 locs hq hF hS => ?_)
  have hXW := hXW.fr hF (by omega)
  have hOJ := hOJ.fr hF (by omega)
  have hV := hV.fr hF (by omega)
  obtain ⟨t, hRt, hVt, hMW⟩ := hq
  have hkt : r2 = t := rs1_u hR hRt
  subst hkt
  refine lv_istore (lv' := [(6, .int r4), (5, .int r2), (4, .int (nI i)), (3, .ref (y + 34)), (2, .ref y), (1, .ref b), (0, .ref b0)]) hx hb dL_law_1127 hl (by decide) rfl (fun ls hl => ?_)
  refine lv_aload_n hx hb dL_law_1129 rfl (lv_at hl 4 rfl) ?_
  refine x_goI_ro (x_runV (As := []) (rest := []) ⟨hx, hb, hml, hown, hts⟩ hE h0 hS (c_X3_thrown l G y (nI (sel r2 L L).length) r2 H3 hMW.O) (cwV 0 hts gL_law_X3_thrown rfl rfl rfl (by decide +kernel) ⟨Nat.le_of_ble_eq_true rfl, Nat.le_of_ble_eq_true rfl⟩) (gO.recv (C := RX3) hK hMW.O rfl) (by omega) rfl rfl hl.1 rfl (lv_room (Nat.le_of_ble_eq_true rfl)) dL_law_1130 ⟨Nat.le_trans (m := 846140) (by omega) (Nat.le_of_ble_eq_true rfl), Nat.le_trans (m := 6557685) (by omega) (Nat.le_of_ble_eq_true rfl)⟩) hS (by omega) (fun _ _ _ _ _ h => h.elim) (fun locs hq hS => ?_)
  refine lv_iload hx hb dL_law_1133 (lv_at hl 1 rfl) ?_
  refine lv_icmp_eq (tgt := 1140) hx hb dL_law_1135 (by decide) (fun c1135 => ?_) (fun c1135 => ?_)
  · refine lv_iload hx hb dL_law_1140 (lv_at hl 1 rfl) ?_
    refine lv_if_ne (tgt := 1157) hx hb dL_law_1142 (by decide) (fun c1142 => ?_) (fun c1142 => ?_)
    · refine lv_goto (tgt := 1817) hx hb dL_law_1157 (by decide) ?_
      exact kk H3 _ (sel r2 L L) (sel r2 txt txt) r2 _ _ ls hXW hMW hOJ hS (by omega) (by omega) (lv_sub hl [2, 3, 4, 5, 6] rfl)
    · obtain ⟨fo2, hOut2, hv2⟩ := hV c1142
      refine lv_aload_n hx hb dL_law_1145 rfl (lv_at hl 3 rfl) ?_
      refine lv_iconst (v := nI 0) hx hb dL_law_1146 (by decide) ?_
      refine x_lald hx hb hK hOut2 (by omega) (by decide) dL_law_1147 ?_
      refine x_rwl (z := (tellr (txt (ix (xs (i + 1)))) (txt (ix (xs (i + 2))))).toInt64) hv2 ?_
      refine lv_iload hx hb dL_law_1148 (lv_at hl 0 rfl) ?_
      refine lv_i2l hx hb dL_law_1150 rfl ?_
      refine x_rwl (z := (tellr (txt (ix (xs (i + 1)))) (txt (ix (xs (i + 2))))).toInt64) (by rw [hVt c1142]) ?_
      refine x_lcmp0 hx hb dL_law_1151 ?_
      refine x_if_eqN (tgt := 1157) hx hb (by omega) dL_law_1152 (by decide) (fun c1152 => ?_) (fun c1152 => ?_)
      · refine lv_goto (tgt := 1817) hx hb dL_law_1157 (by decide) ?_
        exact kk H3 _ (sel r2 L L) (sel r2 txt txt) r2 _ _ ls hXW hMW hOJ hS (by omega) (by omega) (lv_sub hl [2, 3, 4, 5, 6] rfl)
      · exact absurd c1152 (by decide)
  · exact absurd rfl c1135

set_option maxHeartbeats 4000000 in
set_option maxRecDepth 100000 in
theorem k_rank {p : Program} {l : Launch} {e : Env} {s : State} {m : MethodId} {args : Array Value} {below : List Frame} {meth : Method} {c : Code} {Q : State → Prop} {G : gG} {b0 n b y i : Nat} {xs : Nat → Int32} {H0 H : Heap} {locs : List Loc} {L : List Nat} {txt : Nat → List Nat} {th : Int32} {cs ss : Nat} {ls : Array Slot} (hC : LC p l s m args c G b0 n xs H0) (hb0 : H0.size ≤ b) (hby : b + 115 ≤ y) (hi : i + 5 ≤ n) (hn : n ≤ 2560) (hXW : XW G b L txt H) (hMW : MW G y L txt th H) (hOJ : OJ G (y + 34) H) (hS : va_S (gA 0 0 H0.size) H0 H locs) (hcs : cs ≤ 844000) (hss : ss ≤ 6540000) (hl : lv_has ls 9 [(4, .int (nI i)), (3, .ref (y + 34)), (2, .ref y), (1, .ref b), (0, .ref b0)])
    (kk : ∀ (H1 : Heap) (locs1 : List Loc) (L1 : List Nat) (t1 : Nat → List Nat) (th1 : Int32) (cs1 ss1 : Nat) (ls1 : Array Slot), XW G b L1 t1 H1 → MW G y L1 t1 th1 H1 → OJ G (y + 34) H1 → va_S (gA 0 0 H0.size) H0 H1 locs1 → cs1 ≤ cs + 1600 → ss1 ≤ ss + 12000 → lv_has ls1 9 [(4, .int (nI i)), (3, .ref (y + 34)), (2, .ref y), (1, .ref b), (0, .ref b0)] → W p l e room_1 s m args below meth c H1 locs1 cs1 ss1 Q (F0 m 1817 ls1 [])) : W p l e room_1 s m args below meth c H locs cs ss Q (F0 m 1160 ls []) := by
  obtain ⟨hx, hb, hml, hown, hts, hXs, hbl, h0, hE, hX⟩ := hC
  have hK := hE.1
  have hgs := hMW.gs
  refine lv_aload_n hx hb dL_law_1160 rfl (lv_at hl 3 rfl) ?_
  refine lv_aload_n hx hb dL_law_1161 rfl (lv_at hl 4 rfl) ?_
  refine lv_iload hx hb dL_law_1162 (lv_at hl 0 rfl) ?_
  refine lv_iconst (v := nI 1) hx hb dL_law_1164 (by decide) ?_
  refine lv_iadd hx hb dL_law_1165 ?_
  refine x_rw (z := nI (i + 1)) (nI_add _ _) ?_
  refine x_sld hx hb hXs hbl hS (by omega) (by omega) dL_law_1166 ?_
  refine lv_aload_n hx hb dL_law_1167 rfl (lv_at hl 1 rfl) ?_
  obtain ⟨fo, hOut⟩ := id hOJ
  refine x_goI (x_runSL (As := [.ref b, .int (xs (i + 1)), .ref (y + 34)]) (rest := []) ⟨hx, hb, hml, hown, hts⟩ hE hX h0 hS (c_L_rank l G b y L txt L txt th fo hby (xs (i + 1)) H hXW hMW hOut) (vx_cwSW 3 hts gL_law_L_rank rfl rfl rfl (by decide +kernel) ⟨Nat.le_of_ble_eq_true rfl, Nat.le_of_ble_eq_true rfl⟩) (by omega) rfl rfl hl.1 rfl (lv_room (Nat.le_of_ble_eq_true rfl)) dL_law_1168 ⟨Nat.le_trans (m := 846140) (by omega) (Nat.le_of_ble_eq_true rfl), Nat.le_trans (m := 6557685) (by omega) (Nat.le_of_ble_eq_true rfl)⟩) hS (by omega) (fun _ _ _ _ _ h => h.elim) (fun r2 H1 locs hq hF hS => ?_)
  obtain ⟨⟨hR, hV, hXW⟩, hMW, hOJ⟩ := hq
  replace hV : OVk r2 G (y + 34) (nI (cntB (fun j => decide (ordr (txt j) (txt (ix (xs (i + 1)))) < 0)) 8)).toInt64 H1 := hV
  refine lv_istore (lv' := [(5, .int r2), (4, .int (nI i)), (3, .ref (y + 34)), (2, .ref y), (1, .ref b), (0, .ref b0)]) hx hb dL_law_1171 hl (by decide) rfl (fun ls hl => ?_)
  refine lv_aload_n hx hb dL_law_1173 rfl (lv_at hl 3 rfl) ?_
  refine lv_aload_n hx hb dL_law_1174 rfl (lv_at hl 5 rfl) ?_
  refine lv_iload hx hb dL_law_1175 (lv_at hl 1 rfl) ?_
  refine lv_iconst (v := nI 1) hx hb dL_law_1177 (by decide) ?_
  refine lv_iadd hx hb dL_law_1178 ?_
  refine x_rw (z := nI (i + 1)) (nI_add _ _) ?_
  refine x_sld hx hb hXs hbl hS (by omega) (by omega) dL_law_1179 ?_
  refine x_goI (x_runV (As := [.int (xs (i + 1))]) (rest := []) ⟨hx, hb, hml, hown, hts⟩ hE h0 hS (c_X3_rank l G y L txt th (xs (i + 1)) H1 hMW) (cwV 1 hts gL_law_X3_rank rfl rfl rfl (by decide +kernel) ⟨Nat.le_of_ble_eq_true rfl, Nat.le_of_ble_eq_true rfl⟩) (gO.recv (C := RX3) hK hMW.O rfl) (by omega) rfl rfl hl.1 rfl (lv_room (Nat.le_of_ble_eq_true rfl)) dL_law_1180 ⟨Nat.le_trans (m := 846140) (by omega) (Nat.le_of_ble_eq_true rfl), Nat.le_trans (m := 6557685) (by omega) (Nat.le_of_ble_eq_true rfl)⟩) hS (by omega) (fun _ _ _ _ _ h => h.elim) (fun r4 H3 locs hq hF hS => ?_)
  have hXW := hXW.fr hF (by omega)
  have hOJ := hOJ.fr hF (by omega)
  have hV := hV.fr hF (by omega)
  obtain ⟨t, hRt, hVt, hMW⟩ := hq
  have hkt : r2 = t := rs1_u hR hRt
  subst hkt
  refine lv_istore (lv' := [(6, .int r4), (5, .int r2), (4, .int (nI i)), (3, .ref (y + 34)), (2, .ref y), (1, .ref b), (0, .ref b0)]) hx hb dL_law_1183 hl (by decide) rfl (fun ls hl => ?_)
  refine lv_aload_n hx hb dL_law_1185 rfl (lv_at hl 4 rfl) ?_
  refine x_goI_ro (x_runV (As := []) (rest := []) ⟨hx, hb, hml, hown, hts⟩ hE h0 hS (c_X3_thrown l G y (nI (sel r2 L L).length) r2 H3 hMW.O) (cwV 0 hts gL_law_X3_thrown rfl rfl rfl (by decide +kernel) ⟨Nat.le_of_ble_eq_true rfl, Nat.le_of_ble_eq_true rfl⟩) (gO.recv (C := RX3) hK hMW.O rfl) (by omega) rfl rfl hl.1 rfl (lv_room (Nat.le_of_ble_eq_true rfl)) dL_law_1186 ⟨Nat.le_trans (m := 846140) (by omega) (Nat.le_of_ble_eq_true rfl), Nat.le_trans (m := 6557685) (by omega) (Nat.le_of_ble_eq_true rfl)⟩) hS (by omega) (fun _ _ _ _ _ h => h.elim) (fun locs hq hS => ?_)
  refine lv_iload hx hb dL_law_1189 (lv_at hl 1 rfl) ?_
  refine lv_icmp_eq (tgt := 1196) hx hb dL_law_1191 (by decide) (fun c1191 => ?_) (fun c1191 => ?_)
  · refine lv_iload hx hb dL_law_1196 (lv_at hl 1 rfl) ?_
    refine lv_if_ne (tgt := 1213) hx hb dL_law_1198 (by decide) (fun c1198 => ?_) (fun c1198 => ?_)
    · refine lv_goto (tgt := 1817) hx hb dL_law_1213 (by decide) ?_
      exact kk H3 _ (sel r2 L L) (sel r2 txt txt) r2 _ _ ls hXW hMW hOJ hS (by omega) (by omega) (lv_sub hl [2, 3, 4, 5, 6] rfl)
    · obtain ⟨fo2, hOut2, hv2⟩ := hV c1198
      refine lv_aload_n hx hb dL_law_1201 rfl (lv_at hl 3 rfl) ?_
      refine lv_iconst (v := nI 0) hx hb dL_law_1202 (by decide) ?_
      refine x_lald hx hb hK hOut2 (by omega) (by decide) dL_law_1203 ?_
      refine x_rwl (z := (nI (cntB (fun j => decide (ordr (txt j) (txt (ix (xs (i + 1)))) < 0)) 8)).toInt64) hv2 ?_
      refine lv_iload hx hb dL_law_1204 (lv_at hl 0 rfl) ?_
      refine lv_i2l hx hb dL_law_1206 rfl ?_
      refine x_rwl (z := (nI (cntB (fun j => decide (ordr (txt j) (txt (ix (xs (i + 1)))) < 0)) 8)).toInt64) (by rw [hVt c1198]) ?_
      refine x_lcmp0 hx hb dL_law_1207 ?_
      refine x_if_eqN (tgt := 1213) hx hb (by omega) dL_law_1208 (by decide) (fun c1208 => ?_) (fun c1208 => ?_)
      · refine lv_goto (tgt := 1817) hx hb dL_law_1213 (by decide) ?_
        exact kk H3 _ (sel r2 L L) (sel r2 txt txt) r2 _ _ ls hXW hMW hOJ hS (by omega) (by omega) (lv_sub hl [2, 3, 4, 5, 6] rfl)
      · exact absurd c1208 (by decide)
  · exact absurd rfl c1191

set_option maxHeartbeats 4000000 in
set_option maxRecDepth 100000 in
theorem k_at {p : Program} {l : Launch} {e : Env} {s : State} {m : MethodId} {args : Array Value} {below : List Frame} {meth : Method} {c : Code} {Q : State → Prop} {G : gG} {b0 n b y i : Nat} {xs : Nat → Int32} {H0 H : Heap} {locs : List Loc} {L : List Nat} {txt : Nat → List Nat} {th : Int32} {cs ss : Nat} {ls : Array Slot} (hC : LC p l s m args c G b0 n xs H0) (hb0 : H0.size ≤ b) (hby : b + 115 ≤ y) (hi : i + 5 ≤ n) (hn : n ≤ 2560) (hXW : XW G b L txt H) (hMW : MW G y L txt th H) (hOJ : OJ G (y + 34) H) (hS : va_S (gA 0 0 H0.size) H0 H locs) (hcs : cs ≤ 844000) (hss : ss ≤ 6540000) (hl : lv_has ls 9 [(4, .int (nI i)), (3, .ref (y + 34)), (2, .ref y), (1, .ref b), (0, .ref b0)])
    (kk : ∀ (H1 : Heap) (locs1 : List Loc) (L1 : List Nat) (t1 : Nat → List Nat) (th1 : Int32) (cs1 ss1 : Nat) (ls1 : Array Slot), XW G b L1 t1 H1 → MW G y L1 t1 th1 H1 → OJ G (y + 34) H1 → va_S (gA 0 0 H0.size) H0 H1 locs1 → cs1 ≤ cs + 1600 → ss1 ≤ ss + 12000 → lv_has ls1 9 [(4, .int (nI i)), (3, .ref (y + 34)), (2, .ref y), (1, .ref b), (0, .ref b0)] → W p l e room_1 s m args below meth c H1 locs1 cs1 ss1 Q (F0 m 1817 ls1 [])) : W p l e room_1 s m args below meth c H locs cs ss Q (F0 m 1216 ls []) := by
  obtain ⟨hx, hb, hml, hown, hts, hXs, hbl, h0, hE, hX⟩ := hC
  have hK := hE.1
  have hgs := hMW.gs
  refine lv_aload_n hx hb dL_law_1216 rfl (lv_at hl 3 rfl) ?_
  refine lv_aload_n hx hb dL_law_1217 rfl (lv_at hl 4 rfl) ?_
  refine lv_iload hx hb dL_law_1218 (lv_at hl 0 rfl) ?_
  refine lv_iconst (v := nI 1) hx hb dL_law_1220 (by decide) ?_
  refine lv_iadd hx hb dL_law_1221 ?_
  refine x_rw (z := nI (i + 1)) (nI_add _ _) ?_
  refine x_sld hx hb hXs hbl hS (by omega) (by omega) dL_law_1222 ?_
  refine lv_aload_n hx hb dL_law_1223 rfl (lv_at hl 1 rfl) ?_
  obtain ⟨fo, hOut⟩ := id hOJ
  refine x_goI (x_runSL (As := [.ref b, .int (xs (i + 1)), .ref (y + 34)]) (rest := []) ⟨hx, hb, hml, hown, hts⟩ hE hX h0 hS (c_L_at l G b y L txt L txt th fo hby (xs (i + 1)) H hXW hMW hOut) (vx_cwSW 3 hts gL_law_L_at rfl rfl rfl (by decide +kernel) ⟨Nat.le_of_ble_eq_true rfl, Nat.le_of_ble_eq_true rfl⟩) (by omega) rfl rfl hl.1 rfl (lv_room (Nat.le_of_ble_eq_true rfl)) dL_law_1224 ⟨Nat.le_trans (m := 846140) (by omega) (Nat.le_of_ble_eq_true rfl), Nat.le_trans (m := 6557685) (by omega) (Nat.le_of_ble_eq_true rfl)⟩) hS (by omega) (fun _ _ _ _ _ h => h.elim) (fun r2 H1 locs hq hF hS => ?_)
  obtain ⟨⟨hR, hV, hXW⟩, hMW, hOJ⟩ := hq
  obtain ⟨pm, hOS⟩ := os_ex hgs 8 (Nat.le_refl _)
  replace hV : OVk r2 G (y + 34) (nI (pm (ix (xs (i + 1))))).toInt64 H1 := by
    intro h0k
    obtain ⟨pm2, hOS2, hv⟩ := hV h0k
    have hok : okN 8 (xs (i + 1)) := by
      rcases hR with ⟨g, -⟩ | ⟨-, g⟩
      · exact g
      · rw [h0k] at g; exact absurd g (by decide)
    rw [os_uni hgs hOS hOS2 _ (okN_ix (by decide) hok)]
    exact hv
  refine lv_istore (lv' := [(5, .int r2), (4, .int (nI i)), (3, .ref (y + 34)), (2, .ref y), (1, .ref b), (0, .ref b0)]) hx hb dL_law_1227 hl (by decide) rfl (fun ls hl => ?_)
  refine lv_aload_n hx hb dL_law_1229 rfl (lv_at hl 3 rfl) ?_
  refine lv_aload_n hx hb dL_law_1230 rfl (lv_at hl 5 rfl) ?_
  refine lv_iload hx hb dL_law_1231 (lv_at hl 1 rfl) ?_
  refine lv_iconst (v := nI 1) hx hb dL_law_1233 (by decide) ?_
  refine lv_iadd hx hb dL_law_1234 ?_
  refine x_rw (z := nI (i + 1)) (nI_add _ _) ?_
  refine x_sld hx hb hXs hbl hS (by omega) (by omega) dL_law_1235 ?_
  refine x_goI (x_runV (As := [.int (xs (i + 1))]) (rest := []) ⟨hx, hb, hml, hown, hts⟩ hE h0 hS (c_X3_at l G y L txt th (xs (i + 1)) H1 hMW) (cwV 1 hts gL_law_X3_at rfl rfl rfl (by decide +kernel) ⟨Nat.le_of_ble_eq_true rfl, Nat.le_of_ble_eq_true rfl⟩) (gO.recv (C := RX3) hK hMW.O rfl) (by omega) rfl rfl hl.1 rfl (lv_room (Nat.le_of_ble_eq_true rfl)) dL_law_1236 ⟨Nat.le_trans (m := 846140) (by omega) (Nat.le_of_ble_eq_true rfl), Nat.le_trans (m := 6557685) (by omega) (Nat.le_of_ble_eq_true rfl)⟩) hS (by omega) (fun _ _ _ _ _ h => h.elim) (fun r4 H3 locs hq hF hS => ?_)
  have hXW := hXW.fr hF (by omega)
  have hOJ := hOJ.fr hF (by omega)
  have hV := hV.fr hF (by omega)
  obtain ⟨t, hRt, hVt, hMW⟩ := hq
  have hkt : r2 = t := rs1_u hR hRt
  subst hkt
  replace hVt : r2 = 0 → r4 = nI (pm (ix (xs (i + 1)))) := fun h0k => by
    obtain ⟨s8, hs8, hp8, hr8⟩ := hVt h0k
    have hok : okN 8 (xs (i + 1)) := by
      rcases hR with ⟨g, -⟩ | ⟨-, g⟩
      · exact g
      · rw [h0k] at g; exact absurd g (by decide)
    have hix := okN_ix (by decide) hok
    rw [hr8, plc_inj hgs hs8 (hOS.1 _ hix) (hp8.trans (os_plc hgs hOS hix).symm)]
  refine lv_istore (lv' := [(6, .int r4), (5, .int r2), (4, .int (nI i)), (3, .ref (y + 34)), (2, .ref y), (1, .ref b), (0, .ref b0)]) hx hb dL_law_1239 hl (by decide) rfl (fun ls hl => ?_)
  refine lv_aload_n hx hb dL_law_1241 rfl (lv_at hl 4 rfl) ?_
  refine x_goI_ro (x_runV (As := []) (rest := []) ⟨hx, hb, hml, hown, hts⟩ hE h0 hS (c_X3_thrown l G y (nI (sel r2 L L).length) r2 H3 hMW.O) (cwV 0 hts gL_law_X3_thrown rfl rfl rfl (by decide +kernel) ⟨Nat.le_of_ble_eq_true rfl, Nat.le_of_ble_eq_true rfl⟩) (gO.recv (C := RX3) hK hMW.O rfl) (by omega) rfl rfl hl.1 rfl (lv_room (Nat.le_of_ble_eq_true rfl)) dL_law_1242 ⟨Nat.le_trans (m := 846140) (by omega) (Nat.le_of_ble_eq_true rfl), Nat.le_trans (m := 6557685) (by omega) (Nat.le_of_ble_eq_true rfl)⟩) hS (by omega) (fun _ _ _ _ _ h => h.elim) (fun locs hq hS => ?_)
  refine lv_iload hx hb dL_law_1245 (lv_at hl 1 rfl) ?_
  refine lv_icmp_eq (tgt := 1252) hx hb dL_law_1247 (by decide) (fun c1247 => ?_) (fun c1247 => ?_)
  · refine lv_iload hx hb dL_law_1252 (lv_at hl 1 rfl) ?_
    refine lv_if_ne (tgt := 1269) hx hb dL_law_1254 (by decide) (fun c1254 => ?_) (fun c1254 => ?_)
    · refine lv_goto (tgt := 1817) hx hb dL_law_1269 (by decide) ?_
      exact kk H3 _ (sel r2 L L) (sel r2 txt txt) r2 _ _ ls hXW hMW hOJ hS (by omega) (by omega) (lv_sub hl [2, 3, 4, 5, 6] rfl)
    · obtain ⟨fo2, hOut2, hv2⟩ := hV c1254
      refine lv_aload_n hx hb dL_law_1257 rfl (lv_at hl 3 rfl) ?_
      refine lv_iconst (v := nI 0) hx hb dL_law_1258 (by decide) ?_
      refine x_lald hx hb hK hOut2 (by omega) (by decide) dL_law_1259 ?_
      refine x_rwl (z := (nI (pm (ix (xs (i + 1))))).toInt64) hv2 ?_
      refine lv_iload hx hb dL_law_1260 (lv_at hl 0 rfl) ?_
      refine lv_i2l hx hb dL_law_1262 rfl ?_
      refine x_rwl (z := (nI (pm (ix (xs (i + 1))))).toInt64) (by rw [hVt c1254]) ?_
      refine x_lcmp0 hx hb dL_law_1263 ?_
      refine x_if_eqN (tgt := 1269) hx hb (by omega) dL_law_1264 (by decide) (fun c1264 => ?_) (fun c1264 => ?_)
      · refine lv_goto (tgt := 1817) hx hb dL_law_1269 (by decide) ?_
        exact kk H3 _ (sel r2 L L) (sel r2 txt txt) r2 _ _ ls hXW hMW hOJ hS (by omega) (by omega) (lv_sub hl [2, 3, 4, 5, 6] rfl)
      · exact absurd c1264 (by decide)
  · exact absurd rfl c1247

set_option maxHeartbeats 4000000 in
set_option maxRecDepth 100000 in
theorem k_between {p : Program} {l : Launch} {e : Env} {s : State} {m : MethodId} {args : Array Value} {below : List Frame} {meth : Method} {c : Code} {Q : State → Prop} {G : gG} {b0 n b y i : Nat} {xs : Nat → Int32} {H0 H : Heap} {locs : List Loc} {L : List Nat} {txt : Nat → List Nat} {th : Int32} {cs ss : Nat} {ls : Array Slot} (hC : LC p l s m args c G b0 n xs H0) (hb0 : H0.size ≤ b) (hby : b + 115 ≤ y) (hi : i + 5 ≤ n) (hn : n ≤ 2560) (hXW : XW G b L txt H) (hMW : MW G y L txt th H) (hOJ : OJ G (y + 34) H) (hS : va_S (gA 0 0 H0.size) H0 H locs) (hcs : cs ≤ 844000) (hss : ss ≤ 6540000) (hl : lv_has ls 9 [(4, .int (nI i)), (3, .ref (y + 34)), (2, .ref y), (1, .ref b), (0, .ref b0)])
    (kk : ∀ (H1 : Heap) (locs1 : List Loc) (L1 : List Nat) (t1 : Nat → List Nat) (th1 : Int32) (cs1 ss1 : Nat) (ls1 : Array Slot), XW G b L1 t1 H1 → MW G y L1 t1 th1 H1 → OJ G (y + 34) H1 → va_S (gA 0 0 H0.size) H0 H1 locs1 → cs1 ≤ cs + 1600 → ss1 ≤ ss + 12000 → lv_has ls1 9 [(4, .int (nI i)), (3, .ref (y + 34)), (2, .ref y), (1, .ref b), (0, .ref b0)] → W p l e room_1 s m args below meth c H1 locs1 cs1 ss1 Q (F0 m 1817 ls1 [])) : W p l e room_1 s m args below meth c H locs cs ss Q (F0 m 1285 ls []) := by
  obtain ⟨hx, hb, hml, hown, hts, hXs, hbl, h0, hE, hX⟩ := hC
  have hK := hE.1
  have hgs := hMW.gs
  refine lv_aload_n hx hb dL_law_1285 rfl (lv_at hl 3 rfl) ?_
  refine lv_aload_n hx hb dL_law_1286 rfl (lv_at hl 4 rfl) ?_
  refine lv_iload hx hb dL_law_1287 (lv_at hl 0 rfl) ?_
  refine lv_iconst (v := nI 1) hx hb dL_law_1289 (by decide) ?_
  refine lv_iadd hx hb dL_law_1290 ?_
  refine x_rw (z := nI (i + 1)) (nI_add _ _) ?_
  refine x_sld hx hb hXs hbl hS (by omega) (by omega) dL_law_1291 ?_
  refine lv_aload_n hx hb dL_law_1292 rfl (lv_at hl 4 rfl) ?_
  refine lv_iload hx hb dL_law_1293 (lv_at hl 0 rfl) ?_
  refine lv_iconst (v := nI 2) hx hb dL_law_1295 (by decide) ?_
  refine lv_iadd hx hb dL_law_1296 ?_
  refine x_rw (z := nI (i + 2)) (nI_add _ _) ?_
  refine x_sld hx hb hXs hbl hS (by omega) (by omega) dL_law_1297 ?_
  refine lv_aload_n hx hb dL_law_1298 rfl (lv_at hl 1 rfl) ?_
  obtain ⟨fo, hOut⟩ := id hOJ
  refine x_goI (x_runSL (As := [.ref b, .int (xs (i + 1)), .int (xs (i + 2)), .ref (y + 34)]) (rest := []) ⟨hx, hb, hml, hown, hts⟩ hE hX h0 hS (c_L_between l G b y L txt L txt th fo hby (xs (i + 1)) (xs (i + 2)) H hXW hMW hOut) (vx_cwSW 4 hts gL_law_L_between rfl rfl rfl (by decide +kernel) ⟨Nat.le_of_ble_eq_true rfl, Nat.le_of_ble_eq_true rfl⟩) (by omega) rfl rfl hl.1 rfl (lv_room (Nat.le_of_ble_eq_true rfl)) dL_law_1299 ⟨Nat.le_trans (m := 846140) (by omega) (Nat.le_of_ble_eq_true rfl), Nat.le_trans (m := 6557685) (by omega) (Nat.le_of_ble_eq_true rfl)⟩) hS (by omega) (fun _ _ _ _ _ h => h.elim) (fun r2 H1 locs hq hF hS => ?_)
  obtain ⟨⟨hR, hV, hXW⟩, hMW, hOJ⟩ := hq
  replace hV : OVk r2 G (y + 34) (nI (cntB (fun j => decide (0 ≤ ordr (txt j) (txt (ix (xs (i + 1))))) && decide (ordr (txt j) (txt (ix (xs (i + 2)))) < 0)) 8)).toInt64 H1 := hV
  refine lv_istore (lv' := [(5, .int r2), (4, .int (nI i)), (3, .ref (y + 34)), (2, .ref y), (1, .ref b), (0, .ref b0)]) hx hb dL_law_1302 hl (by decide) rfl (fun ls hl => ?_)
  refine lv_aload_n hx hb dL_law_1304 rfl (lv_at hl 3 rfl) ?_
  refine lv_aload_n hx hb dL_law_1305 rfl (lv_at hl 5 rfl) ?_
  refine lv_iload hx hb dL_law_1306 (lv_at hl 1 rfl) ?_
  refine lv_iconst (v := nI 1) hx hb dL_law_1308 (by decide) ?_
  refine lv_iadd hx hb dL_law_1309 ?_
  refine x_rw (z := nI (i + 1)) (nI_add _ _) ?_
  refine x_sld hx hb hXs hbl hS (by omega) (by omega) dL_law_1310 ?_
  refine lv_aload_n hx hb dL_law_1311 rfl (lv_at hl 5 rfl) ?_
  refine lv_iload hx hb dL_law_1312 (lv_at hl 1 rfl) ?_
  refine lv_iconst (v := nI 2) hx hb dL_law_1314 (by decide) ?_
  refine lv_iadd hx hb dL_law_1315 ?_
  refine x_rw (z := nI (i + 2)) (nI_add _ _) ?_
  refine x_sld hx hb hXs hbl hS (by omega) (by omega) dL_law_1316 ?_
  refine x_goI (x_runV (As := [.int (xs (i + 1)), .int (xs (i + 2))]) (rest := []) ⟨hx, hb, hml, hown, hts⟩ hE h0 hS (c_X3_between l G y L txt th (xs (i + 1)) (xs (i + 2)) H1 hMW) (cwV 2 hts gL_law_X3_between rfl rfl rfl (by decide +kernel) ⟨Nat.le_of_ble_eq_true rfl, Nat.le_of_ble_eq_true rfl⟩) (gO.recv (C := RX3) hK hMW.O rfl) (by omega) rfl rfl hl.1 rfl (lv_room (Nat.le_of_ble_eq_true rfl)) dL_law_1317 ⟨Nat.le_trans (m := 846140) (by omega) (Nat.le_of_ble_eq_true rfl), Nat.le_trans (m := 6557685) (by omega) (Nat.le_of_ble_eq_true rfl)⟩) hS (by omega) (fun _ _ _ _ _ h => h.elim) (fun r4 H3 locs hq hF hS => ?_)
  have hXW := hXW.fr hF (by omega)
  have hOJ := hOJ.fr hF (by omega)
  have hV := hV.fr hF (by omega)
  obtain ⟨t, hRt, hVt, hMW⟩ := hq
  have hkt : r2 = t := rs1_u hR hRt
  subst hkt
  refine lv_istore (lv' := [(6, .int r4), (5, .int r2), (4, .int (nI i)), (3, .ref (y + 34)), (2, .ref y), (1, .ref b), (0, .ref b0)]) hx hb dL_law_1320 hl (by decide) rfl (fun ls hl => ?_)
  refine lv_aload_n hx hb dL_law_1322 rfl (lv_at hl 4 rfl) ?_
  refine x_goI_ro (x_runV (As := []) (rest := []) ⟨hx, hb, hml, hown, hts⟩ hE h0 hS (c_X3_thrown l G y (nI (sel r2 L L).length) r2 H3 hMW.O) (cwV 0 hts gL_law_X3_thrown rfl rfl rfl (by decide +kernel) ⟨Nat.le_of_ble_eq_true rfl, Nat.le_of_ble_eq_true rfl⟩) (gO.recv (C := RX3) hK hMW.O rfl) (by omega) rfl rfl hl.1 rfl (lv_room (Nat.le_of_ble_eq_true rfl)) dL_law_1323 ⟨Nat.le_trans (m := 846140) (by omega) (Nat.le_of_ble_eq_true rfl), Nat.le_trans (m := 6557685) (by omega) (Nat.le_of_ble_eq_true rfl)⟩) hS (by omega) (fun _ _ _ _ _ h => h.elim) (fun locs hq hS => ?_)
  refine lv_iload hx hb dL_law_1326 (lv_at hl 1 rfl) ?_
  refine lv_icmp_eq (tgt := 1333) hx hb dL_law_1328 (by decide) (fun c1328 => ?_) (fun c1328 => ?_)
  · refine lv_iload hx hb dL_law_1333 (lv_at hl 1 rfl) ?_
    refine lv_if_ne (tgt := 1350) hx hb dL_law_1335 (by decide) (fun c1335 => ?_) (fun c1335 => ?_)
    · refine lv_goto (tgt := 1817) hx hb dL_law_1350 (by decide) ?_
      exact kk H3 _ (sel r2 L L) (sel r2 txt txt) r2 _ _ ls hXW hMW hOJ hS (by omega) (by omega) (lv_sub hl [2, 3, 4, 5, 6] rfl)
    · obtain ⟨fo2, hOut2, hv2⟩ := hV c1335
      refine lv_aload_n hx hb dL_law_1338 rfl (lv_at hl 3 rfl) ?_
      refine lv_iconst (v := nI 0) hx hb dL_law_1339 (by decide) ?_
      refine x_lald hx hb hK hOut2 (by omega) (by decide) dL_law_1340 ?_
      refine x_rwl (z := (nI (cntB (fun j => decide (0 ≤ ordr (txt j) (txt (ix (xs (i + 1))))) && decide (ordr (txt j) (txt (ix (xs (i + 2)))) < 0)) 8)).toInt64) hv2 ?_
      refine lv_iload hx hb dL_law_1341 (lv_at hl 0 rfl) ?_
      refine lv_i2l hx hb dL_law_1343 rfl ?_
      refine x_rwl (z := (nI (cntB (fun j => decide (0 ≤ ordr (txt j) (txt (ix (xs (i + 1))))) && decide (ordr (txt j) (txt (ix (xs (i + 2)))) < 0)) 8)).toInt64) (by rw [hVt c1335]) ?_
      refine x_lcmp0 hx hb dL_law_1344 ?_
      refine x_if_eqN (tgt := 1350) hx hb (by omega) dL_law_1345 (by decide) (fun c1345 => ?_) (fun c1345 => ?_)
      · refine lv_goto (tgt := 1817) hx hb dL_law_1350 (by decide) ?_
        exact kk H3 _ (sel r2 L L) (sel r2 txt txt) r2 _ _ ls hXW hMW hOJ hS (by omega) (by omega) (lv_sub hl [2, 3, 4, 5, 6] rfl)
      · exact absurd c1345 (by decide)
  · exact absurd rfl c1328

set_option maxHeartbeats 4000000 in
set_option maxRecDepth 100000 in
theorem k_zero {p : Program} {l : Launch} {e : Env} {s : State} {m : MethodId} {args : Array Value} {below : List Frame} {meth : Method} {c : Code} {Q : State → Prop} {G : gG} {b0 n b y i : Nat} {xs : Nat → Int32} {H0 H : Heap} {locs : List Loc} {L : List Nat} {txt : Nat → List Nat} {th : Int32} {cs ss : Nat} {ls : Array Slot} (hC : LC p l s m args c G b0 n xs H0) (hb0 : H0.size ≤ b) (hby : b + 115 ≤ y) (hi : i + 5 ≤ n) (hn : n ≤ 2560) (hXW : XW G b L txt H) (hMW : MW G y L txt th H) (hOJ : OJ G (y + 34) H) (hS : va_S (gA 0 0 H0.size) H0 H locs) (hcs : cs ≤ 844000) (hss : ss ≤ 6540000) (hl : lv_has ls 9 [(4, .int (nI i)), (3, .ref (y + 34)), (2, .ref y), (1, .ref b), (0, .ref b0)])
    (kk : ∀ (H1 : Heap) (locs1 : List Loc) (L1 : List Nat) (t1 : Nat → List Nat) (th1 : Int32) (cs1 ss1 : Nat) (ls1 : Array Slot), XW G b L1 t1 H1 → MW G y L1 t1 th1 H1 → OJ G (y + 34) H1 → va_S (gA 0 0 H0.size) H0 H1 locs1 → cs1 ≤ cs + 1600 → ss1 ≤ ss + 12000 → lv_has ls1 9 [(4, .int (nI i)), (3, .ref (y + 34)), (2, .ref y), (1, .ref b), (0, .ref b0)] → W p l e room_1 s m args below meth c H1 locs1 cs1 ss1 Q (F0 m 1817 ls1 [])) : W p l e room_1 s m args below meth c H locs cs ss Q (F0 m 1353 ls []) := by
  obtain ⟨hx, hb, hml, hown, hts, hXs, hbl, h0, hE, hX⟩ := hC
  have hK := hE.1
  have hgs := hMW.gs
  refine lv_aload_n hx hb dL_law_1353 rfl (lv_at hl 3 rfl) ?_
  refine lv_aload_n hx hb dL_law_1354 rfl (lv_at hl 4 rfl) ?_
  refine lv_iload hx hb dL_law_1355 (lv_at hl 0 rfl) ?_
  refine lv_iconst (v := nI 1) hx hb dL_law_1357 (by decide) ?_
  refine lv_iadd hx hb dL_law_1358 ?_
  refine x_rw (z := nI (i + 1)) (nI_add _ _) ?_
  refine x_sld hx hb hXs hbl hS (by omega) (by omega) dL_law_1359 ?_
  refine lv_aload_n hx hb dL_law_1360 rfl (lv_at hl 4 rfl) ?_
  refine lv_iload hx hb dL_law_1361 (lv_at hl 0 rfl) ?_
  refine lv_iconst (v := nI 2) hx hb dL_law_1363 (by decide) ?_
  refine lv_iadd hx hb dL_law_1364 ?_
  refine x_rw (z := nI (i + 2)) (nI_add _ _) ?_
  refine x_sld hx hb hXs hbl hS (by omega) (by omega) dL_law_1365 ?_
  refine lv_aload_n hx hb dL_law_1366 rfl (lv_at hl 1 rfl) ?_
  obtain ⟨fo, hOut⟩ := id hOJ
  refine x_goI (x_runSL (As := [.ref b, .int (xs (i + 1)), .int (xs (i + 2)), .ref (y + 34)]) (rest := []) ⟨hx, hb, hml, hown, hts⟩ hE hX h0 hS (c_L_zero l G b y L txt L txt th fo hby (xs (i + 1)) (xs (i + 2)) H hXW hMW hOut) (vx_cwSW 4 hts gL_law_L_zero rfl rfl rfl (by decide +kernel) ⟨Nat.le_of_ble_eq_true rfl, Nat.le_of_ble_eq_true rfl⟩) (by omega) rfl rfl hl.1 rfl (lv_room (Nat.le_of_ble_eq_true rfl)) dL_law_1367 ⟨Nat.le_trans (m := 846140) (by omega) (Nat.le_of_ble_eq_true rfl), Nat.le_trans (m := 6557685) (by omega) (Nat.le_of_ble_eq_true rfl)⟩) hS (by omega) (fun _ _ _ _ _ h => h.elim) (fun r2 H1 locs hq hF hS => ?_)
  obtain ⟨⟨hR, hV, hXW⟩, hMW, hOJ⟩ := hq
  replace hV : OVk r2 G (y + 34) (bI (decide (ordr (txt (ix (xs (i + 1))) ++ [46] ++ dg 0) (txt (ix (xs (i + 1)))) = 0))).toInt64 H1 := hV
  refine lv_istore (lv' := [(5, .int r2), (4, .int (nI i)), (3, .ref (y + 34)), (2, .ref y), (1, .ref b), (0, .ref b0)]) hx hb dL_law_1370 hl (by decide) rfl (fun ls hl => ?_)
  refine lv_aload_n hx hb dL_law_1372 rfl (lv_at hl 3 rfl) ?_
  refine lv_aload_n hx hb dL_law_1373 rfl (lv_at hl 5 rfl) ?_
  refine lv_iload hx hb dL_law_1374 (lv_at hl 1 rfl) ?_
  refine lv_iconst (v := nI 1) hx hb dL_law_1376 (by decide) ?_
  refine lv_iadd hx hb dL_law_1377 ?_
  refine x_rw (z := nI (i + 1)) (nI_add _ _) ?_
  refine x_sld hx hb hXs hbl hS (by omega) (by omega) dL_law_1378 ?_
  refine lv_aload_n hx hb dL_law_1379 rfl (lv_at hl 5 rfl) ?_
  refine lv_iload hx hb dL_law_1380 (lv_at hl 1 rfl) ?_
  refine lv_iconst (v := nI 2) hx hb dL_law_1382 (by decide) ?_
  refine lv_iadd hx hb dL_law_1383 ?_
  refine x_rw (z := nI (i + 2)) (nI_add _ _) ?_
  refine x_sld hx hb hXs hbl hS (by omega) (by omega) dL_law_1384 ?_
  refine x_goI (x_runV (As := [.int (xs (i + 1)), .int (xs (i + 2))]) (rest := []) ⟨hx, hb, hml, hown, hts⟩ hE h0 hS (c_X3_zero l G y L txt th (xs (i + 1)) (xs (i + 2)) H1 hMW) (cwV 2 hts gL_law_X3_zero rfl rfl rfl (by decide +kernel) ⟨Nat.le_of_ble_eq_true rfl, Nat.le_of_ble_eq_true rfl⟩) (gO.recv (C := RX3) hK hMW.O rfl) (by omega) rfl rfl hl.1 rfl (lv_room (Nat.le_of_ble_eq_true rfl)) dL_law_1385 ⟨Nat.le_trans (m := 846140) (by omega) (Nat.le_of_ble_eq_true rfl), Nat.le_trans (m := 6557685) (by omega) (Nat.le_of_ble_eq_true rfl)⟩) hS (by omega) (fun _ _ _ _ _ h => h.elim) (fun r4 H3 locs hq hF hS => ?_)
  have hXW := hXW.fr hF (by omega)
  have hOJ := hOJ.fr hF (by omega)
  have hV := hV.fr hF (by omega)
  obtain ⟨t, hRt, hVt, hMW⟩ := hq
  have hkt : r2 = t := rs2_u hR hRt
  subst hkt
  refine lv_istore (lv' := [(6, .int r4), (5, .int r2), (4, .int (nI i)), (3, .ref (y + 34)), (2, .ref y), (1, .ref b), (0, .ref b0)]) hx hb dL_law_1388 hl (by decide) rfl (fun ls hl => ?_)
  refine lv_aload_n hx hb dL_law_1390 rfl (lv_at hl 4 rfl) ?_
  refine x_goI_ro (x_runV (As := []) (rest := []) ⟨hx, hb, hml, hown, hts⟩ hE h0 hS (c_X3_thrown l G y (nI (sel r2 L L).length) r2 H3 hMW.O) (cwV 0 hts gL_law_X3_thrown rfl rfl rfl (by decide +kernel) ⟨Nat.le_of_ble_eq_true rfl, Nat.le_of_ble_eq_true rfl⟩) (gO.recv (C := RX3) hK hMW.O rfl) (by omega) rfl rfl hl.1 rfl (lv_room (Nat.le_of_ble_eq_true rfl)) dL_law_1391 ⟨Nat.le_trans (m := 846140) (by omega) (Nat.le_of_ble_eq_true rfl), Nat.le_trans (m := 6557685) (by omega) (Nat.le_of_ble_eq_true rfl)⟩) hS (by omega) (fun _ _ _ _ _ h => h.elim) (fun locs hq hS => ?_)
  refine lv_iload hx hb dL_law_1394 (lv_at hl 1 rfl) ?_
  refine lv_icmp_eq (tgt := 1401) hx hb dL_law_1396 (by decide) (fun c1396 => ?_) (fun c1396 => ?_)
  · refine lv_iload hx hb dL_law_1401 (lv_at hl 1 rfl) ?_
    refine lv_if_ne (tgt := 1425) hx hb dL_law_1403 (by decide) (fun c1403 => ?_) (fun c1403 => ?_)
    · refine lv_goto (tgt := 1817) hx hb dL_law_1425 (by decide) ?_
      exact kk H3 _ (sel r2 L L) (sel r2 (up txt (ix (xs (i + 2))) (txt (ix (xs (i + 1))) ++ [46] ++ dg 0)) txt) r2 _ _ ls hXW hMW hOJ hS (by omega) (by omega) (lv_sub hl [2, 3, 4, 5, 6] rfl)
    · obtain ⟨fo2, hOut2, hv2⟩ := hV c1403
      refine lv_aload_n hx hb dL_law_1406 rfl (lv_at hl 3 rfl) ?_
      refine lv_iconst (v := nI 0) hx hb dL_law_1407 (by decide) ?_
      refine x_lald hx hb hK hOut2 (by omega) (by decide) dL_law_1408 ?_
      refine x_rwl (z := (bI (decide (ordr (txt (ix (xs (i + 1))) ++ [46] ++ dg 0) (txt (ix (xs (i + 1)))) = 0))).toInt64) hv2 ?_
      refine lv_iload hx hb dL_law_1409 (lv_at hl 0 rfl) ?_
      refine x_rw (z := bI (decide (ordr (txt (ix (xs (i + 1))) ++ [46] ++ dg 0) (txt (ix (xs (i + 1)))) = 0))) (hVt c1403) ?_
      refine x_if_eqB (tgt := 1418) hx hb dL_law_1411 (by decide) (fun c1411 => ?_) (fun c1411 => ?_)
      · refine lv_lconst (v := 0) hx hb dL_law_1418 (by decide) ?_
        refine x_rwl (z := (bI (decide (ordr (txt (ix (xs (i + 1))) ++ [46] ++ dg 0) (txt (ix (xs (i + 1)))) = 0))).toInt64) (by rw [c1411]; exact bJ_f) ?_
        refine x_lcmp0 hx hb dL_law_1419 ?_
        refine x_if_eqN (tgt := 1425) hx hb (by omega) dL_law_1420 (by decide) (fun c1420 => ?_) (fun c1420 => ?_)
        · refine lv_goto (tgt := 1817) hx hb dL_law_1425 (by decide) ?_
          exact kk H3 _ (sel r2 L L) (sel r2 (up txt (ix (xs (i + 2))) (txt (ix (xs (i + 1))) ++ [46] ++ dg 0)) txt) r2 _ _ ls hXW hMW hOJ hS (by omega) (by omega) (lv_sub hl [2, 3, 4, 5, 6] rfl)
        · exact absurd c1420 (by decide)
      · refine lv_lconst (v := 1) hx hb dL_law_1414 (by decide) ?_
        refine lv_goto (tgt := 1419) hx hb dL_law_1415 (by decide) ?_
        refine x_rwl (z := (bI (decide (ordr (txt (ix (xs (i + 1))) ++ [46] ++ dg 0) (txt (ix (xs (i + 1)))) = 0))).toInt64) (by rw [c1411]; exact bJ_t) ?_
        refine x_lcmp0 hx hb dL_law_1419 ?_
        refine x_if_eqN (tgt := 1425) hx hb (by omega) dL_law_1420 (by decide) (fun c1420 => ?_) (fun c1420 => ?_)
        · refine lv_goto (tgt := 1817) hx hb dL_law_1425 (by decide) ?_
          exact kk H3 _ (sel r2 L L) (sel r2 (up txt (ix (xs (i + 2))) (txt (ix (xs (i + 1))) ++ [46] ++ dg 0)) txt) r2 _ _ ls hXW hMW hOJ hS (by omega) (by omega) (lv_sub hl [2, 3, 4, 5, 6] rfl)
        · exact absurd c1420 (by decide)
  · exact absurd rfl c1396

set_option maxHeartbeats 4000000 in
set_option maxRecDepth 100000 in
theorem k_longer {p : Program} {l : Launch} {e : Env} {s : State} {m : MethodId} {args : Array Value} {below : List Frame} {meth : Method} {c : Code} {Q : State → Prop} {G : gG} {b0 n b y i : Nat} {xs : Nat → Int32} {H0 H : Heap} {locs : List Loc} {L : List Nat} {txt : Nat → List Nat} {th : Int32} {cs ss : Nat} {ls : Array Slot} (hC : LC p l s m args c G b0 n xs H0) (hb0 : H0.size ≤ b) (hby : b + 115 ≤ y) (hi : i + 5 ≤ n) (hn : n ≤ 2560) (hXW : XW G b L txt H) (hMW : MW G y L txt th H) (hOJ : OJ G (y + 34) H) (hS : va_S (gA 0 0 H0.size) H0 H locs) (hcs : cs ≤ 844000) (hss : ss ≤ 6540000) (hl : lv_has ls 9 [(4, .int (nI i)), (3, .ref (y + 34)), (2, .ref y), (1, .ref b), (0, .ref b0)])
    (kk : ∀ (H1 : Heap) (locs1 : List Loc) (L1 : List Nat) (t1 : Nat → List Nat) (th1 : Int32) (cs1 ss1 : Nat) (ls1 : Array Slot), XW G b L1 t1 H1 → MW G y L1 t1 th1 H1 → OJ G (y + 34) H1 → va_S (gA 0 0 H0.size) H0 H1 locs1 → cs1 ≤ cs + 1600 → ss1 ≤ ss + 12000 → lv_has ls1 9 [(4, .int (nI i)), (3, .ref (y + 34)), (2, .ref y), (1, .ref b), (0, .ref b0)] → W p l e room_1 s m args below meth c H1 locs1 cs1 ss1 Q (F0 m 1817 ls1 [])) : W p l e room_1 s m args below meth c H locs cs ss Q (F0 m 1428 ls []) := by
  obtain ⟨hx, hb, hml, hown, hts, hXs, hbl, h0, hE, hX⟩ := hC
  have hK := hE.1
  have hgs := hMW.gs
  refine lv_aload_n hx hb dL_law_1428 rfl (lv_at hl 3 rfl) ?_
  refine lv_aload_n hx hb dL_law_1429 rfl (lv_at hl 4 rfl) ?_
  refine lv_iload hx hb dL_law_1430 (lv_at hl 0 rfl) ?_
  refine lv_iconst (v := nI 1) hx hb dL_law_1432 (by decide) ?_
  refine lv_iadd hx hb dL_law_1433 ?_
  refine x_rw (z := nI (i + 1)) (nI_add _ _) ?_
  refine x_sld hx hb hXs hbl hS (by omega) (by omega) dL_law_1434 ?_
  refine lv_aload_n hx hb dL_law_1435 rfl (lv_at hl 4 rfl) ?_
  refine lv_iload hx hb dL_law_1436 (lv_at hl 0 rfl) ?_
  refine lv_iconst (v := nI 2) hx hb dL_law_1438 (by decide) ?_
  refine lv_iadd hx hb dL_law_1439 ?_
  refine x_rw (z := nI (i + 2)) (nI_add _ _) ?_
  refine x_sld hx hb hXs hbl hS (by omega) (by omega) dL_law_1440 ?_
  refine lv_aload_n hx hb dL_law_1441 rfl (lv_at hl 4 rfl) ?_
  refine lv_iload hx hb dL_law_1442 (lv_at hl 0 rfl) ?_
  refine lv_iconst (v := nI 3) hx hb dL_law_1444 (by decide) ?_
  refine lv_iadd hx hb dL_law_1445 ?_
  refine x_rw (z := nI (i + 3)) (nI_add _ _) ?_
  refine x_sld hx hb hXs hbl hS (by omega) (by omega) dL_law_1446 ?_
  refine lv_aload_n hx hb dL_law_1447 rfl (lv_at hl 1 rfl) ?_
  obtain ⟨fo, hOut⟩ := id hOJ
  refine x_goI (x_runSL (As := [.ref b, .int (xs (i + 1)), .int (xs (i + 2)), .int (xs (i + 3)), .ref (y + 34)]) (rest := []) ⟨hx, hb, hml, hown, hts⟩ hE hX h0 hS (c_L_longer l G b y L txt L txt th fo hby (xs (i + 1)) (xs (i + 2)) (xs (i + 3)) H hXW hMW hOut) (vx_cwSW 5 hts gL_law_L_longer rfl rfl rfl (by decide +kernel) ⟨Nat.le_of_ble_eq_true rfl, Nat.le_of_ble_eq_true rfl⟩) (by omega) rfl rfl hl.1 rfl (lv_room (Nat.le_of_ble_eq_true rfl)) dL_law_1448 ⟨Nat.le_trans (m := 846140) (by omega) (Nat.le_of_ble_eq_true rfl), Nat.le_trans (m := 6557685) (by omega) (Nat.le_of_ble_eq_true rfl)⟩) hS (by omega) (fun _ _ _ _ _ h => h.elim) (fun r2 H1 locs hq hF hS => ?_)
  obtain ⟨⟨hR, hV, hXW⟩, hMW, hOJ⟩ := hq
  replace hV : OVk r2 G (y + 34) (bI (decide (0 < ordr (txt (ix (xs (i + 1))) ++ [46] ++ dg (ix (xs (i + 2)))) (txt (ix (xs (i + 1))))))).toInt64 H1 := hV
  refine lv_istore (lv' := [(5, .int r2), (4, .int (nI i)), (3, .ref (y + 34)), (2, .ref y), (1, .ref b), (0, .ref b0)]) hx hb dL_law_1451 hl (by decide) rfl (fun ls hl => ?_)
  refine lv_aload_n hx hb dL_law_1453 rfl (lv_at hl 3 rfl) ?_
  refine lv_aload_n hx hb dL_law_1454 rfl (lv_at hl 5 rfl) ?_
  refine lv_iload hx hb dL_law_1455 (lv_at hl 1 rfl) ?_
  refine lv_iconst (v := nI 1) hx hb dL_law_1457 (by decide) ?_
  refine lv_iadd hx hb dL_law_1458 ?_
  refine x_rw (z := nI (i + 1)) (nI_add _ _) ?_
  refine x_sld hx hb hXs hbl hS (by omega) (by omega) dL_law_1459 ?_
  refine lv_aload_n hx hb dL_law_1460 rfl (lv_at hl 5 rfl) ?_
  refine lv_iload hx hb dL_law_1461 (lv_at hl 1 rfl) ?_
  refine lv_iconst (v := nI 2) hx hb dL_law_1463 (by decide) ?_
  refine lv_iadd hx hb dL_law_1464 ?_
  refine x_rw (z := nI (i + 2)) (nI_add _ _) ?_
  refine x_sld hx hb hXs hbl hS (by omega) (by omega) dL_law_1465 ?_
  refine lv_aload_n hx hb dL_law_1466 rfl (lv_at hl 5 rfl) ?_
  refine lv_iload hx hb dL_law_1467 (lv_at hl 1 rfl) ?_
  refine lv_iconst (v := nI 3) hx hb dL_law_1469 (by decide) ?_
  refine lv_iadd hx hb dL_law_1470 ?_
  refine x_rw (z := nI (i + 3)) (nI_add _ _) ?_
  refine x_sld hx hb hXs hbl hS (by omega) (by omega) dL_law_1471 ?_
  refine x_goI (x_runV (As := [.int (xs (i + 1)), .int (xs (i + 2)), .int (xs (i + 3))]) (rest := []) ⟨hx, hb, hml, hown, hts⟩ hE h0 hS (c_X3_longer_ l G y L txt th (xs (i + 1)) (xs (i + 2)) (xs (i + 3)) H1 hMW) (cwV 3 hts gL_law_X3_longer_ rfl rfl rfl (by decide +kernel) ⟨Nat.le_of_ble_eq_true rfl, Nat.le_of_ble_eq_true rfl⟩) (gO.recv (C := RX3) hK hMW.O rfl) (by omega) rfl rfl hl.1 rfl (lv_room (Nat.le_of_ble_eq_true rfl)) dL_law_1472 ⟨Nat.le_trans (m := 846140) (by omega) (Nat.le_of_ble_eq_true rfl), Nat.le_trans (m := 6557685) (by omega) (Nat.le_of_ble_eq_true rfl)⟩) hS (by omega) (fun _ _ _ _ _ h => h.elim) (fun r4 H3 locs hq hF hS => ?_)
  have hXW := hXW.fr hF (by omega)
  have hOJ := hOJ.fr hF (by omega)
  have hV := hV.fr hF (by omega)
  obtain ⟨t, hRt, hVt, hMW⟩ := hq
  have hkt : r2 = t := rs3_u hR hRt
  subst hkt
  refine lv_istore (lv' := [(6, .int r4), (5, .int r2), (4, .int (nI i)), (3, .ref (y + 34)), (2, .ref y), (1, .ref b), (0, .ref b0)]) hx hb dL_law_1475 hl (by decide) rfl (fun ls hl => ?_)
  refine lv_aload_n hx hb dL_law_1477 rfl (lv_at hl 4 rfl) ?_
  refine x_goI_ro (x_runV (As := []) (rest := []) ⟨hx, hb, hml, hown, hts⟩ hE h0 hS (c_X3_thrown l G y (nI (sel r2 L L).length) r2 H3 hMW.O) (cwV 0 hts gL_law_X3_thrown rfl rfl rfl (by decide +kernel) ⟨Nat.le_of_ble_eq_true rfl, Nat.le_of_ble_eq_true rfl⟩) (gO.recv (C := RX3) hK hMW.O rfl) (by omega) rfl rfl hl.1 rfl (lv_room (Nat.le_of_ble_eq_true rfl)) dL_law_1478 ⟨Nat.le_trans (m := 846140) (by omega) (Nat.le_of_ble_eq_true rfl), Nat.le_trans (m := 6557685) (by omega) (Nat.le_of_ble_eq_true rfl)⟩) hS (by omega) (fun _ _ _ _ _ h => h.elim) (fun locs hq hS => ?_)
  refine lv_iload hx hb dL_law_1481 (lv_at hl 1 rfl) ?_
  refine lv_icmp_eq (tgt := 1488) hx hb dL_law_1483 (by decide) (fun c1483 => ?_) (fun c1483 => ?_)
  · refine lv_iload hx hb dL_law_1488 (lv_at hl 1 rfl) ?_
    refine lv_if_ne (tgt := 1512) hx hb dL_law_1490 (by decide) (fun c1490 => ?_) (fun c1490 => ?_)
    · refine lv_goto (tgt := 1817) hx hb dL_law_1512 (by decide) ?_
      exact kk H3 _ (sel r2 L L) (sel r2 (up txt (ix (xs (i + 3))) (txt (ix (xs (i + 1))) ++ [46] ++ dg (ix (xs (i + 2))))) txt) r2 _ _ ls hXW hMW hOJ hS (by omega) (by omega) (lv_sub hl [2, 3, 4, 5, 6] rfl)
    · obtain ⟨fo2, hOut2, hv2⟩ := hV c1490
      refine lv_aload_n hx hb dL_law_1493 rfl (lv_at hl 3 rfl) ?_
      refine lv_iconst (v := nI 0) hx hb dL_law_1494 (by decide) ?_
      refine x_lald hx hb hK hOut2 (by omega) (by decide) dL_law_1495 ?_
      refine x_rwl (z := (bI (decide (0 < ordr (txt (ix (xs (i + 1))) ++ [46] ++ dg (ix (xs (i + 2)))) (txt (ix (xs (i + 1))))))).toInt64) hv2 ?_
      refine lv_iload hx hb dL_law_1496 (lv_at hl 0 rfl) ?_
      refine x_rw (z := bI (decide (0 < ordr (txt (ix (xs (i + 1))) ++ [46] ++ dg (ix (xs (i + 2)))) (txt (ix (xs (i + 1))))))) (hVt c1490) ?_
      refine x_if_eqB (tgt := 1505) hx hb dL_law_1498 (by decide) (fun c1498 => ?_) (fun c1498 => ?_)
      · refine lv_lconst (v := 0) hx hb dL_law_1505 (by decide) ?_
        refine x_rwl (z := (bI (decide (0 < ordr (txt (ix (xs (i + 1))) ++ [46] ++ dg (ix (xs (i + 2)))) (txt (ix (xs (i + 1))))))).toInt64) (by rw [c1498]; exact bJ_f) ?_
        refine x_lcmp0 hx hb dL_law_1506 ?_
        refine x_if_eqN (tgt := 1512) hx hb (by omega) dL_law_1507 (by decide) (fun c1507 => ?_) (fun c1507 => ?_)
        · refine lv_goto (tgt := 1817) hx hb dL_law_1512 (by decide) ?_
          exact kk H3 _ (sel r2 L L) (sel r2 (up txt (ix (xs (i + 3))) (txt (ix (xs (i + 1))) ++ [46] ++ dg (ix (xs (i + 2))))) txt) r2 _ _ ls hXW hMW hOJ hS (by omega) (by omega) (lv_sub hl [2, 3, 4, 5, 6] rfl)
        · exact absurd c1507 (by decide)
      · refine lv_lconst (v := 1) hx hb dL_law_1501 (by decide) ?_
        refine lv_goto (tgt := 1506) hx hb dL_law_1502 (by decide) ?_
        refine x_rwl (z := (bI (decide (0 < ordr (txt (ix (xs (i + 1))) ++ [46] ++ dg (ix (xs (i + 2)))) (txt (ix (xs (i + 1))))))).toInt64) (by rw [c1498]; exact bJ_t) ?_
        refine x_lcmp0 hx hb dL_law_1506 ?_
        refine x_if_eqN (tgt := 1512) hx hb (by omega) dL_law_1507 (by decide) (fun c1507 => ?_) (fun c1507 => ?_)
        · refine lv_goto (tgt := 1817) hx hb dL_law_1512 (by decide) ?_
          exact kk H3 _ (sel r2 L L) (sel r2 (up txt (ix (xs (i + 3))) (txt (ix (xs (i + 1))) ++ [46] ++ dg (ix (xs (i + 2))))) txt) r2 _ _ ls hXW hMW hOJ hS (by omega) (by omega) (lv_sub hl [2, 3, 4, 5, 6] rfl)
        · exact absurd c1507 (by decide)
  · exact absurd rfl c1483

set_option maxHeartbeats 4000000 in
set_option maxRecDepth 100000 in
theorem k_early {p : Program} {l : Launch} {e : Env} {s : State} {m : MethodId} {args : Array Value} {below : List Frame} {meth : Method} {c : Code} {Q : State → Prop} {G : gG} {b0 n b y i : Nat} {xs : Nat → Int32} {H0 H : Heap} {locs : List Loc} {L : List Nat} {txt : Nat → List Nat} {th : Int32} {cs ss : Nat} {ls : Array Slot} (hC : LC p l s m args c G b0 n xs H0) (hb0 : H0.size ≤ b) (hby : b + 115 ≤ y) (hi : i + 5 ≤ n) (hn : n ≤ 2560) (hXW : XW G b L txt H) (hMW : MW G y L txt th H) (hOJ : OJ G (y + 34) H) (hS : va_S (gA 0 0 H0.size) H0 H locs) (hcs : cs ≤ 844000) (hss : ss ≤ 6540000) (hl : lv_has ls 9 [(4, .int (nI i)), (3, .ref (y + 34)), (2, .ref y), (1, .ref b), (0, .ref b0)])
    (kk : ∀ (H1 : Heap) (locs1 : List Loc) (L1 : List Nat) (t1 : Nat → List Nat) (th1 : Int32) (cs1 ss1 : Nat) (ls1 : Array Slot), XW G b L1 t1 H1 → MW G y L1 t1 th1 H1 → OJ G (y + 34) H1 → va_S (gA 0 0 H0.size) H0 H1 locs1 → cs1 ≤ cs + 1600 → ss1 ≤ ss + 12000 → lv_has ls1 9 [(4, .int (nI i)), (3, .ref (y + 34)), (2, .ref y), (1, .ref b), (0, .ref b0)] → W p l e room_1 s m args below meth c H1 locs1 cs1 ss1 Q (F0 m 1817 ls1 [])) : W p l e room_1 s m args below meth c H locs cs ss Q (F0 m 1515 ls []) := by
  obtain ⟨hx, hb, hml, hown, hts, hXs, hbl, h0, hE, hX⟩ := hC
  have hK := hE.1
  have hgs := hMW.gs
  refine lv_aload_n hx hb dL_law_1515 rfl (lv_at hl 3 rfl) ?_
  refine lv_aload_n hx hb dL_law_1516 rfl (lv_at hl 4 rfl) ?_
  refine lv_iload hx hb dL_law_1517 (lv_at hl 0 rfl) ?_
  refine lv_iconst (v := nI 1) hx hb dL_law_1519 (by decide) ?_
  refine lv_iadd hx hb dL_law_1520 ?_
  refine x_rw (z := nI (i + 1)) (nI_add _ _) ?_
  refine x_sld hx hb hXs hbl hS (by omega) (by omega) dL_law_1521 ?_
  refine lv_aload_n hx hb dL_law_1522 rfl (lv_at hl 4 rfl) ?_
  refine lv_iload hx hb dL_law_1523 (lv_at hl 0 rfl) ?_
  refine lv_iconst (v := nI 2) hx hb dL_law_1525 (by decide) ?_
  refine lv_iadd hx hb dL_law_1526 ?_
  refine x_rw (z := nI (i + 2)) (nI_add _ _) ?_
  refine x_sld hx hb hXs hbl hS (by omega) (by omega) dL_law_1527 ?_
  refine lv_i2c (v := (nI (chn (xs (i + 2))))) hx hb dL_law_1528 (chn_i2c _) ?_
  refine lv_aload_n hx hb dL_law_1529 rfl (lv_at hl 4 rfl) ?_
  refine lv_iload hx hb dL_law_1530 (lv_at hl 0 rfl) ?_
  refine lv_iconst (v := nI 3) hx hb dL_law_1532 (by decide) ?_
  refine lv_iadd hx hb dL_law_1533 ?_
  refine x_rw (z := nI (i + 3)) (nI_add _ _) ?_
  refine x_sld hx hb hXs hbl hS (by omega) (by omega) dL_law_1534 ?_
  refine lv_aload_n hx hb dL_law_1535 rfl (lv_at hl 1 rfl) ?_
  obtain ⟨fo, hOut⟩ := id hOJ
  refine x_goI (x_runSL (As := [.ref b, .int (xs (i + 1)), .int (nI (chn (xs (i + 2)))), .int (xs (i + 3)), .ref (y + 34)]) (rest := []) ⟨hx, hb, hml, hown, hts⟩ hE hX h0 hS (c_L_early l G b y L txt L txt th fo hby (xs (i + 1)) (chn (xs (i + 2))) (chn_lt (xs (i + 2))) (xs (i + 3)) H hXW hMW hOut) (vx_cwSW 5 hts gL_law_L_early rfl rfl rfl (by decide +kernel) ⟨Nat.le_of_ble_eq_true rfl, Nat.le_of_ble_eq_true rfl⟩) (by omega) rfl rfl hl.1 rfl (lv_room (Nat.le_of_ble_eq_true rfl)) dL_law_1536 ⟨Nat.le_trans (m := 846140) (by omega) (Nat.le_of_ble_eq_true rfl), Nat.le_trans (m := 6557685) (by omega) (Nat.le_of_ble_eq_true rfl)⟩) hS (by omega) (fun _ _ _ _ _ h => h.elim) (fun r2 H1 locs hq hF hS => ?_)
  obtain ⟨⟨hR, hV, hXW⟩, hMW, hOJ⟩ := hq
  replace hV : OVk r2 G (y + 34) (bI (decide (ordr (txt (ix (xs (i + 1))) ++ [45] ++ [(chn (xs (i + 2)))]) (txt (ix (xs (i + 1)))) < 0))).toInt64 H1 := hV
  refine lv_istore (lv' := [(5, .int r2), (4, .int (nI i)), (3, .ref (y + 34)), (2, .ref y), (1, .ref b), (0, .ref b0)]) hx hb dL_law_1539 hl (by decide) rfl (fun ls hl => ?_)
  refine lv_aload_n hx hb dL_law_1541 rfl (lv_at hl 3 rfl) ?_
  refine lv_aload_n hx hb dL_law_1542 rfl (lv_at hl 5 rfl) ?_
  refine lv_iload hx hb dL_law_1543 (lv_at hl 1 rfl) ?_
  refine lv_iconst (v := nI 1) hx hb dL_law_1545 (by decide) ?_
  refine lv_iadd hx hb dL_law_1546 ?_
  refine x_rw (z := nI (i + 1)) (nI_add _ _) ?_
  refine x_sld hx hb hXs hbl hS (by omega) (by omega) dL_law_1547 ?_
  refine lv_aload_n hx hb dL_law_1548 rfl (lv_at hl 5 rfl) ?_
  refine lv_iload hx hb dL_law_1549 (lv_at hl 1 rfl) ?_
  refine lv_iconst (v := nI 2) hx hb dL_law_1551 (by decide) ?_
  refine lv_iadd hx hb dL_law_1552 ?_
  refine x_rw (z := nI (i + 2)) (nI_add _ _) ?_
  refine x_sld hx hb hXs hbl hS (by omega) (by omega) dL_law_1553 ?_
  refine lv_i2c (v := (nI (chn (xs (i + 2))))) hx hb dL_law_1554 (chn_i2c _) ?_
  refine lv_aload_n hx hb dL_law_1555 rfl (lv_at hl 5 rfl) ?_
  refine lv_iload hx hb dL_law_1556 (lv_at hl 1 rfl) ?_
  refine lv_iconst (v := nI 3) hx hb dL_law_1558 (by decide) ?_
  refine lv_iadd hx hb dL_law_1559 ?_
  refine x_rw (z := nI (i + 3)) (nI_add _ _) ?_
  refine x_sld hx hb hXs hbl hS (by omega) (by omega) dL_law_1560 ?_
  refine x_goI (x_runV (As := [.int (xs (i + 1)), .int (nI (chn (xs (i + 2)))), .int (xs (i + 3))]) (rest := []) ⟨hx, hb, hml, hown, hts⟩ hE h0 hS (c_X3_early l G y L txt th (xs (i + 1)) (chn (xs (i + 2))) (chn_lt (xs (i + 2))) (xs (i + 3)) H1 hMW) (cwV 3 hts gL_law_X3_early rfl rfl rfl (by decide +kernel) ⟨Nat.le_of_ble_eq_true rfl, Nat.le_of_ble_eq_true rfl⟩) (gO.recv (C := RX3) hK hMW.O rfl) (by omega) rfl rfl hl.1 rfl (lv_room (Nat.le_of_ble_eq_true rfl)) dL_law_1561 ⟨Nat.le_trans (m := 846140) (by omega) (Nat.le_of_ble_eq_true rfl), Nat.le_trans (m := 6557685) (by omega) (Nat.le_of_ble_eq_true rfl)⟩) hS (by omega) (fun _ _ _ _ _ h => h.elim) (fun r4 H3 locs hq hF hS => ?_)
  have hXW := hXW.fr hF (by omega)
  have hOJ := hOJ.fr hF (by omega)
  have hV := hV.fr hF (by omega)
  obtain ⟨t, hRt, hVt, hMW⟩ := hq
  have hkt : r2 = t := rs3_u hR hRt
  subst hkt
  refine lv_istore (lv' := [(6, .int r4), (5, .int r2), (4, .int (nI i)), (3, .ref (y + 34)), (2, .ref y), (1, .ref b), (0, .ref b0)]) hx hb dL_law_1564 hl (by decide) rfl (fun ls hl => ?_)
  refine lv_aload_n hx hb dL_law_1566 rfl (lv_at hl 4 rfl) ?_
  refine x_goI_ro (x_runV (As := []) (rest := []) ⟨hx, hb, hml, hown, hts⟩ hE h0 hS (c_X3_thrown l G y (nI (sel r2 L L).length) r2 H3 hMW.O) (cwV 0 hts gL_law_X3_thrown rfl rfl rfl (by decide +kernel) ⟨Nat.le_of_ble_eq_true rfl, Nat.le_of_ble_eq_true rfl⟩) (gO.recv (C := RX3) hK hMW.O rfl) (by omega) rfl rfl hl.1 rfl (lv_room (Nat.le_of_ble_eq_true rfl)) dL_law_1567 ⟨Nat.le_trans (m := 846140) (by omega) (Nat.le_of_ble_eq_true rfl), Nat.le_trans (m := 6557685) (by omega) (Nat.le_of_ble_eq_true rfl)⟩) hS (by omega) (fun _ _ _ _ _ h => h.elim) (fun locs hq hS => ?_)
  refine lv_iload hx hb dL_law_1570 (lv_at hl 1 rfl) ?_
  refine lv_icmp_eq (tgt := 1577) hx hb dL_law_1572 (by decide) (fun c1572 => ?_) (fun c1572 => ?_)
  · refine lv_iload hx hb dL_law_1577 (lv_at hl 1 rfl) ?_
    refine lv_if_ne (tgt := 1601) hx hb dL_law_1579 (by decide) (fun c1579 => ?_) (fun c1579 => ?_)
    · refine lv_goto (tgt := 1817) hx hb dL_law_1601 (by decide) ?_
      exact kk H3 _ (sel r2 L L) (sel r2 (up txt (ix (xs (i + 3))) (txt (ix (xs (i + 1))) ++ [45] ++ [(chn (xs (i + 2)))])) txt) r2 _ _ ls hXW hMW hOJ hS (by omega) (by omega) (lv_sub hl [2, 3, 4, 5, 6] rfl)
    · obtain ⟨fo2, hOut2, hv2⟩ := hV c1579
      refine lv_aload_n hx hb dL_law_1582 rfl (lv_at hl 3 rfl) ?_
      refine lv_iconst (v := nI 0) hx hb dL_law_1583 (by decide) ?_
      refine x_lald hx hb hK hOut2 (by omega) (by decide) dL_law_1584 ?_
      refine x_rwl (z := (bI (decide (ordr (txt (ix (xs (i + 1))) ++ [45] ++ [(chn (xs (i + 2)))]) (txt (ix (xs (i + 1)))) < 0))).toInt64) hv2 ?_
      refine lv_iload hx hb dL_law_1585 (lv_at hl 0 rfl) ?_
      refine x_rw (z := bI (decide (ordr (txt (ix (xs (i + 1))) ++ [45] ++ [(chn (xs (i + 2)))]) (txt (ix (xs (i + 1)))) < 0))) (hVt c1579) ?_
      refine x_if_eqB (tgt := 1594) hx hb dL_law_1587 (by decide) (fun c1587 => ?_) (fun c1587 => ?_)
      · refine lv_lconst (v := 0) hx hb dL_law_1594 (by decide) ?_
        refine x_rwl (z := (bI (decide (ordr (txt (ix (xs (i + 1))) ++ [45] ++ [(chn (xs (i + 2)))]) (txt (ix (xs (i + 1)))) < 0))).toInt64) (by rw [c1587]; exact bJ_f) ?_
        refine x_lcmp0 hx hb dL_law_1595 ?_
        refine x_if_eqN (tgt := 1601) hx hb (by omega) dL_law_1596 (by decide) (fun c1596 => ?_) (fun c1596 => ?_)
        · refine lv_goto (tgt := 1817) hx hb dL_law_1601 (by decide) ?_
          exact kk H3 _ (sel r2 L L) (sel r2 (up txt (ix (xs (i + 3))) (txt (ix (xs (i + 1))) ++ [45] ++ [(chn (xs (i + 2)))])) txt) r2 _ _ ls hXW hMW hOJ hS (by omega) (by omega) (lv_sub hl [2, 3, 4, 5, 6] rfl)
        · exact absurd c1596 (by decide)
      · refine lv_lconst (v := 1) hx hb dL_law_1590 (by decide) ?_
        refine lv_goto (tgt := 1595) hx hb dL_law_1591 (by decide) ?_
        refine x_rwl (z := (bI (decide (ordr (txt (ix (xs (i + 1))) ++ [45] ++ [(chn (xs (i + 2)))]) (txt (ix (xs (i + 1)))) < 0))).toInt64) (by rw [c1587]; exact bJ_t) ?_
        refine x_lcmp0 hx hb dL_law_1595 ?_
        refine x_if_eqN (tgt := 1601) hx hb (by omega) dL_law_1596 (by decide) (fun c1596 => ?_) (fun c1596 => ?_)
        · refine lv_goto (tgt := 1817) hx hb dL_law_1601 (by decide) ?_
          exact kk H3 _ (sel r2 L L) (sel r2 (up txt (ix (xs (i + 3))) (txt (ix (xs (i + 1))) ++ [45] ++ [(chn (xs (i + 2)))])) txt) r2 _ _ ls hXW hMW hOJ hS (by omega) (by omega) (lv_sub hl [2, 3, 4, 5, 6] rfl)
        · exact absurd c1596 (by decide)
  · exact absurd rfl c1572

set_option maxHeartbeats 4000000 in
set_option maxRecDepth 100000 in
theorem k_built {p : Program} {l : Launch} {e : Env} {s : State} {m : MethodId} {args : Array Value} {below : List Frame} {meth : Method} {c : Code} {Q : State → Prop} {G : gG} {b0 n b y i : Nat} {xs : Nat → Int32} {H0 H : Heap} {locs : List Loc} {L : List Nat} {txt : Nat → List Nat} {th : Int32} {cs ss : Nat} {ls : Array Slot} (hC : LC p l s m args c G b0 n xs H0) (hb0 : H0.size ≤ b) (hby : b + 115 ≤ y) (hi : i + 5 ≤ n) (hn : n ≤ 2560) (hXW : XW G b L txt H) (hMW : MW G y L txt th H) (hOJ : OJ G (y + 34) H) (hS : va_S (gA 0 0 H0.size) H0 H locs) (hcs : cs ≤ 844000) (hss : ss ≤ 6540000) (hl : lv_has ls 9 [(4, .int (nI i)), (3, .ref (y + 34)), (2, .ref y), (1, .ref b), (0, .ref b0)])
    (kk : ∀ (H1 : Heap) (locs1 : List Loc) (L1 : List Nat) (t1 : Nat → List Nat) (th1 : Int32) (cs1 ss1 : Nat) (ls1 : Array Slot), XW G b L1 t1 H1 → MW G y L1 t1 th1 H1 → OJ G (y + 34) H1 → va_S (gA 0 0 H0.size) H0 H1 locs1 → cs1 ≤ cs + 1600 → ss1 ≤ ss + 12000 → lv_has ls1 9 [(4, .int (nI i)), (3, .ref (y + 34)), (2, .ref y), (1, .ref b), (0, .ref b0)] → W p l e room_1 s m args below meth c H1 locs1 cs1 ss1 Q (F0 m 1817 ls1 [])) : W p l e room_1 s m args below meth c H locs cs ss Q (F0 m 1604 ls []) := by
  obtain ⟨hx, hb, hml, hown, hts, hXs, hbl, h0, hE, hX⟩ := hC
  have hK := hE.1
  have hgs := hMW.gs
  refine lv_aload_n hx hb dL_law_1604 rfl (lv_at hl 3 rfl) ?_
  refine lv_aload_n hx hb dL_law_1605 rfl (lv_at hl 4 rfl) ?_
  refine lv_iload hx hb dL_law_1606 (lv_at hl 0 rfl) ?_
  refine lv_iconst (v := nI 1) hx hb dL_law_1608 (by decide) ?_
  refine lv_iadd hx hb dL_law_1609 ?_
  refine x_rw (z := nI (i + 1)) (nI_add _ _) ?_
  refine x_sld hx hb hXs hbl hS (by omega) (by omega) dL_law_1610 ?_
  refine lv_aload_n hx hb dL_law_1611 rfl (lv_at hl 4 rfl) ?_
  refine lv_iload hx hb dL_law_1612 (lv_at hl 0 rfl) ?_
  refine lv_iconst (v := nI 2) hx hb dL_law_1614 (by decide) ?_
  refine lv_iadd hx hb dL_law_1615 ?_
  refine x_rw (z := nI (i + 2)) (nI_add _ _) ?_
  refine x_sld hx hb hXs hbl hS (by omega) (by omega) dL_law_1616 ?_
  refine lv_aload_n hx hb dL_law_1617 rfl (lv_at hl 4 rfl) ?_
  refine lv_iload hx hb dL_law_1618 (lv_at hl 0 rfl) ?_
  refine lv_iconst (v := nI 3) hx hb dL_law_1620 (by decide) ?_
  refine lv_iadd hx hb dL_law_1621 ?_
  refine x_rw (z := nI (i + 3)) (nI_add _ _) ?_
  refine x_sld hx hb hXs hbl hS (by omega) (by omega) dL_law_1622 ?_
  refine lv_aload_n hx hb dL_law_1623 rfl (lv_at hl 1 rfl) ?_
  obtain ⟨fo, hOut⟩ := id hOJ
  refine x_goI (x_runSL (As := [.ref b, .int (xs (i + 1)), .int (xs (i + 2)), .int (xs (i + 3)), .ref (y + 34)]) (rest := []) ⟨hx, hb, hml, hown, hts⟩ hE hX h0 hS (c_L_built l G b y L txt L txt th fo hby (xs (i + 1)) (xs (i + 2)) (xs (i + 3)) H hXW hMW hOut) (vx_cwSW 5 hts gL_law_L_built rfl rfl rfl (by decide +kernel) ⟨Nat.le_of_ble_eq_true rfl, Nat.le_of_ble_eq_true rfl⟩) (by omega) rfl rfl hl.1 rfl (lv_room (Nat.le_of_ble_eq_true rfl)) dL_law_1624 ⟨Nat.le_trans (m := 846140) (by omega) (Nat.le_of_ble_eq_true rfl), Nat.le_trans (m := 6557685) (by omega) (Nat.le_of_ble_eq_true rfl)⟩) hS (by omega) (fun _ _ _ _ _ h => h.elim) (fun r2 H1 locs hq hF hS => ?_)
  obtain ⟨⟨hR, hV, hXW⟩, hMW, hOJ⟩ := hq
  replace hV : OVk r2 G (y + 34) (ordr (txt (ix (xs (i + 1))) ++ [43] ++ dg (ix (xs (i + 2)))) (txt (ix (xs (i + 1))))).toInt64 H1 := hV
  refine lv_istore (lv' := [(5, .int r2), (4, .int (nI i)), (3, .ref (y + 34)), (2, .ref y), (1, .ref b), (0, .ref b0)]) hx hb dL_law_1627 hl (by decide) rfl (fun ls hl => ?_)
  refine lv_aload_n hx hb dL_law_1629 rfl (lv_at hl 3 rfl) ?_
  refine lv_aload_n hx hb dL_law_1630 rfl (lv_at hl 5 rfl) ?_
  refine lv_iload hx hb dL_law_1631 (lv_at hl 1 rfl) ?_
  refine lv_iconst (v := nI 1) hx hb dL_law_1633 (by decide) ?_
  refine lv_iadd hx hb dL_law_1634 ?_
  refine x_rw (z := nI (i + 1)) (nI_add _ _) ?_
  refine x_sld hx hb hXs hbl hS (by omega) (by omega) dL_law_1635 ?_
  refine lv_aload_n hx hb dL_law_1636 rfl (lv_at hl 5 rfl) ?_
  refine lv_iload hx hb dL_law_1637 (lv_at hl 1 rfl) ?_
  refine lv_iconst (v := nI 2) hx hb dL_law_1639 (by decide) ?_
  refine lv_iadd hx hb dL_law_1640 ?_
  refine x_rw (z := nI (i + 2)) (nI_add _ _) ?_
  refine x_sld hx hb hXs hbl hS (by omega) (by omega) dL_law_1641 ?_
  refine lv_aload_n hx hb dL_law_1642 rfl (lv_at hl 5 rfl) ?_
  refine lv_iload hx hb dL_law_1643 (lv_at hl 1 rfl) ?_
  refine lv_iconst (v := nI 3) hx hb dL_law_1645 (by decide) ?_
  refine lv_iadd hx hb dL_law_1646 ?_
  refine x_rw (z := nI (i + 3)) (nI_add _ _) ?_
  refine x_sld hx hb hXs hbl hS (by omega) (by omega) dL_law_1647 ?_
  refine x_goI (x_runV (As := [.int (xs (i + 1)), .int (xs (i + 2)), .int (xs (i + 3))]) (rest := []) ⟨hx, hb, hml, hown, hts⟩ hE h0 hS (c_X3_built l G y L txt th (xs (i + 1)) (xs (i + 2)) (xs (i + 3)) H1 hMW) (cwV 3 hts gL_law_X3_built rfl rfl rfl (by decide +kernel) ⟨Nat.le_of_ble_eq_true rfl, Nat.le_of_ble_eq_true rfl⟩) (gO.recv (C := RX3) hK hMW.O rfl) (by omega) rfl rfl hl.1 rfl (lv_room (Nat.le_of_ble_eq_true rfl)) dL_law_1648 ⟨Nat.le_trans (m := 846140) (by omega) (Nat.le_of_ble_eq_true rfl), Nat.le_trans (m := 6557685) (by omega) (Nat.le_of_ble_eq_true rfl)⟩) hS (by omega) (fun _ _ _ _ _ h => h.elim) (fun r4 H3 locs hq hF hS => ?_)
  have hXW := hXW.fr hF (by omega)
  have hOJ := hOJ.fr hF (by omega)
  have hV := hV.fr hF (by omega)
  obtain ⟨t, hRt, hVt, hMW⟩ := hq
  have hkt : r2 = t := rs3_u hR hRt
  subst hkt
  refine lv_istore (lv' := [(6, .int r4), (5, .int r2), (4, .int (nI i)), (3, .ref (y + 34)), (2, .ref y), (1, .ref b), (0, .ref b0)]) hx hb dL_law_1651 hl (by decide) rfl (fun ls hl => ?_)
  refine lv_aload_n hx hb dL_law_1653 rfl (lv_at hl 4 rfl) ?_
  refine x_goI_ro (x_runV (As := []) (rest := []) ⟨hx, hb, hml, hown, hts⟩ hE h0 hS (c_X3_thrown l G y (nI (sel r2 L L).length) r2 H3 hMW.O) (cwV 0 hts gL_law_X3_thrown rfl rfl rfl (by decide +kernel) ⟨Nat.le_of_ble_eq_true rfl, Nat.le_of_ble_eq_true rfl⟩) (gO.recv (C := RX3) hK hMW.O rfl) (by omega) rfl rfl hl.1 rfl (lv_room (Nat.le_of_ble_eq_true rfl)) dL_law_1654 ⟨Nat.le_trans (m := 846140) (by omega) (Nat.le_of_ble_eq_true rfl), Nat.le_trans (m := 6557685) (by omega) (Nat.le_of_ble_eq_true rfl)⟩) hS (by omega) (fun _ _ _ _ _ h => h.elim) (fun locs hq hS => ?_)
  refine lv_iload hx hb dL_law_1657 (lv_at hl 1 rfl) ?_
  refine lv_icmp_eq (tgt := 1664) hx hb dL_law_1659 (by decide) (fun c1659 => ?_) (fun c1659 => ?_)
  · refine lv_iload hx hb dL_law_1664 (lv_at hl 1 rfl) ?_
    refine lv_if_ne (tgt := 1681) hx hb dL_law_1666 (by decide) (fun c1666 => ?_) (fun c1666 => ?_)
    · refine lv_goto (tgt := 1817) hx hb dL_law_1681 (by decide) ?_
      exact kk H3 _ (sel r2 L L) (sel r2 (up txt (ix (xs (i + 3))) (txt (ix (xs (i + 1))) ++ [43] ++ dg (ix (xs (i + 2))))) txt) r2 _ _ ls hXW hMW hOJ hS (by omega) (by omega) (lv_sub hl [2, 3, 4, 5, 6] rfl)
    · obtain ⟨fo2, hOut2, hv2⟩ := hV c1666
      refine lv_aload_n hx hb dL_law_1669 rfl (lv_at hl 3 rfl) ?_
      refine lv_iconst (v := nI 0) hx hb dL_law_1670 (by decide) ?_
      refine x_lald hx hb hK hOut2 (by omega) (by decide) dL_law_1671 ?_
      refine x_rwl (z := (ordr (txt (ix (xs (i + 1))) ++ [43] ++ dg (ix (xs (i + 2)))) (txt (ix (xs (i + 1))))).toInt64) hv2 ?_
      refine lv_iload hx hb dL_law_1672 (lv_at hl 0 rfl) ?_
      refine lv_i2l hx hb dL_law_1674 rfl ?_
      refine x_rwl (z := (ordr (txt (ix (xs (i + 1))) ++ [43] ++ dg (ix (xs (i + 2)))) (txt (ix (xs (i + 1))))).toInt64) (by rw [hVt c1666]) ?_
      refine x_lcmp0 hx hb dL_law_1675 ?_
      refine x_if_eqN (tgt := 1681) hx hb (by omega) dL_law_1676 (by decide) (fun c1676 => ?_) (fun c1676 => ?_)
      · refine lv_goto (tgt := 1817) hx hb dL_law_1681 (by decide) ?_
        exact kk H3 _ (sel r2 L L) (sel r2 (up txt (ix (xs (i + 3))) (txt (ix (xs (i + 1))) ++ [43] ++ dg (ix (xs (i + 2))))) txt) r2 _ _ ls hXW hMW hOJ hS (by omega) (by omega) (lv_sub hl [2, 3, 4, 5, 6] rfl)
      · exact absurd c1676 (by decide)
  · exact absurd rfl c1659

set_option maxHeartbeats 4000000 in
set_option maxRecDepth 100000 in
theorem k_isHashed {p : Program} {l : Launch} {e : Env} {s : State} {m : MethodId} {args : Array Value} {below : List Frame} {meth : Method} {c : Code} {Q : State → Prop} {G : gG} {b0 n b y i : Nat} {xs : Nat → Int32} {H0 H : Heap} {locs : List Loc} {L : List Nat} {txt : Nat → List Nat} {th : Int32} {cs ss : Nat} {ls : Array Slot} (hC : LC p l s m args c G b0 n xs H0) (hb0 : H0.size ≤ b) (hby : b + 115 ≤ y) (hi : i + 5 ≤ n) (hn : n ≤ 2560) (hXW : XW G b L txt H) (hMW : MW G y L txt th H) (hOJ : OJ G (y + 34) H) (hS : va_S (gA 0 0 H0.size) H0 H locs) (hcs : cs ≤ 844000) (hss : ss ≤ 6540000) (hl : lv_has ls 9 [(4, .int (nI i)), (3, .ref (y + 34)), (2, .ref y), (1, .ref b), (0, .ref b0)])
    (kk : ∀ (H1 : Heap) (locs1 : List Loc) (L1 : List Nat) (t1 : Nat → List Nat) (th1 : Int32) (cs1 ss1 : Nat) (ls1 : Array Slot), XW G b L1 t1 H1 → MW G y L1 t1 th1 H1 → OJ G (y + 34) H1 → va_S (gA 0 0 H0.size) H0 H1 locs1 → cs1 ≤ cs + 1600 → ss1 ≤ ss + 12000 → lv_has ls1 9 [(4, .int (nI i)), (3, .ref (y + 34)), (2, .ref y), (1, .ref b), (0, .ref b0)] → W p l e room_1 s m args below meth c H1 locs1 cs1 ss1 Q (F0 m 1817 ls1 [])) : W p l e room_1 s m args below meth c H locs cs ss Q (F0 m 1684 ls []) := by
  obtain ⟨hx, hb, hml, hown, hts, hXs, hbl, h0, hE, hX⟩ := hC
  have hK := hE.1
  have hgs := hMW.gs
  refine lv_aload_n hx hb dL_law_1684 rfl (lv_at hl 3 rfl) ?_
  refine lv_aload_n hx hb dL_law_1685 rfl (lv_at hl 4 rfl) ?_
  refine lv_iload hx hb dL_law_1686 (lv_at hl 0 rfl) ?_
  refine lv_iconst (v := nI 1) hx hb dL_law_1688 (by decide) ?_
  refine lv_iadd hx hb dL_law_1689 ?_
  refine x_rw (z := nI (i + 1)) (nI_add _ _) ?_
  refine x_sld hx hb hXs hbl hS (by omega) (by omega) dL_law_1690 ?_
  refine lv_aload_n hx hb dL_law_1691 rfl (lv_at hl 1 rfl) ?_
  obtain ⟨fo, hOut⟩ := id hOJ
  refine x_goI (x_runSL (As := [.ref b, .int (xs (i + 1)), .ref (y + 34)]) (rest := []) ⟨hx, hb, hml, hown, hts⟩ hE hX h0 hS (c_L_isHashed l G b y L txt L txt th fo hby (xs (i + 1)) H hXW hMW hOut) (vx_cwSW 3 hts gL_law_L_isHashed rfl rfl rfl (by decide +kernel) ⟨Nat.le_of_ble_eq_true rfl, Nat.le_of_ble_eq_true rfl⟩) (by omega) rfl rfl hl.1 rfl (lv_room (Nat.le_of_ble_eq_true rfl)) dL_law_1692 ⟨Nat.le_trans (m := 846140) (by omega) (Nat.le_of_ble_eq_true rfl), Nat.le_trans (m := 6557685) (by omega) (Nat.le_of_ble_eq_true rfl)⟩) hS (by omega) (fun _ _ _ _ _ h => h.elim) (fun r2 H1 locs hq hF hS => ?_)
  obtain ⟨⟨hR, hV, hXW⟩, hMW, hOJ⟩ := hq
  replace hV : OVk r2 G (y + 34) (bI (true)).toInt64 H1 := hV
  refine lv_istore (lv' := [(5, .int r2), (4, .int (nI i)), (3, .ref (y + 34)), (2, .ref y), (1, .ref b), (0, .ref b0)]) hx hb dL_law_1695 hl (by decide) rfl (fun ls hl => ?_)
  refine lv_aload_n hx hb dL_law_1697 rfl (lv_at hl 3 rfl) ?_
  refine lv_aload_n hx hb dL_law_1698 rfl (lv_at hl 5 rfl) ?_
  refine lv_iload hx hb dL_law_1699 (lv_at hl 1 rfl) ?_
  refine lv_iconst (v := nI 1) hx hb dL_law_1701 (by decide) ?_
  refine lv_iadd hx hb dL_law_1702 ?_
  refine x_rw (z := nI (i + 1)) (nI_add _ _) ?_
  refine x_sld hx hb hXs hbl hS (by omega) (by omega) dL_law_1703 ?_
  refine x_goI (x_runV (As := [.int (xs (i + 1))]) (rest := []) ⟨hx, hb, hml, hown, hts⟩ hE h0 hS (c_X3_isHashed l G y L txt th (xs (i + 1)) H1 hMW) (cwV 1 hts gL_law_X3_isHashed rfl rfl rfl (by decide +kernel) ⟨Nat.le_of_ble_eq_true rfl, Nat.le_of_ble_eq_true rfl⟩) (gO.recv (C := RX3) hK hMW.O rfl) (by omega) rfl rfl hl.1 rfl (lv_room (Nat.le_of_ble_eq_true rfl)) dL_law_1704 ⟨Nat.le_trans (m := 846140) (by omega) (Nat.le_of_ble_eq_true rfl), Nat.le_trans (m := 6557685) (by omega) (Nat.le_of_ble_eq_true rfl)⟩) hS (by omega) (fun _ _ _ _ _ h => h.elim) (fun r4 H3 locs hq hF hS => ?_)
  have hXW := hXW.fr hF (by omega)
  have hOJ := hOJ.fr hF (by omega)
  have hV := hV.fr hF (by omega)
  obtain ⟨t, hRt, hVt, hMW⟩ := hq
  have hkt : r2 = t := rs1_u hR hRt
  subst hkt
  refine lv_istore (lv' := [(6, .int r4), (5, .int r2), (4, .int (nI i)), (3, .ref (y + 34)), (2, .ref y), (1, .ref b), (0, .ref b0)]) hx hb dL_law_1707 hl (by decide) rfl (fun ls hl => ?_)
  refine lv_aload_n hx hb dL_law_1709 rfl (lv_at hl 4 rfl) ?_
  refine x_goI_ro (x_runV (As := []) (rest := []) ⟨hx, hb, hml, hown, hts⟩ hE h0 hS (c_X3_thrown l G y (nI (sel r2 L L).length) r2 H3 hMW.O) (cwV 0 hts gL_law_X3_thrown rfl rfl rfl (by decide +kernel) ⟨Nat.le_of_ble_eq_true rfl, Nat.le_of_ble_eq_true rfl⟩) (gO.recv (C := RX3) hK hMW.O rfl) (by omega) rfl rfl hl.1 rfl (lv_room (Nat.le_of_ble_eq_true rfl)) dL_law_1710 ⟨Nat.le_trans (m := 846140) (by omega) (Nat.le_of_ble_eq_true rfl), Nat.le_trans (m := 6557685) (by omega) (Nat.le_of_ble_eq_true rfl)⟩) hS (by omega) (fun _ _ _ _ _ h => h.elim) (fun locs hq hS => ?_)
  refine lv_iload hx hb dL_law_1713 (lv_at hl 1 rfl) ?_
  refine lv_icmp_eq (tgt := 1720) hx hb dL_law_1715 (by decide) (fun c1715 => ?_) (fun c1715 => ?_)
  · refine lv_iload hx hb dL_law_1720 (lv_at hl 1 rfl) ?_
    refine lv_if_ne (tgt := 1744) hx hb dL_law_1722 (by decide) (fun c1722 => ?_) (fun c1722 => ?_)
    · refine lv_goto (tgt := 1817) hx hb dL_law_1744 (by decide) ?_
      exact kk H3 _ (sel r2 L L) (sel r2 txt txt) r2 _ _ ls hXW hMW hOJ hS (by omega) (by omega) (lv_sub hl [2, 3, 4, 5, 6] rfl)
    · obtain ⟨fo2, hOut2, hv2⟩ := hV c1722
      refine lv_aload_n hx hb dL_law_1725 rfl (lv_at hl 3 rfl) ?_
      refine lv_iconst (v := nI 0) hx hb dL_law_1726 (by decide) ?_
      refine x_lald hx hb hK hOut2 (by omega) (by decide) dL_law_1727 ?_
      refine x_rwl (z := (bI (true)).toInt64) hv2 ?_
      refine lv_iload hx hb dL_law_1728 (lv_at hl 0 rfl) ?_
      refine x_rw (z := bI (true)) (hVt c1722) ?_
      refine x_if_eqB (tgt := 1737) hx hb dL_law_1730 (by decide) (fun c1730 => ?_) (fun c1730 => ?_)
      · exact absurd c1730 (by decide)
      · refine lv_lconst (v := 1) hx hb dL_law_1733 (by decide) ?_
        refine lv_goto (tgt := 1738) hx hb dL_law_1734 (by decide) ?_
        refine x_rwl (z := (bI (true)).toInt64) (by rw [c1730]; exact bJ_t) ?_
        refine x_lcmp0 hx hb dL_law_1738 ?_
        refine x_if_eqN (tgt := 1744) hx hb (by omega) dL_law_1739 (by decide) (fun c1739 => ?_) (fun c1739 => ?_)
        · refine lv_goto (tgt := 1817) hx hb dL_law_1744 (by decide) ?_
          exact kk H3 _ (sel r2 L L) (sel r2 txt txt) r2 _ _ ls hXW hMW hOJ hS (by omega) (by omega) (lv_sub hl [2, 3, 4, 5, 6] rfl)
        · exact absurd c1739 (by decide)
  · exact absurd rfl c1715

set_option maxHeartbeats 4000000 in
set_option maxRecDepth 100000 in
theorem k_drop {p : Program} {l : Launch} {e : Env} {s : State} {m : MethodId} {args : Array Value} {below : List Frame} {meth : Method} {c : Code} {Q : State → Prop} {G : gG} {b0 n b y i : Nat} {xs : Nat → Int32} {H0 H : Heap} {locs : List Loc} {L : List Nat} {txt : Nat → List Nat} {th : Int32} {cs ss : Nat} {ls : Array Slot} (hC : LC p l s m args c G b0 n xs H0) (hb0 : H0.size ≤ b) (hby : b + 115 ≤ y) (hi : i + 5 ≤ n) (hn : n ≤ 2560) (hXW : XW G b L txt H) (hMW : MW G y L txt th H) (hOJ : OJ G (y + 34) H) (hS : va_S (gA 0 0 H0.size) H0 H locs) (hcs : cs ≤ 844000) (hss : ss ≤ 6540000) (hl : lv_has ls 9 [(4, .int (nI i)), (3, .ref (y + 34)), (2, .ref y), (1, .ref b), (0, .ref b0)])
    (kk : ∀ (H1 : Heap) (locs1 : List Loc) (L1 : List Nat) (t1 : Nat → List Nat) (th1 : Int32) (cs1 ss1 : Nat) (ls1 : Array Slot), XW G b L1 t1 H1 → MW G y L1 t1 th1 H1 → OJ G (y + 34) H1 → va_S (gA 0 0 H0.size) H0 H1 locs1 → cs1 ≤ cs + 1600 → ss1 ≤ ss + 12000 → lv_has ls1 9 [(4, .int (nI i)), (3, .ref (y + 34)), (2, .ref y), (1, .ref b), (0, .ref b0)] → W p l e room_1 s m args below meth c H1 locs1 cs1 ss1 Q (F0 m 1817 ls1 [])) : W p l e room_1 s m args below meth c H locs cs ss Q (F0 m 392 ls []) := by
  obtain ⟨hx, hb, hml, hown, hts, hXs, hbl, h0, hE, hX⟩ := hC
  have hK := hE.1
  have hgs := hMW.gs
  refine lv_aload_n hx hb dL_law_392 rfl (lv_at hl 3 rfl) ?_
  refine x_goI (x_runV (As := []) (rest := []) ⟨hx, hb, hml, hown, hts⟩ hE h0 hS (c_X2_drop l G b L txt H hXW) (cwV 0 hts gL_law_X2_drop rfl rfl rfl (by decide +kernel) ⟨Nat.le_of_ble_eq_true rfl, Nat.le_of_ble_eq_true rfl⟩) (hXW.recv hK) (by omega) rfl rfl hl.1 rfl (lv_room (Nat.le_of_ble_eq_true rfl)) dL_law_393 ⟨Nat.le_trans (m := 846140) (by omega) (Nat.le_of_ble_eq_true rfl), Nat.le_trans (m := 6557685) (by omega) (Nat.le_of_ble_eq_true rfl)⟩) hS (by omega) (fun _ _ _ _ _ h => h.elim) (fun r2 H1 locs hq hF hS => ?_)
  have hMW := hMW.fr hF (by omega)
  have hOJ := hOJ.fr hF (by omega)
  obtain ⟨rfl, hXW⟩ := hq
  refine lv_aload_n hx hb dL_law_396 rfl (lv_at hl 2 rfl) ?_
  refine x_goI (x_runV (As := []) (rest := [.int (nI L.length)]) ⟨hx, hb, hml, hown, hts⟩ hE h0 hS (c_X3_drop l G y L txt th H1 hMW) (cwV 0 hts gL_law_X3_drop rfl rfl rfl (by decide +kernel) ⟨Nat.le_of_ble_eq_true rfl, Nat.le_of_ble_eq_true rfl⟩) (gO.recv (C := RX3) hK hMW.O rfl) (by omega) rfl rfl hl.1 rfl (lv_room (Nat.le_of_ble_eq_true rfl)) dL_law_397 ⟨Nat.le_trans (m := 846140) (by omega) (Nat.le_of_ble_eq_true rfl), Nat.le_trans (m := 6557685) (by omega) (Nat.le_of_ble_eq_true rfl)⟩) hS (by omega) (fun _ _ _ _ _ h => h.elim) (fun r4 H3 locs hq hF hS => ?_)
  have hXW := hXW.fr hF (by omega)
  have hOJ := hOJ.fr hF (by omega)
  obtain ⟨rfl, hMW⟩ := hq
  refine lv_icmp_eq (tgt := 1817) hx hb dL_law_400 (by decide) (fun c400 => ?_) (fun c400 => ?_)
  · exact kk H3 _ ([]) txt 0 _ _ ls hXW hMW hOJ hS (by omega) (by omega) (lv_sub hl [0, 1, 2, 3, 4] rfl)
  · exact absurd rfl c400

set_option maxHeartbeats 4000000 in
set_option maxRecDepth 100000 in
theorem k_sort {p : Program} {l : Launch} {e : Env} {s : State} {m : MethodId} {args : Array Value} {below : List Frame} {meth : Method} {c : Code} {Q : State → Prop} {G : gG} {b0 n b y i : Nat} {xs : Nat → Int32} {H0 H : Heap} {locs : List Loc} {L : List Nat} {txt : Nat → List Nat} {th : Int32} {cs ss : Nat} {ls : Array Slot} (hC : LC p l s m args c G b0 n xs H0) (hb0 : H0.size ≤ b) (hby : b + 115 ≤ y) (hi : i + 5 ≤ n) (hn : n ≤ 2560) (hXW : XW G b L txt H) (hMW : MW G y L txt th H) (hOJ : OJ G (y + 34) H) (hS : va_S (gA 0 0 H0.size) H0 H locs) (hcs : cs ≤ 844000) (hss : ss ≤ 6540000) (hl : lv_has ls 9 [(4, .int (nI i)), (3, .ref (y + 34)), (2, .ref y), (1, .ref b), (0, .ref b0)])
    (kk : ∀ (H1 : Heap) (locs1 : List Loc) (L1 : List Nat) (t1 : Nat → List Nat) (th1 : Int32) (cs1 ss1 : Nat) (ls1 : Array Slot), XW G b L1 t1 H1 → MW G y L1 t1 th1 H1 → OJ G (y + 34) H1 → va_S (gA 0 0 H0.size) H0 H1 locs1 → cs1 ≤ cs + 1600 → ss1 ≤ ss + 12000 → lv_has ls1 9 [(4, .int (nI i)), (3, .ref (y + 34)), (2, .ref y), (1, .ref b), (0, .ref b0)] → W p l e room_1 s m args below meth c H1 locs1 cs1 ss1 Q (F0 m 1817 ls1 [])) : W p l e room_1 s m args below meth c H locs cs ss Q (F0 m 1272 ls []) := by
  obtain ⟨hx, hb, hml, hown, hts, hXs, hbl, h0, hE, hX⟩ := hC
  have hK := hE.1
  have hgs := hMW.gs
  refine lv_aload_n hx hb dL_law_1272 rfl (lv_at hl 3 rfl) ?_
  refine x_goI (x_runV (As := []) (rest := []) ⟨hx, hb, hml, hown, hts⟩ hE h0 hS (c_X2_sort l G b L txt H hXW) (cwV 0 hts gL_law_X2_sort rfl rfl rfl (by decide +kernel) ⟨Nat.le_of_ble_eq_true rfl, Nat.le_of_ble_eq_true rfl⟩) (hXW.recv hK) (by omega) rfl rfl hl.1 rfl (lv_room (Nat.le_of_ble_eq_true rfl)) dL_law_1273 ⟨Nat.le_trans (m := 846140) (by omega) (Nat.le_of_ble_eq_true rfl), Nat.le_trans (m := 6557685) (by omega) (Nat.le_of_ble_eq_true rfl)⟩) hS (by omega) (fun _ _ _ _ _ h => h.elim) (fun r2 H1 locs hq hF hS => ?_)
  have hMW := hMW.fr hF (by omega)
  have hOJ := hOJ.fr hF (by omega)
  obtain ⟨pm, hOS, hr1, hXW⟩ := hq
  refine x_rw (z := (nI (cntB (fun s => decide (plc txt s ≠ s)) 8))) (by rw [hr1, os_cnt hgs hOS]) ?_
  refine lv_aload_n hx hb dL_law_1276 rfl (lv_at hl 2 rfl) ?_
  refine x_goI (x_runV (As := []) (rest := [.int (nI (cntB (fun s => decide (plc txt s ≠ s)) 8))]) ⟨hx, hb, hml, hown, hts⟩ hE h0 hS (c_X3_sort l G y L txt th H1 hMW) (cwV 0 hts gL_law_X3_sort rfl rfl rfl (by decide +kernel) ⟨Nat.le_of_ble_eq_true rfl, Nat.le_of_ble_eq_true rfl⟩) (gO.recv (C := RX3) hK hMW.O rfl) (by omega) rfl rfl hl.1 rfl (lv_room (Nat.le_of_ble_eq_true rfl)) dL_law_1277 ⟨Nat.le_trans (m := 846140) (by omega) (Nat.le_of_ble_eq_true rfl), Nat.le_trans (m := 6557685) (by omega) (Nat.le_of_ble_eq_true rfl)⟩) hS (by omega) (fun _ _ _ _ _ h => h.elim) (fun r4 H3 locs hq hF hS => ?_)
  have hXW := hXW.fr hF (by omega)
  have hOJ := hOJ.fr hF (by omega)
  obtain ⟨hr2, pm2, hOS2, hMW⟩ := hq
  have hMW := hMW.congr (t2 := fun i => txt (pm i)) (fun i hi8 => by show txt (pm2 i) = txt (pm i); rw [os_uni hgs hOS2 hOS i hi8])
  refine x_rw (z := (nI (cntB (fun s => decide (plc txt s ≠ s)) 8))) hr2 ?_
  refine lv_icmp_eq (tgt := 1817) hx hb dL_law_1280 (by decide) (fun c1280 => ?_) (fun c1280 => ?_)
  · exact kk H3 _ L (fun i => txt (pm i)) 0 _ _ ls hXW hMW hOJ hS (by omega) (by omega) (lv_sub hl [0, 1, 2, 3, 4] rfl)
  · exact absurd rfl c1280

set_option maxHeartbeats 4000000 in
set_option maxRecDepth 100000 in
theorem k_wordShare {p : Program} {l : Launch} {e : Env} {s : State} {m : MethodId} {args : Array Value} {below : List Frame} {meth : Method} {c : Code} {Q : State → Prop} {G : gG} {b0 n b y i : Nat} {xs : Nat → Int32} {H0 H : Heap} {locs : List Loc} {L : List Nat} {txt : Nat → List Nat} {th : Int32} {cs ss : Nat} {ls : Array Slot} (hC : LC p l s m args c G b0 n xs H0) (hb0 : H0.size ≤ b) (hby : b + 115 ≤ y) (hi : i + 5 ≤ n) (hn : n ≤ 2560) (hXW : XW G b L txt H) (hMW : MW G y L txt th H) (hOJ : OJ G (y + 34) H) (hS : va_S (gA 0 0 H0.size) H0 H locs) (hcs : cs ≤ 844000) (hss : ss ≤ 6540000) (hl : lv_has ls 9 [(4, .int (nI i)), (3, .ref (y + 34)), (2, .ref y), (1, .ref b), (0, .ref b0)])
    (kk : ∀ (H1 : Heap) (locs1 : List Loc) (L1 : List Nat) (t1 : Nat → List Nat) (th1 : Int32) (cs1 ss1 : Nat) (ls1 : Array Slot), XW G b L1 t1 H1 → MW G y L1 t1 th1 H1 → OJ G (y + 34) H1 → va_S (gA 0 0 H0.size) H0 H1 locs1 → cs1 ≤ cs + 1600 → ss1 ≤ ss + 12000 → lv_has ls1 9 [(4, .int (nI i)), (3, .ref (y + 34)), (2, .ref y), (1, .ref b), (0, .ref b0)] → W p l e room_1 s m args below meth c H1 locs1 cs1 ss1 Q (F0 m 1817 ls1 [])) : W p l e room_1 s m args below meth c H locs cs ss Q (F0 m 1747 ls []) := by
  obtain ⟨hx, hb, hml, hown, hts, hXs, hbl, h0, hE, hX⟩ := hC
  have hK := hE.1
  have hgs := hMW.gs
  refine lv_aload_n hx hb dL_law_1747 rfl (lv_at hl 3 rfl) ?_
  refine x_goF_ro (x_runV (As := []) (rest := []) ⟨hx, hb, hml, hown, hts⟩ hE h0 hS (c_X2_wordShare l G b L txt H hXW) (cwV 0 hts gL_law_X2_wordShare rfl rfl rfl (by decide +kernel) ⟨Nat.le_of_ble_eq_true rfl, Nat.le_of_ble_eq_true rfl⟩) (hXW.recv hK) (by omega) rfl rfl hl.1 rfl (lv_room (Nat.le_of_ble_eq_true rfl)) dL_law_1748 ⟨Nat.le_trans (m := 846140) (by omega) (Nat.le_of_ble_eq_true rfl), Nat.le_trans (m := 6557685) (by omega) (Nat.le_of_ble_eq_true rfl)⟩) hS (by omega) (fun _ _ _ _ _ h => h.elim) (fun locs hq hS => ?_)
  refine lv_f2d hx hb dL_law_1751 (shr_ok hgs).2 ?_
  refine lv_dstore (lv' := [(5, .double (FP.f2d (shr txt))), (4, .int (nI i)), (3, .ref (y + 34)), (2, .ref y), (1, .ref b), (0, .ref b0)]) hx hb dL_law_1752 hl (by decide) rfl (fun ls hl => ?_)
  refine lv_aload_n hx hb dL_law_1754 rfl (lv_at hl 3 rfl) ?_
  refine x_goF (x_runV (As := []) (rest := []) ⟨hx, hb, hml, hown, hts⟩ hE h0 hS (c_X3_wordShare l G y L txt th H hMW) (cwV 0 hts gL_law_X3_wordShare rfl rfl rfl (by decide +kernel) ⟨Nat.le_of_ble_eq_true rfl, Nat.le_of_ble_eq_true rfl⟩) (gO.recv (C := RX3) hK hMW.O rfl) (by omega) rfl rfl hl.1 rfl (lv_room (Nat.le_of_ble_eq_true rfl)) dL_law_1755 ⟨Nat.le_trans (m := 846140) (by omega) (Nat.le_of_ble_eq_true rfl), Nat.le_trans (m := 6557685) (by omega) (Nat.le_of_ble_eq_true rfl)⟩) hS (by omega) (fun _ _ _ _ _ h => h.elim) (fun r3 H2 locs hq hF hS => ?_)
  have hXW := hXW.fr hF (by omega)
  have hOJ := hOJ.fr hF (by omega)
  obtain ⟨rfl, hMW⟩ := hq
  refine lv_f2d hx hb dL_law_1758 (shr_ok hgs).2 ?_
  refine lv_dstore (lv' := [(7, .double (FP.f2d (shr txt))), (5, .double (FP.f2d (shr txt))), (4, .int (nI i)), (3, .ref (y + 34)), (2, .ref y), (1, .ref b), (0, .ref b0)]) hx hb dL_law_1759 hl (by decide) rfl (fun ls hl => ?_)
  refine lv_dload hx hb dL_law_1761 (lv_at hl 1 rfl) ?_
  refine lv_dload hx hb dL_law_1763 (lv_at hl 0 rfl) ?_
  refine lv_dcmp hx hb dL_law_1765 ?_
  refine x_rw (z := nI 0) (dc_self (shr_nn hgs)) ?_
  refine x_if_eqN (tgt := 1787) hx hb (by omega) dL_law_1766 (by decide) (fun c1766 => ?_) (fun c1766 => ?_)
  · refine lv_goto (tgt := 1817) hx hb dL_law_1787 (by decide) ?_
    exact kk H2 _ L txt 0 _ _ ls hXW hMW hOJ hS (by omega) (by omega) (lv_sub hl [2, 3, 4, 5, 6] rfl)
  · exact absurd c1766 (by decide)

set_option maxHeartbeats 4000000 in
set_option maxRecDepth 100000 in
theorem k_checksum {p : Program} {l : Launch} {e : Env} {s : State} {m : MethodId} {args : Array Value} {below : List Frame} {meth : Method} {c : Code} {Q : State → Prop} {G : gG} {b0 n b y i : Nat} {xs : Nat → Int32} {H0 H : Heap} {locs : List Loc} {L : List Nat} {txt : Nat → List Nat} {th : Int32} {cs ss : Nat} {ls : Array Slot} (hC : LC p l s m args c G b0 n xs H0) (hb0 : H0.size ≤ b) (hby : b + 115 ≤ y) (hi : i + 5 ≤ n) (hn : n ≤ 2560) (hXW : XW G b L txt H) (hMW : MW G y L txt th H) (hOJ : OJ G (y + 34) H) (hS : va_S (gA 0 0 H0.size) H0 H locs) (hcs : cs ≤ 844000) (hss : ss ≤ 6540000) (hl : lv_has ls 9 [(4, .int (nI i)), (3, .ref (y + 34)), (2, .ref y), (1, .ref b), (0, .ref b0)])
    (kk : ∀ (H1 : Heap) (locs1 : List Loc) (L1 : List Nat) (t1 : Nat → List Nat) (th1 : Int32) (cs1 ss1 : Nat) (ls1 : Array Slot), XW G b L1 t1 H1 → MW G y L1 t1 th1 H1 → OJ G (y + 34) H1 → va_S (gA 0 0 H0.size) H0 H1 locs1 → cs1 ≤ cs + 1600 → ss1 ≤ ss + 12000 → lv_has ls1 9 [(4, .int (nI i)), (3, .ref (y + 34)), (2, .ref y), (1, .ref b), (0, .ref b0)] → W p l e room_1 s m args below meth c H1 locs1 cs1 ss1 Q (F0 m 1817 ls1 [])) : W p l e room_1 s m args below meth c H locs cs ss Q (F0 m 1790 ls []) := by
  obtain ⟨hx, hb, hml, hown, hts, hXs, hbl, h0, hE, hX⟩ := hC
  have hK := hE.1
  have hgs := hMW.gs
  refine lv_aload_n hx hb dL_law_1790 rfl (lv_at hl 3 rfl) ?_
  refine x_goL_ro (x_runV (As := []) (rest := []) ⟨hx, hb, hml, hown, hts⟩ hE h0 hS (c_X2_checksum l G b L txt H hXW) (cwV 0 hts gL_law_X2_checksum rfl rfl rfl (by decide +kernel) ⟨Nat.le_of_ble_eq_true rfl, Nat.le_of_ble_eq_true rfl⟩) (hXW.recv hK) (by omega) rfl rfl hl.1 rfl (lv_room (Nat.le_of_ble_eq_true rfl)) dL_law_1791 ⟨Nat.le_trans (m := 846140) (by omega) (Nat.le_of_ble_eq_true rfl), Nat.le_trans (m := 6557685) (by omega) (Nat.le_of_ble_eq_true rfl)⟩) hS (by omega) (fun _ _ _ _ _ h => h.elim) (fun locs hq hS => ?_)
  refine lv_aload_n hx hb dL_law_1794 rfl (lv_at hl 2 rfl) ?_
  refine x_goL (x_runV (As := []) (rest := [.long (chs txt (adl L 23 L.length) 8)]) ⟨hx, hb, hml, hown, hts⟩ hE h0 hS (c_X3_checksum l G y L txt th H hMW) (cwV 0 hts gL_law_X3_checksum rfl rfl rfl (by decide +kernel) ⟨Nat.le_of_ble_eq_true rfl, Nat.le_of_ble_eq_true rfl⟩) (gO.recv (C := RX3) hK hMW.O rfl) (by omega) rfl rfl hl.1 rfl (lv_room (Nat.le_of_ble_eq_true rfl)) dL_law_1795 ⟨Nat.le_trans (m := 846140) (by omega) (Nat.le_of_ble_eq_true rfl), Nat.le_trans (m := 6557685) (by omega) (Nat.le_of_ble_eq_true rfl)⟩) hS (by omega) (fun _ _ _ _ _ h => h.elim) (fun r3 H2 locs hq hF hS => ?_)
  have hXW := hXW.fr hF (by omega)
  have hOJ := hOJ.fr hF (by omega)
  obtain ⟨rfl, hMW⟩ := hq
  refine x_lcmp0 hx hb dL_law_1798 ?_
  refine x_if_eqN (tgt := 1817) hx hb (by omega) dL_law_1799 (by decide) (fun c1799 => ?_) (fun c1799 => ?_)
  · exact kk H2 _ L txt 0 _ _ ls hXW hMW hOJ hS (by omega) (by omega) (lv_sub hl [0, 1, 2, 3, 4] rfl)
  · exact absurd c1799 (by decide)

set_option maxHeartbeats 4000000 in
set_option maxRecDepth 100000 in
theorem k_isTrue {p : Program} {l : Launch} {e : Env} {s : State} {m : MethodId} {args : Array Value} {below : List Frame} {meth : Method} {c : Code} {Q : State → Prop} {G : gG} {b0 n b y i : Nat} {xs : Nat → Int32} {H0 H : Heap} {locs : List Loc} {L : List Nat} {txt : Nat → List Nat} {th : Int32} {cs ss : Nat} {ls : Array Slot} (hC : LC p l s m args c G b0 n xs H0) (hb0 : H0.size ≤ b) (hby : b + 115 ≤ y) (hi : i + 5 ≤ n) (hn : n ≤ 2560) (hXW : XW G b L txt H) (hMW : MW G y L txt th H) (hOJ : OJ G (y + 34) H) (hS : va_S (gA 0 0 H0.size) H0 H locs) (hcs : cs ≤ 844000) (hss : ss ≤ 6540000) (hl : lv_has ls 9 [(4, .int (nI i)), (3, .ref (y + 34)), (2, .ref y), (1, .ref b), (0, .ref b0)])
    (kk : ∀ (H1 : Heap) (locs1 : List Loc) (L1 : List Nat) (t1 : Nat → List Nat) (th1 : Int32) (cs1 ss1 : Nat) (ls1 : Array Slot), XW G b L1 t1 H1 → MW G y L1 t1 th1 H1 → OJ G (y + 34) H1 → va_S (gA 0 0 H0.size) H0 H1 locs1 → cs1 ≤ cs + 1600 → ss1 ≤ ss + 12000 → lv_has ls1 9 [(4, .int (nI i)), (3, .ref (y + 34)), (2, .ref y), (1, .ref b), (0, .ref b0)] → W p l e room_1 s m args below meth c H1 locs1 cs1 ss1 Q (F0 m 1817 ls1 [])) : W p l e room_1 s m args below meth c H locs cs ss Q (F0 m 1804 ls []) := by
  obtain ⟨hx, hb, hml, hown, hts, hXs, hbl, h0, hE, hX⟩ := hC
  have hK := hE.1
  have hgs := hMW.gs
  refine lv_aload_n hx hb dL_law_1804 rfl (lv_at hl 3 rfl) ?_
  refine x_goI (x_runV (As := []) (rest := []) ⟨hx, hb, hml, hown, hts⟩ hE h0 hS (c_X2_isTrue l G b L txt H hXW) (cwV 0 hts gL_law_X2_isTrue rfl rfl rfl (by decide +kernel) ⟨Nat.le_of_ble_eq_true rfl, Nat.le_of_ble_eq_true rfl⟩) (hXW.recv hK) (by omega) rfl rfl hl.1 rfl (lv_room (Nat.le_of_ble_eq_true rfl)) dL_law_1805 ⟨Nat.le_trans (m := 846140) (by omega) (Nat.le_of_ble_eq_true rfl), Nat.le_trans (m := 6557685) (by omega) (Nat.le_of_ble_eq_true rfl)⟩) hS (by omega) (fun _ _ _ _ _ h => h.elim) (fun r2 H1 locs hq hF hS => ?_)
  have hMW := hMW.fr hF (by omega)
  have hOJ := hOJ.fr hF (by omega)
  obtain ⟨rfl, hXW⟩ := hq
  refine lv_aload_n hx hb dL_law_1808 rfl (lv_at hl 2 rfl) ?_
  refine x_goI (x_runV (As := []) (rest := [.int (bI true)]) ⟨hx, hb, hml, hown, hts⟩ hE h0 hS (c_X3_isTrue l G y L txt th H1 hMW) (cwV 0 hts gL_law_X3_isTrue rfl rfl rfl (by decide +kernel) ⟨Nat.le_of_ble_eq_true rfl, Nat.le_of_ble_eq_true rfl⟩) (gO.recv (C := RX3) hK hMW.O rfl) (by omega) rfl rfl hl.1 rfl (lv_room (Nat.le_of_ble_eq_true rfl)) dL_law_1809 ⟨Nat.le_trans (m := 846140) (by omega) (Nat.le_of_ble_eq_true rfl), Nat.le_trans (m := 6557685) (by omega) (Nat.le_of_ble_eq_true rfl)⟩) hS (by omega) (fun _ _ _ _ _ h => h.elim) (fun r4 H3 locs hq hF hS => ?_)
  have hXW := hXW.fr hF (by omega)
  have hOJ := hOJ.fr hF (by omega)
  obtain ⟨rfl, hMW⟩ := hq
  refine lv_icmp_eq (tgt := 1817) hx hb dL_law_1812 (by decide) (fun c1812 => ?_) (fun c1812 => ?_)
  · exact kk H3 _ L txt 0 _ _ ls hXW hMW hOJ hS (by omega) (by omega) (lv_sub hl [0, 1, 2, 3, 4] rfl)
  · exact absurd rfl c1812

set_option maxHeartbeats 4000000 in
set_option maxRecDepth 100000 in
theorem k_start {p : Program} {l : Launch} {e : Env} {s : State} {m : MethodId} {args : Array Value} {below : List Frame} {meth : Method} {c : Code} {Q : State → Prop} {G : gG} {b0 n : Nat} {xs : Nat → Int32} {H0 : Heap} {ls : Array Slot} (hC : LC p l s m args c G b0 n xs H0) (h31 : (Cond.classLink RX3 31 "[[[I").before args s = true) (hl : lv_has ls 9 [(0, .ref b0)])
    (kk : ∀ (b : Nat) (H : Heap) (locs : List Loc) (cs ss : Nat) (ls : Array Slot), b = H0.size → XW G b [] (fun _ => [48]) H → MW G (b + 115) [] (fun _ => [48]) 0 H → OJ G (b + 115 + 34) H → va_S (gA 0 0 H0.size) H0 H locs → cs ≤ 200 → ss ≤ 6000 → lv_has ls 9 [(4, .int (nI 0)), (3, .ref (b + 115 + 34)), (2, .ref (b + 115)), (1, .ref b), (0, .ref b0)] → W p l e room_1 s m args below meth c H locs cs ss Q (F0 m 23 ls [])) : W p l e room_1 s m args below meth c H0 [] 0 0 Q (F0 m 0 ls []) := by
  obtain ⟨hx, hb, hml, hown, hts, hXs, hbl, h0, hE, hX⟩ := hC
  have hK := hE.1
  have hS : va_S (gA 0 0 H0.size) H0 H0 [] := va_S.rf
  obtain ⟨b, hbz⟩ : ∃ b, b = H0.size := ⟨_, rfl⟩
  have hts31 : ∀ w ∈ (.classLink RX3 31 "[[[I" :: wsL_law : List Cond), w.before args s = true := fun w h => (List.mem_cons.mp h).elim (fun g => by rw [g]; exact h31) (hts w)
  have hw0 := hts (.classLink RL 8 RX2) (by decide +kernel)
  have hw1 := hts (.instantiable RX2 6) (by decide +kernel)
  have hw2 := hts (.initialized RX2) (by decide +kernel)
  have hw3 : ∀ w ∈ u_ws RX2 TX2 6, w ∈ wsL_law := by decide +kernel
  have hw4 := hts (.classLink RL 93 RX3) (by decide +kernel)
  have hw5 := hts (.instantiable RX3 9) (by decide +kernel)
  have hw6 := hts (.initialized RX3) (by decide +kernel)
  have hw7 : ∀ w ∈ u_ws RX3 TX3 9, w ∈ wsL_law := by decide +kernel
  have hw8 := hts (.arrayClass .long) (by decide +kernel)
  refine x_newO (ci := 2) (fs := [.null, .null, .null, .null, .null, .null]) hx hb hts hown hw0 hw1 hw2 hK rfl hw3 tyX2 tyX2_ok (fun j hj => by rcases (show j = 0 ∨ j = 1 ∨ j = 2 ∨ j = 3 ∨ j = 4 ∨ j = 5 by omega) with rfl | rfl | rfl | rfl | rfl | rfl <;> rfl) hS (Nat.le_of_ble_eq_true rfl) (Nat.le_of_ble_eq_true rfl) dL_law_0 (fun zb H1 hze_zb hz0_zb hzb hF hz_zb hS => ?_)
  obtain rfl : b = zb := by omega
  refine lv_dup hx hb dL_law_3 rfl ?_
  refine x_goV (x_runI (As := []) (rest := [.ref b]) ⟨hx, hb, hml, hown, hts⟩ hE h0 hS (c_X2_initB l G b H1 hzb (by omega)) (cwI 0 hts ggL_law_X2_init rfl rfl rfl (hts (.initialized RX2) (by decide +kernel)) (hts (.methodLink RL 92 yX2_init) (by decide +kernel)) (hts (.instanceMethod yX2_init) (by decide +kernel)) rfl (by decide +kernel) ⟨Nat.le_of_ble_eq_true rfl, Nat.le_of_ble_eq_true rfl⟩) (by omega) rfl rfl hl.1 rfl (lv_room (Nat.le_of_ble_eq_true rfl)) dL_law_4 ⟨by first | exact Nat.le_of_ble_eq_true rfl | omega, by first | exact Nat.le_of_ble_eq_true rfl | omega⟩) hS (by omega) (fun _ _ _ _ _ h => h.elim) (fun  H2 locs hq hF hS => ?_)
  obtain ⟨hXW, hxz⟩ := hq
  refine lv_astore_n (lv' := [(1, .ref b), (0, .ref b0)]) hx hb dL_law_7 rfl hl (by decide) rfl (fun ls hl => ?_)
  refine x_size h0 (fun hcap => ?_)
  refine x_newO (ci := 3) (fs := [.null, .int (nI 0), .null, .null, .null, .null, .null, .null, .int (nI 0)]) hx hb hts hown hw4 hw5 hw6 hK rfl hw7 tyX3 tyX3_ok (fun j hj => by rcases (show j = 0 ∨ j = 1 ∨ j = 2 ∨ j = 3 ∨ j = 4 ∨ j = 5 ∨ j = 6 ∨ j = 7 ∨ j = 8 by omega) with rfl | rfl | rfl | rfl | rfl | rfl | rfl | rfl | rfl <;> rfl) hS (Nat.le_of_ble_eq_true rfl) (Nat.le_of_ble_eq_true rfl) dL_law_8 (fun zy H3 hze_zy hz0_zy hzy hF hz_zy hS => ?_)
  have hXW := hXW.fr hF (by omega)
  obtain rfl : zy = b + 115 := by omega
  refine lv_dup hx hb dL_law_11 rfl ?_
  refine x_goV (x_runI (As := []) (rest := [.ref (b + 115)]) ⟨hx, hb, hml, hown, hts⟩ hE h0 hS (c_X3_initB l G (b + 115) H3 hzy (by omega)) (cwI 0 hts31 good_ini rfl rfl rfl (hts (.initialized RX3) (by decide +kernel)) (hts (.methodLink RL 95 yX3_init) (by decide +kernel)) (hts (.instanceMethod yX3_init) (by decide +kernel)) rfl (by decide +kernel) ⟨Nat.le_of_ble_eq_true rfl, Nat.le_of_ble_eq_true rfl⟩) (by omega) rfl rfl hl.1 rfl (lv_room (Nat.le_of_ble_eq_true rfl)) dL_law_12 ⟨by first | exact Nat.le_of_ble_eq_true rfl | omega, by first | exact Nat.le_of_ble_eq_true rfl | omega⟩) hS (by omega) (fun _ _ _ _ _ h => h.elim) (fun  H4 locs hq hF hS => ?_)
  have hXW := hXW.fr hF (by omega)
  obtain ⟨hMI, hmz⟩ := hq
  refine lv_astore_n (lv' := [(2, .ref (b + 115)), (1, .ref b), (0, .ref b0)]) hx hb dL_law_15 rfl hl (by decide) rfl (fun ls hl => ?_)
  refine lv_iconst (v := nI 1) hx hb dL_law_16 (by decide) ?_
  refine x_size h0 (fun hcap => ?_)
  refine x_newJ (n := 1) hx hb hK hS hw8 (by decide) (Nat.le_of_ble_eq_true rfl) (Nat.le_of_ble_eq_true rfl) dL_law_17 (fun zo H5 hze_zo hz0_zo hzo hF hz_zo hS => ?_)
  have hMW := hMI.W hF (by omega)
  have hXW := hXW.fr hF (by omega)
  obtain rfl : zo = b + 115 + 34 := by omega
  refine lv_astore_n (lv' := [(3, .ref (b + 115 + 34)), (2, .ref (b + 115)), (1, .ref b), (0, .ref b0)]) hx hb dL_law_19 rfl hl (by decide) rfl (fun ls hl => ?_)
  refine lv_iconst (v := nI 0) hx hb dL_law_20 (by decide) ?_
  refine lv_istore (lv' := [(4, .int (nI 0)), (3, .ref (b + 115 + 34)), (2, .ref (b + 115)), (1, .ref b), (0, .ref b0)]) hx hb dL_law_21 hl (by decide) rfl (fun ls hl => ?_)
  exact kk b H5 _ _ _ ls hbz hXW hMW ⟨_, hzo⟩ hS (Nat.le_of_ble_eq_true rfl) (Nat.le_of_ble_eq_true rfl) (lv_sub hl [0, 1, 2, 3, 4] rfl)
