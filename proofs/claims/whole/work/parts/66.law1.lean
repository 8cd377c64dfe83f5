abbrev RML_begin : Room := { frames := 8, cells := 2, slots := 12, locals := 144 }
set_option maxHeartbeats 4000000 in
set_option maxRecDepth 100000 in
theorem c_L_begin (l : Launch) (G : gG) (b y : Nat) (L : List Nat) (txt : Nat → List Nat) (Lm : List Nat) (txtm : Nat → List Nat) (th : Int32) (fo : Nat → Int64) (hby : b + 115 ≤ y) (n z : Int32) (H0 : Heap) (hXW : XW G b L txt H0) (hMW : MW G y Lm txtm th H0) (hOut : gJ G (y + 34) 6 1 fo H0) : XL l yL_begin wsL_begin RML_begin G [.ref b, .int n, .int z, .ref (y + 34)] H0 b (y + 35) 2 12 (qI (fun k9 H1 => CR G b (rs1 (okN 1000000 n ∧ okN 4 z)) (OV G (y + 34) (nI (num (ix n) (ix z)).length).toInt64 H1) (num (ix n) (ix z)) L txt txt k9 H1 ∧ MW G y Lm txtm th H1 ∧ OJ G (y + 34) H1)) xN := by
  refine x_ofWT (cc := cL_begin) (maxL := 5) (ret := (some .int)) (hh := [(0, 10, 13, 13)]) (by decide) rfl (Nat.le_of_ble_eq_true rfl) ?_
  intro p e s m below meth c hx hb hr hml hown hts hlocks htab hin2 h0 hE hX ls hl
  replace hown : s.vm.findClass RL = some m.cls := hown
  have hK := hE.1
  have hS : va_S (gA b (y + 35) H0.size) H0 H0 [] := va_S.rf
  generalize hargs : ([.ref b, .int n, .int z, .ref (y + 34)] : List Value).toArray = args at hts ⊢
  have hw0 := hts (.classLink RL 13 "java/lang/IllegalArgumentException") (by decide +kernel)
  have hl : lv_has ls 5 [(0, .ref b), (1, .int n), (2, .int z), (3, .ref (y + 34))] := hl
  refine lv_aload_n hx hb dL_begin_0 rfl (lv_at hl 3 rfl) ?_
  refine lv_iconst (v := nI 0) hx hb dL_begin_1 (by decide) ?_
  refine lv_aload_n hx hb dL_begin_2 rfl (lv_at hl 0 rfl) ?_
  refine lv_iload_n hx hb dL_begin_3 rfl (lv_at hl 1 rfl) ?_
  refine lv_iload_n hx hb dL_begin_4 rfl (lv_at hl 2 rfl) ?_
  refine x_goI (x_runV (As := [.int n, .int z]) (rest := [.int (nI 0), .ref (y + 34)]) ⟨hx, hb, hml, hown, hts⟩ hE h0 hS (c_X2_begin l G b L txt n z H0 hXW) (cwV 2 hts gL_begin_X2_begin rfl rfl rfl (by decide +kernel) ⟨Nat.le_of_ble_eq_true rfl, Nat.le_of_ble_eq_true rfl⟩) (hXW.recv hK) (by omega) rfl rfl hl.1 rfl (lv_room (Nat.le_of_ble_eq_true rfl)) dL_begin_5 ⟨by first | exact Nat.le_of_ble_eq_true rfl | omega, by first | exact Nat.le_of_ble_eq_true rfl | omega⟩) hS (by omega) (fun E ce q9 H9 locs9 hXx hFx hSx hce hcv hcl => ?_) (fun r2 H1 locs hq hF hS => ?_)
  · have hS := hSx
    have hMW9 := hMW.fr hFx (by omega)
    have hOut9 : OJ G (y + 34) H9 := OJ.fr ⟨_, hOut⟩ hFx (by omega)
    obtain ⟨rfl, hn, hXW9⟩ := hXx
    refine vx_catch (E := xIA) (name := xIA) hown [] ⟨0, 10, 13, 13⟩ [] htab (fun z hz => absurd hz List.not_mem_nil) (by decide) (by decide) hw0 (cast_self hcl) hce hcv hcl ?_
    refine lv_astore (lv' := [(4, .ref q9), (0, .ref b), (1, .int n), (2, .int z), (3, .ref (y + 34))]) hx hb dL_begin_13 hl (by decide) rfl (fun ls hl => ?_)
    refine lv_iconst (v := nI 1) hx hb dL_begin_15 (by decide) ?_
    exact x_iret hx hb hr hlocks h0 hS (by omega) (by omega) dL_begin_16 (⟨CR.no (by decide) (rs1_1 hn) hXW9, hMW9, hOut9⟩)
  have hOut := hOut.fr hF (by omega)
  have hMW := hMW.fr hF (by omega)
  obtain ⟨hA, rfl, hXW⟩ := hq
  refine lv_i2l hx hb dL_begin_8 rfl ?_
  refine x_last hx hb hK hOut (by omega) (by decide) hS (by unfold gA; omega) dL_begin_9 (fun H3 locs hOut hF hz hS => ?_)
  have hMW := hMW.fr hF (by omega)
  have hXW := hXW.fr hF (by omega)
  refine lv_goto (tgt := 17) hx hb dL_begin_10 (by decide) ?_
  refine lv_iconst (v := nI 0) hx hb dL_begin_17 (by decide) ?_
  exact x_iret hx hb hr hlocks h0 hS (by omega) (by omega) dL_begin_18 (⟨CR.ok (rs1_y hA) ⟨_, hOut, rfl⟩ hXW, hMW, ⟨_, hOut⟩⟩)

abbrev RML_add : Room := { frames := 9, cells := 4, slots := 24, locals := 167 }
set_option maxHeartbeats 4000000 in
set_option maxRecDepth 100000 in
theorem c_L_add (l : Launch) (G : gG) (b y : Nat) (L : List Nat) (txt : Nat → List Nat) (Lm : List Nat) (txtm : Nat → List Nat) (th : Int32) (fo : Nat → Int64) (hby : b + 115 ≤ y) (n z : Int32) (h : Nat) (hh16 : h < 65536) (H0 : Heap) (hXW : XW G b L txt H0) (hMW : MW G y Lm txtm th H0) (hOut : gJ G (y + 34) 6 1 fo H0) : XL l yL_add wsL_add RML_add G [.ref b, .int n, .int z, .int (nI h), .ref (y + 34)] H0 b (y + 35) 4 24 (qI (fun k9 H1 => CR G b (rs2 (okN 1000000000 n ∧ okN 4 z ∧ isWay h) (Jn L h 1 (ix z + dgs (ix n)))) (OV G (y + 34) (nI (jn L h ++ num (ix n) (ix z)).length).toInt64 H1) (jn L h ++ num (ix n) (ix z)) L txt txt k9 H1 ∧ MW G y Lm txtm th H1 ∧ OJ G (y + 34) H1)) xN := by
  refine x_ofWT (cc := cL_add) (maxL := 6) (ret := (some .int)) (hh := [(0, 12, 15, 13), (0, 12, 19, 19)]) (by decide) rfl (Nat.le_of_ble_eq_true rfl) ?_
  intro p e s m below meth c hx hb hr hml hown hts hlocks htab hin2 h0 hE hX ls hl
  replace hown : s.vm.findClass RL = some m.cls := hown
  have hK := hE.1
  have hS : va_S (gA b (y + 35) H0.size) H0 H0 [] := va_S.rf
  generalize hargs : ([.ref b, .int n, .int z, .int (nI h), .ref (y + 34)] : List Value).toArray = args at hts ⊢
  have hw0 := hts (.classLink RL 13 "java/lang/IllegalArgumentException") (by decide +kernel)
  have hw1 := hts (.classLink RL 19 "java/lang/IllegalStateException") (by decide +kernel)
  have hl : lv_has ls 6 [(0, .ref b), (1, .int n), (2, .int z), (3, .int (nI h)), (4, .ref (y + 34))] := hl
  refine lv_aload hx hb dL_add_0 (lv_at hl 4 rfl) ?_
  refine lv_iconst (v := nI 0) hx hb dL_add_2 (by decide) ?_
  refine lv_aload_n hx hb dL_add_3 rfl (lv_at hl 0 rfl) ?_
  refine lv_iload_n hx hb dL_add_4 rfl (lv_at hl 1 rfl) ?_
  refine lv_iload_n hx hb dL_add_5 rfl (lv_at hl 2 rfl) ?_
  refine lv_iload_n hx hb dL_add_6 rfl (lv_at hl 3 rfl) ?_
  refine x_goI (x_runV (As := [.int n, .int z, .int (nI h)]) (rest := [.int (nI 0), .ref (y + 34)]) ⟨hx, hb, hml, hown, hts⟩ hE h0 hS (c_X2_add l G b L txt n z h hh16 H0 hXW) (cwV 3 hts gL_add_X2_add rfl rfl rfl (by decide +kernel) ⟨Nat.le_of_ble_eq_true rfl, Nat.le_of_ble_eq_true rfl⟩) (hXW.recv hK) (by omega) rfl rfl hl.1 rfl (lv_room (Nat.le_of_ble_eq_true rfl)) dL_add_7 ⟨by first | exact Nat.le_of_ble_eq_true rfl | omega, by first | exact Nat.le_of_ble_eq_true rfl | omega⟩) hS (by omega) (fun E ce q9 H9 locs9 hXx hFx hSx hce hcv hcl => ?_) (fun r2 H1 locs hq hF hS => ?_)
  · have hS := hSx
    have hMW9 := hMW.fr hFx (by omega)
    have hOut9 : OJ G (y + 34) H9 := OJ.fr ⟨_, hOut⟩ hFx (by omega)
    rcases hXx with ⟨⟨rfl, hn⟩ | ⟨rfl, ha, hn⟩, hXW9⟩
    · refine vx_catch (E := xIA) (name := xIA) hown [] ⟨0, 12, 15, 13⟩ [⟨0, 12, 19, 19⟩] htab (fun z hz => absurd hz List.not_mem_nil) (by decide) (by decide) hw0 (cast_self hcl) hce hcv hcl ?_
      refine lv_astore (lv' := [(5, .ref q9), (0, .ref b), (1, .int n), (2, .int z), (3, .int (nI h)), (4, .ref (y + 34))]) hx hb dL_add_15 hl (by decide) rfl (fun ls hl => ?_)
      refine lv_iconst (v := nI 1) hx hb dL_add_17 (by decide) ?_
      exact x_iret hx hb hr hlocks h0 hS (by omega) (by omega) dL_add_18 (⟨CR.no (by decide) (rs2_1 hn) hXW9, hMW9, hOut9⟩)
    · refine vx_catch (E := xIS) (name := xIS) hown [⟨0, 12, 15, 13⟩] ⟨0, 12, 19, 19⟩ [] htab (fun z hz => by rw [List.mem_singleton.mp hz]; exact Or.inr ⟨by decide, xIA, hw0, hX.2.2.1⟩) (by decide) (by decide) hw1 (cast_self hcl) hce hcv hcl ?_
      refine lv_astore (lv' := [(5, .ref q9), (0, .ref b), (1, .int n), (2, .int z), (3, .int (nI h)), (4, .ref (y + 34))]) hx hb dL_add_19 hl (by decide) rfl (fun ls hl => ?_)
      refine lv_iconst (v := nI 2) hx hb dL_add_21 (by decide) ?_
      exact x_iret hx hb hr hlocks h0 hS (by omega) (by omega) dL_add_22 (⟨CR.no (by decide) (rs2_2 ha hn) hXW9, hMW9, hOut9⟩)
  have hOut := hOut.fr hF (by omega)
  have hMW := hMW.fr hF (by omega)
  obtain ⟨hA, rfl, hXW⟩ := hq
  refine lv_i2l hx hb dL_add_10 rfl ?_
  refine x_last hx hb hK hOut (by omega) (by decide) hS (by unfold gA; omega) dL_add_11 (fun H3 locs hOut hF hz hS => ?_)
  have hMW := hMW.fr hF (by omega)
  have hXW := hXW.fr hF (by omega)
  refine lv_goto (tgt := 23) hx hb dL_add_12 (by decide) ?_
  refine lv_iconst (v := nI 0) hx hb dL_add_23 (by decide) ?_
  exact x_iret hx hb hr hlocks h0 hS (by omega) (by omega) dL_add_24 (⟨CR.ok (rs2_y hA.1 hA.2) ⟨_, hOut, rfl⟩ hXW, hMW, ⟨_, hOut⟩⟩)

abbrev RML_word : Room := { frames := 9, cells := 3, slots := 18, locals := 167 }
set_option maxHeartbeats 4000000 in
set_option maxRecDepth 100000 in
theorem c_L_word (l : Launch) (G : gG) (b y : Nat) (L : List Nat) (txt : Nat → List Nat) (Lm : List Nat) (txtm : Nat → List Nat) (th : Int32) (fo : Nat → Int64) (hby : b + 115 ≤ y) (code k : Int32) (h : Nat) (hh16 : h < 65536) (H0 : Heap) (hXW : XW G b L txt H0) (hMW : MW G y Lm txtm th H0) (hOut : gJ G (y + 34) 6 1 fo H0) : XL l yL_word wsL_word RML_word G [.ref b, .int code, .int k, .int (nI h), .ref (y + 34)] H0 b (y + 35) 3 18 (qI (fun k9 H1 => CR G b (rs2 (okP 5 k ∧ isWay h) (Jn L h 2 (ix k))) (OV G (y + 34) (nI (jn L h ++ wd (cd code) (ix k)).length).toInt64 H1) (jn L h ++ wd (cd code) (ix k)) L txt txt k9 H1 ∧ MW G y Lm txtm th H1 ∧ OJ G (y + 34) H1)) xN := by
  refine x_ofWT (cc := cL_word) (maxL := 6) (ret := (some .int)) (hh := [(0, 12, 15, 13), (0, 12, 19, 19)]) (by decide) rfl (Nat.le_of_ble_eq_true rfl) ?_
  intro p e s m below meth c hx hb hr hml hown hts hlocks htab hin2 h0 hE hX ls hl
  replace hown : s.vm.findClass RL = some m.cls := hown
  have hK := hE.1
  have hS : va_S (gA b (y + 35) H0.size) H0 H0 [] := va_S.rf
  generalize hargs : ([.ref b, .int code, .int k, .int (nI h), .ref (y + 34)] : List Value).toArray = args at hts ⊢
  have hw0 := hts (.classLink RL 13 "java/lang/IllegalArgumentException") (by decide +kernel)
  have hw1 := hts (.classLink RL 19 "java/lang/IllegalStateException") (by decide +kernel)
  have hl : lv_has ls 6 [(0, .ref b), (1, .int code), (2, .int k), (3, .int (nI h)), (4, .ref (y + 34))] := hl
  refine lv_aload hx hb dL_word_0 (lv_at hl 4 rfl) ?_
  refine lv_iconst (v := nI 0) hx hb dL_word_2 (by decide) ?_
  refine lv_aload_n hx hb dL_word_3 rfl (lv_at hl 0 rfl) ?_
  refine lv_iload_n hx hb dL_word_4 rfl (lv_at hl 1 rfl) ?_
  refine lv_iload_n hx hb dL_word_5 rfl (lv_at hl 2 rfl) ?_
  refine lv_iload_n hx hb dL_word_6 rfl (lv_at hl 3 rfl) ?_
  refine x_goI (x_runV (As := [.int code, .int k, .int (nI h)]) (rest := [.int (nI 0), .ref (y + 34)]) ⟨hx, hb, hml, hown, hts⟩ hE h0 hS (c_X2_word l G b L txt code k h hh16 H0 hXW) (cwV 3 hts gL_word_X2_word rfl rfl rfl (by decide +kernel) ⟨Nat.le_of_ble_eq_true rfl, Nat.le_of_ble_eq_true rfl⟩) (hXW.recv hK) (by omega) rfl rfl hl.1 rfl (lv_room (Nat.le_of_ble_eq_true rfl)) dL_word_7 ⟨by first | exact Nat.le_of_ble_eq_true rfl | omega, by first | exact Nat.le_of_ble_eq_true rfl | omega⟩) hS (by omega) (fun E ce q9 H9 locs9 hXx hFx hSx hce hcv hcl => ?_) (fun r2 H1 locs hq hF hS => ?_)
  · have hS := hSx
    have hMW9 := hMW.fr hFx (by omega)
    have hOut9 : OJ G (y + 34) H9 := OJ.fr ⟨_, hOut⟩ hFx (by omega)
    rcases hXx with ⟨⟨rfl, hn⟩ | ⟨rfl, ha, hn⟩, hXW9⟩
    · refine vx_catch (E := xIA) (name := xIA) hown [] ⟨0, 12, 15, 13⟩ [⟨0, 12, 19, 19⟩] htab (fun z hz => absurd hz List.not_mem_nil) (by decide) (by decide) hw0 (cast_self hcl) hce hcv hcl ?_
      refine lv_astore (lv' := [(5, .ref q9), (0, .ref b), (1, .int code), (2, .int k), (3, .int (nI h)), (4, .ref (y + 34))]) hx hb dL_word_15 hl (by decide) rfl (fun ls hl => ?_)
      refine lv_iconst (v := nI 1) hx hb dL_word_17 (by decide) ?_
      exact x_iret hx hb hr hlocks h0 hS (by omega) (by omega) dL_word_18 (⟨CR.no (by decide) (rs2_1 hn) hXW9, hMW9, hOut9⟩)
    · refine vx_catch (E := xIS) (name := xIS) hown [⟨0, 12, 15, 13⟩] ⟨0, 12, 19, 19⟩ [] htab (fun z hz => by rw [List.mem_singleton.mp hz]; exact Or.inr ⟨by decide, xIA, hw0, hX.2.2.1⟩) (by decide) (by decide) hw1 (cast_self hcl) hce hcv hcl ?_
      refine lv_astore (lv' := [(5, .ref q9), (0, .ref b), (1, .int code), (2, .int k), (3, .int (nI h)), (4, .ref (y + 34))]) hx hb dL_word_19 hl (by decide) rfl (fun ls hl => ?_)
      refine lv_iconst (v := nI 2) hx hb dL_word_21 (by decide) ?_
      exact x_iret hx hb hr hlocks h0 hS (by omega) (by omega) dL_word_22 (⟨CR.no (by decide) (rs2_2 ha hn) hXW9, hMW9, hOut9⟩)
  have hOut := hOut.fr hF (by omega)
  have hMW := hMW.fr hF (by omega)
  obtain ⟨hA, rfl, hXW⟩ := hq
  refine lv_i2l hx hb dL_word_10 rfl ?_
  refine x_last hx hb hK hOut (by omega) (by decide) hS (by unfold gA; omega) dL_word_11 (fun H3 locs hOut hF hz hS => ?_)
  have hMW := hMW.fr hF (by omega)
  have hXW := hXW.fr hF (by omega)
  refine lv_goto (tgt := 23) hx hb dL_word_12 (by decide) ?_
  refine lv_iconst (v := nI 0) hx hb dL_word_23 (by decide) ?_
  exact x_iret hx hb hr hlocks h0 hS (by omega) (by omega) dL_word_24 (⟨CR.ok (rs2_y hA.1 hA.2) ⟨_, hOut, rfl⟩ hXW, hMW, ⟨_, hOut⟩⟩)

abbrev RML_sign : Room := { frames := 8, cells := 1, slots := 6, locals := 142 }
set_option maxHeartbeats 4000000 in
set_option maxRecDepth 100000 in
theorem c_L_sign (l : Launch) (G : gG) (b y : Nat) (L : List Nat) (txt : Nat → List Nat) (Lm : List Nat) (txtm : Nat → List Nat) (th : Int32) (fo : Nat → Int64) (hby : b + 115 ≤ y) (x : Int32) (H0 : Heap) (hXW : XW G b L txt H0) (hMW : MW G y Lm txtm th H0) (hOut : gJ G (y + 34) 6 1 fo H0) : XL l yL_sign wsL_sign RML_sign G [.ref b, .int x, .ref (y + 34)] H0 b (y + 35) 1 6 (qI (fun k9 H1 => CR G b (rs1 (okN L.length x)) (OV G (y + 34) (nI (cg L (ix x))).toInt64 H1) L L txt txt k9 H1 ∧ MW G y Lm txtm th H1 ∧ OJ G (y + 34) H1)) xN := by
  refine x_ofWT (cc := cL_sign) (maxL := 4) (ret := (some .int)) (hh := [(0, 9, 12, 28)]) (by decide) rfl (Nat.le_of_ble_eq_true rfl) ?_
  intro p e s m below meth c hx hb hr hml hown hts hlocks htab hin2 h0 hE hX ls hl
  replace hown : s.vm.findClass RL = some m.cls := hown
  have hK := hE.1
  have hS : va_S (gA b (y + 35) H0.size) H0 H0 [] := va_S.rf
  generalize hargs : ([.ref b, .int x, .ref (y + 34)] : List Value).toArray = args at hts ⊢
  have hw0 := hts (.classLink RL 28 "java/lang/IndexOutOfBoundsException") (by decide +kernel)
  have hl : lv_has ls 4 [(0, .ref b), (1, .int x), (2, .ref (y + 34))] := hl
  refine lv_aload_n hx hb dL_sign_0 rfl (lv_at hl 2 rfl) ?_
  refine lv_iconst (v := nI 0) hx hb dL_sign_1 (by decide) ?_
  refine lv_aload_n hx hb dL_sign_2 rfl (lv_at hl 0 rfl) ?_
  refine lv_iload_n hx hb dL_sign_3 rfl (lv_at hl 1 rfl) ?_
  refine x_goI_ro (x_runV (As := [.int x]) (rest := [.int (nI 0), .ref (y + 34)]) ⟨hx, hb, hml, hown, hts⟩ hE h0 hS (c_X2_sign l G b L txt x H0 hXW) (cwV 1 hts gL_sign_X2_sign rfl rfl rfl (by decide +kernel) ⟨Nat.le_of_ble_eq_true rfl, Nat.le_of_ble_eq_true rfl⟩) (hXW.recv hK) (by omega) rfl rfl hl.1 rfl (lv_room (Nat.le_of_ble_eq_true rfl)) dL_sign_4 ⟨by first | exact Nat.le_of_ble_eq_true rfl | omega, by first | exact Nat.le_of_ble_eq_true rfl | omega⟩) hS (by omega) (fun E ce q9 H9 locs9 hXx hFx hSx hce hcv hcl => ?_) (fun locs hq hS => ?_)
  · have hS := hSx
    have hMW9 := hMW.fr hFx (by omega)
    have hOut9 : OJ G (y + 34) H9 := OJ.fr ⟨_, hOut⟩ hFx (by omega)
    have hXW9 := hXW.fr hFx (by omega)
    obtain ⟨rfl, hn⟩ := hXx
    refine vx_catch (E := xIO) (name := xIO) hown [] ⟨0, 9, 12, 28⟩ [] htab (fun z hz => absurd hz List.not_mem_nil) (by decide) (by decide) hw0 (cast_self hcl) hce hcv hcl ?_
    refine lv_astore_n (lv' := [(3, .ref q9), (0, .ref b), (1, .int x), (2, .ref (y + 34))]) hx hb dL_sign_12 rfl hl (by decide) rfl (fun ls hl => ?_)
    refine lv_iconst (v := nI 1) hx hb dL_sign_13 (by decide) ?_
    exact x_iret hx hb hr hlocks h0 hS (by omega) (by omega) dL_sign_14 (⟨CR.no (by decide) (rs1_1 hn) hXW9, hMW9, hOut9⟩)
  
  refine lv_i2l hx hb dL_sign_7 rfl ?_
  refine x_last hx hb hK hOut (by omega) (by decide) hS (by unfold gA; omega) dL_sign_8 (fun H2 locs hOut hF hz hS => ?_)
  have hMW := hMW.fr hF (by omega)
  have hXW := hXW.fr hF (by omega)
  refine lv_goto (tgt := 15) hx hb dL_sign_9 (by decide) ?_
  refine lv_iconst (v := nI 0) hx hb dL_sign_15 (by decide) ?_
  exact x_iret hx hb hr hlocks h0 hS (by omega) (by omega) dL_sign_16 (⟨CR.ok (rs1_y hq) ⟨_, hOut, rfl⟩ hXW, hMW, ⟨_, hOut⟩⟩)

abbrev RML_parse : Room := { frames := 8, cells := 2, slots := 12, locals := 179 }
set_option maxHeartbeats 4000000 in
set_option maxRecDepth 100000 in
theorem c_L_parse (l : Launch) (G : gG) (b y : Nat) (L : List Nat) (txt : Nat → List Nat) (Lm : List Nat) (txtm : Nat → List Nat) (th : Int32) (fo : Nat → Int64) (hby : b + 115 ≤ y) (x : Int32) (H0 : Heap) (hXW : XW G b L txt H0) (hMW : MW G y Lm txtm th H0) (hOut : gJ G (y + 34) 6 1 fo H0) : XL l yL_parse wsL_parse RML_parse G [.ref b, .int x, .ref (y + 34)] H0 b (y + 35) 2 12 (qI (fun k9 H1 => CR G b (rs2 (okN 8 x) (L ≠ [])) (OV G (y + 34) (ordr L (txt (ix x))).toInt64 H1) L L (up txt (ix x) L) txt k9 H1 ∧ MW G y Lm txtm th H1 ∧ OJ G (y + 34) H1)) xN := by
  refine x_ofWT (cc := cL_parse) (maxL := 4) (ret := (some .int)) (hh := [(0, 9, 12, 28), (0, 9, 15, 13)]) (by decide) rfl (Nat.le_of_ble_eq_true rfl) ?_
  intro p e s m below meth c hx hb hr hml hown hts hlocks htab hin2 h0 hE hX ls hl
  replace hown : s.vm.findClass RL = some m.cls := hown
  have hK := hE.1
  have hS : va_S (gA b (y + 35) H0.size) H0 H0 [] := va_S.rf
  generalize hargs : ([.ref b, .int x, .ref (y + 34)] : List Value).toArray = args at hts ⊢
  have hw0 := hts (.classLink RL 28 "java/lang/IndexOutOfBoundsException") (by decide +kernel)
  have hw1 := hts (.classLink RL 13 "java/lang/IllegalArgumentException") (by decide +kernel)
  have hl : lv_has ls 4 [(0, .ref b), (1, .int x), (2, .ref (y + 34))] := hl
  refine lv_aload_n hx hb dL_parse_0 rfl (lv_at hl 2 rfl) ?_
  refine lv_iconst (v := nI 0) hx hb dL_parse_1 (by decide) ?_
  refine lv_aload_n hx hb dL_parse_2 rfl (lv_at hl 0 rfl) ?_
  refine lv_iload_n hx hb dL_parse_3 rfl (lv_at hl 1 rfl) ?_
  refine x_goI (x_runV (As := [.int x]) (rest := [.int (nI 0), .ref (y + 34)]) ⟨hx, hb, hml, hown, hts⟩ hE h0 hS (c_X2_parse l G b L txt x H0 hXW) (cwV 1 hts gL_parse_X2_parse rfl rfl rfl (by decide +kernel) ⟨Nat.le_of_ble_eq_true rfl, Nat.le_of_ble_eq_true rfl⟩) (hXW.recv hK) (by omega) rfl rfl hl.1 rfl (lv_room (Nat.le_of_ble_eq_true rfl)) dL_parse_4 ⟨by first | exact Nat.le_of_ble_eq_true rfl | omega, by first | exact Nat.le_of_ble_eq_true rfl | omega⟩) hS (by omega) (fun E ce q9 H9 locs9 hXx hFx hSx hce hcv hcl => ?_) (fun r2 H1 locs hq hF hS => ?_)
  · have hS := hSx
    have hMW9 := hMW.fr hFx (by omega)
    have hOut9 : OJ G (y + 34) H9 := OJ.fr ⟨_, hOut⟩ hFx (by omega)
    rcases hXx with ⟨⟨rfl, hn⟩ | ⟨rfl, ha, hn⟩, hXW9⟩
    · refine vx_catch (E := xIO) (name := xIO) hown [] ⟨0, 9, 12, 28⟩ [⟨0, 9, 15, 13⟩] htab (fun z hz => absurd hz List.not_mem_nil) (by decide) (by decide) hw0 (cast_self hcl) hce hcv hcl ?_
      refine lv_astore_n (lv' := [(3, .ref q9), (0, .ref b), (1, .int x), (2, .ref (y + 34))]) hx hb dL_parse_12 rfl hl (by decide) rfl (fun ls hl => ?_)
      refine lv_iconst (v := nI 1) hx hb dL_parse_13 (by decide) ?_
      exact x_iret hx hb hr hlocks h0 hS (by omega) (by omega) dL_parse_14 (⟨CR.no (by decide) (rs2_1 hn) hXW9, hMW9, hOut9⟩)
    · refine vx_catch (E := xIA) (name := xIA) hown [⟨0, 9, 12, 28⟩] ⟨0, 9, 15, 13⟩ [] htab (fun z hz => by rw [List.mem_singleton.mp hz]; exact Or.inr ⟨by decide, xIO, hw0, hX.2.1⟩) (by decide) (by decide) hw1 (cast_self hcl) hce hcv hcl ?_
      refine lv_astore_n (lv' := [(3, .ref q9), (0, .ref b), (1, .int x), (2, .ref (y + 34))]) hx hb dL_parse_15 rfl hl (by decide) rfl (fun ls hl => ?_)
      refine lv_iconst (v := nI 2) hx hb dL_parse_16 (by decide) ?_
      exact x_iret hx hb hr hlocks h0 hS (by omega) (by omega) dL_parse_17 (⟨CR.no (by decide) (rs2_2 ha (fun g => g hn)) hXW9, hMW9, hOut9⟩)
  have hOut := hOut.fr hF (by omega)
  have hMW := hMW.fr hF (by omega)
  obtain ⟨hA, rfl, hXW⟩ := hq
  refine lv_i2l hx hb dL_parse_7 rfl ?_
  refine x_last hx hb hK hOut (by omega) (by decide) hS (by unfold gA; omega) dL_parse_8 (fun H3 locs hOut hF hz hS => ?_)
  have hMW := hMW.fr hF (by omega)
  have hXW := hXW.fr hF (by omega)
  refine lv_goto (tgt := 18) hx hb dL_parse_9 (by decide) ?_
  refine lv_iconst (v := nI 0) hx hb dL_parse_18 (by decide) ?_
  exact x_iret hx hb hr hlocks h0 hS (by omega) (by omega) dL_parse_19 (⟨CR.ok (rs2_y hA.1 hA.2) ⟨_, hOut, rfl⟩ hXW, hMW, ⟨_, hOut⟩⟩)

abbrev RML_triple : Room := { frames := 8, cells := 4, slots := 24, locals := 182 }
set_option maxHeartbeats 4000000 in
set_option maxRecDepth 100000 in
theorem c_L_triple (l : Launch) (G : gG) (b y : Nat) (L : List Nat) (txt : Nat → List Nat) (Lm : List Nat) (txtm : Nat → List Nat) (th : Int32) (fo : Nat → Int64) (hby : b + 115 ≤ y) (x a_ b_ d_ : Int32) (H0 : Heap) (hXW : XW G b L txt H0) (hMW : MW G y Lm txtm th H0) (hOut : gJ G (y + 34) 6 1 fo H0) : XL l yL_triple wsL_triple RML_triple G [.ref b, .int x, .int a_, .int b_, .int d_, .ref (y + 34)] H0 b (y + 35) 4 24 (qI (fun k9 H1 => CR G b (rs2 (okN 8 x) (okN 1000000 a_ ∧ okN 1000000 b_ ∧ okN 1000000 d_)) (OV G (y + 34) (ordr (dg (ix a_) ++ [46] ++ dg (ix b_) ++ [46] ++ dg (ix d_)) (txt (ix x))).toInt64 H1) L L (up txt (ix x) (dg (ix a_) ++ [46] ++ dg (ix b_) ++ [46] ++ dg (ix d_))) txt k9 H1 ∧ MW G y Lm txtm th H1 ∧ OJ G (y + 34) H1)) xN := by
  refine x_ofWT (cc := cL_triple) (maxL := 7) (ret := (some .int)) (hh := [(0, 14, 17, 28), (0, 14, 21, 13)]) (by decide) rfl (Nat.le_of_ble_eq_true rfl) ?_
  intro p e s m below meth c hx hb hr hml hown hts hlocks htab hin2 h0 hE hX ls hl
  replace hown : s.vm.findClass RL = some m.cls := hown
  have hK := hE.1
  have hS : va_S (gA b (y + 35) H0.size) H0 H0 [] := va_S.rf
  generalize hargs : ([.ref b, .int x, .int a_, .int b_, .int d_, .ref (y + 34)] : List Value).toArray = args at hts ⊢
  have hw0 := hts (.classLink RL 28 "java/lang/IndexOutOfBoundsException") (by decide +kernel)
  have hw1 := hts (.classLink RL 13 "java/lang/IllegalArgumentException") (by decide +kernel)
  have hl : lv_has ls 7 [(0, .ref b), (1, .int x), (2, .int a_), (3, .int b_), (4, .int d_), (5, .ref (y + 34))] := hl
  refine lv_aload hx hb dL_triple_0 (lv_at hl 5 rfl) ?_
  refine lv_iconst (v := nI 0) hx hb dL_triple_2 (by decide) ?_
  refine lv_aload_n hx hb dL_triple_3 rfl (lv_at hl 0 rfl) ?_
  refine lv_iload_n hx hb dL_triple_4 rfl (lv_at hl 1 rfl) ?_
  refine lv_iload_n hx hb dL_triple_5 rfl (lv_at hl 2 rfl) ?_
  refine lv_iload_n hx hb dL_triple_6 rfl (lv_at hl 3 rfl) ?_
  refine lv_iload hx hb dL_triple_7 (lv_at hl 4 rfl) ?_
  refine x_goI (x_runV (As := [.int x, .int a_, .int b_, .int d_]) (rest := [.int (nI 0), .ref (y + 34)]) ⟨hx, hb, hml, hown, hts⟩ hE h0 hS (c_X2_triple l G b L txt x a_ b_ d_ H0 hXW) (cwV 4 hts gL_triple_X2_triple rfl rfl rfl (by decide +kernel) ⟨Nat.le_of_ble_eq_true rfl, Nat.le_of_ble_eq_true rfl⟩) (hXW.recv hK) (by omega) rfl rfl hl.1 rfl (lv_room (Nat.le_of_ble_eq_true rfl)) dL_triple_9 ⟨by first | exact Nat.le_of_ble_eq_true rfl | omega, by first | exact Nat.le_of_ble_eq_true rfl | omega⟩) hS (by omega) (fun E ce q9 H9 locs9 hXx hFx hSx hce hcv hcl => ?_) (fun r2 H1 locs hq hF hS => ?_)
  · have hS := hSx
    have hMW9 := hMW.fr hFx (by omega)
    have hOut9 : OJ G (y + 34) H9 := OJ.fr ⟨_, hOut⟩ hFx (by omega)
    rcases hXx with ⟨⟨rfl, hn⟩ | ⟨rfl, ha, hn⟩, hXW9⟩
    · refine vx_catch (E := xIO) (name := xIO) hown [] ⟨0, 14, 17, 28⟩ [⟨0, 14, 21, 13⟩] htab (fun z hz => absurd hz List.not_mem_nil) (by decide) (by decide) hw0 (cast_self hcl) hce hcv hcl ?_
      refine lv_astore (lv' := [(6, .ref q9), (0, .ref b), (1, .int x), (2, .int a_), (3, .int b_), (4, .int d_), (5, .ref (y + 34))]) hx hb dL_triple_17 hl (by decide) rfl (fun ls hl => ?_)
      refine lv_iconst (v := nI 1) hx hb dL_triple_19 (by decide) ?_
      exact x_iret hx hb hr hlocks h0 hS (by omega) (by omega) dL_triple_20 (⟨CR.no (by decide) (rs2_1 hn) hXW9, hMW9, hOut9⟩)
    · refine vx_catch (E := xIA) (name := xIA) hown [⟨0, 14, 17, 28⟩] ⟨0, 14, 21, 13⟩ [] htab (fun z hz => by rw [List.mem_singleton.mp hz]; exact Or.inr ⟨by decide, xIO, hw0, hX.2.1⟩) (by decide) (by decide) hw1 (cast_self hcl) hce hcv hcl ?_
      refine lv_astore (lv' := [(6, .ref q9), (0, .ref b), (1, .int x), (2, .int a_), (3, .int b_), (4, .int d_), (5, .ref (y + 34))]) hx hb dL_triple_21 hl (by decide) rfl (fun ls hl => ?_)
      refine lv_iconst (v := nI 2) hx hb dL_triple_23 (by decide) ?_
      exact x_iret hx hb hr hlocks h0 hS (by omega) (by omega) dL_triple_24 (⟨CR.no (by decide) (rs2_2 ha hn) hXW9, hMW9, hOut9⟩)
  have hOut := hOut.fr hF (by omega)
  have hMW := hMW.fr hF (by omega)
  obtain ⟨hA, rfl, hXW⟩ := hq
  refine lv_i2l hx hb dL_triple_12 rfl ?_
  refine x_last hx hb hK hOut (by omega) (by decide) hS (by unfold gA; omega) dL_triple_13 (fun H3 locs hOut hF hz hS => ?_)
  have hMW := hMW.fr hF (by omega)
  have hXW := hXW.fr hF (by omega)
  refine lv_goto (tgt := 25) hx hb dL_triple_14 (by decide) ?_
  refine lv_iconst (v := nI 0) hx hb dL_triple_25 (by decide) ?_
  exact x_iret hx hb hr hlocks h0 hS (by omega) (by omega) dL_triple_26 (⟨CR.ok (rs2_y hA.1 hA.2) ⟨_, hOut, rfl⟩ hXW, hMW, ⟨_, hOut⟩⟩)

abbrev RML_copy : Room := { frames := 9, cells := 2, slots := 12, locals := 181 }
set_option maxHeartbeats 4000000 in
set_option maxRecDepth 100000 in
theorem c_L_copy (l : Launch) (G : gG) (b y : Nat) (L : List Nat) (txt : Nat → List Nat) (Lm : List Nat) (txtm : Nat → List Nat) (th : Int32) (fo : Nat → Int64) (hby : b + 115 ≤ y) (x z : Int32) (H0 : Heap) (hXW : XW G b L txt H0) (hMW : MW G y Lm txtm th H0) (hOut : gJ G (y + 34) 6 1 fo H0) : XL l yL_copy wsL_copy RML_copy G [.ref b, .int x, .int z, .ref (y + 34)] H0 b (y + 35) 2 12 (qI (fun k9 H1 => CR G b (rs1 (okN 8 x ∧ okN 8 z)) (OV G (y + 34) (ordr (txt (ix x)) (txt (ix z))).toInt64 H1) L L (up txt (ix z) (txt (ix x))) txt k9 H1 ∧ MW G y Lm txtm th H1 ∧ OJ G (y + 34) H1)) xN := by
  refine x_ofWT (cc := cL_copy) (maxL := 5) (ret := (some .int)) (hh := [(0, 10, 13, 28)]) (by decide) rfl (Nat.le_of_ble_eq_true rfl) ?_
  intro p e s m below meth c hx hb hr hml hown hts hlocks htab hin2 h0 hE hX ls hl
  replace hown : s.vm.findClass RL = some m.cls := hown
  have hK := hE.1
  have hS : va_S (gA b (y + 35) H0.size) H0 H0 [] := va_S.rf
  generalize hargs : ([.ref b, .int x, .int z, .ref (y + 34)] : List Value).toArray = args at hts ⊢
  have hw0 := hts (.classLink RL 28 "java/lang/IndexOutOfBoundsException") (by decide +kernel)
  have hl : lv_has ls 5 [(0, .ref b), (1, .int x), (2, .int z), (3, .ref (y + 34))] := hl
  refine lv_aload_n hx hb dL_copy_0 rfl (lv_at hl 3 rfl) ?_
  refine lv_iconst (v := nI 0) hx hb dL_copy_1 (by decide) ?_
  refine lv_aload_n hx hb dL_copy_2 rfl (lv_at hl 0 rfl) ?_
  refine lv_iload_n hx hb dL_copy_3 rfl (lv_at hl 1 rfl) ?_
  refine lv_iload_n hx hb dL_copy_4 rfl (lv_at hl 2 rfl) ?_
  refine x_goI (x_runV (As := [.int x, .int z]) (rest := [.int (nI 0), .ref (y + 34)]) ⟨hx, hb, hml, hown, hts⟩ hE h0 hS (c_X2_copy l G b L txt x z H0 hXW) (cwV 2 hts gL_copy_X2_copy rfl rfl rfl (by decide +kernel) ⟨Nat.le_of_ble_eq_true rfl, Nat.le_of_ble_eq_true rfl⟩) (hXW.recv hK) (by omega) rfl rfl hl.1 rfl (lv_room (Nat.le_of_ble_eq_true rfl)) dL_copy_5 ⟨by first | exact Nat.le_of_ble_eq_true rfl | omega, by first | exact Nat.le_of_ble_eq_true rfl | omega⟩) hS (by omega) (fun E ce q9 H9 locs9 hXx hFx hSx hce hcv hcl => ?_) (fun r2 H1 locs hq hF hS => ?_)
  · have hS := hSx
    have hMW9 := hMW.fr hFx (by omega)
    have hOut9 : OJ G (y + 34) H9 := OJ.fr ⟨_, hOut⟩ hFx (by omega)
    obtain ⟨rfl, hn, hXW9⟩ := hXx
    refine vx_catch (E := xIO) (name := xIO) hown [] ⟨0, 10, 13, 28⟩ [] htab (fun z hz => absurd hz List.not_mem_nil) (by decide) (by decide) hw0 (cast_self hcl) hce hcv hcl ?_
    refine lv_astore (lv' := [(4, .ref q9), (0, .ref b), (1, .int x), (2, .int z), (3, .ref (y + 34))]) hx hb dL_copy_13 hl (by decide) rfl (fun ls hl => ?_)
    refine lv_iconst (v := nI 1) hx hb dL_copy_15 (by decide) ?_
    exact x_iret hx hb hr hlocks h0 hS (by omega) (by omega) dL_copy_16 (⟨CR.no (by decide) (rs1_1 hn) hXW9, hMW9, hOut9⟩)
  have hOut := hOut.fr hF (by omega)
  have hMW := hMW.fr hF (by omega)
  obtain ⟨hA, rfl, hXW⟩ := hq
  refine lv_i2l hx hb dL_copy_8 rfl ?_
  refine x_last hx hb hK hOut (by omega) (by decide) hS (by unfold gA; omega) dL_copy_9 (fun H3 locs hOut hF hz hS => ?_)
  have hMW := hMW.fr hF (by omega)
  have hXW := hXW.fr hF (by omega)
  refine lv_goto (tgt := 17) hx hb dL_copy_10 (by decide) ?_
  refine lv_iconst (v := nI 0) hx hb dL_copy_17 (by decide) ?_
  exact x_iret hx hb hr hlocks h0 hS (by omega) (by omega) dL_copy_18 (⟨CR.ok (rs1_y hA) ⟨_, hOut, rfl⟩ hXW, hMW, ⟨_, hOut⟩⟩)

abbrev RML_size : Room := { frames := 9, cells := 1, slots := 6, locals := 162 }
set_option maxHeartbeats 4000000 in
set_option maxRecDepth 100000 in
theorem c_L_size (l : Launch) (G : gG) (b y : Nat) (L : List Nat) (txt : Nat → List Nat) (Lm : List Nat) (txtm : Nat → List Nat) (th : Int32) (fo : Nat → Int64) (hby : b + 115 ≤ y) (x : Int32) (H0 : Heap) (hXW : XW G b L txt H0) (hMW : MW G y Lm txtm th H0) (hOut : gJ G (y + 34) 6 1 fo H0) : XL l yL_size wsL_size RML_size G [.ref b, .int x, .ref (y + 34)] H0 b (y + 35) 1 6 (qI (fun k9 H1 => CR G b (rs1 (okN 8 x)) (OV G (y + 34) (nI (txt (ix x)).length).toInt64 H1) L L txt txt k9 H1 ∧ MW G y Lm txtm th H1 ∧ OJ G (y + 34) H1)) xN := by
  refine x_ofWT (cc := cL_size) (maxL := 4) (ret := (some .int)) (hh := [(0, 9, 12, 28)]) (by decide) rfl (Nat.le_of_ble_eq_true rfl) ?_
  intro p e s m below meth c hx hb hr hml hown hts hlocks htab hin2 h0 hE hX ls hl
  replace hown : s.vm.findClass RL = some m.cls := hown
  have hK := hE.1
  have hS : va_S (gA b (y + 35) H0.size) H0 H0 [] := va_S.rf
  generalize hargs : ([.ref b, .int x, .ref (y + 34)] : List Value).toArray = args at hts ⊢
  have hw0 := hts (.classLink RL 28 "java/lang/IndexOutOfBoundsException") (by decide +kernel)
  have hl : lv_has ls 4 [(0, .ref b), (1, .int x), (2, .ref (y + 34))] := hl
  refine lv_aload_n hx hb dL_size_0 rfl (lv_at hl 2 rfl) ?_
  refine lv_iconst (v := nI 0) hx hb dL_size_1 (by decide) ?_
  refine lv_aload_n hx hb dL_size_2 rfl (lv_at hl 0 rfl) ?_
  refine lv_iload_n hx hb dL_size_3 rfl (lv_at hl 1 rfl) ?_
  refine x_goI_ro (x_runV (As := [.int x]) (rest := [.int (nI 0), .ref (y + 34)]) ⟨hx, hb, hml, hown, hts⟩ hE h0 hS (c_X2_size l G b L txt x H0 hXW) (cwV 1 hts gL_size_X2_size rfl rfl rfl (by decide +kernel) ⟨Nat.le_of_ble_eq_true rfl, Nat.le_of_ble_eq_true rfl⟩) (hXW.recv hK) (by omega) rfl rfl hl.1 rfl (lv_room (Nat.le_of_ble_eq_true rfl)) dL_size_4 ⟨by first | exact Nat.le_of_ble_eq_true rfl | omega, by first | exact Nat.le_of_ble_eq_true rfl | omega⟩) hS (by omega) (fun E ce q9 H9 locs9 hXx hFx hSx hce hcv hcl => ?_) (fun locs hq hS => ?_)
  · have hS := hSx
    have hMW9 := hMW.fr hFx (by omega)
    have hOut9 : OJ G (y + 34) H9 := OJ.fr ⟨_, hOut⟩ hFx (by omega)
    have hXW9 := hXW.fr hFx (by omega)
    obtain ⟨rfl, hn⟩ := hXx
    refine vx_catch (E := xIO) (name := xIO) hown [] ⟨0, 9, 12, 28⟩ [] htab (fun z hz => absurd hz List.not_mem_nil) (by decide) (by decide) hw0 (cast_self hcl) hce hcv hcl ?_
    refine lv_astore_n (lv' := [(3, .ref q9), (0, .ref b), (1, .int x), (2, .ref (y + 34))]) hx hb dL_size_12 rfl hl (by decide) rfl (fun ls hl => ?_)
    refine lv_iconst (v := nI 1) hx hb dL_size_13 (by decide) ?_
    exact x_iret hx hb hr hlocks h0 hS (by omega) (by omega) dL_size_14 (⟨CR.no (by decide) (rs1_1 hn) hXW9, hMW9, hOut9⟩)
  
  refine lv_i2l hx hb dL_size_7 rfl ?_
  refine x_last hx hb hK hOut (by omega) (by decide) hS (by unfold gA; omega) dL_size_8 (fun H2 locs hOut hF hz hS => ?_)
  have hMW := hMW.fr hF (by omega)
  have hXW := hXW.fr hF (by omega)
  refine lv_goto (tgt := 15) hx hb dL_size_9 (by decide) ?_
  refine lv_iconst (v := nI 0) hx hb dL_size_15 (by decide) ?_
  exact x_iret hx hb hr hlocks h0 hS (by omega) (by omega) dL_size_16 (⟨CR.ok (rs1_y hq) ⟨_, hOut, rfl⟩ hXW, hMW, ⟨_, hOut⟩⟩)

abbrev RML_text : Room := { frames := 9, cells := 2, slots := 12, locals := 164 }
set_option maxHeartbeats 4000000 in
set_option maxRecDepth 100000 in
theorem c_L_text (l : Launch) (G : gG) (b y : Nat) (L : List Nat) (txt : Nat → List Nat) (Lm : List Nat) (txtm : Nat → List Nat) (th : Int32) (fo : Nat → Int64) (hby : b + 115 ≤ y) (x z : Int32) (H0 : Heap) (hXW : XW G b L txt H0) (hMW : MW G y Lm txtm th H0) (hOut : gJ G (y + 34) 6 1 fo H0) : XL l yL_text wsL_text RML_text G [.ref b, .int x, .int z, .ref (y + 34)] H0 b (y + 35) 2 12 (qI (fun k9 H1 => CR G b (rs1 (okN 8 x ∧ okN (txt (ix x)).length z)) (OV G (y + 34) (nI (cg (txt (ix x)) (ix z))).toInt64 H1) L L txt txt k9 H1 ∧ MW G y Lm txtm th H1 ∧ OJ G (y + 34) H1)) xN := by
  refine x_ofWT (cc := cL_text) (maxL := 5) (ret := (some .int)) (hh := [(0, 10, 13, 28)]) (by decide) rfl (Nat.le_of_ble_eq_true rfl) ?_
  intro p e s m below meth c hx hb hr hml hown hts hlocks htab hin2 h0 hE hX ls hl
  replace hown : s.vm.findClass RL = some m.cls := hown
  have hK := hE.1
  have hS : va_S (gA b (y + 35) H0.size) H0 H0 [] := va_S.rf
  generalize hargs : ([.ref b, .int x, .int z, .ref (y + 34)] : List Value).toArray = args at hts ⊢
  have hw0 := hts (.classLink RL 28 "java/lang/IndexOutOfBoundsException") (by decide +kernel)
  have hl : lv_has ls 5 [(0, .ref b), (1, .int x), (2, .int z), (3, .ref (y + 34))] := hl
  refine lv_aload_n hx hb dL_text_0 rfl (lv_at hl 3 rfl) ?_
  refine lv_iconst (v := nI 0) hx hb dL_text_1 (by decide) ?_
  refine lv_aload_n hx hb dL_text_2 rfl (lv_at hl 0 rfl) ?_
  refine lv_iload_n hx hb dL_text_3 rfl (lv_at hl 1 rfl) ?_
  refine lv_iload_n hx hb dL_text_4 rfl (lv_at hl 2 rfl) ?_
  refine x_goI_ro (x_runV (As := [.int x, .int z]) (rest := [.int (nI 0), .ref (y + 34)]) ⟨hx, hb, hml, hown, hts⟩ hE h0 hS (c_X2_text l G b L txt x z H0 hXW) (cwV 2 hts gL_text_X2_text rfl rfl rfl (by decide +kernel) ⟨Nat.le_of_ble_eq_true rfl, Nat.le_of_ble_eq_true rfl⟩) (hXW.recv hK) (by omega) rfl rfl hl.1 rfl (lv_room (Nat.le_of_ble_eq_true rfl)) dL_text_5 ⟨by first | exact Nat.le_of_ble_eq_true rfl | omega, by first | exact Nat.le_of_ble_eq_true rfl | omega⟩) hS (by omega) (fun E ce q9 H9 locs9 hXx hFx hSx hce hcv hcl => ?_) (fun locs hq hS => ?_)
  · have hS := hSx
    have hMW9 := hMW.fr hFx (by omega)
    have hOut9 : OJ G (y + 34) H9 := OJ.fr ⟨_, hOut⟩ hFx (by omega)
    have hXW9 := hXW.fr hFx (by omega)
    obtain ⟨rfl, hn⟩ := hXx
    refine vx_catch (E := xIO) (name := xIO) hown [] ⟨0, 10, 13, 28⟩ [] htab (fun z hz => absurd hz List.not_mem_nil) (by decide) (by decide) hw0 (cast_self hcl) hce hcv hcl ?_
    refine lv_astore (lv' := [(4, .ref q9), (0, .ref b), (1, .int x), (2, .int z), (3, .ref (y + 34))]) hx hb dL_text_13 hl (by decide) rfl (fun ls hl => ?_)
    refine lv_iconst (v := nI 1) hx hb dL_text_15 (by decide) ?_
    exact x_iret hx hb hr hlocks h0 hS (by omega) (by omega) dL_text_16 (⟨CR.no (by decide) (rs1_1 hn) hXW9, hMW9, hOut9⟩)
  
  refine lv_i2l hx hb dL_text_8 rfl ?_
  refine x_last hx hb hK hOut (by omega) (by decide) hS (by unfold gA; omega) dL_text_9 (fun H2 locs hOut hF hz hS => ?_)
  have hMW := hMW.fr hF (by omega)
  have hXW := hXW.fr hF (by omega)
  refine lv_goto (tgt := 17) hx hb dL_text_10 (by decide) ?_
  refine lv_iconst (v := nI 0) hx hb dL_text_17 (by decide) ?_
  exact x_iret hx hb hr hlocks h0 hS (by omega) (by omega) dL_text_18 (⟨CR.ok (rs1_y hq) ⟨_, hOut, rfl⟩ hXW, hMW, ⟨_, hOut⟩⟩)

abbrev RML_tokens : Room := { frames := 9, cells := 2, slots := 12, locals := 164 }
set_option maxHeartbeats 4000000 in
set_option maxRecDepth 100000 in
theorem c_L_tokens (l : Launch) (G : gG) (b y : Nat) (L : List Nat) (txt : Nat → List Nat) (Lm : List Nat) (txtm : Nat → List Nat) (th : Int32) (fo : Nat → Int64) (hby : b + 115 ≤ y) (x z : Int32) (H0 : Heap) (hXW : XW G b L txt H0) (hMW : MW G y Lm txtm th H0) (hOut : gJ G (y + 34) 6 1 fo H0) : XL l yL_tokens wsL_tokens RML_tokens G [.ref b, .int x, .int z, .ref (y + 34)] H0 b (y + 35) 2 12 (qI (fun k9 H1 => CR G b (rs2 (okN 8 x) (okN 3 z)) (OV G (y + 34) (nI (tk (txt (ix x)) (ix z)).length).toInt64 H1) L L txt txt k9 H1 ∧ MW G y Lm txtm th H1 ∧ OJ G (y + 34) H1)) xN := by
  refine x_ofWT (cc := cL_tokens) (maxL := 5) (ret := (some .int)) (hh := [(0, 10, 13, 28), (0, 10, 17, 13)]) (by decide) rfl (Nat.le_of_ble_eq_true rfl) ?_
  intro p e s m below meth c hx hb hr hml hown hts hlocks htab hin2 h0 hE hX ls hl
  replace hown : s.vm.findClass RL = some m.cls := hown
  have hK := hE.1
  have hS : va_S (gA b (y + 35) H0.size) H0 H0 [] := va_S.rf
  generalize hargs : ([.ref b, .int x, .int z, .ref (y + 34)] : List Value).toArray = args at hts ⊢
  have hw0 := hts (.classLink RL 28 "java/lang/IndexOutOfBoundsException") (by decide +kernel)
  have hw1 := hts (.classLink RL 13 "java/lang/IllegalArgumentException") (by decide +kernel)
  have hl : lv_has ls 5 [(0, .ref b), (1, .int x), (2, .int z), (3, .ref (y + 34))] := hl
  refine lv_aload_n hx hb dL_tokens_0 rfl (lv_at hl 3 rfl) ?_
  refine lv_iconst (v := nI 0) hx hb dL_tokens_1 (by decide) ?_
  refine lv_aload_n hx hb dL_tokens_2 rfl (lv_at hl 0 rfl) ?_
  refine lv_iload_n hx hb dL_tokens_3 rfl (lv_at hl 1 rfl) ?_
  refine lv_iload_n hx hb dL_tokens_4 rfl (lv_at hl 2 rfl) ?_
  refine x_goI_ro (x_runV (As := [.int x, .int z]) (rest := [.int (nI 0), .ref (y + 34)]) ⟨hx, hb, hml, hown, hts⟩ hE h0 hS (c_X2_tokens l G b L txt x z H0 hXW) (cwV 2 hts gL_tokens_X2_tokens rfl rfl rfl (by decide +kernel) ⟨Nat.le_of_ble_eq_true rfl, Nat.le_of_ble_eq_true rfl⟩) (hXW.recv hK) (by omega) rfl rfl hl.1 rfl (lv_room (Nat.le_of_ble_eq_true rfl)) dL_tokens_5 ⟨by first | exact Nat.le_of_ble_eq_true rfl | omega, by first | exact Nat.le_of_ble_eq_true rfl | omega⟩) hS (by omega) (fun E ce q9 H9 locs9 hXx hFx hSx hce hcv hcl => ?_) (fun locs hq hS => ?_)
  · have hS := hSx
    have hMW9 := hMW.fr hFx (by omega)
    have hOut9 : OJ G (y + 34) H9 := OJ.fr ⟨_, hOut⟩ hFx (by omega)
    have hXW9 := hXW.fr hFx (by omega)
    rcases hXx with ⟨rfl, hn⟩ | ⟨rfl, ha, hn⟩
    · refine vx_catch (E := xIO) (name := xIO) hown [] ⟨0, 10, 13, 28⟩ [⟨0, 10, 17, 13⟩] htab (fun z hz => absurd hz List.not_mem_nil) (by decide) (by decide) hw0 (cast_self hcl) hce hcv hcl ?_
      refine lv_astore (lv' := [(4, .ref q9), (0, .ref b), (1, .int x), (2, .int z), (3, .ref (y + 34))]) hx hb dL_tokens_13 hl (by decide) rfl (fun ls hl => ?_)
      refine lv_iconst (v := nI 1) hx hb dL_tokens_15 (by decide) ?_
      exact x_iret hx hb hr hlocks h0 hS (by omega) (by omega) dL_tokens_16 (⟨CR.no (by decide) (rs2_1 hn) hXW9, hMW9, hOut9⟩)
    · refine vx_catch (E := xIA) (name := xIA) hown [⟨0, 10, 13, 28⟩] ⟨0, 10, 17, 13⟩ [] htab (fun z hz => by rw [List.mem_singleton.mp hz]; exact Or.inr ⟨by decide, xIO, hw0, hX.2.1⟩) (by decide) (by decide) hw1 (cast_self hcl) hce hcv hcl ?_
      refine lv_astore (lv' := [(4, .ref q9), (0, .ref b), (1, .int x), (2, .int z), (3, .ref (y + 34))]) hx hb dL_tokens_17 hl (by decide) rfl (fun ls hl => ?_)
      refine lv_iconst (v := nI 2) hx hb dL_tokens_19 (by decide) ?_
      exact x_iret hx hb hr hlocks h0 hS (by omega) (by omega) dL_tokens_20 (⟨CR.no (by decide) (rs2_2 ha hn) hXW9, hMW9, hOut9⟩)
  
  refine lv_i2l hx hb dL_tokens_8 rfl ?_
  refine x_last hx hb hK hOut (by omega) (by decide) hS (by unfold gA; omega) dL_tokens_9 (fun H2 locs hOut hF hz hS => ?_)
  have hMW := hMW.fr hF (by omega)
  have hXW := hXW.fr hF (by omega)
  refine lv_goto (tgt := 21) hx hb dL_tokens_10 (by decide) ?_
  refine lv_iconst (v := nI 0) hx hb dL_tokens_21 (by decide) ?_
  exact x_iret hx hb hr hlocks h0 hS (by omega) (by omega) dL_tokens_22 (⟨CR.ok (rs2_y hq.1 hq.2) ⟨_, hOut, rfl⟩ hXW, hMW, ⟨_, hOut⟩⟩)

abbrev RML_token : Room := { frames := 9, cells := 3, slots := 18, locals := 165 }
set_option maxHeartbeats 4000000 in
set_option maxRecDepth 100000 in
theorem c_L_token (l : Launch) (G : gG) (b y : Nat) (L : List Nat) (txt : Nat → List Nat) (Lm : List Nat) (txtm : Nat → List Nat) (th : Int32) (fo : Nat → Int64) (hby : b + 115 ≤ y) (x r z : Int32) (H0 : Heap) (hXW : XW G b L txt H0) (hMW : MW G y Lm txtm th H0) (hOut : gJ G (y + 34) 6 1 fo H0) : XL l yL_token wsL_token RML_token G [.ref b, .int x, .int r, .int z, .ref (y + 34)] H0 b (y + 35) 3 18 (qI (fun k9 H1 => CR G b (rsT (okN 8 x) (okN 3 r) (okN (tk (txt (ix x)) (ix r)).length z)) (OV G (y + 34) (tsz (txt (ix x)) (tk (txt (ix x))) (ix r) (ix z)).toInt64 H1) L L txt txt k9 H1 ∧ MW G y Lm txtm th H1 ∧ OJ G (y + 34) H1)) xN := by
  refine x_ofWT (cc := cL_token) (maxL := 6) (ret := (some .int)) (hh := [(0, 12, 15, 28), (0, 12, 19, 13)]) (by decide) rfl (Nat.le_of_ble_eq_true rfl) ?_
  intro p e s m below meth c hx hb hr hml hown hts hlocks htab hin2 h0 hE hX ls hl
  replace hown : s.vm.findClass RL = some m.cls := hown
  have hK := hE.1
  have hS : va_S (gA b (y + 35) H0.size) H0 H0 [] := va_S.rf
  generalize hargs : ([.ref b, .int x, .int r, .int z, .ref (y + 34)] : List Value).toArray = args at hts ⊢
  have hw0 := hts (.classLink RL 28 "java/lang/IndexOutOfBoundsException") (by decide +kernel)
  have hw1 := hts (.classLink RL 13 "java/lang/IllegalArgumentException") (by decide +kernel)
  have hl : lv_has ls 6 [(0, .ref b), (1, .int x), (2, .int r), (3, .int z), (4, .ref (y + 34))] := hl
  refine lv_aload hx hb dL_token_0 (lv_at hl 4 rfl) ?_
  refine lv_iconst (v := nI 0) hx hb dL_token_2 (by decide) ?_
  refine lv_aload_n hx hb dL_token_3 rfl (lv_at hl 0 rfl) ?_
  refine lv_iload_n hx hb dL_token_4 rfl (lv_at hl 1 rfl) ?_
  refine lv_iload_n hx hb dL_token_5 rfl (lv_at hl 2 rfl) ?_
  refine lv_iload_n hx hb dL_token_6 rfl (lv_at hl 3 rfl) ?_
  refine x_goI_ro (x_runV (As := [.int x, .int r, .int z]) (rest := [.int (nI 0), .ref (y + 34)]) ⟨hx, hb, hml, hown, hts⟩ hE h0 hS (c_X2_token l G b L txt x r z H0 hXW) (cwV 3 hts gL_token_X2_token rfl rfl rfl (by decide +kernel) ⟨Nat.le_of_ble_eq_true rfl, Nat.le_of_ble_eq_true rfl⟩) (hXW.recv hK) (by omega) rfl rfl hl.1 rfl (lv_room (Nat.le_of_ble_eq_true rfl)) dL_token_7 ⟨by first | exact Nat.le_of_ble_eq_true rfl | omega, by first | exact Nat.le_of_ble_eq_true rfl | omega⟩) hS (by omega) (fun E ce q9 H9 locs9 hXx hFx hSx hce hcv hcl => ?_) (fun locs hq hS => ?_)
  · have hS := hSx
    have hMW9 := hMW.fr hFx (by omega)
    have hOut9 : OJ G (y + 34) H9 := OJ.fr ⟨_, hOut⟩ hFx (by omega)
    have hXW9 := hXW.fr hFx (by omega)
    rcases hXx with ⟨rfl, hn⟩ | ⟨rfl, ha, hn⟩ | ⟨rfl, ha, hb2, hn⟩
    · refine vx_catch (E := xIO) (name := xIO) hown [] ⟨0, 12, 15, 28⟩ [⟨0, 12, 19, 13⟩] htab (fun z hz => absurd hz List.not_mem_nil) (by decide) (by decide) hw0 (cast_self hcl) hce hcv hcl ?_
      refine lv_astore (lv' := [(5, .ref q9), (0, .ref b), (1, .int x), (2, .int r), (3, .int z), (4, .ref (y + 34))]) hx hb dL_token_15 hl (by decide) rfl (fun ls hl => ?_)
      refine lv_iconst (v := nI 1) hx hb dL_token_17 (by decide) ?_
      exact x_iret hx hb hr hlocks h0 hS (by omega) (by omega) dL_token_18 (⟨CR.no (by decide) (rsT_1 hn) hXW9, hMW9, hOut9⟩)
    · refine vx_catch (E := xIA) (name := xIA) hown [⟨0, 12, 15, 28⟩] ⟨0, 12, 19, 13⟩ [] htab (fun z hz => by rw [List.mem_singleton.mp hz]; exact Or.inr ⟨by decide, xIO, hw0, hX.2.1⟩) (by decide) (by decide) hw1 (cast_self hcl) hce hcv hcl ?_
      refine lv_astore (lv' := [(5, .ref q9), (0, .ref b), (1, .int x), (2, .int r), (3, .int z), (4, .ref (y + 34))]) hx hb dL_token_19 hl (by decide) rfl (fun ls hl => ?_)
      refine lv_iconst (v := nI 2) hx hb dL_token_21 (by decide) ?_
      exact x_iret hx hb hr hlocks h0 hS (by omega) (by omega) dL_token_22 (⟨CR.no (by decide) (rsT_2 ha hn) hXW9, hMW9, hOut9⟩)
    · refine vx_catch (E := xIO) (name := xIO) hown [] ⟨0, 12, 15, 28⟩ [⟨0, 12, 19, 13⟩] htab (fun z hz => absurd hz List.not_mem_nil) (by decide) (by decide) hw0 (cast_self hcl) hce hcv hcl ?_
      refine lv_astore (lv' := [(5, .ref q9), (0, .ref b), (1, .int x), (2, .int r), (3, .int z), (4, .ref (y + 34))]) hx hb dL_token_15 hl (by decide) rfl (fun ls hl => ?_)
      refine lv_iconst (v := nI 1) hx hb dL_token_17 (by decide) ?_
      exact x_iret hx hb hr hlocks h0 hS (by omega) (by omega) dL_token_18 (⟨CR.no (by decide) (rsT_3 ha hb2 hn) hXW9, hMW9, hOut9⟩)
  
  refine lv_i2l hx hb dL_token_10 rfl ?_
  refine x_last hx hb hK hOut (by omega) (by decide) hS (by unfold gA; omega) dL_token_11 (fun H2 locs hOut hF hz hS => ?_)
  have hMW := hMW.fr hF (by omega)
  have hXW := hXW.fr hF (by omega)
  refine lv_goto (tgt := 23) hx hb dL_token_12 (by decide) ?_
  refine lv_iconst (v := nI 0) hx hb dL_token_23 (by decide) ?_
  exact x_iret hx hb hr hlocks h0 hS (by omega) (by omega) dL_token_24 (⟨CR.ok (rsT_y hq.1 hq.2.1 hq.2.2) ⟨_, hOut, rfl⟩ hXW, hMW, ⟨_, hOut⟩⟩)

abbrev RML_compare : Room := { frames := 9, cells := 2, slots := 12, locals := 163 }
set_option maxHeartbeats 4000000 in
set_option maxRecDepth 100000 in
theorem c_L_compare (l : Launch) (G : gG) (b y : Nat) (L : List Nat) (txt : Nat → List Nat) (Lm : List Nat) (txtm : Nat → List Nat) (th : Int32) (fo : Nat → Int64) (hby : b + 115 ≤ y) (x z : Int32) (H0 : Heap) (hXW : XW G b L txt H0) (hMW : MW G y Lm txtm th H0) (hOut : gJ G (y + 34) 6 1 fo H0) : XL l yL_compare wsL_compare RML_compare G [.ref b, .int x, .int z, .ref (y + 34)] H0 b (y + 35) 2 12 (qI (fun k9 H1 => CR G b (rs1 (okN 8 x ∧ okN 8 z)) (OV G (y + 34) (ordr (txt (ix x)) (txt (ix z))).toInt64 H1) L L txt txt k9 H1 ∧ MW G y Lm txtm th H1 ∧ OJ G (y + 34) H1)) xN := by
  refine x_ofWT (cc := cL_compare) (maxL := 5) (ret := (some .int)) (hh := [(0, 10, 13, 28)]) (by decide) rfl (Nat.le_of_ble_eq_true rfl) ?_
  intro p e s m below meth c hx hb hr hml hown hts hlocks htab hin2 h0 hE hX ls hl
  replace hown : s.vm.findClass RL = some m.cls := hown
  have hK := hE.1
  have hS : va_S (gA b (y + 35) H0.size) H0 H0 [] := va_S.rf
  generalize hargs : ([.ref b, .int x, .int z, .ref (y + 34)] : List Value).toArray = args at hts ⊢
  have hw0 := hts (.classLink RL 28 "java/lang/IndexOutOfBoundsException") (by decide +kernel)
  have hl : lv_has ls 5 [(0, .ref b), (1, .int x), (2, .int z), (3, .ref (y + 34))] := hl
  refine lv_aload_n hx hb dL_compare_0 rfl (lv_at hl 3 rfl) ?_
  refine lv_iconst (v := nI 0) hx hb dL_compare_1 (by decide) ?_
  refine lv_aload_n hx hb dL_compare_2 rfl (lv_at hl 0 rfl) ?_
  refine lv_iload_n hx hb dL_compare_3 rfl (lv_at hl 1 rfl) ?_
  refine lv_iload_n hx hb dL_compare_4 rfl (lv_at hl 2 rfl) ?_
  refine x_goI_ro (x_runV (As := [.int x, .int z]) (rest := [.int (nI 0), .ref (y + 34)]) ⟨hx, hb, hml, hown, hts⟩ hE h0 hS (c_X2_compare l G b L txt x z H0 hXW) (cwV 2 hts gL_compare_X2_compare rfl rfl rfl (by decide +kernel) ⟨Nat.le_of_ble_eq_true rfl, Nat.le_of_ble_eq_true rfl⟩) (hXW.recv hK) (by omega) rfl rfl hl.1 rfl (lv_room (Nat.le_of_ble_eq_true rfl)) dL_compare_5 ⟨by first | exact Nat.le_of_ble_eq_true rfl | omega, by first | exact Nat.le_of_ble_eq_true rfl | omega⟩) hS (by omega) (fun E ce q9 H9 locs9 hXx hFx hSx hce hcv hcl => ?_) (fun locs hq hS => ?_)
  · have hS := hSx
    have hMW9 := hMW.fr hFx (by omega)
    have hOut9 : OJ G (y + 34) H9 := OJ.fr ⟨_, hOut⟩ hFx (by omega)
    have hXW9 := hXW.fr hFx (by omega)
    obtain ⟨rfl, hn⟩ := hXx
    refine vx_catch (E := xIO) (name := xIO) hown [] ⟨0, 10, 13, 28⟩ [] htab (fun z hz => absurd hz List.not_mem_nil) (by decide) (by decide) hw0 (cast_self hcl) hce hcv hcl ?_
    refine lv_astore (lv' := [(4, .ref q9), (0, .ref b), (1, .int x), (2, .int z), (3, .ref (y + 34))]) hx hb dL_compare_13 hl (by decide) rfl (fun ls hl => ?_)
    refine lv_iconst (v := nI 1) hx hb dL_compare_15 (by decide) ?_
    exact x_iret hx hb hr hlocks h0 hS (by omega) (by omega) dL_compare_16 (⟨CR.no (by decide) (rs1_1 hn) hXW9, hMW9, hOut9⟩)
  
  refine lv_i2l hx hb dL_compare_8 rfl ?_
  refine x_last hx hb hK hOut (by omega) (by decide) hS (by unfold gA; omega) dL_compare_9 (fun H2 locs hOut hF hz hS => ?_)
  have hMW := hMW.fr hF (by omega)
  have hXW := hXW.fr hF (by omega)
  refine lv_goto (tgt := 17) hx hb dL_compare_10 (by decide) ?_
  refine lv_iconst (v := nI 0) hx hb dL_compare_17 (by decide) ?_
  exact x_iret hx hb hr hlocks h0 hS (by omega) (by omega) dL_compare_18 (⟨CR.ok (rs1_y hq) ⟨_, hOut, rfl⟩ hXW, hMW, ⟨_, hOut⟩⟩)

abbrev RML_apart : Room := { frames := 9, cells := 2, slots := 12, locals := 163 }
set_option maxHeartbeats 4000000 in
set_option maxRecDepth 100000 in
theorem c_L_apart (l : Launch) (G : gG) (b y : Nat) (L : List Nat) (txt : Nat → List Nat) (Lm : List Nat) (txtm : Nat → List Nat) (th : Int32) (fo : Nat → Int64) (hby : b + 115 ≤ y) (x z : Int32) (H0 : Heap) (hXW : XW G b L txt H0) (hMW : MW G y Lm txtm th H0) (hOut : gJ G (y + 34) 6 1 fo H0) : XL l yL_apart wsL_apart RML_apart G [.ref b, .int x, .int z, .ref (y + 34)] H0 b (y + 35) 2 12 (qI (fun k9 H1 => CR G b (rs1 (okN 8 x ∧ okN 8 z)) (OV G (y + 34) (tellr (txt (ix x)) (txt (ix z))).toInt64 H1) L L txt txt k9 H1 ∧ MW G y Lm txtm th H1 ∧ OJ G (y + 34) H1)) xN := by
  refine x_ofWT (cc := cL_apart) (maxL := 5) (ret := (some .int)) (hh := [(0, 10, 13, 28)]) (by decide) rfl (Nat.le_of_ble_eq_true rfl) ?_
  intro p e s m below meth c hx hb hr hml hown hts hlocks htab hin2 h0 hE hX ls hl
  replace hown : s.vm.findClass RL = some m.cls := hown
  have hK := hE.1
  have hS : va_S (gA b (y + 35) H0.size) H0 H0 [] := va_S.rf
  generalize hargs : ([.ref b, .int x, .int z, .ref (y + 34)] : List Value).toArray = args at hts ⊢
  have hw0 := hts (.classLink RL 28 "java/lang/IndexOutOfBoundsException") (by decide +kernel)
  have hl : lv_has ls 5 [(0, .ref b), (1, .int x), (2, .int z), (3, .ref (y + 34))] := hl
  refine lv_aload_n hx hb dL_apart_0 rfl (lv_at hl 3 rfl) ?_
  refine lv_iconst (v := nI 0) hx hb dL_apart_1 (by decide) ?_
  refine lv_aload_n hx hb dL_apart_2 rfl (lv_at hl 0 rfl) ?_
  refine lv_iload_n hx hb dL_apart_3 rfl (lv_at hl 1 rfl) ?_
  refine lv_iload_n hx hb dL_apart_4 rfl (lv_at hl 2 rfl) ?_
  refine x_goI_ro (x_runV (As := [.int x, .int z]) (rest := [.int (nI 0), .ref (y + 34)]) ⟨hx, hb, hml, hown, hts⟩ hE h0 hS (c_X2_apart l G b L txt x z H0 hXW) (cwV 2 hts gL_apart_X2_apart rfl rfl rfl (by decide +kernel) ⟨Nat.le_of_ble_eq_true rfl, Nat.le_of_ble_eq_true rfl⟩) (hXW.recv hK) (by omega) rfl rfl hl.1 rfl (lv_room (Nat.le_of_ble_eq_true rfl)) dL_apart_5 ⟨by first | exact Nat.le_of_ble_eq_true rfl | omega, by first | exact Nat.le_of_ble_eq_true rfl | omega⟩) hS (by omega) (fun E ce q9 H9 locs9 hXx hFx hSx hce hcv hcl => ?_) (fun locs hq hS => ?_)
  · have hS := hSx
    have hMW9 := hMW.fr hFx (by omega)
    have hOut9 : OJ G (y + 34) H9 := OJ.fr ⟨_, hOut⟩ hFx (by omega)
    have hXW9 := hXW.fr hFx (by omega)
    obtain ⟨rfl, hn⟩ := hXx
    refine vx_catch (E := xIO) (name := xIO) hown [] ⟨0, 10, 13, 28⟩ [] htab (fun z hz => absurd hz List.not_mem_nil) (by decide) (by decide) hw0 (cast_self hcl) hce hcv hcl ?_
    refine lv_astore (lv' := [(4, .ref q9), (0, .ref b), (1, .int x), (2, .int z), (3, .ref (y + 34))]) hx hb dL_apart_13 hl (by decide) rfl (fun ls hl => ?_)
    refine lv_iconst (v := nI 1) hx hb dL_apart_15 (by decide) ?_
    exact x_iret hx hb hr hlocks h0 hS (by omega) (by omega) dL_apart_16 (⟨CR.no (by decide) (rs1_1 hn) hXW9, hMW9, hOut9⟩)
  
  refine lv_i2l hx hb dL_apart_8 rfl ?_
  refine x_last hx hb hK hOut (by omega) (by decide) hS (by unfold gA; omega) dL_apart_9 (fun H2 locs hOut hF hz hS => ?_)
  have hMW := hMW.fr hF (by omega)
  have hXW := hXW.fr hF (by omega)
  refine lv_goto (tgt := 17) hx hb dL_apart_10 (by decide) ?_
  refine lv_iconst (v := nI 0) hx hb dL_apart_17 (by decide) ?_
  exact x_iret hx hb hr hlocks h0 hS (by omega) (by omega) dL_apart_18 (⟨CR.ok (rs1_y hq) ⟨_, hOut, rfl⟩ hXW, hMW, ⟨_, hOut⟩⟩)

abbrev RML_rank : Room := { frames := 9, cells := 1, slots := 6, locals := 165 }
set_option maxHeartbeats 4000000 in
set_option maxRecDepth 100000 in
theorem c_L_rank (l : Launch) (G : gG) (b y : Nat) (L : List Nat) (txt : Nat → List Nat) (Lm : List Nat) (txtm : Nat → List Nat) (th : Int32) (fo : Nat → Int64) (hby : b + 115 ≤ y) (x : Int32) (H0 : Heap) (hXW : XW G b L txt H0) (hMW : MW G y Lm txtm th H0) (hOut : gJ G (y + 34) 6 1 fo H0) : XL l yL_rank wsL_rank RML_rank G [.ref b, .int x, .ref (y + 34)] H0 b (y + 35) 1 6 (qI (fun k9 H1 => CR G b (rs1 (okN 8 x)) (OV G (y + 34) (nI (cntB (fun j => decide (ordr (txt j) (txt (ix x)) < 0)) 8)).toInt64 H1) L L txt txt k9 H1 ∧ MW G y Lm txtm th H1 ∧ OJ G (y + 34) H1)) xN := by
  refine x_ofWT (cc := cL_rank) (maxL := 4) (ret := (some .int)) (hh := [(0, 9, 12, 28)]) (by decide) rfl (Nat.le_of_ble_eq_true rfl) ?_
  intro p e s m below meth c hx hb hr hml hown hts hlocks htab hin2 h0 hE hX ls hl
  replace hown : s.vm.findClass RL = some m.cls := hown
  have hK := hE.1
  have hS : va_S (gA b (y + 35) H0.size) H0 H0 [] := va_S.rf
  generalize hargs : ([.ref b, .int x, .ref (y + 34)] : List Value).toArray = args at hts ⊢
  have hw0 := hts (.classLink RL 28 "java/lang/IndexOutOfBoundsException") (by decide +kernel)
  have hl : lv_has ls 4 [(0, .ref b), (1, .int x), (2, .ref (y + 34))] := hl
  refine lv_aload_n hx hb dL_rank_0 rfl (lv_at hl 2 rfl) ?_
  refine lv_iconst (v := nI 0) hx hb dL_rank_1 (by decide) ?_
  refine lv_aload_n hx hb dL_rank_2 rfl (lv_at hl 0 rfl) ?_
  refine lv_iload_n hx hb dL_rank_3 rfl (lv_at hl 1 rfl) ?_
  refine x_goI_ro (x_runV (As := [.int x]) (rest := [.int (nI 0), .ref (y + 34)]) ⟨hx, hb, hml, hown, hts⟩ hE h0 hS (c_X2_rank l G b L txt x H0 hXW) (cwV 1 hts gL_rank_X2_rank rfl rfl rfl (by decide +kernel) ⟨Nat.le_of_ble_eq_true rfl, Nat.le_of_ble_eq_true rfl⟩) (hXW.recv hK) (by omega) rfl rfl hl.1 rfl (lv_room (Nat.le_of_ble_eq_true rfl)) dL_rank_4 ⟨by first | exact Nat.le_of_ble_eq_true rfl | omega, by first | exact Nat.le_of_ble_eq_true rfl | omega⟩) hS (by omega) (fun E ce q9 H9 locs9 hXx hFx hSx hce hcv hcl => ?_) (fun locs hq hS => ?_)
  · have hS := hSx
    have hMW9 := hMW.fr hFx (by omega)
    have hOut9 : OJ G (y + 34) H9 := OJ.fr ⟨_, hOut⟩ hFx (by omega)
    have hXW9 := hXW.fr hFx (by omega)
    obtain ⟨rfl, hn⟩ := hXx
    refine vx_catch (E := xIO) (name := xIO) hown [] ⟨0, 9, 12, 28⟩ [] htab (fun z hz => absurd hz List.not_mem_nil) (by decide) (by decide) hw0 (cast_self hcl) hce hcv hcl ?_
    refine lv_astore_n (lv' := [(3, .ref q9), (0, .ref b), (1, .int x), (2, .ref (y + 34))]) hx hb dL_rank_12 rfl hl (by decide) rfl (fun ls hl => ?_)
    refine lv_iconst (v := nI 1) hx hb dL_rank_13 (by decide) ?_
    exact x_iret hx hb hr hlocks h0 hS (by omega) (by omega) dL_rank_14 (⟨CR.no (by decide) (rs1_1 hn) hXW9, hMW9, hOut9⟩)
  
  refine lv_i2l hx hb dL_rank_7 rfl ?_
  refine x_last hx hb hK hOut (by omega) (by decide) hS (by unfold gA; omega) dL_rank_8 (fun H2 locs hOut hF hz hS => ?_)
  have hMW := hMW.fr hF (by omega)
  have hXW := hXW.fr hF (by omega)
  refine lv_goto (tgt := 15) hx hb dL_rank_9 (by decide) ?_
  refine lv_iconst (v := nI 0) hx hb dL_rank_15 (by decide) ?_
  exact x_iret hx hb hr hlocks h0 hS (by omega) (by omega) dL_rank_16 (⟨CR.ok (rs1_y hq) ⟨_, hOut, rfl⟩ hXW, hMW, ⟨_, hOut⟩⟩)

abbrev RML_between : Room := { frames := 9, cells := 2, slots := 12, locals := 167 }
set_option maxHeartbeats 4000000 in
set_option maxRecDepth 100000 in
theorem c_L_between (l : Launch) (G : gG) (b y : Nat) (L : List Nat) (txt : Nat → List Nat) (Lm : List Nat) (txtm : Nat → List Nat) (th : Int32) (fo : Nat → Int64) (hby : b + 115 ≤ y) (x z : Int32) (H0 : Heap) (hXW : XW G b L txt H0) (hMW : MW G y Lm txtm th H0) (hOut : gJ G (y + 34) 6 1 fo H0) : XL l yL_between wsL_between RML_between G [.ref b, .int x, .int z, .ref (y + 34)] H0 b (y + 35) 2 12 (qI (fun k9 H1 => CR G b (rs1 (okN 8 x ∧ okN 8 z)) (OV G (y + 34) (nI (cntB (fun j => decide (0 ≤ ordr (txt j) (txt (ix x))) && decide (ordr (txt j) (txt (ix z)) < 0)) 8)).toInt64 H1) L L txt txt k9 H1 ∧ MW G y Lm txtm th H1 ∧ OJ G (y + 34) H1)) xN := by
  refine x_ofWT (cc := cL_between) (maxL := 5) (ret := (some .int)) (hh := [(0, 10, 13, 28)]) (by decide) rfl (Nat.le_of_ble_eq_true rfl) ?_
  intro p e s m below meth c hx hb hr hml hown hts hlocks htab hin2 h0 hE hX ls hl
  replace hown : s.vm.findClass RL = some m.cls := hown
  have hK := hE.1
  have hS : va_S (gA b (y + 35) H0.size) H0 H0 [] := va_S.rf
  generalize hargs : ([.ref b, .int x, .int z, .ref (y + 34)] : List Value).toArray = args at hts ⊢
  have hw0 := hts (.classLink RL 28 "java/lang/IndexOutOfBoundsException") (by decide +kernel)
  have hl : lv_has ls 5 [(0, .ref b), (1, .int x), (2, .int z), (3, .ref (y + 34))] := hl
  refine lv_aload_n hx hb dL_between_0 rfl (lv_at hl 3 rfl) ?_
  refine lv_iconst (v := nI 0) hx hb dL_between_1 (by decide) ?_
  refine lv_aload_n hx hb dL_between_2 rfl (lv_at hl 0 rfl) ?_
  refine lv_iload_n hx hb dL_between_3 rfl (lv_at hl 1 rfl) ?_
  refine lv_iload_n hx hb dL_between_4 rfl (lv_at hl 2 rfl) ?_
  refine x_goI_ro (x_runV (As := [.int x, .int z]) (rest := [.int (nI 0), .ref (y + 34)]) ⟨hx, hb, hml, hown, hts⟩ hE h0 hS (c_X2_between l G b L txt x z H0 hXW) (cwV 2 hts gL_between_X2_between rfl rfl rfl (by decide +kernel) ⟨Nat.le_of_ble_eq_true rfl, Nat.le_of_ble_eq_true rfl⟩) (hXW.recv hK) (by omega) rfl rfl hl.1 rfl (lv_room (Nat.le_of_ble_eq_true rfl)) dL_between_5 ⟨by first | exact Nat.le_of_ble_eq_true rfl | omega, by first | exact Nat.le_of_ble_eq_true rfl | omega⟩) hS (by omega) (fun E ce q9 H9 locs9 hXx hFx hSx hce hcv hcl => ?_) (fun locs hq hS => ?_)
  · have hS := hSx
    have hMW9 := hMW.fr hFx (by omega)
    have hOut9 : OJ G (y + 34) H9 := OJ.fr ⟨_, hOut⟩ hFx (by omega)
    have hXW9 := hXW.fr hFx (by omega)
    obtain ⟨rfl, hn⟩ := hXx
    refine vx_catch (E := xIO) (name := xIO) hown [] ⟨0, 10, 13, 28⟩ [] htab (fun z hz => absurd hz List.not_mem_nil) (by decide) (by decide) hw0 (cast_self hcl) hce hcv hcl ?_
    refine lv_astore (lv' := [(4, .ref q9), (0, .ref b), (1, .int x), (2, .int z), (3, .ref (y + 34))]) hx hb dL_between_13 hl (by decide) rfl (fun ls hl => ?_)
    refine lv_iconst (v := nI 1) hx hb dL_between_15 (by decide) ?_
    exact x_iret hx hb hr hlocks h0 hS (by omega) (by omega) dL_between_16 (⟨CR.no (by decide) (rs1_1 hn) hXW9, hMW9, hOut9⟩)
  
  refine lv_i2l hx hb dL_between_8 rfl ?_
  refine x_last hx hb hK hOut (by omega) (by decide) hS (by unfold gA; omega) dL_between_9 (fun H2 locs hOut hF hz hS => ?_)
  have hMW := hMW.fr hF (by omega)
  have hXW := hXW.fr hF (by omega)
  refine lv_goto (tgt := 17) hx hb dL_between_10 (by decide) ?_
  refine lv_iconst (v := nI 0) hx hb dL_between_17 (by decide) ?_
  exact x_iret hx hb hr hlocks h0 hS (by omega) (by omega) dL_between_18 (⟨CR.ok (rs1_y hq) ⟨_, hOut, rfl⟩ hXW, hMW, ⟨_, hOut⟩⟩)

abbrev RML_isSame : Room := { frames := 9, cells := 2, slots := 12, locals := 163 }
set_option maxHeartbeats 4000000 in
set_option maxRecDepth 100000 in
theorem c_L_isSame (l : Launch) (G : gG) (b y : Nat) (L : List Nat) (txt : Nat → List Nat) (Lm : List Nat) (txtm : Nat → List Nat) (th : Int32) (fo : Nat → Int64) (hby : b + 115 ≤ y) (x z : Int32) (H0 : Heap) (hXW : XW G b L txt H0) (hMW : MW G y Lm txtm th H0) (hOut : gJ G (y + 34) 6 1 fo H0) : XL l yL_isSame wsL_isSame RML_isSame G [.ref b, .int x, .int z, .ref (y + 34)] H0 b (y + 35) 2 12 (qI (fun k9 H1 => CR G b (rs1 (okN 8 x ∧ okN 8 z)) (OV G (y + 34) (bI (decide (ordr (txt (ix x)) (txt (ix z)) = 0))).toInt64 H1) L L txt txt k9 H1 ∧ MW G y Lm txtm th H1 ∧ OJ G (y + 34) H1)) xN := by
  refine x_ofWT (cc := cL_isSame) (maxL := 5) (ret := (some .int)) (hh := [(0, 17, 20, 28)]) (by decide) rfl (Nat.le_of_ble_eq_true rfl) ?_
  intro p e s m below meth c hx hb hr hml hown hts hlocks htab hin2 h0 hE hX ls hl
  replace hown : s.vm.findClass RL = some m.cls := hown
  have hK := hE.1
  have hS : va_S (gA b (y + 35) H0.size) H0 H0 [] := va_S.rf
  generalize hargs : ([.ref b, .int x, .int z, .ref (y + 34)] : List Value).toArray = args at hts ⊢
  have hw0 := hts (.classLink RL 28 "java/lang/IndexOutOfBoundsException") (by decide +kernel)
  have hl : lv_has ls 5 [(0, .ref b), (1, .int x), (2, .int z), (3, .ref (y + 34))] := hl
  refine lv_aload_n hx hb dL_isSame_0 rfl (lv_at hl 3 rfl) ?_
  refine lv_iconst (v := nI 0) hx hb dL_isSame_1 (by decide) ?_
  refine lv_aload_n hx hb dL_isSame_2 rfl (lv_at hl 0 rfl) ?_
  refine lv_iload_n hx hb dL_isSame_3 rfl (lv_at hl 1 rfl) ?_
  refine lv_iload_n hx hb dL_isSame_4 rfl (lv_at hl 2 rfl) ?_
  refine x_goI_ro (x_runV (As := [.int x, .int z]) (rest := [.int (nI 0), .ref (y + 34)]) ⟨hx, hb, hml, hown, hts⟩ hE h0 hS (c_X2_isSame l G b L txt x z H0 hXW) (cwV 2 hts gL_isSame_X2_isSame rfl rfl rfl (by decide +kernel) ⟨Nat.le_of_ble_eq_true rfl, Nat.le_of_ble_eq_true rfl⟩) (hXW.recv hK) (by omega) rfl rfl hl.1 rfl (lv_room (Nat.le_of_ble_eq_true rfl)) dL_isSame_5 ⟨by first | exact Nat.le_of_ble_eq_true rfl | omega, by first | exact Nat.le_of_ble_eq_true rfl | omega⟩) hS (by omega) (fun E ce q9 H9 locs9 hXx hFx hSx hce hcv hcl => ?_) (fun locs hq hS => ?_)
  · have hS := hSx
    have hMW9 := hMW.fr hFx (by omega)
    have hOut9 : OJ G (y + 34) H9 := OJ.fr ⟨_, hOut⟩ hFx (by omega)
    have hXW9 := hXW.fr hFx (by omega)
    obtain ⟨rfl, hn⟩ := hXx
    refine vx_catch (E := xIO) (name := xIO) hown [] ⟨0, 17, 20, 28⟩ [] htab (fun z hz => absurd hz List.not_mem_nil) (by decide) (by decide) hw0 (cast_self hcl) hce hcv hcl ?_
    refine lv_astore (lv' := [(4, .ref q9), (0, .ref b), (1, .int x), (2, .int z), (3, .ref (y + 34))]) hx hb dL_isSame_20 hl (by decide) rfl (fun ls hl => ?_)
    refine lv_iconst (v := nI 1) hx hb dL_isSame_22 (by decide) ?_
    exact x_iret hx hb hr hlocks h0 hS (by omega) (by omega) dL_isSame_23 (⟨CR.no (by decide) (rs1_1 hn) hXW9, hMW9, hOut9⟩)
  
  refine x_if_eqB (tgt := 15) hx hb dL_isSame_8 (by decide) (fun c8 => ?_) (fun c8 => ?_)
  · refine lv_lconst (v := 0) hx hb dL_isSame_15 (by decide) ?_
    refine x_last hx hb hK hOut (by omega) (by decide) hS (by unfold gA; omega) dL_isSame_16 (fun H2 locs hOut hF hz hS => ?_)
    have hMW := hMW.fr hF (by omega)
    have hXW := hXW.fr hF (by omega)
    refine lv_goto (tgt := 24) hx hb dL_isSame_17 (by decide) ?_
    refine lv_iconst (v := nI 0) hx hb dL_isSame_24 (by decide) ?_
    exact x_iret hx hb hr hlocks h0 hS (by omega) (by omega) dL_isSame_25 (⟨CR.ok (rs1_y hq) ⟨_, hOut, by rw [c8]; exact bJ_f⟩ hXW, hMW, ⟨_, hOut⟩⟩)
  · refine lv_lconst (v := 1) hx hb dL_isSame_11 (by decide) ?_
    refine lv_goto (tgt := 16) hx hb dL_isSame_12 (by decide) ?_
    refine x_last hx hb hK hOut (by omega) (by decide) hS (by unfold gA; omega) dL_isSame_16 (fun H3 locs hOut hF hz hS => ?_)
    have hMW := hMW.fr hF (by omega)
    have hXW := hXW.fr hF (by omega)
    refine lv_goto (tgt := 24) hx hb dL_isSame_17 (by decide) ?_
    refine lv_iconst (v := nI 0) hx hb dL_isSame_24 (by decide) ?_
    exact x_iret hx hb hr hlocks h0 hS (by omega) (by omega) dL_isSame_25 (⟨CR.ok (rs1_y hq) ⟨_, hOut, by rw [c8]; exact bJ_t⟩ hXW, hMW, ⟨_, hOut⟩⟩)

abbrev RML_zero : Room := { frames := 9, cells := 4, slots := 24, locals := 182 }
set_option maxHeartbeats 4000000 in
set_option maxRecDepth 100000 in
theorem c_L_zero (l : Launch) (G : gG) (b y : Nat) (L : List Nat) (txt : Nat → List Nat) (Lm : List Nat) (txtm : Nat → List Nat) (th : Int32) (fo : Nat → Int64) (hby : b + 115 ≤ y) (x z : Int32) (H0 : Heap) (hXW : XW G b L txt H0) (hMW : MW G y Lm txtm th H0) (hOut : gJ G (y + 34) 6 1 fo H0) : XL l yL_zero wsL_zero RML_zero G [.ref b, .int x, .int z, .ref (y + 34)] H0 b (y + 35) 4 24 (qI (fun k9 H1 => CR G b (rs2 (okN 8 x ∧ okN 8 z) ((txt (ix x)).length + 2 ≤ 60)) (OV G (y + 34) (bI (decide (ordr (txt (ix x) ++ [46] ++ dg 0) (txt (ix x)) = 0))).toInt64 H1) L L (up txt (ix z) (txt (ix x) ++ [46] ++ dg 0)) txt k9 H1 ∧ MW G y Lm txtm th H1 ∧ OJ G (y + 34) H1)) xN := by
  refine x_ofWT (cc := cL_zero) (maxL := 5) (ret := (some .int)) (hh := [(0, 17, 20, 28), (0, 17, 24, 19)]) (by decide) rfl (Nat.le_of_ble_eq_true rfl) ?_
  intro p e s m below meth c hx hb hr hml hown hts hlocks htab hin2 h0 hE hX ls hl
  replace hown : s.vm.findClass RL = some m.cls := hown
  have hK := hE.1
  have hS : va_S (gA b (y + 35) H0.size) H0 H0 [] := va_S.rf
  generalize hargs : ([.ref b, .int x, .int z, .ref (y + 34)] : List Value).toArray = args at hts ⊢
  have hw0 := hts (.classLink RL 28 "java/lang/IndexOutOfBoundsException") (by decide +kernel)
  have hw1 := hts (.classLink RL 19 "java/lang/IllegalStateException") (by decide +kernel)
  have hl : lv_has ls 5 [(0, .ref b), (1, .int x), (2, .int z), (3, .ref (y + 34))] := hl
  refine lv_aload_n hx hb dL_zero_0 rfl (lv_at hl 3 rfl) ?_
  refine lv_iconst (v := nI 0) hx hb dL_zero_1 (by decide) ?_
  refine lv_aload_n hx hb dL_zero_2 rfl (lv_at hl 0 rfl) ?_
  refine lv_iload_n hx hb dL_zero_3 rfl (lv_at hl 1 rfl) ?_
  refine lv_iload_n hx hb dL_zero_4 rfl (lv_at hl 2 rfl) ?_
  refine x_goI (x_runV (As := [.int x, .int z]) (rest := [.int (nI 0), .ref (y + 34)]) ⟨hx, hb, hml, hown, hts⟩ hE h0 hS (c_X2_zero l G b L txt x z H0 hXW) (cwV 2 hts gL_zero_X2_zero rfl rfl rfl (by decide +kernel) ⟨Nat.le_of_ble_eq_true rfl, Nat.le_of_ble_eq_true rfl⟩) (hXW.recv hK) (by omega) rfl rfl hl.1 rfl (lv_room (Nat.le_of_ble_eq_true rfl)) dL_zero_5 ⟨by first | exact Nat.le_of_ble_eq_true rfl | omega, by first | exact Nat.le_of_ble_eq_true rfl | omega⟩) hS (by omega) (fun E ce q9 H9 locs9 hXx hFx hSx hce hcv hcl => ?_) (fun r2 H1 locs hq hF hS => ?_)
  · have hS := hSx
    have hMW9 := hMW.fr hFx (by omega)
    have hOut9 : OJ G (y + 34) H9 := OJ.fr ⟨_, hOut⟩ hFx (by omega)
    rcases hXx with ⟨⟨rfl, hn⟩ | ⟨rfl, ha, hn⟩, hXW9⟩
    · refine vx_catch (E := xIO) (name := xIO) hown [] ⟨0, 17, 20, 28⟩ [⟨0, 17, 24, 19⟩] htab (fun z hz => absurd hz List.not_mem_nil) (by decide) (by decide) hw0 (cast_self hcl) hce hcv hcl ?_
      refine lv_astore (lv' := [(4, .ref q9), (0, .ref b), (1, .int x), (2, .int z), (3, .ref (y + 34))]) hx hb dL_zero_20 hl (by decide) rfl (fun ls hl => ?_)
      refine lv_iconst (v := nI 1) hx hb dL_zero_22 (by decide) ?_
      exact x_iret hx hb hr hlocks h0 hS (by omega) (by omega) dL_zero_23 (⟨CR.no (by decide) (rs2_1 hn) hXW9, hMW9, hOut9⟩)
    · refine vx_catch (E := xIS) (name := xIS) hown [⟨0, 17, 20, 28⟩] ⟨0, 17, 24, 19⟩ [] htab (fun z hz => by rw [List.mem_singleton.mp hz]; exact Or.inr ⟨by decide, xIO, hw0, hX.2.2.2.1⟩) (by decide) (by decide) hw1 (cast_self hcl) hce hcv hcl ?_
      refine lv_astore (lv' := [(4, .ref q9), (0, .ref b), (1, .int x), (2, .int z), (3, .ref (y + 34))]) hx hb dL_zero_24 hl (by decide) rfl (fun ls hl => ?_)
      refine lv_iconst (v := nI 2) hx hb dL_zero_26 (by decide) ?_
      exact x_iret hx hb hr hlocks h0 hS (by omega) (by omega) dL_zero_27 (⟨CR.no (by decide) (rs2_2 ha hn) hXW9, hMW9, hOut9⟩)
  have hOut := hOut.fr hF (by omega)
  have hMW := hMW.fr hF (by omega)
  obtain ⟨hA, rfl, hXW⟩ := hq
  refine x_if_eqB (tgt := 15) hx hb dL_zero_8 (by decide) (fun c8 => ?_) (fun c8 => ?_)
  · refine lv_lconst (v := 0) hx hb dL_zero_15 (by decide) ?_
    refine x_last hx hb hK hOut (by omega) (by decide) hS (by unfold gA; omega) dL_zero_16 (fun H3 locs hOut hF hz hS => ?_)
    have hMW := hMW.fr hF (by omega)
    have hXW := hXW.fr hF (by omega)
    refine lv_goto (tgt := 28) hx hb dL_zero_17 (by decide) ?_
    refine lv_iconst (v := nI 0) hx hb dL_zero_28 (by decide) ?_
    exact x_iret hx hb hr hlocks h0 hS (by omega) (by omega) dL_zero_29 (⟨CR.ok (rs2_y ⟨hA.1, hA.2.1⟩ hA.2.2) ⟨_, hOut, by rw [c8]; exact bJ_f⟩ hXW, hMW, ⟨_, hOut⟩⟩)
  · refine lv_lconst (v := 1) hx hb dL_zero_11 (by decide) ?_
    refine lv_goto (tgt := 16) hx hb dL_zero_12 (by decide) ?_
    refine x_last hx hb hK hOut (by omega) (by decide) hS (by unfold gA; omega) dL_zero_16 (fun H4 locs hOut hF hz hS => ?_)
    have hMW := hMW.fr hF (by omega)
    have hXW := hXW.fr hF (by omega)
    refine lv_goto (tgt := 28) hx hb dL_zero_17 (by decide) ?_
    refine lv_iconst (v := nI 0) hx hb dL_zero_28 (by decide) ?_
    exact x_iret hx hb hr hlocks h0 hS (by omega) (by omega) dL_zero_29 (⟨CR.ok (rs2_y ⟨hA.1, hA.2.1⟩ hA.2.2) ⟨_, hOut, by rw [c8]; exact bJ_t⟩ hXW, hMW, ⟨_, hOut⟩⟩)

abbrev RML_longer : Room := { frames := 9, cells := 4, slots := 24, locals := 183 }
set_option maxHeartbeats 4000000 in
set_option maxRecDepth 100000 in
theorem c_L_longer (l : Launch) (G : gG) (b y : Nat) (L : List Nat) (txt : Nat → List Nat) (Lm : List Nat) (txtm : Nat → List Nat) (th : Int32) (fo : Nat → Int64) (hby : b + 115 ≤ y) (x n z : Int32) (H0 : Heap) (hXW : XW G b L txt H0) (hMW : MW G y Lm txtm th H0) (hOut : gJ G (y + 34) 6 1 fo H0) : XL l yL_longer wsL_longer RML_longer G [.ref b, .int x, .int n, .int z, .ref (y + 34)] H0 b (y + 35) 4 24 (qI (fun k9 H1 => CR G b (rs3 (okN 8 x ∧ okN 8 z) (okP 999 n) ((txt (ix x)).length + (1 + dgs (ix n)) ≤ 60)) (OV G (y + 34) (bI (decide (0 < ordr (txt (ix x) ++ [46] ++ dg (ix n)) (txt (ix x))))).toInt64 H1) L L (up txt (ix z) (txt (ix x) ++ [46] ++ dg (ix n))) txt k9 H1 ∧ MW G y Lm txtm th H1 ∧ OJ G (y + 34) H1)) xN := by
  refine x_ofWT (cc := cL_longer) (maxL := 6) (ret := (some .int)) (hh := [(0, 19, 22, 28), (0, 19, 26, 13), (0, 19, 30, 19)]) (by decide) rfl (Nat.le_of_ble_eq_true rfl) ?_
  intro p e s m below meth c hx hb hr hml hown hts hlocks htab hin2 h0 hE hX ls hl
  replace hown : s.vm.findClass RL = some m.cls := hown
  have hK := hE.1
  have hS : va_S (gA b (y + 35) H0.size) H0 H0 [] := va_S.rf
  generalize hargs : ([.ref b, .int x, .int n, .int z, .ref (y + 34)] : List Value).toArray = args at hts ⊢
  have hw0 := hts (.classLink RL 28 "java/lang/IndexOutOfBoundsException") (by decide +kernel)
  have hw1 := hts (.classLink RL 13 "java/lang/IllegalArgumentException") (by decide +kernel)
  have hw2 := hts (.classLink RL 19 "java/lang/IllegalStateException") (by decide +kernel)
  have hl : lv_has ls 6 [(0, .ref b), (1, .int x), (2, .int n), (3, .int z), (4, .ref (y + 34))] := hl
  refine lv_aload hx hb dL_longer_0 (lv_at hl 4 rfl) ?_
  refine lv_iconst (v := nI 0) hx hb dL_longer_2 (by decide) ?_
  refine lv_aload_n hx hb dL_longer_3 rfl (lv_at hl 0 rfl) ?_
  refine lv_iload_n hx hb dL_longer_4 rfl (lv_at hl 1 rfl) ?_
  refine lv_iload_n hx hb dL_longer_5 rfl (lv_at hl 2 rfl) ?_
  refine lv_iload_n hx hb dL_longer_6 rfl (lv_at hl 3 rfl) ?_
  refine x_goI (x_runV (As := [.int x, .int n, .int z]) (rest := [.int (nI 0), .ref (y + 34)]) ⟨hx, hb, hml, hown, hts⟩ hE h0 hS (c_X2_longer l G b L txt x n z H0 hXW) (cwV 3 hts gL_longer_X2_longer rfl rfl rfl (by decide +kernel) ⟨Nat.le_of_ble_eq_true rfl, Nat.le_of_ble_eq_true rfl⟩) (hXW.recv hK) (by omega) rfl rfl hl.1 rfl (lv_room (Nat.le_of_ble_eq_true rfl)) dL_longer_7 ⟨by first | exact Nat.le_of_ble_eq_true rfl | omega, by first | exact Nat.le_of_ble_eq_true rfl | omega⟩) hS (by omega) (fun E ce q9 H9 locs9 hXx hFx hSx hce hcv hcl => ?_) (fun r2 H1 locs hq hF hS => ?_)
  · have hS := hSx
    have hMW9 := hMW.fr hFx (by omega)
    have hOut9 : OJ G (y + 34) H9 := OJ.fr ⟨_, hOut⟩ hFx (by omega)
    rcases hXx with ⟨⟨rfl, hn⟩ | ⟨rfl, ha, hn⟩ | ⟨rfl, ha, hb2, hn⟩, hXW9⟩
    · refine vx_catch (E := xIO) (name := xIO) hown [] ⟨0, 19, 22, 28⟩ [⟨0, 19, 26, 13⟩, ⟨0, 19, 30, 19⟩] htab (fun z hz => absurd hz List.not_mem_nil) (by decide) (by decide) hw0 (cast_self hcl) hce hcv hcl ?_
      refine lv_astore (lv' := [(5, .ref q9), (0, .ref b), (1, .int x), (2, .int n), (3, .int z), (4, .ref (y + 34))]) hx hb dL_longer_22 hl (by decide) rfl (fun ls hl => ?_)
      refine lv_iconst (v := nI 1) hx hb dL_longer_24 (by decide) ?_
      exact x_iret hx hb hr hlocks h0 hS (by omega) (by omega) dL_longer_25 (⟨CR.no (by decide) (rs3_1 hn) hXW9, hMW9, hOut9⟩)
    · refine vx_catch (E := xIA) (name := xIA) hown [⟨0, 19, 22, 28⟩] ⟨0, 19, 26, 13⟩ [⟨0, 19, 30, 19⟩] htab (fun z hz => by rw [List.mem_singleton.mp hz]; exact Or.inr ⟨by decide, xIO, hw0, hX.2.1⟩) (by decide) (by decide) hw1 (cast_self hcl) hce hcv hcl ?_
      refine lv_astore (lv' := [(5, .ref q9), (0, .ref b), (1, .int x), (2, .int n), (3, .int z), (4, .ref (y + 34))]) hx hb dL_longer_26 hl (by decide) rfl (fun ls hl => ?_)
      refine lv_iconst (v := nI 2) hx hb dL_longer_28 (by decide) ?_
      exact x_iret hx hb hr hlocks h0 hS (by omega) (by omega) dL_longer_29 (⟨CR.no (by decide) (rs3_2 ha hn) hXW9, hMW9, hOut9⟩)
    · refine vx_catch (E := xIS) (name := xIS) hown [⟨0, 19, 22, 28⟩, ⟨0, 19, 26, 13⟩] ⟨0, 19, 30, 19⟩ [] htab (fun z hz => by rcases List.mem_cons.mp hz with hz | hz; exact Or.inr ⟨by rw [hz]; decide, xIO, by rw [hz]; exact hw0, hX.2.2.2.1⟩; rw [List.mem_singleton.mp hz]; exact Or.inr ⟨by decide, xIA, hw1, hX.2.2.1⟩) (by decide) (by decide) hw2 (cast_self hcl) hce hcv hcl ?_
      refine lv_astore (lv' := [(5, .ref q9), (0, .ref b), (1, .int x), (2, .int n), (3, .int z), (4, .ref (y + 34))]) hx hb dL_longer_30 hl (by decide) rfl (fun ls hl => ?_)
      refine lv_iconst (v := nI 3) hx hb dL_longer_32 (by decide) ?_
      exact x_iret hx hb hr hlocks h0 hS (by omega) (by omega) dL_longer_33 (⟨CR.no (by decide) (rs3_3 ha hb2 hn) hXW9, hMW9, hOut9⟩)
  have hOut := hOut.fr hF (by omega)
  have hMW := hMW.fr hF (by omega)
  obtain ⟨hA, rfl, hXW⟩ := hq
  refine x_if_eqB (tgt := 17) hx hb dL_longer_10 (by decide) (fun c10 => ?_) (fun c10 => ?_)
  · refine lv_lconst (v := 0) hx hb dL_longer_17 (by decide) ?_
    refine x_last hx hb hK hOut (by omega) (by decide) hS (by unfold gA; omega) dL_longer_18 (fun H3 locs hOut hF hz hS => ?_)
    have hMW := hMW.fr hF (by omega)
    have hXW := hXW.fr hF (by omega)
    refine lv_goto (tgt := 34) hx hb dL_longer_19 (by decide) ?_
    refine lv_iconst (v := nI 0) hx hb dL_longer_34 (by decide) ?_
    exact x_iret hx hb hr hlocks h0 hS (by omega) (by omega) dL_longer_35 (⟨CR.ok (rs3_y hA.1 hA.2.1 hA.2.2) ⟨_, hOut, by rw [c10]; exact bJ_f⟩ hXW, hMW, ⟨_, hOut⟩⟩)
  · refine lv_lconst (v := 1) hx hb dL_longer_13 (by decide) ?_
    refine lv_goto (tgt := 18) hx hb dL_longer_14 (by decide) ?_
    refine x_last hx hb hK hOut (by omega) (by decide) hS (by unfold gA; omega) dL_longer_18 (fun H4 locs hOut hF hz hS => ?_)
    have hMW := hMW.fr hF (by omega)
    have hXW := hXW.fr hF (by omega)
    refine lv_goto (tgt := 34) hx hb dL_longer_19 (by decide) ?_
    refine lv_iconst (v := nI 0) hx hb dL_longer_34 (by decide) ?_
    exact x_iret hx hb hr hlocks h0 hS (by omega) (by omega) dL_longer_35 (⟨CR.ok (rs3_y hA.1 hA.2.1 hA.2.2) ⟨_, hOut, by rw [c10]; exact bJ_t⟩ hXW, hMW, ⟨_, hOut⟩⟩)

abbrev RML_early : Room := { frames := 9, cells := 4, slots := 24, locals := 183 }
set_option maxHeartbeats 4000000 in
set_option maxRecDepth 100000 in
theorem c_L_early (l : Launch) (G : gG) (b y : Nat) (L : List Nat) (txt : Nat → List Nat) (Lm : List Nat) (txtm : Nat → List Nat) (th : Int32) (fo : Nat → Int64) (hby : b + 115 ≤ y) (x : Int32) (c_ : Nat) (hc16 : c_ < 65536) (z : Int32) (H0 : Heap) (hXW : XW G b L txt H0) (hMW : MW G y Lm txtm th H0) (hOut : gJ G (y + 34) 6 1 fo H0) : XL l yL_early wsL_early RML_early G [.ref b, .int x, .int (nI c_), .int z, .ref (y + 34)] H0 b (y + 35) 4 24 (qI (fun k9 H1 => CR G b (rs3 (okN 8 x ∧ okN 8 z) (97 ≤ c_ ∧ c_ ≤ 122) ((tk (txt (ix x)) 1).length = 0 ∧ (txt (ix x)).length + 2 ≤ 60)) (OV G (y + 34) (bI (decide (ordr (txt (ix x) ++ [45] ++ [c_]) (txt (ix x)) < 0))).toInt64 H1) L L (up txt (ix z) (txt (ix x) ++ [45] ++ [c_])) txt k9 H1 ∧ MW G y Lm txtm th H1 ∧ OJ G (y + 34) H1)) xN := by
  refine x_ofWT (cc := cL_early) (maxL := 6) (ret := (some .int)) (hh := [(0, 19, 22, 28), (0, 19, 26, 13), (0, 19, 30, 19)]) (by decide) rfl (Nat.le_of_ble_eq_true rfl) ?_
  intro p e s m below meth c hx hb hr hml hown hts hlocks htab hin2 h0 hE hX ls hl
  replace hown : s.vm.findClass RL = some m.cls := hown
  have hK := hE.1
  have hS : va_S (gA b (y + 35) H0.size) H0 H0 [] := va_S.rf
  generalize hargs : ([.ref b, .int x, .int (nI c_), .int z, .ref (y + 34)] : List Value).toArray = args at hts ⊢
  have hw0 := hts (.classLink RL 28 "java/lang/IndexOutOfBoundsException") (by decide +kernel)
  have hw1 := hts (.classLink RL 13 "java/lang/IllegalArgumentException") (by decide +kernel)
  have hw2 := hts (.classLink RL 19 "java/lang/IllegalStateException") (by decide +kernel)
  have hl : lv_has ls 6 [(0, .ref b), (1, .int x), (2, .int (nI c_)), (3, .int z), (4, .ref (y + 34))] := hl
  refine lv_aload hx hb dL_early_0 (lv_at hl 4 rfl) ?_
  refine lv_iconst (v := nI 0) hx hb dL_early_2 (by decide) ?_
  refine lv_aload_n hx hb dL_early_3 rfl (lv_at hl 0 rfl) ?_
  refine lv_iload_n hx hb dL_early_4 rfl (lv_at hl 1 rfl) ?_
  refine lv_iload_n hx hb dL_early_5 rfl (lv_at hl 2 rfl) ?_
  refine lv_iload_n hx hb dL_early_6 rfl (lv_at hl 3 rfl) ?_
  refine x_goI (x_runV (As := [.int x, .int (nI c_), .int z]) (rest := [.int (nI 0), .ref (y + 34)]) ⟨hx, hb, hml, hown, hts⟩ hE h0 hS (c_X2_early l G b L txt x c_ hc16 z H0 hXW) (cwV 3 hts gL_early_X2_early rfl rfl rfl (by decide +kernel) ⟨Nat.le_of_ble_eq_true rfl, Nat.le_of_ble_eq_true rfl⟩) (hXW.recv hK) (by omega) rfl rfl hl.1 rfl (lv_room (Nat.le_of_ble_eq_true rfl)) dL_early_7 ⟨by first | exact Nat.le_of_ble_eq_true rfl | omega, by first | exact Nat.le_of_ble_eq_true rfl | omega⟩) hS (by omega) (fun E ce q9 H9 locs9 hXx hFx hSx hce hcv hcl => ?_) (fun r2 H1 locs hq hF hS => ?_)
  · have hS := hSx
    have hMW9 := hMW.fr hFx (by omega)
    have hOut9 : OJ G (y + 34) H9 := OJ.fr ⟨_, hOut⟩ hFx (by omega)
    rcases hXx with ⟨⟨rfl, hn⟩ | ⟨rfl, ha, hn⟩ | ⟨rfl, ha, hb2, hn⟩, hXW9⟩
    · refine vx_catch (E := xIO) (name := xIO) hown [] ⟨0, 19, 22, 28⟩ [⟨0, 19, 26, 13⟩, ⟨0, 19, 30, 19⟩] htab (fun z hz => absurd hz List.not_mem_nil) (by decide) (by decide) hw0 (cast_self hcl) hce hcv hcl ?_
      refine lv_astore (lv' := [(5, .ref q9), (0, .ref b), (1, .int x), (2, .int (nI c_)), (3, .int z), (4, .ref (y + 34))]) hx hb dL_early_22 hl (by decide) rfl (fun ls hl => ?_)
      refine lv_iconst (v := nI 1) hx hb dL_early_24 (by decide) ?_
      exact x_iret hx hb hr hlocks h0 hS (by omega) (by omega) dL_early_25 (⟨CR.no (by decide) (rs3_1 hn) hXW9, hMW9, hOut9⟩)
    · refine vx_catch (E := xIA) (name := xIA) hown [⟨0, 19, 22, 28⟩] ⟨0, 19, 26, 13⟩ [⟨0, 19, 30, 19⟩] htab (fun z hz => by rw [List.mem_singleton.mp hz]; exact Or.inr ⟨by decide, xIO, hw0, hX.2.1⟩) (by decide) (by decide) hw1 (cast_self hcl) hce hcv hcl ?_
      refine lv_astore (lv' := [(5, .ref q9), (0, .ref b), (1, .int x), (2, .int (nI c_)), (3, .int z), (4, .ref (y + 34))]) hx hb dL_early_26 hl (by decide) rfl (fun ls hl => ?_)
      refine lv_iconst (v := nI 2) hx hb dL_early_28 (by decide) ?_
      exact x_iret hx hb hr hlocks h0 hS (by omega) (by omega) dL_early_29 (⟨CR.no (by decide) (rs3_2 ha hn) hXW9, hMW9, hOut9⟩)
    · refine vx_catch (E := xIS) (name := xIS) hown [⟨0, 19, 22, 28⟩, ⟨0, 19, 26, 13⟩] ⟨0, 19, 30, 19⟩ [] htab (fun z hz => by rcases List.mem_cons.mp hz with hz | hz; exact Or.inr ⟨by rw [hz]; decide, xIO, by rw [hz]; exact hw0, hX.2.2.2.1⟩; rw [List.mem_singleton.mp hz]; exact Or.inr ⟨by decide, xIA, hw1, hX.2.2.1⟩) (by decide) (by decide) hw2 (cast_self hcl) hce hcv hcl ?_
      refine lv_astore (lv' := [(5, .ref q9), (0, .ref b), (1, .int x), (2, .int (nI c_)), (3, .int z), (4, .ref (y + 34))]) hx hb dL_early_30 hl (by decide) rfl (fun ls hl => ?_)
      refine lv_iconst (v := nI 3) hx hb dL_early_32 (by decide) ?_
      exact x_iret hx hb hr hlocks h0 hS (by omega) (by omega) dL_early_33 (⟨CR.no (by decide) (rs3_3 ha hb2 hn) hXW9, hMW9, hOut9⟩)
  have hOut := hOut.fr hF (by omega)
  have hMW := hMW.fr hF (by omega)
  obtain ⟨hA, rfl, hXW⟩ := hq
  refine x_if_eqB (tgt := 17) hx hb dL_early_10 (by decide) (fun c10 => ?_) (fun c10 => ?_)
  · refine lv_lconst (v := 0) hx hb dL_early_17 (by decide) ?_
    refine x_last hx hb hK hOut (by omega) (by decide) hS (by unfold gA; omega) dL_early_18 (fun H3 locs hOut hF hz hS => ?_)
    have hMW := hMW.fr hF (by omega)
    have hXW := hXW.fr hF (by omega)
    refine lv_goto (tgt := 34) hx hb dL_early_19 (by decide) ?_
    refine lv_iconst (v := nI 0) hx hb dL_early_34 (by decide) ?_
    exact x_iret hx hb hr hlocks h0 hS (by omega) (by omega) dL_early_35 (⟨CR.ok (rs3_y hA.1 hA.2.1 hA.2.2) ⟨_, hOut, by rw [c10]; exact bJ_f⟩ hXW, hMW, ⟨_, hOut⟩⟩)
  · refine lv_lconst (v := 1) hx hb dL_early_13 (by decide) ?_
    refine lv_goto (tgt := 18) hx hb dL_early_14 (by decide) ?_
    refine x_last hx hb hK hOut (by omega) (by decide) hS (by unfold gA; omega) dL_early_18 (fun H4 locs hOut hF hz hS => ?_)
    have hMW := hMW.fr hF (by omega)
    have hXW := hXW.fr hF (by omega)
    refine lv_goto (tgt := 34) hx hb dL_early_19 (by decide) ?_
    refine lv_iconst (v := nI 0) hx hb dL_early_34 (by decide) ?_
    exact x_iret hx hb hr hlocks h0 hS (by omega) (by omega) dL_early_35 (⟨CR.ok (rs3_y hA.1 hA.2.1 hA.2.2) ⟨_, hOut, by rw [c10]; exact bJ_t⟩ hXW, hMW, ⟨_, hOut⟩⟩)

abbrev RML_built : Room := { frames := 9, cells := 5, slots := 30, locals := 183 }
set_option maxHeartbeats 4000000 in
set_option maxRecDepth 100000 in
theorem c_L_built (l : Launch) (G : gG) (b y : Nat) (L : List Nat) (txt : Nat → List Nat) (Lm : List Nat) (txtm : Nat → List Nat) (th : Int32) (fo : Nat → Int64) (hby : b + 115 ≤ y) (x n z : Int32) (H0 : Heap) (hXW : XW G b L txt H0) (hMW : MW G y Lm txtm th H0) (hOut : gJ G (y + 34) 6 1 fo H0) : XL l yL_built wsL_built RML_built G [.ref b, .int x, .int n, .int z, .ref (y + 34)] H0 b (y + 35) 5 30 (qI (fun k9 H1 => CR G b (rs3 (okN 8 x ∧ okN 8 z) (okN 1000 n) (0 < (tk (txt (ix x)) 1).length ∧ (tk (txt (ix x)) 2).length = 0 ∧ (txt (ix x)).length + (1 + dgs (ix n)) ≤ 60)) (OV G (y + 34) (ordr (txt (ix x) ++ [43] ++ dg (ix n)) (txt (ix x))).toInt64 H1) L L (up txt (ix z) (txt (ix x) ++ [43] ++ dg (ix n))) txt k9 H1 ∧ MW G y Lm txtm th H1 ∧ OJ G (y + 34) H1)) xN := by
  refine x_ofWT (cc := cL_built) (maxL := 6) (ret := (some .int)) (hh := [(0, 12, 15, 28), (0, 12, 19, 13), (0, 12, 23, 19)]) (by decide) rfl (Nat.le_of_ble_eq_true rfl) ?_
  intro p e s m below meth c hx hb hr hml hown hts hlocks htab hin2 h0 hE hX ls hl
  replace hown : s.vm.findClass RL = some m.cls := hown
  have hK := hE.1
  have hS : va_S (gA b (y + 35) H0.size) H0 H0 [] := va_S.rf
  generalize hargs : ([.ref b, .int x, .int n, .int z, .ref (y + 34)] : List Value).toArray = args at hts ⊢
  have hw0 := hts (.classLink RL 28 "java/lang/IndexOutOfBoundsException") (by decide +kernel)
  have hw1 := hts (.classLink RL 13 "java/lang/IllegalArgumentException") (by decide +kernel)
  have hw2 := hts (.classLink RL 19 "java/lang/IllegalStateException") (by decide +kernel)
  have hl : lv_has ls 6 [(0, .ref b), (1, .int x), (2, .int n), (3, .int z), (4, .ref (y + 34))] := hl
  refine lv_aload hx hb dL_built_0 (lv_at hl 4 rfl) ?_
  refine lv_iconst (v := nI 0) hx hb dL_built_2 (by decide) ?_
  refine lv_aload_n hx hb dL_built_3 rfl (lv_at hl 0 rfl) ?_
  refine lv_iload_n hx hb dL_built_4 rfl (lv_at hl 1 rfl) ?_
  refine lv_iload_n hx hb dL_built_5 rfl (lv_at hl 2 rfl) ?_
  refine lv_iload_n hx hb dL_built_6 rfl (lv_at hl 3 rfl) ?_
  refine x_goI (x_runV (As := [.int x, .int n, .int z]) (rest := [.int (nI 0), .ref (y + 34)]) ⟨hx, hb, hml, hown, hts⟩ hE h0 hS (c_X2_built l G b L txt x n z H0 hXW) (cwV 3 hts gL_built_X2_built rfl rfl rfl (by decide +kernel) ⟨Nat.le_of_ble_eq_true rfl, Nat.le_of_ble_eq_true rfl⟩) (hXW.recv hK) (by omega) rfl rfl hl.1 rfl (lv_room (Nat.le_of_ble_eq_true rfl)) dL_built_7 ⟨by first | exact Nat.le_of_ble_eq_true rfl | omega, by first | exact Nat.le_of_ble_eq_true rfl | omega⟩) hS (by omega) (fun E ce q9 H9 locs9 hXx hFx hSx hce hcv hcl => ?_) (fun r2 H1 locs hq hF hS => ?_)
  · have hS := hSx
    have hMW9 := hMW.fr hFx (by omega)
    have hOut9 : OJ G (y + 34) H9 := OJ.fr ⟨_, hOut⟩ hFx (by omega)
    rcases hXx with ⟨⟨rfl, hn⟩ | ⟨rfl, ha, hn⟩ | ⟨rfl, ha, hb2, hn⟩, hXW9⟩
    · refine vx_catch (E := xIO) (name := xIO) hown [] ⟨0, 12, 15, 28⟩ [⟨0, 12, 19, 13⟩, ⟨0, 12, 23, 19⟩] htab (fun z hz => absurd hz List.not_mem_nil) (by decide) (by decide) hw0 (cast_self hcl) hce hcv hcl ?_
      refine lv_astore (lv' := [(5, .ref q9), (0, .ref b), (1, .int x), (2, .int n), (3, .int z), (4, .ref (y + 34))]) hx hb dL_built_15 hl (by decide) rfl (fun ls hl => ?_)
      refine lv_iconst (v := nI 1) hx hb dL_built_17 (by decide) ?_
      exact x_iret hx hb hr hlocks h0 hS (by omega) (by omega) dL_built_18 (⟨CR.no (by decide) (rs3_1 hn) hXW9, hMW9, hOut9⟩)
    · refine vx_catch (E := xIA) (name := xIA) hown [⟨0, 12, 15, 28⟩] ⟨0, 12, 19, 13⟩ [⟨0, 12, 23, 19⟩] htab (fun z hz => by rw [List.mem_singleton.mp hz]; exact Or.inr ⟨by decide, xIO, hw0, hX.2.1⟩) (by decide) (by decide) hw1 (cast_self hcl) hce hcv hcl ?_
      refine lv_astore (lv' := [(5, .ref q9), (0, .ref b), (1, .int x), (2, .int n), (3, .int z), (4, .ref (y + 34))]) hx hb dL_built_19 hl (by decide) rfl (fun ls hl => ?_)
      refine lv_iconst (v := nI 2) hx hb dL_built_21 (by decide) ?_
      exact x_iret hx hb hr hlocks h0 hS (by omega) (by omega) dL_built_22 (⟨CR.no (by decide) (rs3_2 ha hn) hXW9, hMW9, hOut9⟩)
    · refine vx_catch (E := xIS) (name := xIS) hown [⟨0, 12, 15, 28⟩, ⟨0, 12, 19, 13⟩] ⟨0, 12, 23, 19⟩ [] htab (fun z hz => by rcases List.mem_cons.mp hz with hz | hz; exact Or.inr ⟨by rw [hz]; decide, xIO, by rw [hz]; exact hw0, hX.2.2.2.1⟩; rw [List.mem_singleton.mp hz]; exact Or.inr ⟨by decide, xIA, hw1, hX.2.2.1⟩) (by decide) (by decide) hw2 (cast_self hcl) hce hcv hcl ?_
      refine lv_astore (lv' := [(5, .ref q9), (0, .ref b), (1, .int x), (2, .int n), (3, .int z), (4, .ref (y + 34))]) hx hb dL_built_23 hl (by decide) rfl (fun ls hl => ?_)
      refine lv_iconst (v := nI 3) hx hb dL_built_25 (by decide) ?_
      exact x_iret hx hb hr hlocks h0 hS (by omega) (by omega) dL_built_26 (⟨CR.no (by decide) (rs3_3 ha hb2 hn) hXW9, hMW9, hOut9⟩)
  have hOut := hOut.fr hF (by omega)
  have hMW := hMW.fr hF (by omega)
  obtain ⟨hA, rfl, hXW⟩ := hq
  refine lv_i2l hx hb dL_built_10 rfl ?_
  refine x_last hx hb hK hOut (by omega) (by decide) hS (by unfold gA; omega) dL_built_11 (fun H3 locs hOut hF hz hS => ?_)
  have hMW := hMW.fr hF (by omega)
  have hXW := hXW.fr hF (by omega)
  refine lv_goto (tgt := 27) hx hb dL_built_12 (by decide) ?_
  refine lv_iconst (v := nI 0) hx hb dL_built_27 (by decide) ?_
  exact x_iret hx hb hr hlocks h0 hS (by omega) (by omega) dL_built_28 (⟨CR.ok (rs3_y hA.1 hA.2.1 hA.2.2) ⟨_, hOut, rfl⟩ hXW, hMW, ⟨_, hOut⟩⟩)

abbrev RML_isHashed : Room := { frames := 9, cells := 1, slots := 6, locals := 163 }
set_option maxHeartbeats 4000000 in
set_option maxRecDepth 100000 in
theorem c_L_isHashed (l : Launch) (G : gG) (b y : Nat) (L : List Nat) (txt : Nat → List Nat) (Lm : List Nat) (txtm : Nat → List Nat) (th : Int32) (fo : Nat → Int64) (hby : b + 115 ≤ y) (x : Int32) (H0 : Heap) (hXW : XW G b L txt H0) (hMW : MW G y Lm txtm th H0) (hOut : gJ G (y + 34) 6 1 fo H0) : XL l yL_isHashed wsL_isHashed RML_isHashed G [.ref b, .int x, .ref (y + 34)] H0 b (y + 35) 1 6 (qI (fun k9 H1 => CR G b (rs1 (okN 8 x)) (OV G (y + 34) (bI (true)).toInt64 H1) L L txt txt k9 H1 ∧ MW G y Lm txtm th H1 ∧ OJ G (y + 34) H1)) xN := by
  refine x_ofWT (cc := cL_isHashed) (maxL := 4) (ret := (some .int)) (hh := [(0, 16, 19, 28)]) (by decide) rfl (Nat.le_of_ble_eq_true rfl) ?_
  intro p e s m below meth c hx hb hr hml hown hts hlocks htab hin2 h0 hE hX ls hl
  replace hown : s.vm.findClass RL = some m.cls := hown
  have hK := hE.1
  have hS : va_S (gA b (y + 35) H0.size) H0 H0 [] := va_S.rf
  generalize hargs : ([.ref b, .int x, .ref (y + 34)] : List Value).toArray = args at hts ⊢
  have hw0 := hts (.classLink RL 28 "java/lang/IndexOutOfBoundsException") (by decide +kernel)
  have hl : lv_has ls 4 [(0, .ref b), (1, .int x), (2, .ref (y + 34))] := hl
  refine lv_aload_n hx hb dL_isHashed_0 rfl (lv_at hl 2 rfl) ?_
  refine lv_iconst (v := nI 0) hx hb dL_isHashed_1 (by decide) ?_
  refine lv_aload_n hx hb dL_isHashed_2 rfl (lv_at hl 0 rfl) ?_
  refine lv_iload_n hx hb dL_isHashed_3 rfl (lv_at hl 1 rfl) ?_
  refine x_goI (x_runV (As := [.int x]) (rest := [.int (nI 0), .ref (y + 34)]) ⟨hx, hb, hml, hown, hts⟩ hE h0 hS (c_X2_isHashed l G b L txt x H0 hXW) (cwV 1 hts gL_isHashed_X2_isHashed rfl rfl rfl (by decide +kernel) ⟨Nat.le_of_ble_eq_true rfl, Nat.le_of_ble_eq_true rfl⟩) (hXW.recv hK) (by omega) rfl rfl hl.1 rfl (lv_room (Nat.le_of_ble_eq_true rfl)) dL_isHashed_4 ⟨by first | exact Nat.le_of_ble_eq_true rfl | omega, by first | exact Nat.le_of_ble_eq_true rfl | omega⟩) hS (by omega) (fun E ce q9 H9 locs9 hXx hFx hSx hce hcv hcl => ?_) (fun r2 H1 locs hq hF hS => ?_)
  · have hS := hSx
    have hMW9 := hMW.fr hFx (by omega)
    have hOut9 : OJ G (y + 34) H9 := OJ.fr ⟨_, hOut⟩ hFx (by omega)
    obtain ⟨rfl, hn, hXW9⟩ := hXx
    refine vx_catch (E := xIO) (name := xIO) hown [] ⟨0, 16, 19, 28⟩ [] htab (fun z hz => absurd hz List.not_mem_nil) (by decide) (by decide) hw0 (cast_self hcl) hce hcv hcl ?_
    refine lv_astore_n (lv' := [(3, .ref q9), (0, .ref b), (1, .int x), (2, .ref (y + 34))]) hx hb dL_isHashed_19 rfl hl (by decide) rfl (fun ls hl => ?_)
    refine lv_iconst (v := nI 1) hx hb dL_isHashed_20 (by decide) ?_
    exact x_iret hx hb hr hlocks h0 hS (by omega) (by omega) dL_isHashed_21 (⟨CR.no (by decide) (rs1_1 hn) hXW9, hMW9, hOut9⟩)
  have hOut := hOut.fr hF (by omega)
  have hMW := hMW.fr hF (by omega)
  obtain ⟨hA, rfl, hXW⟩ := hq
  refine x_if_eqB (tgt := 14) hx hb dL_isHashed_7 (by decide) (fun c7 => ?_) (fun c7 => ?_)
  · exact absurd c7 (by decide)
  · refine lv_lconst (v := 1) hx hb dL_isHashed_10 (by decide) ?_
    refine lv_goto (tgt := 15) hx hb dL_isHashed_11 (by decide) ?_
    refine x_last hx hb hK hOut (by omega) (by decide) hS (by unfold gA; omega) dL_isHashed_15 (fun H3 locs hOut hF hz hS => ?_)
    have hMW := hMW.fr hF (by omega)
    have hXW := hXW.fr hF (by omega)
    refine lv_goto (tgt := 22) hx hb dL_isHashed_16 (by decide) ?_
    refine lv_iconst (v := nI 0) hx hb dL_isHashed_22 (by decide) ?_
    exact x_iret hx hb hr hlocks h0 hS (by omega) (by omega) dL_isHashed_23 (⟨CR.ok (rs1_y hA) ⟨_, hOut, by rw [c7]; exact bJ_t⟩ hXW, hMW, ⟨_, hOut⟩⟩)

abbrev RML_at : Room := { frames := 8, cells := 1, slots := 6, locals := 178 }
set_option maxHeartbeats 4000000 in
set_option maxRecDepth 100000 in
theorem c_L_at (l : Launch) (G : gG) (b y : Nat) (L : List Nat) (txt : Nat → List Nat) (Lm : List Nat) (txtm : Nat → List Nat) (th : Int32) (fo : Nat → Int64) (hby : b + 115 ≤ y) (x : Int32) (H0 : Heap) (hXW : XW G b L txt H0) (hMW : MW G y Lm txtm th H0) (hOut : gJ G (y + 34) 6 1 fo H0) : XL l yL_at wsL_at RML_at G [.ref b, .int x, .ref (y + 34)] H0 b (y + 35) 1 6 (qI (fun k9 H1 => CR G b (rs1 (okN 8 x)) (∃ pm, OS txt 8 pm ∧ OV G (y + 34) (nI (pm (ix x))).toInt64 H1) L L txt txt k9 H1 ∧ MW G y Lm txtm th H1 ∧ OJ G (y + 34) H1)) xN := by
  refine x_ofWT (cc := cL_at) (maxL := 4) (ret := (some .int)) (hh := [(0, 9, 12, 28)]) (by decide) rfl (Nat.le_of_ble_eq_true rfl) ?_
  intro p e s m below meth c hx hb hr hml hown hts hlocks htab hin2 h0 hE hX ls hl
  replace hown : s.vm.findClass RL = some m.cls := hown
  have hK := hE.1
  have hS : va_S (gA b (y + 35) H0.size) H0 H0 [] := va_S.rf
  generalize hargs : ([.ref b, .int x, .ref (y + 34)] : List Value).toArray = args at hts ⊢
  have hw0 := hts (.classLink RL 28 "java/lang/IndexOutOfBoundsException") (by decide +kernel)
  have hl : lv_has ls 4 [(0, .ref b), (1, .int x), (2, .ref (y + 34))] := hl
  refine lv_aload_n hx hb dL_at_0 rfl (lv_at hl 2 rfl) ?_
  refine lv_iconst (v := nI 0) hx hb dL_at_1 (by decide) ?_
  refine lv_aload_n hx hb dL_at_2 rfl (lv_at hl 0 rfl) ?_
  refine lv_iload_n hx hb dL_at_3 rfl (lv_at hl 1 rfl) ?_
  refine x_goI (x_runV (As := [.int x]) (rest := [.int (nI 0), .ref (y + 34)]) ⟨hx, hb, hml, hown, hts⟩ hE h0 hS (c_X2_at l G b L txt x H0 hXW) (cwV 1 hts gL_at_X2_at rfl rfl rfl (by decide +kernel) ⟨Nat.le_of_ble_eq_true rfl, Nat.le_of_ble_eq_true rfl⟩) (hXW.recv hK) (by omega) rfl rfl hl.1 rfl (lv_room (Nat.le_of_ble_eq_true rfl)) dL_at_4 ⟨by first | exact Nat.le_of_ble_eq_true rfl | omega, by first | exact Nat.le_of_ble_eq_true rfl | omega⟩) hS (by omega) (fun E ce q9 H9 locs9 hXx hFx hSx hce hcv hcl => ?_) (fun r2 H1 locs hq hF hS => ?_)
  · have hS := hSx
    have hMW9 := hMW.fr hFx (by omega)
    have hOut9 : OJ G (y + 34) H9 := OJ.fr ⟨_, hOut⟩ hFx (by omega)
    obtain ⟨rfl, hn, hXW9⟩ := hXx
    refine vx_catch (E := xIO) (name := xIO) hown [] ⟨0, 9, 12, 28⟩ [] htab (fun z hz => absurd hz List.not_mem_nil) (by decide) (by decide) hw0 (cast_self hcl) hce hcv hcl ?_
    refine lv_astore_n (lv' := [(3, .ref q9), (0, .ref b), (1, .int x), (2, .ref (y + 34))]) hx hb dL_at_12 rfl hl (by decide) rfl (fun ls hl => ?_)
    refine lv_iconst (v := nI 1) hx hb dL_at_13 (by decide) ?_
    exact x_iret hx hb hr hlocks h0 hS (by omega) (by omega) dL_at_14 (⟨CR.no (by decide) (rs1_1 hn) hXW9, hMW9, hOut9⟩)
  have hOut := hOut.fr hF (by omega)
  have hMW := hMW.fr hF (by omega)
  obtain ⟨hA, hXW, pm, hOS, rfl⟩ := hq
  refine lv_i2l hx hb dL_at_7 rfl ?_
  refine x_last hx hb hK hOut (by omega) (by decide) hS (by unfold gA; omega) dL_at_8 (fun H3 locs hOut hF hz hS => ?_)
  have hMW := hMW.fr hF (by omega)
  have hXW := hXW.fr hF (by omega)
  refine lv_goto (tgt := 15) hx hb dL_at_9 (by decide) ?_
  refine lv_iconst (v := nI 0) hx hb dL_at_15 (by decide) ?_
  exact x_iret hx hb hr hlocks h0 hS (by omega) (by omega) dL_at_16 (⟨CR.ok (rs1_y hA) ⟨pm, hOS, _, hOut, rfl⟩ hXW, hMW, ⟨_, hOut⟩⟩)
