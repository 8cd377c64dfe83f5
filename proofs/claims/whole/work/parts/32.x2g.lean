abbrev RMX2_fillOrders : Room := { frames := 6, cells := 0, slots := 0, locals := 135 }
set_option maxHeartbeats 4000000 in
set_option maxRecDepth 100000 in
theorem c_X2_fillOrders (l : Launch) (G : gG) (b : Nat) (L : List Nat) (txt : Nat → List Nat) (sl : Nat → Nat) (sp : Nat) (H0 : Heap) (hB : XB G b L txt sl sp H0) : XM l yX2_fillOrders wsX2_fillOrders RMX2_fillOrders G [.ref b] H0 (b + 6) (b + 7) 0 0 (qV (fun H1 => XB G b L txt sl sp H1 ∧ XO G b txt H1)) xN := by
  refine x_ofW (cc := cX2_fillOrders) (maxL := 3) (ret := none) (by decide) rfl (Nat.le_of_ble_eq_true rfl) ?_
  intro p e s m below meth c hx hb hr hml hown hts hlocks hout hin2 h0 hE ls hl
  replace hown : s.vm.findClass RX2 = some m.cls := hown
  have hK := hE.1
  have hS : va_S (gA (b + 6) (b + 7) H0.size) H0 H0 [] := va_S.rf
  generalize hargs : ([.ref b] : List Value).toArray = args at hts ⊢
  have hw0 := hts (.fieldLink RX2 29 "Releaseledger" "orders" "[I") (by decide +kernel)
  have hw1 : ∀ w ∈ u_ws RX2 TX2 6, w ∈ wsX2_fillOrders := by decide +kernel
  have hw2 := hts (.fieldLink RX2 18 "Releaseledger" "slots" "[LReleaseledger$Version;") (by decide +kernel)
  have hl : lv_has ls 3 [(0, .ref b)] := hl
  have hO := hB.O
  have hT := hB.T
  obtain ⟨f3, hSl, hsl⟩ := hB.2.2.1
  have hrg := hB.rng
  obtain ⟨f6, hOr⟩ := hB.2.2.2.2.2.1
  refine lv_iconst (v := nI 0) hx hb dX2_fillOrders_0 (by decide) ?_
  refine lv_istore_n (lv' := [(1, .int (nI 0)), (0, .ref b)]) hx hb dX2_fillOrders_1 rfl hl (by decide) rfl (fun ls hl => ?_)
  have loop2 : ∀ (fu : Nat) (i : Nat) (g : Nat → Int32) (hi : i ≤ 8) (h1 : ∀ a d, a < i → d < 8 → g (a * 8 + d) = ordr (txt a) (txt d)) (H : Heap) (locs : List Loc) (hS : va_S (gA (b + 6) (b + 7) H0.size) H0 H locs) (hO : gO G b 2 [.ref (b + 1), .ref (b + 3), .ref (b + 4), .ref (b + 5), .ref (b + 6), .ref (vk b sp)] H) (hSl : gQ G (b + 3) 2 8 f3 H) (hOr : gI G (b + 6) 1 64 g H) (hB : XB G b L txt sl sp H) (ls : Array Slot), 8 - i < fu → lv_has ls 3 [(1, .int (nI i)), (0, .ref b)] → W p l e RMX2_fillOrders s m args below meth c H locs 0 0 (XQ below args s H0 (b + 6) (b + 7) 0 0 (qV (fun H1 => XB G b L txt sl sp H1 ∧ XO G b txt H1)) xN) (F0 m 2 ls []) := by
    intro fu2
    induction fu2 with
    | zero => intro i g hi h1 H locs hS hO hSl hOr hB ls hmu; exact absurd hmu (Nat.not_lt_zero _)
    | succ fu2 ih2 =>
      intro i g hi h1 H locs hS hO hSl hOr hB ls hmu2 hl
      refine lv_iload_n hx hb dX2_fillOrders_2 rfl (lv_at hl 0 rfl) ?_
      refine lv_bipush (v := nI 8) hx hb dX2_fillOrders_3 (by decide) ?_
      refine x_icmp_ge (tgt := 54) hx hb (by omega) (by omega) dX2_fillOrders_5 (by decide) (fun c5 => ?_) (fun c5 => ?_)
      · exact x_vret hx hb hr hlocks h0 hS (by omega) (by omega) dX2_fillOrders_54 (⟨hB, _, hOr, fun a d ha hd => h1 a d (by omega) hd⟩)
      · refine lv_iconst (v := nI 0) hx hb dX2_fillOrders_8 (by decide) ?_
        refine lv_istore_n (lv' := [(2, .int (nI 0)), (1, .int (nI i)), (0, .ref b)]) hx hb dX2_fillOrders_9 rfl hl (by decide) rfl (fun ls hl => ?_)
        have loop10 : ∀ (fu : Nat) (j : Nat) (g2 : Nat → Int32) (hj : j ≤ 8) (h2 : ∀ a d, a < i → d < 8 → g2 (a * 8 + d) = ordr (txt a) (txt d)) (h3 : ∀ d, d < j → g2 (i * 8 + d) = ordr (txt i) (txt d)) (H : Heap) (locs : List Loc) (hS : va_S (gA (b + 6) (b + 7) H0.size) H0 H locs) (hO : gO G b 2 [.ref (b + 1), .ref (b + 3), .ref (b + 4), .ref (b + 5), .ref (b + 6), .ref (vk b sp)] H) (hSl : gQ G (b + 3) 2 8 f3 H) (hOr : gI G (b + 6) 1 64 g2 H) (hB : XB G b L txt sl sp H) (ls : Array Slot), 8 - j < fu → lv_has ls 3 [(2, .int (nI j)), (1, .int (nI i)), (0, .ref b)] → W p l e RMX2_fillOrders s m args below meth c H locs 0 0 (XQ below args s H0 (b + 6) (b + 7) 0 0 (qV (fun H1 => XB G b L txt sl sp H1 ∧ XO G b txt H1)) xN) (F0 m 10 ls []) := by
          intro fu10
          induction fu10 with
          | zero => intro j g2 hj h2 h3 H locs hS hO hSl hOr hB ls hmu; exact absurd hmu (Nat.not_lt_zero _)
          | succ fu10 ih10 =>
            intro j g2 hj h2 h3 H locs hS hO hSl hOr hB ls hmu10 hl
            refine lv_iload_n hx hb dX2_fillOrders_10 rfl (lv_at hl 0 rfl) ?_
            refine lv_bipush (v := nI 8) hx hb dX2_fillOrders_11 (by decide) ?_
            refine x_icmp_ge (tgt := 48) hx hb (by omega) (by omega) dX2_fillOrders_13 (by decide) (fun c13 => ?_) (fun c13 => ?_)
            · refine lv_iinc (v := nI (i + 1)) (lv' := [(1, .int (nI (i + 1))), (2, .int (nI j)), (0, .ref b)]) hx hb dX2_fillOrders_48 hl (k := 1) rfl (nI_1 _) (by decide) rfl (fun ls hl => ?_)
              refine lv_goto (tgt := 2) hx hb dX2_fillOrders_51 (by decide) ?_
              exact ih2 (i + 1) g2 (by omega) (fo_3 (F := (fun a d => ordr (txt a) (txt d))) h2 (fun d hd => h3 d (by omega))) H _ hS hO hSl hOr hB ls (by omega) (lv_sub hl [0, 2] rfl)
            · have hM_i := hB.V (i := i) (by omega)
              have hO_i := hM_i.1.1
              have hMt_i := hM_i.2.1
              have hMn_i := hMt_i.le
              have hdis_i := hB.dis (i := i) (by omega)
              have gM_i := hB.g (i := i) (by omega)
              have hri_i := hB.rngi (i := i) (by omega)
              have hM_j := hB.V (i := j) (by omega)
              have hO_j := hM_j.1.1
              have hMt_j := hM_j.2.1
              have hMn_j := hMt_j.le
              have hdis_j := hB.dis (i := j) (by omega)
              have gM_j := hB.g (i := j) (by omega)
              have hri_j := hB.rngi (i := j) (by omega)
              refine lv_aload_n hx hb dX2_fillOrders_16 rfl (lv_at hl 2 rfl) ?_
              refine x_get (ci := 2) hx hb hts hown hK rfl hw1 4 (by decide) hw0 hO rfl dX2_fillOrders_17 ?_
              refine lv_iload_n hx hb dX2_fillOrders_20 rfl (lv_at hl 1 rfl) ?_
              refine lv_bipush (v := nI 8) hx hb dX2_fillOrders_21 (by decide) ?_
              refine lv_imul hx hb dX2_fillOrders_23 ?_
              refine x_rw (z := nI (i * 8)) (pk_mul _ _) ?_
              refine lv_iload_n hx hb dX2_fillOrders_24 rfl (lv_at hl 0 rfl) ?_
              refine lv_iadd hx hb dX2_fillOrders_25 ?_
              refine x_rw (z := nI ((i * 8) + j)) (nI_add _ _) ?_
              refine lv_aload_n hx hb dX2_fillOrders_26 rfl (lv_at hl 2 rfl) ?_
              refine x_get (ci := 2) hx hb hts hown hK rfl hw1 1 (by decide) hw2 hO rfl dX2_fillOrders_27 ?_
              refine lv_iload_n hx hb dX2_fillOrders_30 rfl (lv_at hl 1 rfl) ?_
              refine x_aald (k := 2) (v := (vk b (sl i))) hx hb hK (by decide) rfl hSl (by omega) (by decide) (hsl _ (by omega)) dX2_fillOrders_31 ?_
              refine lv_aload_n hx hb dX2_fillOrders_32 rfl (lv_at hl 2 rfl) ?_
              refine x_get (ci := 2) hx hb hts hown hK rfl hw1 1 (by decide) hw2 hO rfl dX2_fillOrders_33 ?_
              refine lv_iload_n hx hb dX2_fillOrders_36 rfl (lv_at hl 0 rfl) ?_
              refine x_aald (k := 2) (v := (vk b (sl j))) hx hb hK (by decide) rfl hSl (by omega) (by decide) (hsl _ (by omega)) dX2_fillOrders_37 ?_
              refine x_goI_ro (x_runV (As := [.ref (vk b (sl j))]) (rest := [.int (nI ((i * 8) + j)), .ref (b + 6)]) ⟨hx, hb, hml, hown, hts⟩ hE h0 hS (c_X1_orderTo l G (vk b (sl i)) (vk b (sl j)) (txt i) (txt j) (tk (txt i)) (tk (txt j)) gM_i.J gM_j.J H hM_i hM_j) (cwV 1 hts gX2_fillOrders_X1_orderTo rfl rfl rfl (by decide +kernel) ⟨Nat.le_of_ble_eq_true rfl, Nat.le_of_ble_eq_true rfl⟩) (hM_i.recv hK) (by omega) rfl rfl hl.1 rfl (lv_room (Nat.le_of_ble_eq_true rfl)) dX2_fillOrders_38 ⟨by first | exact Nat.le_of_ble_eq_true rfl | omega, by first | exact Nat.le_of_ble_eq_true rfl | omega⟩) hS (by omega) (fun _ _ _ _ _ h => h.elim) (fun locs hq hS => ?_)
              refine x_rw (z := ordr (txt i) (txt j)) rfl ?_
              refine x_iast hx hb hK hOr (by omega) (by decide) hS (by unfold gA; omega) dX2_fillOrders_41 (fun H2 locs hOr hF hz hS => ?_)
              have hO := hO.fr hF (by omega)
              have hSl := hSl.fr hF (by omega)
              have hB := hB.setO hF hOr
              refine lv_iinc (v := nI (j + 1)) (lv' := [(2, .int (nI (j + 1))), (1, .int (nI i)), (0, .ref b)]) hx hb dX2_fillOrders_42 hl (k := 0) rfl (nI_1 _) (by decide) rfl (fun ls hl => ?_)
              refine lv_goto (tgt := 10) hx hb dX2_fillOrders_45 (by decide) ?_
              exact ih10 (j + 1) (upd g2 ((i * 8) + j) (ordr (txt i) (txt j))) (by omega) (fo_1 (F := (fun a d => ordr (txt a) (txt d))) h2 (by omega)) (fo_2 (F := (fun a d => ordr (txt a) (txt d))) h3) H2 _ hS hO hSl hOr hB ls (by omega) (lv_sub hl [0, 1, 2] rfl)
        exact loop10 _ 0 g (by omega) h1 lt_0 H _ hS hO hSl hOr hB ls (Nat.lt_succ_self _) (lv_sub hl [0, 1, 2] rfl)
  exact loop2 _ 0 f6 (by omega) (fun a d h => absurd h (Nat.not_lt_zero _)) H0 _ hS hO hSl hOr hB ls (Nat.lt_succ_self _) (lv_sub hl [0, 1] rfl)

abbrev RMX2_orderOf : Room := { frames := 2, cells := 0, slots := 0, locals := 32 }
set_option maxHeartbeats 4000000 in
set_option maxRecDepth 100000 in
theorem c_X2_orderOf (l : Launch) (G : gG) (b : Nat) (L : List Nat) (txt : Nat → List Nat) (sl : Nat → Nat) (sp : Nat) (i j : Nat) (hi8 : i < 8) (hj8 : j < 8) (H0 : Heap) (hB : XB G b L txt sl sp H0) (hXO : XO G b txt H0) : XM l yX2_orderOf wsX2_orderOf RMX2_orderOf G [.ref b, .int (nI i), .int (nI j)] H0 0 0 0 0 (roI H0 (ordr (txt i) (txt j)) True) xN := by
  refine x_ofW (cc := cX2_orderOf) (maxL := 3) (ret := (some .int)) (by decide) rfl (Nat.le_of_ble_eq_true rfl) ?_
  intro p e s m below meth c hx hb hr hml hown hts hlocks hout hin2 h0 hE ls hl
  replace hown : s.vm.findClass RX2 = some m.cls := hown
  have hK := hE.1
  have hS : va_S (gA 0 0 H0.size) H0 H0 [] := va_S.rf
  generalize hargs : ([.ref b, .int (nI i), .int (nI j)] : List Value).toArray = args at hts ⊢
  have hw0 := hts (.fieldLink RX2 29 "Releaseledger" "orders" "[I") (by decide +kernel)
  have hw1 : ∀ w ∈ u_ws RX2 TX2 6, w ∈ wsX2_orderOf := by decide +kernel
  have hl : lv_has ls 3 [(0, .ref b), (1, .int (nI i)), (2, .int (nI j))] := hl
  have hO := hB.O
  have hT := hB.T
  obtain ⟨f3, hSl, hsl⟩ := hB.2.2.1
  obtain ⟨f6, hOr, hor⟩ := hXO
  refine lv_iload_n hx hb dX2_orderOf_0 rfl (lv_at hl 1 rfl) ?_
  refine x_goV_ro (x_runS (As := [.int (nI i)]) (rest := []) ⟨hx, hb, hml, hown, hts⟩ hE h0 hS (c_X2_checkSlot0 l G i (by omega) H0) (va_cwS 1 hts gX2_orderOf_X2_checkSlot rfl rfl rfl (by decide +kernel) ⟨Nat.le_of_ble_eq_true rfl, Nat.le_of_ble_eq_true rfl⟩) (by omega) rfl rfl hl.1 rfl (lv_room (Nat.le_of_ble_eq_true rfl)) dX2_orderOf_1 ⟨by first | exact Nat.le_of_ble_eq_true rfl | omega, by first | exact Nat.le_of_ble_eq_true rfl | omega⟩) hS (by omega) (fun _ _ _ _ _ h => h.elim) (fun locs hq hS => ?_)
  refine lv_iload_n hx hb dX2_orderOf_4 rfl (lv_at hl 2 rfl) ?_
  refine x_goV_ro (x_runS (As := [.int (nI j)]) (rest := []) ⟨hx, hb, hml, hown, hts⟩ hE h0 hS (c_X2_checkSlot0 l G j (by omega) H0) (va_cwS 1 hts gX2_orderOf_X2_checkSlot rfl rfl rfl (by decide +kernel) ⟨Nat.le_of_ble_eq_true rfl, Nat.le_of_ble_eq_true rfl⟩) (by omega) rfl rfl hl.1 rfl (lv_room (Nat.le_of_ble_eq_true rfl)) dX2_orderOf_5 ⟨by first | exact Nat.le_of_ble_eq_true rfl | omega, by first | exact Nat.le_of_ble_eq_true rfl | omega⟩) hS (by omega) (fun _ _ _ _ _ h => h.elim) (fun locs hq hS => ?_)
  refine lv_aload_n hx hb dX2_orderOf_8 rfl (lv_at hl 0 rfl) ?_
  refine x_get (ci := 2) hx hb hts hown hK rfl hw1 4 (by decide) hw0 hO rfl dX2_orderOf_9 ?_
  refine lv_iload_n hx hb dX2_orderOf_12 rfl (lv_at hl 1 rfl) ?_
  refine lv_bipush (v := nI 8) hx hb dX2_orderOf_13 (by decide) ?_
  refine lv_imul hx hb dX2_orderOf_15 ?_
  refine x_rw (z := nI (i * 8)) (pk_mul _ _) ?_
  refine lv_iload_n hx hb dX2_orderOf_16 rfl (lv_at hl 2 rfl) ?_
  refine lv_iadd hx hb dX2_orderOf_17 ?_
  refine x_rw (z := nI ((i * 8) + j)) (nI_add _ _) ?_
  refine x_iald hx hb hK hOr (by omega) (by decide) dX2_orderOf_18 ?_
  refine x_rw (z := (ordr (txt i) (txt j))) (hor i j hi8 hj8) ?_
  exact x_iret hx hb hr hlocks h0 hS (by omega) (by omega) dX2_orderOf_19 (⟨rfl, rfl, trivial⟩)

abbrev RMX2_isTrueOfTwo : Room := { frames := 6, cells := 0, slots := 0, locals := 134 }
set_option maxHeartbeats 4000000 in
set_option maxRecDepth 100000 in
theorem c_X2_isTrueOfTwo (l : Launch) (G : gG) (b : Nat) (L : List Nat) (txt : Nat → List Nat) (sl : Nat → Nat) (sp : Nat) (i j : Nat) (hi8 : i < 8) (hj8 : j < 8) (H0 : Heap) (hB : XB G b L txt sl sp H0) (hXO : XO G b txt H0) : XM l yX2_isTrueOfTwo wsX2_isTrueOfTwo RMX2_isTrueOfTwo G [.ref b, .int (nI i), .int (nI j)] H0 0 0 0 0 (roI H0 (bI true) True) xN := by
  refine x_ofW (cc := cX2_isTrueOfTwo) (maxL := 5) (ret := (some .boolean)) (by decide) rfl (Nat.le_of_ble_eq_true rfl) ?_
  intro p e s m below meth c hx hb hr hml hown hts hlocks hout hin2 h0 hE ls hl
  replace hown : s.vm.findClass RX2 = some m.cls := hown
  have hK := hE.1
  have hS : va_S (gA 0 0 H0.size) H0 H0 [] := va_S.rf
  generalize hargs : ([.ref b, .int (nI i), .int (nI j)] : List Value).toArray = args at hts ⊢
  have hl : lv_has ls 5 [(0, .ref b), (1, .int (nI i)), (2, .int (nI j))] := hl
  have hM_i := hB.V (i := i) (by omega)
  have hO_i := hM_i.1.1
  have hMt_i := hM_i.2.1
  have hMn_i := hMt_i.le
  have hdis_i := hB.dis (i := i) (by omega)
  have gM_i := hB.g (i := i) (by omega)
  have hri_i := hB.rngi (i := i) (by omega)
  have hM_j := hB.V (i := j) (by omega)
  have hO_j := hM_j.1.1
  have hMt_j := hM_j.2.1
  have hMn_j := hMt_j.le
  have hdis_j := hB.dis (i := j) (by omega)
  have gM_j := hB.g (i := j) (by omega)
  have hri_j := hB.rngi (i := j) (by omega)
  refine lv_aload_n hx hb dX2_isTrueOfTwo_0 rfl (lv_at hl 0 rfl) ?_
  refine lv_iload_n hx hb dX2_isTrueOfTwo_1 rfl (lv_at hl 1 rfl) ?_
  refine lv_iload_n hx hb dX2_isTrueOfTwo_2 rfl (lv_at hl 2 rfl) ?_
  refine x_goI_ro (x_runV (As := [.int (nI i), .int (nI j)]) (rest := []) ⟨hx, hb, hml, hown, hts⟩ hE h0 hS (c_X2_orderOf l G b L txt sl sp i j (by omega) (by omega) H0 hB hXO) (cwV 2 hts gX2_isTrueOfTwo_X2_orderOf rfl rfl rfl (by decide +kernel) ⟨Nat.le_of_ble_eq_true rfl, Nat.le_of_ble_eq_true rfl⟩) (hB.recv hK) (by omega) rfl rfl hl.1 rfl (lv_room (Nat.le_of_ble_eq_true rfl)) dX2_isTrueOfTwo_3 ⟨by first | exact Nat.le_of_ble_eq_true rfl | omega, by first | exact Nat.le_of_ble_eq_true rfl | omega⟩) hS (by omega) (fun _ _ _ _ _ h => h.elim) (fun locs hq hS => ?_)
  refine lv_istore_n (lv' := [(3, .int (ordr (txt i) (txt j))), (0, .ref b), (1, .int (nI i)), (2, .int (nI j))]) hx hb dX2_isTrueOfTwo_6 rfl hl (by decide) rfl (fun ls hl => ?_)
  refine lv_aload_n hx hb dX2_isTrueOfTwo_7 rfl (lv_at hl 1 rfl) ?_
  refine lv_iload_n hx hb dX2_isTrueOfTwo_8 rfl (lv_at hl 2 rfl) ?_
  refine x_goR_ro (x_runV (As := [.int (nI i)]) (rest := []) ⟨hx, hb, hml, hown, hts⟩ hE h0 hS (c_X2_versionIn0 l G b L txt sl sp i (by omega) H0 hB) (cwV 1 hts gX2_isTrueOfTwo_X2_versionIn rfl rfl rfl (by decide +kernel) ⟨Nat.le_of_ble_eq_true rfl, Nat.le_of_ble_eq_true rfl⟩) (hB.recv hK) (by omega) rfl rfl hl.1 rfl (lv_room (Nat.le_of_ble_eq_true rfl)) dX2_isTrueOfTwo_9 ⟨by first | exact Nat.le_of_ble_eq_true rfl | omega, by first | exact Nat.le_of_ble_eq_true rfl | omega⟩) hS (by omega) (fun _ _ _ _ _ h => h.elim) (fun locs hq hS => ?_)
  refine lv_aload_n hx hb dX2_isTrueOfTwo_12 rfl (lv_at hl 1 rfl) ?_
  refine lv_iload_n hx hb dX2_isTrueOfTwo_13 rfl (lv_at hl 3 rfl) ?_
  refine x_goR_ro (x_runV (As := [.int (nI j)]) (rest := [.ref (vk b (sl i))]) ⟨hx, hb, hml, hown, hts⟩ hE h0 hS (c_X2_versionIn0 l G b L txt sl sp j (by omega) H0 hB) (cwV 1 hts gX2_isTrueOfTwo_X2_versionIn rfl rfl rfl (by decide +kernel) ⟨Nat.le_of_ble_eq_true rfl, Nat.le_of_ble_eq_true rfl⟩) (hB.recv hK) (by omega) rfl rfl hl.1 rfl (lv_room (Nat.le_of_ble_eq_true rfl)) dX2_isTrueOfTwo_14 ⟨by first | exact Nat.le_of_ble_eq_true rfl | omega, by first | exact Nat.le_of_ble_eq_true rfl | omega⟩) hS (by omega) (fun _ _ _ _ _ h => h.elim) (fun locs hq hS => ?_)
  refine x_goI_ro (x_runV (As := [.ref (vk b (sl j))]) (rest := []) ⟨hx, hb, hml, hown, hts⟩ hE h0 hS (c_X1_tellingRow l G (vk b (sl i)) (vk b (sl j)) (txt i) (txt j) (tk (txt i)) (tk (txt j)) gM_i.J gM_j.J H0 hM_i hM_j) (cwV 1 hts gX2_isTrueOfTwo_X1_tellingRow rfl rfl rfl (by decide +kernel) ⟨Nat.le_of_ble_eq_true rfl, Nat.le_of_ble_eq_true rfl⟩) (hM_i.recv hK) (by omega) rfl rfl hl.1 rfl (lv_room (Nat.le_of_ble_eq_true rfl)) dX2_isTrueOfTwo_17 ⟨by first | exact Nat.le_of_ble_eq_true rfl | omega, by first | exact Nat.le_of_ble_eq_true rfl | omega⟩) hS (by omega) (fun _ _ _ _ _ h => h.elim) (fun locs hq hS => ?_)
  refine x_rw (z := tellr (txt i) (txt j)) rfl ?_
  refine lv_istore (lv' := [(4, .int (tellr (txt i) (txt j))), (3, .int (ordr (txt i) (txt j))), (0, .ref b), (1, .int (nI i)), (2, .int (nI j))]) hx hb dX2_isTrueOfTwo_20 hl (by decide) rfl (fun ls hl => ?_)
  refine lv_iload_n hx hb dX2_isTrueOfTwo_22 rfl (lv_at hl 1 rfl) ?_
  refine lv_aload_n hx hb dX2_isTrueOfTwo_23 rfl (lv_at hl 2 rfl) ?_
  refine lv_iload_n hx hb dX2_isTrueOfTwo_24 rfl (lv_at hl 4 rfl) ?_
  refine lv_iload_n hx hb dX2_isTrueOfTwo_25 rfl (lv_at hl 3 rfl) ?_
  refine x_goI_ro (x_runV (As := [.int (nI j), .int (nI i)]) (rest := [.int (ordr (txt i) (txt j))]) ⟨hx, hb, hml, hown, hts⟩ hE h0 hS (c_X2_orderOf l G b L txt sl sp j i (by omega) (by omega) H0 hB hXO) (cwV 2 hts gX2_isTrueOfTwo_X2_orderOf rfl rfl rfl (by decide +kernel) ⟨Nat.le_of_ble_eq_true rfl, Nat.le_of_ble_eq_true rfl⟩) (hB.recv hK) (by omega) rfl rfl hl.1 rfl (lv_room (Nat.le_of_ble_eq_true rfl)) dX2_isTrueOfTwo_26 ⟨by first | exact Nat.le_of_ble_eq_true rfl | omega, by first | exact Nat.le_of_ble_eq_true rfl | omega⟩) hS (by omega) (fun _ _ _ _ _ h => h.elim) (fun locs hq hS => ?_)
  refine lv_ineg hx hb dX2_isTrueOfTwo_29 ?_
  refine lv_icmp_ne (tgt := 60) hx hb dX2_isTrueOfTwo_30 (by decide) (fun c30 => ?_) (fun c30 => ?_)
  · exact absurd (ordr_anti gM_i gM_j) c30
  · refine lv_iload_n hx hb dX2_isTrueOfTwo_33 rfl (lv_at hl 1 rfl) ?_
    refine lv_if_ne (tgt := 41) hx hb dX2_isTrueOfTwo_34 (by decide) (fun c34 => ?_) (fun c34 => ?_)
    · refine lv_iconst (v := nI 0) hx hb dX2_isTrueOfTwo_41 (by decide) ?_
      refine lv_iload hx hb dX2_isTrueOfTwo_42 (lv_at hl 0 rfl) ?_
      refine lv_iconst (v := (-1)) hx hb dX2_isTrueOfTwo_44 (by decide) ?_
      refine lv_icmp_ne (tgt := 52) hx hb dX2_isTrueOfTwo_45 (by decide) (fun c45 => ?_) (fun c45 => ?_)
      · refine lv_iconst (v := nI 0) hx hb dX2_isTrueOfTwo_52 (by decide) ?_
        refine x_icmp_ne (tgt := 60) hx hb (by omega) (by omega) dX2_isTrueOfTwo_53 (by decide) (fun c53 => ?_) (fun c53 => ?_)
        · exact absurd rfl c53
        · refine lv_iconst (v := nI 1) hx hb dX2_isTrueOfTwo_56 (by decide) ?_
          refine lv_goto (tgt := 61) hx hb dX2_isTrueOfTwo_57 (by decide) ?_
          exact x_zret hx hb hr hlocks h0 hS (by omega) (by omega) dX2_isTrueOfTwo_61 (by first | rfl | exact bI_nar _) (⟨rfl, rfl, trivial⟩)
      · refine lv_iconst (v := nI 1) hx hb dX2_isTrueOfTwo_48 (by decide) ?_
        refine lv_goto (tgt := 53) hx hb dX2_isTrueOfTwo_49 (by decide) ?_
        refine x_icmp_ne (tgt := 60) hx hb (by omega) (by omega) dX2_isTrueOfTwo_53 (by decide) (fun c53 => ?_) (fun c53 => ?_)
        · first | exact absurd (tellr_iff.mp c34) c45 | exact absurd (tellr_iff.mpr c45) c34
        · exact absurd c53 (by decide)
    · refine lv_iconst (v := nI 1) hx hb dX2_isTrueOfTwo_37 (by decide) ?_
      refine lv_goto (tgt := 42) hx hb dX2_isTrueOfTwo_38 (by decide) ?_
      refine lv_iload hx hb dX2_isTrueOfTwo_42 (lv_at hl 0 rfl) ?_
      refine lv_iconst (v := (-1)) hx hb dX2_isTrueOfTwo_44 (by decide) ?_
      refine lv_icmp_ne (tgt := 52) hx hb dX2_isTrueOfTwo_45 (by decide) (fun c45 => ?_) (fun c45 => ?_)
      · refine lv_iconst (v := nI 0) hx hb dX2_isTrueOfTwo_52 (by decide) ?_
        refine x_icmp_ne (tgt := 60) hx hb (by omega) (by omega) dX2_isTrueOfTwo_53 (by decide) (fun c53 => ?_) (fun c53 => ?_)
        · first | exact absurd (tellr_iff.mp c34) c45 | exact absurd (tellr_iff.mpr c45) c34
        · exact absurd c53 (by decide)
      · refine lv_iconst (v := nI 1) hx hb dX2_isTrueOfTwo_48 (by decide) ?_
        refine lv_goto (tgt := 53) hx hb dX2_isTrueOfTwo_49 (by decide) ?_
        refine x_icmp_ne (tgt := 60) hx hb (by omega) (by omega) dX2_isTrueOfTwo_53 (by decide) (fun c53 => ?_) (fun c53 => ?_)
        · exact absurd rfl c53
        · refine lv_iconst (v := nI 1) hx hb dX2_isTrueOfTwo_56 (by decide) ?_
          refine lv_goto (tgt := 61) hx hb dX2_isTrueOfTwo_57 (by decide) ?_
          exact x_zret hx hb hr hlocks h0 hS (by omega) (by omega) dX2_isTrueOfTwo_61 (by first | rfl | exact bI_nar _) (⟨rfl, rfl, trivial⟩)

abbrev RMX2_isTrueOfThree : Room := { frames := 1, cells := 0, slots := 0, locals := 12 }
set_option maxHeartbeats 4000000 in
set_option maxRecDepth 100000 in
theorem c_X2_isTrueOfThree (l : Launch) (G : gG) (x y z : Int32) (ht : tri x y z = true) (H0 : Heap)  : XM l yX2_isTrueOfThree wsX2_isTrueOfThree RMX2_isTrueOfThree G [.int x, .int y, .int z] H0 0 0 0 0 (roI H0 (bI true) True) xN := by
  refine x_ofW (cc := cX2_isTrueOfThree) (maxL := 3) (ret := (some .boolean)) (by decide) rfl (Nat.le_of_ble_eq_true rfl) ?_
  intro p e s m below meth c hx hb hr hml hown hts hlocks hout hin2 h0 hE ls hl
  replace hown : s.vm.findClass RX2 = some m.cls := hown
  have hK := hE.1
  have hS : va_S (gA 0 0 H0.size) H0 H0 [] := va_S.rf
  generalize hargs : ([.int x, .int y, .int z] : List Value).toArray = args at hts ⊢
  have hl : lv_has ls 3 [(0, .int x), (1, .int y), (2, .int z)] := hl
  unfold tri at ht
  refine lv_iload_n hx hb dX2_isTrueOfThree_0 rfl (lv_at hl 0 rfl) ?_
  refine lv_if_ne (tgt := 15) hx hb dX2_isTrueOfThree_1 (by decide) (fun c1 => ?_) (fun c1 => ?_)
  · refine lv_iload_n hx hb dX2_isTrueOfThree_15 rfl (lv_at hl 0 rfl) ?_
    refine lv_if_gt (tgt := 27) hx hb dX2_isTrueOfThree_16 (by decide) (fun c16 => ?_) (fun c16 => ?_)
    · refine lv_iconst (v := nI 1) hx hb dX2_isTrueOfThree_27 (by decide) ?_
      refine lv_goto (tgt := 32) hx hb dX2_isTrueOfThree_28 (by decide) ?_
      exact x_zret hx hb hr hlocks h0 hS (by omega) (by omega) dX2_isTrueOfThree_32 (by first | rfl | exact bI_nar _) (⟨rfl, rfl, trivial⟩)
    · refine lv_iload_n hx hb dX2_isTrueOfThree_19 rfl (lv_at hl 1 rfl) ?_
      refine lv_if_ge (tgt := 27) hx hb dX2_isTrueOfThree_20 (by decide) (fun c20 => ?_) (fun c20 => ?_)
      · refine lv_iconst (v := nI 1) hx hb dX2_isTrueOfThree_27 (by decide) ?_
        refine lv_goto (tgt := 32) hx hb dX2_isTrueOfThree_28 (by decide) ?_
        exact x_zret hx hb hr hlocks h0 hS (by omega) (by omega) dX2_isTrueOfThree_32 (by first | rfl | exact bI_nar _) (⟨rfl, rfl, trivial⟩)
      · refine lv_iload_n hx hb dX2_isTrueOfThree_23 rfl (lv_at hl 2 rfl) ?_
        refine lv_if_ge (tgt := 31) hx hb dX2_isTrueOfThree_24 (by decide) (fun c24 => ?_) (fun c24 => ?_)
        · rw [if_neg c1, decide_eq_false c16, decide_eq_false c20, decide_eq_false (Int32.not_lt.mpr c24)] at ht; exact absurd ht (by decide)
        · refine lv_iconst (v := nI 1) hx hb dX2_isTrueOfThree_27 (by decide) ?_
          refine lv_goto (tgt := 32) hx hb dX2_isTrueOfThree_28 (by decide) ?_
          exact x_zret hx hb hr hlocks h0 hS (by omega) (by omega) dX2_isTrueOfThree_32 (by first | rfl | exact bI_nar _) (⟨rfl, rfl, trivial⟩)
  · refine lv_iload_n hx hb dX2_isTrueOfThree_4 rfl (lv_at hl 2 rfl) ?_
    refine lv_iload_n hx hb dX2_isTrueOfThree_5 rfl (lv_at hl 1 rfl) ?_
    refine lv_icmp_ne (tgt := 13) hx hb dX2_isTrueOfThree_6 (by decide) (fun c6 => ?_) (fun c6 => ?_)
    · rw [if_pos c1] at ht; exact absurd (of_decide_eq_true ht) c6
    · refine lv_iconst (v := nI 1) hx hb dX2_isTrueOfThree_9 (by decide) ?_
      refine lv_goto (tgt := 14) hx hb dX2_isTrueOfThree_10 (by decide) ?_
      exact x_zret hx hb hr hlocks h0 hS (by omega) (by omega) dX2_isTrueOfThree_14 (by first | rfl | exact bI_nar _) (⟨rfl, rfl, trivial⟩)

abbrev RMX2_isTrueOfOne : Room := { frames := 6, cells := 0, slots := 0, locals := 135 }
set_option maxHeartbeats 4000000 in
set_option maxRecDepth 100000 in
theorem c_X2_isTrueOfOne (l : Launch) (G : gG) (b : Nat) (L : List Nat) (txt : Nat → List Nat) (sl : Nat → Nat) (sp : Nat) (P0 : List Nat) (i : Nat) (hi8 : i < 8) (H0 : Heap) (hB : XB G b L txt sl sp H0) (hVo : Vo G (vk b sp) P0 H0) : XM l yX2_isTrueOfOne wsX2_isTrueOfOne RMX2_isTrueOfOne G [.ref b, .ref (vk b (sl i))] H0 (vk b sp) (vk b sp + 12) 0 0 (qI (fun r H1 => r = bI true ∧ VoE G (vk b sp) H1)) xN := by
  refine x_ofW (cc := cX2_isTrueOfOne) (maxL := 4) (ret := (some .boolean)) (by decide) rfl (Nat.le_of_ble_eq_true rfl) ?_
  intro p e s m below meth c hx hb hr hml hown hts hlocks hout hin2 h0 hE ls hl
  replace hown : s.vm.findClass RX2 = some m.cls := hown
  have hK := hE.1
  have hS : va_S (gA (vk b sp) (vk b sp + 12) H0.size) H0 H0 [] := va_S.rf
  generalize hargs : ([.ref b, .ref (vk b (sl i))] : List Value).toArray = args at hts ⊢
  have hw0 := hts (.fieldLink RX2 33 "Releaseledger" "spare" "LReleaseledger$Version;") (by decide +kernel)
  have hw1 : ∀ w ∈ u_ws RX2 TX2 6, w ∈ wsX2_isTrueOfOne := by decide +kernel
  have hw2 : ∀ w ∈ u_ws RX1 TX1 4, w ∈ wsX2_isTrueOfOne := by decide +kernel
  have hl : lv_has ls 4 [(0, .ref b), (1, .ref (vk b (sl i)))] := hl
  have hO := hB.O
  have hT := hB.T
  obtain ⟨f3, hSl, hsl⟩ := hB.2.2.1
  have hrg := hB.rng
  have hM_i := hB.V (i := i) (by omega)
  have hO_i := hM_i.1.1
  have hMt_i := hM_i.2.1
  have hMn_i := hMt_i.le
  have hdis_i := hB.dis (i := i) (by omega)
  have gM_i := hB.g (i := i) (by omega)
  have hri_i := hB.rngi (i := i) (by omega)
  have hd0 : dgs 0 = 1 := dgs_small (by decide)
  have hd1 : dgs 1 = 1 := dgs_small (by decide)
  refine lv_aload_n hx hb dX2_isTrueOfOne_0 rfl (lv_at hl 0 rfl) ?_
  refine lv_aload_n hx hb dX2_isTrueOfOne_1 rfl (lv_at hl 1 rfl) ?_
  refine x_goV (x_runV (As := [.ref (vk b (sl i))]) (rest := []) ⟨hx, hb, hml, hown, hts⟩ hE h0 hS (c_X2_parseAnew l G b L txt sl sp P0 i (by omega) H0 hB hVo) (cwV 1 hts gX2_isTrueOfOne_X2_parseAnew rfl rfl rfl (by decide +kernel) ⟨Nat.le_of_ble_eq_true rfl, Nat.le_of_ble_eq_true rfl⟩) (hB.recv hK) (by omega) rfl rfl hl.1 rfl (lv_room (Nat.le_of_ble_eq_true rfl)) dX2_isTrueOfOne_2 ⟨by first | exact Nat.le_of_ble_eq_true rfl | omega, by first | exact Nat.le_of_ble_eq_true rfl | omega⟩) hS (by omega) (fun _ _ _ _ _ h => h.elim) (fun  H1 locs hq hF hS => ?_)
  have hO := hO.fr hF (by omega)
  have hO_i := hO_i.fr hF (by omega)
  have hB := hB.fr hF (by omega)
  have hM_i := hM_i.fr hF (by omega)
  have hP := hq
  have hVo := hP.vo
  have hOs := hP.1.1
  have gP := gM_i
  refine lv_aload_n hx hb dX2_isTrueOfOne_5 rfl (lv_at hl 0 rfl) ?_
  refine x_get (ci := 2) hx hb hts hown hK rfl hw1 5 (by decide) hw0 hO rfl dX2_isTrueOfOne_6 ?_
  refine x_getN (ci := 1) (host := RX2) hx hb hts hown hK rfl hw2 0 (by decide) (x_nest hE (by decide +kernel)) hOs rfl dX2_isTrueOfOne_9 ?_
  refine lv_aload_n hx hb dX2_isTrueOfOne_12 rfl (lv_at hl 1 rfl) ?_
  refine x_getN (ci := 1) (host := RX2) hx hb hts hown hK rfl hw2 0 (by decide) (x_nest hE (by decide +kernel)) hO_i rfl dX2_isTrueOfOne_13 ?_
  refine x_goI_ro (x_runV (As := [.ref (vk b (sl i) + 1)]) (rest := []) ⟨hx, hb, hml, hown, hts⟩ hE h0 hS (c_X0_isLike l G (vk b sp + 1) (vk b (sl i) + 1) (txt i) (txt i) H1 hP.2.1 hM_i.2.1) (cwV 1 hts gX2_isTrueOfOne_X0_isLike rfl rfl rfl (by decide +kernel) ⟨Nat.le_of_ble_eq_true rfl, Nat.le_of_ble_eq_true rfl⟩) (hP.2.1.recv hK) (by omega) rfl rfl hl.1 rfl (lv_room (Nat.le_of_ble_eq_true rfl)) dX2_isTrueOfOne_16 ⟨by first | exact Nat.le_of_ble_eq_true rfl | omega, by first | exact Nat.le_of_ble_eq_true rfl | omega⟩) hS (by omega) (fun _ _ _ _ _ h => h.elim) (fun locs hq hS => ?_)
  refine x_rw (z := (bI true)) (by rw [decide_eq_true rfl]) ?_
  refine x_if_eqB (tgt := 37) hx hb dX2_isTrueOfOne_19 (by decide) (fun c19 => ?_) (fun c19 => ?_)
  · exact absurd c19 (by decide)
  · refine lv_aload_n hx hb dX2_isTrueOfOne_22 rfl (lv_at hl 0 rfl) ?_
    refine x_get (ci := 2) hx hb hts hown hK rfl hw1 5 (by decide) hw0 hO rfl dX2_isTrueOfOne_23 ?_
    refine lv_aload_n hx hb dX2_isTrueOfOne_26 rfl (lv_at hl 1 rfl) ?_
    refine x_goI_ro (x_runV (As := [.ref (vk b (sl i))]) (rest := []) ⟨hx, hb, hml, hown, hts⟩ hE h0 hS (c_X1_orderTo l G (vk b sp) (vk b (sl i)) (txt i) (txt i) (tk (txt i)) (tk (txt i)) gP.J gM_i.J H1 hP hM_i) (cwV 1 hts gX2_isTrueOfOne_X1_orderTo rfl rfl rfl (by decide +kernel) ⟨Nat.le_of_ble_eq_true rfl, Nat.le_of_ble_eq_true rfl⟩) (hP.recv hK) (by omega) rfl rfl hl.1 rfl (lv_room (Nat.le_of_ble_eq_true rfl)) dX2_isTrueOfOne_27 ⟨by first | exact Nat.le_of_ble_eq_true rfl | omega, by first | exact Nat.le_of_ble_eq_true rfl | omega⟩) hS (by omega) (fun _ _ _ _ _ h => h.elim) (fun locs hq hS => ?_)
    refine x_rw (z := (nI 0)) (ordr_self gM_i) ?_
    refine x_if_neN (tgt := 37) hx hb (by omega) dX2_isTrueOfOne_30 (by decide) (fun c30 => ?_) (fun c30 => ?_)
    · exact absurd c30 (by decide)
    · refine lv_iconst (v := nI 1) hx hb dX2_isTrueOfOne_33 (by decide) ?_
      refine lv_goto (tgt := 38) hx hb dX2_isTrueOfOne_34 (by decide) ?_
      refine lv_istore_n (lv' := [(2, .int (nI 1)), (0, .ref b), (1, .ref (vk b (sl i)))]) hx hb dX2_isTrueOfOne_38 rfl hl (by decide) rfl (fun ls hl => ?_)
      refine lv_aload_n hx hb dX2_isTrueOfOne_39 rfl (lv_at hl 2 rfl) ?_
      refine x_getN (ci := 1) (host := RX2) hx hb hts hown hK rfl hw2 0 (by decide) (x_nest hE (by decide +kernel)) hO_i rfl dX2_isTrueOfOne_40 ?_
      refine x_goI_ro (x_runV (As := []) (rest := []) ⟨hx, hb, hml, hown, hts⟩ hE h0 hS (c_X0_length l G (vk b (sl i) + 1) (txt i) H1 hM_i.2.1) (cwV 0 hts gX2_isTrueOfOne_X0_length rfl rfl rfl (by decide +kernel) ⟨Nat.le_of_ble_eq_true rfl, Nat.le_of_ble_eq_true rfl⟩) (hM_i.2.1.recv hK) (by omega) rfl rfl hl.1 rfl (lv_room (Nat.le_of_ble_eq_true rfl)) dX2_isTrueOfOne_43 ⟨by first | exact Nat.le_of_ble_eq_true rfl | omega, by first | exact Nat.le_of_ble_eq_true rfl | omega⟩) hS (by omega) (fun _ _ _ _ _ h => h.elim) (fun locs hq hS => ?_)
      refine lv_iconst (v := nI 2) hx hb dX2_isTrueOfOne_46 (by decide) ?_
      refine lv_iadd hx hb dX2_isTrueOfOne_47 ?_
      refine x_rw (z := nI (((txt i).length) + 2)) (nI_add _ _) ?_
      refine lv_bipush (v := nI 60) hx hb dX2_isTrueOfOne_48 (by decide) ?_
      refine x_icmp_gt (tgt := 57) hx hb (by omega) (by omega) dX2_isTrueOfOne_50 (by decide) (fun c50 => ?_) (fun c50 => ?_)
      · refine lv_iconst (v := nI 0) hx hb dX2_isTrueOfOne_57 (by decide) ?_
        refine lv_istore_n (lv' := [(3, .int (nI 0)), (2, .int (nI 1)), (0, .ref b), (1, .ref (vk b (sl i)))]) hx hb dX2_isTrueOfOne_58 rfl hl (by decide) rfl (fun ls hl => ?_)
        refine lv_iload_n hx hb dX2_isTrueOfOne_59 rfl (lv_at hl 0 rfl) ?_
        refine x_if_eqN (tgt := 121) hx hb (by omega) dX2_isTrueOfOne_60 (by decide) (fun c60 => ?_) (fun c60 => ?_)
        · refine lv_iload_n hx hb dX2_isTrueOfOne_121 rfl (lv_at hl 0 rfl) ?_
          refine x_if_eqN (tgt := 161) hx hb (by omega) dX2_isTrueOfOne_122 (by decide) (fun c122 => ?_) (fun c122 => ?_)
          · refine lv_iload_n hx hb dX2_isTrueOfOne_161 rfl (lv_at hl 1 rfl) ?_
            exact x_zret hx hb hr hlocks h0 hS (by omega) (by omega) dX2_isTrueOfOne_162 (by first | rfl | exact bI_nar _) (⟨rfl, _, hVo⟩)
          · exact absurd c122 (by decide)
        · exact absurd c60 (by decide)
      · refine lv_iconst (v := nI 1) hx hb dX2_isTrueOfOne_53 (by decide) ?_
        refine lv_goto (tgt := 58) hx hb dX2_isTrueOfOne_54 (by decide) ?_
        refine lv_istore_n (lv' := [(3, .int (nI 1)), (2, .int (nI 1)), (0, .ref b), (1, .ref (vk b (sl i)))]) hx hb dX2_isTrueOfOne_58 rfl hl (by decide) rfl (fun ls hl => ?_)
        refine lv_iload_n hx hb dX2_isTrueOfOne_59 rfl (lv_at hl 0 rfl) ?_
        refine x_if_eqN (tgt := 121) hx hb (by omega) dX2_isTrueOfOne_60 (by decide) (fun c60 => ?_) (fun c60 => ?_)
        · exact absurd c60 (by decide)
        · refine lv_aload_n hx hb dX2_isTrueOfOne_63 rfl (lv_at hl 2 rfl) ?_
          refine lv_aload_n hx hb dX2_isTrueOfOne_64 rfl (lv_at hl 3 rfl) ?_
          refine lv_bipush (v := nI 46) hx hb dX2_isTrueOfOne_65 (by decide) ?_
          refine lv_iconst (v := nI 0) hx hb dX2_isTrueOfOne_67 (by decide) ?_
          refine x_goV (x_runV (As := [.ref (vk b (sl i)), .int (nI 46), .int (nI 0)]) (rest := []) ⟨hx, hb, hml, hown, hts⟩ hE h0 hS (c_X2_parseWithNumberBehind l G b L txt sl sp (txt i) i (by omega) 46 0 (by decide) (by omega) (by omega) H1 hB hVo) (cwV 3 hts gX2_isTrueOfOne_X2_parseWithNumberBehind rfl rfl rfl (by decide +kernel) ⟨Nat.le_of_ble_eq_true rfl, Nat.le_of_ble_eq_true rfl⟩) (hB.recv hK) (by omega) rfl rfl hl.1 rfl (lv_room (Nat.le_of_ble_eq_true rfl)) dX2_isTrueOfOne_68 ⟨by first | exact Nat.le_of_ble_eq_true rfl | omega, by first | exact Nat.le_of_ble_eq_true rfl | omega⟩) hS (by omega) (fun _ _ _ _ _ h => h.elim) (fun  H5 locs hq hF hS => ?_)
          have hO := hO.fr hF (by omega)
          have hO_i := hO_i.fr hF (by omega)
          have hB := hB.fr hF (by omega)
          have hM_i := hM_i.fr hF (by omega)
          have hP := hq
          have hVo := hP.vo
          have hOs := hP.1.1
          have gP : Gt (txt i ++ [46] ++ dg 0) := Gt_dot gM_i (by omega) (by omega)
          refine lv_iload_n hx hb dX2_isTrueOfOne_71 rfl (lv_at hl 1 rfl) ?_
          refine x_if_eqN (tgt := 90) hx hb (by omega) dX2_isTrueOfOne_72 (by decide) (fun c72 => ?_) (fun c72 => ?_)
          · exact absurd c72 (by decide)
          · refine lv_aload_n hx hb dX2_isTrueOfOne_75 rfl (lv_at hl 2 rfl) ?_
            refine x_get (ci := 2) hx hb hts hown hK rfl hw1 5 (by decide) hw0 hO rfl dX2_isTrueOfOne_76 ?_
            refine lv_aload_n hx hb dX2_isTrueOfOne_79 rfl (lv_at hl 3 rfl) ?_
            refine x_goI_ro (x_runV (As := [.ref (vk b (sl i))]) (rest := []) ⟨hx, hb, hml, hown, hts⟩ hE h0 hS (c_X1_orderTo l G (vk b sp) (vk b (sl i)) (txt i ++ [46] ++ dg 0) (txt i) (tk (txt i ++ [46] ++ dg 0)) (tk (txt i)) gP.J gM_i.J H5 hP hM_i) (cwV 1 hts gX2_isTrueOfOne_X1_orderTo rfl rfl rfl (by decide +kernel) ⟨Nat.le_of_ble_eq_true rfl, Nat.le_of_ble_eq_true rfl⟩) (hP.recv hK) (by omega) rfl rfl hl.1 rfl (lv_room (Nat.le_of_ble_eq_true rfl)) dX2_isTrueOfOne_80 ⟨by first | exact Nat.le_of_ble_eq_true rfl | omega, by first | exact Nat.le_of_ble_eq_true rfl | omega⟩) hS (by omega) (fun _ _ _ _ _ h => h.elim) (fun locs hq hS => ?_)
            refine x_rw (z := (nI 0)) (ordr_zero gM_i (by omega)) ?_
            refine x_if_neN (tgt := 90) hx hb (by omega) dX2_isTrueOfOne_83 (by decide) (fun c83 => ?_) (fun c83 => ?_)
            · exact absurd c83 (by decide)
            · refine lv_iconst (v := nI 1) hx hb dX2_isTrueOfOne_86 (by decide) ?_
              refine lv_goto (tgt := 91) hx hb dX2_isTrueOfOne_87 (by decide) ?_
              refine lv_istore_n (lv' := [(2, .int (nI 1)), (3, .int (nI 1)), (0, .ref b), (1, .ref (vk b (sl i)))]) hx hb dX2_isTrueOfOne_91 rfl hl (by decide) rfl (fun ls hl => ?_)
              refine lv_aload_n hx hb dX2_isTrueOfOne_92 rfl (lv_at hl 2 rfl) ?_
              refine lv_aload_n hx hb dX2_isTrueOfOne_93 rfl (lv_at hl 3 rfl) ?_
              refine lv_bipush (v := nI 46) hx hb dX2_isTrueOfOne_94 (by decide) ?_
              refine lv_iconst (v := nI 1) hx hb dX2_isTrueOfOne_96 (by decide) ?_
              refine x_goV (x_runV (As := [.ref (vk b (sl i)), .int (nI 46), .int (nI 1)]) (rest := []) ⟨hx, hb, hml, hown, hts⟩ hE h0 hS (c_X2_parseWithNumberBehind l G b L txt sl sp (txt i ++ [46] ++ dg 0) i (by omega) 46 1 (by decide) (by omega) (by omega) H5 hB hVo) (cwV 3 hts gX2_isTrueOfOne_X2_parseWithNumberBehind rfl rfl rfl (by decide +kernel) ⟨Nat.le_of_ble_eq_true rfl, Nat.le_of_ble_eq_true rfl⟩) (hB.recv hK) (by omega) rfl rfl hl.1 rfl (lv_room (Nat.le_of_ble_eq_true rfl)) dX2_isTrueOfOne_97 ⟨by first | exact Nat.le_of_ble_eq_true rfl | omega, by first | exact Nat.le_of_ble_eq_true rfl | omega⟩) hS (by omega) (fun _ _ _ _ _ h => h.elim) (fun  H7 locs hq hF hS => ?_)
              have hO := hO.fr hF (by omega)
              have hO_i := hO_i.fr hF (by omega)
              have hB := hB.fr hF (by omega)
              have hM_i := hM_i.fr hF (by omega)
              have hP := hq
              have hVo := hP.vo
              have hOs := hP.1.1
              have gP : Gt (txt i ++ [46] ++ dg 1) := Gt_dot gM_i (by omega) (by omega)
              refine lv_iload_n hx hb dX2_isTrueOfOne_100 rfl (lv_at hl 0 rfl) ?_
              refine x_if_eqN (tgt := 119) hx hb (by omega) dX2_isTrueOfOne_101 (by decide) (fun c101 => ?_) (fun c101 => ?_)
              · exact absurd c101 (by decide)
              · refine lv_aload_n hx hb dX2_isTrueOfOne_104 rfl (lv_at hl 2 rfl) ?_
                refine x_get (ci := 2) hx hb hts hown hK rfl hw1 5 (by decide) hw0 hO rfl dX2_isTrueOfOne_105 ?_
                refine lv_aload_n hx hb dX2_isTrueOfOne_108 rfl (lv_at hl 3 rfl) ?_
                refine x_goI_ro (x_runV (As := [.ref (vk b (sl i))]) (rest := []) ⟨hx, hb, hml, hown, hts⟩ hE h0 hS (c_X1_orderTo l G (vk b sp) (vk b (sl i)) (txt i ++ [46] ++ dg 1) (txt i) (tk (txt i ++ [46] ++ dg 1)) (tk (txt i)) gP.J gM_i.J H7 hP hM_i) (cwV 1 hts gX2_isTrueOfOne_X1_orderTo rfl rfl rfl (by decide +kernel) ⟨Nat.le_of_ble_eq_true rfl, Nat.le_of_ble_eq_true rfl⟩) (hP.recv hK) (by omega) rfl rfl hl.1 rfl (lv_room (Nat.le_of_ble_eq_true rfl)) dX2_isTrueOfOne_109 ⟨by first | exact Nat.le_of_ble_eq_true rfl | omega, by first | exact Nat.le_of_ble_eq_true rfl | omega⟩) hS (by omega) (fun _ _ _ _ _ h => h.elim) (fun locs hq hS => ?_)
                refine x_rw (z := ordr (txt i ++ [46] ++ dg 1) (txt i)) rfl ?_
                refine lv_if_le (tgt := 119) hx hb dX2_isTrueOfOne_112 (by decide) (fun c112 => ?_) (fun c112 => ?_)
                · exact absurd c112 (Int32.not_le.mpr (ordr_one gM_i (by omega)))
                · refine lv_iconst (v := nI 1) hx hb dX2_isTrueOfOne_115 (by decide) ?_
                  refine lv_goto (tgt := 120) hx hb dX2_isTrueOfOne_116 (by decide) ?_
                  refine lv_istore_n (lv' := [(2, .int (nI 1)), (3, .int (nI 1)), (0, .ref b), (1, .ref (vk b (sl i)))]) hx hb dX2_isTrueOfOne_120 rfl hl (by decide) rfl (fun ls hl => ?_)
                  refine lv_iload_n hx hb dX2_isTrueOfOne_121 rfl (lv_at hl 1 rfl) ?_
                  refine x_if_eqN (tgt := 161) hx hb (by omega) dX2_isTrueOfOne_122 (by decide) (fun c122 => ?_) (fun c122 => ?_)
                  · exact absurd c122 (by decide)
                  · refine lv_aload_n hx hb dX2_isTrueOfOne_125 rfl (lv_at hl 3 rfl) ?_
                    refine lv_iconst (v := nI 1) hx hb dX2_isTrueOfOne_126 (by decide) ?_
                    refine x_goI_ro (x_runV (As := [.int (nI 1)]) (rest := []) ⟨hx, hb, hml, hown, hts⟩ hE h0 hS (c_X1_hasRow l G (vk b (sl i)) (txt i) (tk (txt i)) 1 (by decide) H7 hM_i) (cwV 1 hts gX2_isTrueOfOne_X1_hasRow rfl rfl rfl (by decide +kernel) ⟨Nat.le_of_ble_eq_true rfl, Nat.le_of_ble_eq_true rfl⟩) (hM_i.recv hK) (by omega) rfl rfl hl.1 rfl (lv_room (Nat.le_of_ble_eq_true rfl)) dX2_isTrueOfOne_127 ⟨by first | exact Nat.le_of_ble_eq_true rfl | omega, by first | exact Nat.le_of_ble_eq_true rfl | omega⟩) hS (by omega) (fun _ _ _ _ _ h => h.elim) (fun locs hq hS => ?_)
                    refine x_if_neB (tgt := 161) hx hb dX2_isTrueOfOne_130 (by decide) (fun c130 => ?_) (fun c130 => ?_)
                    · refine lv_iload_n hx hb dX2_isTrueOfOne_161 rfl (lv_at hl 0 rfl) ?_
                      exact x_zret hx hb hr hlocks h0 hS (by omega) (by omega) dX2_isTrueOfOne_162 (by first | rfl | exact bI_nar _) (⟨rfl, _, hVo⟩)
                    · refine lv_aload_n hx hb dX2_isTrueOfOne_133 rfl (lv_at hl 2 rfl) ?_
                      refine lv_aload_n hx hb dX2_isTrueOfOne_134 rfl (lv_at hl 3 rfl) ?_
                      refine lv_bipush (v := nI 97) hx hb dX2_isTrueOfOne_135 (by decide) ?_
                      refine x_goV (x_runV (As := [.ref (vk b (sl i)), .int (nI 97)]) (rest := []) ⟨hx, hb, hml, hown, hts⟩ hE h0 hS (c_X2_parseWithLetterBehind l G b L txt sl sp (txt i ++ [46] ++ dg 1) i (by omega) 97 (by omega) (by omega) (by omega) H7 hB hVo) (cwV 2 hts gX2_isTrueOfOne_X2_parseWithLetterBehind rfl rfl rfl (by decide +kernel) ⟨Nat.le_of_ble_eq_true rfl, Nat.le_of_ble_eq_true rfl⟩) (hB.recv hK) (by omega) rfl rfl hl.1 rfl (lv_room (Nat.le_of_ble_eq_true rfl)) dX2_isTrueOfOne_137 ⟨by first | exact Nat.le_of_ble_eq_true rfl | omega, by first | exact Nat.le_of_ble_eq_true rfl | omega⟩) hS (by omega) (fun _ _ _ _ _ h => h.elim) (fun  H10 locs hq hF hS => ?_)
                      have hO := hO.fr hF (by omega)
                      have hO_i := hO_i.fr hF (by omega)
                      have hB := hB.fr hF (by omega)
                      have hM_i := hM_i.fr hF (by omega)
                      have hP := hq
                      have hVo := hP.vo
                      have hOs := hP.1.1
                      have gP : Gt (txt i ++ [45] ++ [97]) := Gt_let gM_i (by omega) (by omega) (by omega)
                      refine lv_iload_n hx hb dX2_isTrueOfOne_140 rfl (lv_at hl 0 rfl) ?_
                      refine x_if_eqN (tgt := 159) hx hb (by omega) dX2_isTrueOfOne_141 (by decide) (fun c141 => ?_) (fun c141 => ?_)
                      · exact absurd c141 (by decide)
                      · refine lv_aload_n hx hb dX2_isTrueOfOne_144 rfl (lv_at hl 2 rfl) ?_
                        refine x_get (ci := 2) hx hb hts hown hK rfl hw1 5 (by decide) hw0 hO rfl dX2_isTrueOfOne_145 ?_
                        refine lv_aload_n hx hb dX2_isTrueOfOne_148 rfl (lv_at hl 3 rfl) ?_
                        refine x_goI_ro (x_runV (As := [.ref (vk b (sl i))]) (rest := []) ⟨hx, hb, hml, hown, hts⟩ hE h0 hS (c_X1_orderTo l G (vk b sp) (vk b (sl i)) (txt i ++ [45] ++ [97]) (txt i) (tk (txt i ++ [45] ++ [97])) (tk (txt i)) gP.J gM_i.J H10 hP hM_i) (cwV 1 hts gX2_isTrueOfOne_X1_orderTo rfl rfl rfl (by decide +kernel) ⟨Nat.le_of_ble_eq_true rfl, Nat.le_of_ble_eq_true rfl⟩) (hP.recv hK) (by omega) rfl rfl hl.1 rfl (lv_room (Nat.le_of_ble_eq_true rfl)) dX2_isTrueOfOne_149 ⟨by first | exact Nat.le_of_ble_eq_true rfl | omega, by first | exact Nat.le_of_ble_eq_true rfl | omega⟩) hS (by omega) (fun _ _ _ _ _ h => h.elim) (fun locs hq hS => ?_)
                        refine x_rw (z := ordr (txt i ++ [45] ++ [97]) (txt i)) rfl ?_
                        refine lv_if_ge (tgt := 159) hx hb dX2_isTrueOfOne_152 (by decide) (fun c152 => ?_) (fun c152 => ?_)
                        · exact absurd c152 (Int32.not_le.mpr (ordr_let gM_i (by omega) (by have := of_decide_eq_false c130; exact this)))
                        · refine lv_iconst (v := nI 1) hx hb dX2_isTrueOfOne_155 (by decide) ?_
                          refine lv_goto (tgt := 160) hx hb dX2_isTrueOfOne_156 (by decide) ?_
                          refine lv_istore_n (lv' := [(2, .int (nI 1)), (3, .int (nI 1)), (0, .ref b), (1, .ref (vk b (sl i)))]) hx hb dX2_isTrueOfOne_160 rfl hl (by decide) rfl (fun ls hl => ?_)
                          refine lv_iload_n hx hb dX2_isTrueOfOne_161 rfl (lv_at hl 0 rfl) ?_
                          exact x_zret hx hb hr hlocks h0 hS (by omega) (by omega) dX2_isTrueOfOne_162 (by first | rfl | exact bI_nar _) (⟨rfl, _, hVo⟩)

abbrev RMX2_isTrue : Room := { frames := 7, cells := 0, slots := 0, locals := 158 }
set_option maxHeartbeats 4000000 in
set_option maxRecDepth 100000 in
theorem c_X2_isTrue (l : Launch) (G : gG) (b : Nat) (L : List Nat) (txt : Nat → List Nat) (H0 : Heap) (hXW : XW G b L txt H0) : XM l yX2_isTrue wsX2_isTrue RMX2_isTrue G [.ref b] H0 b (b + 115) 0 0 (qI (fun r H1 => r = bI true ∧ XW G b L txt H1)) xN := by
  refine x_ofW (cc := cX2_isTrue) (maxL := 4) (ret := (some .boolean)) (by decide) rfl (Nat.le_of_ble_eq_true rfl) ?_
  intro p e s m below meth c hx hb hr hml hown hts hlocks hout hin2 h0 hE ls hl
  replace hown : s.vm.findClass RX2 = some m.cls := hown
  have hK := hE.1
  have hS : va_S (gA b (b + 115) H0.size) H0 H0 [] := va_S.rf
  generalize hargs : ([.ref b] : List Value).toArray = args at hts ⊢
  have hw0 := hts (.fieldLink RX2 18 "Releaseledger" "slots" "[LReleaseledger$Version;") (by decide +kernel)
  have hw1 : ∀ w ∈ u_ws RX2 TX2 6, w ∈ wsX2_isTrue := by decide +kernel
  have hl : lv_has ls 4 [(0, .ref b)] := hl
  obtain ⟨sl, sp, P0, hB, hVo⟩ := hXW
  have hrg := hB.rng
  have hO := hB.O
  have hT := hB.T
  obtain ⟨f3, hSl, hsl⟩ := hB.2.2.1
  have hTn := hT.le
  have hOs := hVo.1.1
  have hVt := hVo.2.1
  have hVE : VoE G (vk b sp) H0 := ⟨_, hVo⟩
  refine lv_aload_n hx hb dX2_isTrue_0 rfl (lv_at hl 0 rfl) ?_
  refine x_goV (x_runV (As := []) (rest := []) ⟨hx, hb, hml, hown, hts⟩ hE h0 hS (c_X2_fillOrders l G b L txt sl sp H0 hB) (cwV 0 hts gX2_isTrue_X2_fillOrders rfl rfl rfl (by decide +kernel) ⟨Nat.le_of_ble_eq_true rfl, Nat.le_of_ble_eq_true rfl⟩) (hB.recv hK) (by omega) rfl rfl hl.1 rfl (lv_room (Nat.le_of_ble_eq_true rfl)) dX2_isTrue_1 ⟨by first | exact Nat.le_of_ble_eq_true rfl | omega, by first | exact Nat.le_of_ble_eq_true rfl | omega⟩) hS (by omega) (fun _ _ _ _ _ h => h.elim) (fun  H1 locs hq hF hS => ?_)
  have hO := hO.fr hF (by omega)
  have hSl := hSl.fr hF (by omega)
  have hVE := hVE.fr hF (by omega)
  obtain ⟨hB, hXO⟩ := hq
  refine lv_iconst (v := nI 0) hx hb dX2_isTrue_4 (by decide) ?_
  refine lv_istore_n (lv' := [(1, .int (nI 0)), (0, .ref b)]) hx hb dX2_isTrue_5 rfl hl (by decide) rfl (fun ls hl => ?_)
  have loop6 : ∀ (fu : Nat) (i : Nat) (hi : i ≤ 8) (H : Heap) (locs : List Loc) (hS : va_S (gA b (b + 115) H0.size) H0 H locs) (hO : gO G b 2 [.ref (b + 1), .ref (b + 3), .ref (b + 4), .ref (b + 5), .ref (b + 6), .ref (vk b sp)] H) (hSl : gQ G (b + 3) 2 8 f3 H) (hB : XB G b L txt sl sp H) (hVE : VoE G (vk b sp) H) (hXO : XO G b txt H) (ls : Array Slot), 8 - i < fu → lv_has ls 4 [(1, .int (nI i)), (0, .ref b)] → W p l e RMX2_isTrue s m args below meth c H locs (0 + 0) (0 + 0) (XQ below args s H0 b (b + 115) 0 0 (qI (fun r H1 => r = bI true ∧ XW G b L txt H1)) xN) (F0 m 6 ls []) := by
    intro fu6
    induction fu6 with
    | zero => intro i hi H locs hS hO hSl hB hVE hXO ls hmu; exact absurd hmu (Nat.not_lt_zero _)
    | succ fu6 ih6 =>
      intro i hi H locs hS hO hSl hB hVE hXO ls hmu6 hl
      refine lv_iload_n hx hb dX2_isTrue_6 rfl (lv_at hl 0 rfl) ?_
      refine lv_bipush (v := nI 8) hx hb dX2_isTrue_7 (by decide) ?_
      refine x_icmp_ge (tgt := 98) hx hb (by omega) (by omega) dX2_isTrue_9 (by decide) (fun c9 => ?_) (fun c9 => ?_)
      · refine lv_iconst (v := nI 1) hx hb dX2_isTrue_98 (by decide) ?_
        exact x_zret hx hb hr hlocks h0 hS (by omega) (by omega) dX2_isTrue_99 (by first | rfl | exact bI_nar _) (⟨rfl, by obtain ⟨P2, h2⟩ := hVE; exact XW.mk' hB h2⟩)
      · obtain ⟨P1, hVo1⟩ := id hVE
        refine lv_aload_n hx hb dX2_isTrue_12 rfl (lv_at hl 1 rfl) ?_
        refine lv_aload_n hx hb dX2_isTrue_13 rfl (lv_at hl 1 rfl) ?_
        refine x_get (ci := 2) hx hb hts hown hK rfl hw1 1 (by decide) hw0 hO rfl dX2_isTrue_14 ?_
        refine lv_iload_n hx hb dX2_isTrue_17 rfl (lv_at hl 0 rfl) ?_
        refine x_aald (k := 2) (v := (vk b (sl i))) hx hb hK (by decide) rfl hSl (by omega) (by decide) (hsl _ (by omega)) dX2_isTrue_18 ?_
        refine x_goI (x_runV (As := [.ref (vk b (sl i))]) (rest := []) ⟨hx, hb, hml, hown, hts⟩ hE h0 hS (c_X2_isTrueOfOne l G b L txt sl sp P1 i (by omega) H hB hVo1) (cwV 1 hts gX2_isTrue_X2_isTrueOfOne rfl rfl rfl (by decide +kernel) ⟨Nat.le_of_ble_eq_true rfl, Nat.le_of_ble_eq_true rfl⟩) (hB.recv hK) (by omega) rfl rfl hl.1 rfl (lv_room (Nat.le_of_ble_eq_true rfl)) dX2_isTrue_19 ⟨by first | exact Nat.le_of_ble_eq_true rfl | omega, by first | exact Nat.le_of_ble_eq_true rfl | omega⟩) hS (by omega) (fun _ _ _ _ _ h => h.elim) (fun r3 H2 locs hq hF hS => ?_)
        
        have hO := hO.fr hF (by omega)
        have hSl := hSl.fr hF (by omega)
        have hB := hB.fr hF (by omega)
        have hXO := hXO.fr hF (by omega)
        obtain ⟨rfl, hVE⟩ := hq
        refine x_if_neB (tgt := 27) hx hb dX2_isTrue_22 (by decide) (fun c22 => ?_) (fun c22 => ?_)
        · refine lv_iconst (v := nI 0) hx hb dX2_isTrue_27 (by decide) ?_
          refine lv_istore_n (lv' := [(2, .int (nI 0)), (1, .int (nI i)), (0, .ref b)]) hx hb dX2_isTrue_28 rfl hl (by decide) rfl (fun ls hl => ?_)
          have loop29 : ∀ (fu : Nat) (j : Nat) (hj : j ≤ 8) (locs : List Loc) (hS : va_S (gA b (b + 115) H0.size) H0 H2 locs) (ls : Array Slot), 8 - j < fu → lv_has ls 4 [(2, .int (nI j)), (1, .int (nI i)), (0, .ref b)] → W p l e RMX2_isTrue s m args below meth c H2 locs (0 + 0 + 0) (0 + 0 + 0) (XQ below args s H0 b (b + 115) 0 0 (qI (fun r H1 => r = bI true ∧ XW G b L txt H1)) xN) (F0 m 29 ls []) := by
            intro fu29
            induction fu29 with
            | zero => intro j hj locs hS  ls hmu; exact absurd hmu (Nat.not_lt_zero _)
            | succ fu29 ih29 =>
              intro j hj locs hS  ls hmu29 hl
              refine lv_iload_n hx hb dX2_isTrue_29 rfl (lv_at hl 0 rfl) ?_
              refine lv_bipush (v := nI 8) hx hb dX2_isTrue_30 (by decide) ?_
              refine x_icmp_ge (tgt := 92) hx hb (by omega) (by omega) dX2_isTrue_32 (by decide) (fun c32 => ?_) (fun c32 => ?_)
              · refine lv_iinc (v := nI (i + 1)) (lv' := [(1, .int (nI (i + 1))), (2, .int (nI j)), (0, .ref b)]) hx hb dX2_isTrue_92 hl (k := 1) rfl (nI_1 _) (by decide) rfl (fun ls hl => ?_)
                refine lv_goto (tgt := 6) hx hb dX2_isTrue_95 (by decide) ?_
                exact ih6 (i + 1) (by omega) H2 _ hS hO hSl hB hVE hXO ls (by omega) (lv_sub hl [0, 2] rfl)
              · refine lv_aload_n hx hb dX2_isTrue_35 rfl (lv_at hl 2 rfl) ?_
                refine lv_iload_n hx hb dX2_isTrue_36 rfl (lv_at hl 1 rfl) ?_
                refine lv_iload_n hx hb dX2_isTrue_37 rfl (lv_at hl 0 rfl) ?_
                refine x_goI_ro (x_runV (As := [.int (nI i), .int (nI j)]) (rest := []) ⟨hx, hb, hml, hown, hts⟩ hE h0 hS (c_X2_isTrueOfTwo l G b L txt sl sp i j (by omega) (by omega) H2 hB hXO) (cwV 2 hts gX2_isTrue_X2_isTrueOfTwo rfl rfl rfl (by decide +kernel) ⟨Nat.le_of_ble_eq_true rfl, Nat.le_of_ble_eq_true rfl⟩) (hB.recv hK) (by omega) rfl rfl hl.1 rfl (lv_room (Nat.le_of_ble_eq_true rfl)) dX2_isTrue_38 ⟨by first | exact Nat.le_of_ble_eq_true rfl | omega, by first | exact Nat.le_of_ble_eq_true rfl | omega⟩) hS (by omega) (fun _ _ _ _ _ h => h.elim) (fun locs hq hS => ?_)
                refine x_if_neB (tgt := 46) hx hb dX2_isTrue_41 (by decide) (fun c41 => ?_) (fun c41 => ?_)
                · refine lv_iconst (v := nI 0) hx hb dX2_isTrue_46 (by decide) ?_
                  refine lv_istore_n (lv' := [(3, .int (nI 0)), (2, .int (nI j)), (1, .int (nI i)), (0, .ref b)]) hx hb dX2_isTrue_47 rfl hl (by decide) rfl (fun ls hl => ?_)
                  have loop48 : ∀ (fu : Nat) (k : Nat) (hk : k ≤ 8) (locs : List Loc) (hS : va_S (gA b (b + 115) H0.size) H0 H2 locs) (ls : Array Slot), 8 - k < fu → lv_has ls 4 [(3, .int (nI k)), (2, .int (nI j)), (1, .int (nI i)), (0, .ref b)] → W p l e RMX2_isTrue s m args below meth c H2 locs (0 + 0 + 0 + 0) (0 + 0 + 0 + 0) (XQ below args s H0 b (b + 115) 0 0 (qI (fun r H1 => r = bI true ∧ XW G b L txt H1)) xN) (F0 m 48 ls []) := by
                    intro fu48
                    induction fu48 with
                    | zero => intro k hk locs hS  ls hmu; exact absurd hmu (Nat.not_lt_zero _)
                    | succ fu48 ih48 =>
                      intro k hk locs hS  ls hmu48 hl
                      refine lv_iload_n hx hb dX2_isTrue_48 rfl (lv_at hl 0 rfl) ?_
                      refine lv_bipush (v := nI 8) hx hb dX2_isTrue_49 (by decide) ?_
                      refine x_icmp_ge (tgt := 86) hx hb (by omega) (by omega) dX2_isTrue_51 (by decide) (fun c51 => ?_) (fun c51 => ?_)
                      · refine lv_iinc (v := nI (j + 1)) (lv' := [(2, .int (nI (j + 1))), (3, .int (nI k)), (1, .int (nI i)), (0, .ref b)]) hx hb dX2_isTrue_86 hl (k := 1) rfl (nI_1 _) (by decide) rfl (fun ls hl => ?_)
                        refine lv_goto (tgt := 29) hx hb dX2_isTrue_89 (by decide) ?_
                        exact ih29 (j + 1) (by omega) _ hS ls (by omega) (lv_sub hl [0, 2, 3] rfl)
                      · refine lv_aload_n hx hb dX2_isTrue_54 rfl (lv_at hl 3 rfl) ?_
                        refine lv_iload_n hx hb dX2_isTrue_55 rfl (lv_at hl 2 rfl) ?_
                        refine lv_iload_n hx hb dX2_isTrue_56 rfl (lv_at hl 1 rfl) ?_
                        refine x_goI_ro (x_runV (As := [.int (nI i), .int (nI j)]) (rest := []) ⟨hx, hb, hml, hown, hts⟩ hE h0 hS (c_X2_orderOf l G b L txt sl sp i j (by omega) (by omega) H2 hB hXO) (cwV 2 hts gX2_isTrue_X2_orderOf rfl rfl rfl (by decide +kernel) ⟨Nat.le_of_ble_eq_true rfl, Nat.le_of_ble_eq_true rfl⟩) (hB.recv hK) (by omega) rfl rfl hl.1 rfl (lv_room (Nat.le_of_ble_eq_true rfl)) dX2_isTrue_57 ⟨by first | exact Nat.le_of_ble_eq_true rfl | omega, by first | exact Nat.le_of_ble_eq_true rfl | omega⟩) hS (by omega) (fun _ _ _ _ _ h => h.elim) (fun locs hq hS => ?_)
                        refine lv_aload_n hx hb dX2_isTrue_60 rfl (lv_at hl 3 rfl) ?_
                        refine lv_iload_n hx hb dX2_isTrue_61 rfl (lv_at hl 1 rfl) ?_
                        refine lv_iload_n hx hb dX2_isTrue_62 rfl (lv_at hl 0 rfl) ?_
                        refine x_goI_ro (x_runV (As := [.int (nI j), .int (nI k)]) (rest := [.int (ordr (txt i) (txt j))]) ⟨hx, hb, hml, hown, hts⟩ hE h0 hS (c_X2_orderOf l G b L txt sl sp j k (by omega) (by omega) H2 hB hXO) (cwV 2 hts gX2_isTrue_X2_orderOf rfl rfl rfl (by decide +kernel) ⟨Nat.le_of_ble_eq_true rfl, Nat.le_of_ble_eq_true rfl⟩) (hB.recv hK) (by omega) rfl rfl hl.1 rfl (lv_room (Nat.le_of_ble_eq_true rfl)) dX2_isTrue_63 ⟨by first | exact Nat.le_of_ble_eq_true rfl | omega, by first | exact Nat.le_of_ble_eq_true rfl | omega⟩) hS (by omega) (fun _ _ _ _ _ h => h.elim) (fun locs hq hS => ?_)
                        refine lv_aload_n hx hb dX2_isTrue_66 rfl (lv_at hl 3 rfl) ?_
                        refine lv_iload_n hx hb dX2_isTrue_67 rfl (lv_at hl 2 rfl) ?_
                        refine lv_iload_n hx hb dX2_isTrue_68 rfl (lv_at hl 0 rfl) ?_
                        refine x_goI_ro (x_runV (As := [.int (nI i), .int (nI k)]) (rest := [.int (ordr (txt j) (txt k)), .int (ordr (txt i) (txt j))]) ⟨hx, hb, hml, hown, hts⟩ hE h0 hS (c_X2_orderOf l G b L txt sl sp i k (by omega) (by omega) H2 hB hXO) (cwV 2 hts gX2_isTrue_X2_orderOf rfl rfl rfl (by decide +kernel) ⟨Nat.le_of_ble_eq_true rfl, Nat.le_of_ble_eq_true rfl⟩) (hB.recv hK) (by omega) rfl rfl hl.1 rfl (lv_room (Nat.le_of_ble_eq_true rfl)) dX2_isTrue_69 ⟨by first | exact Nat.le_of_ble_eq_true rfl | omega, by first | exact Nat.le_of_ble_eq_true rfl | omega⟩) hS (by omega) (fun _ _ _ _ _ h => h.elim) (fun locs hq hS => ?_)
                        refine x_goI_ro (x_runS (As := [.int (ordr (txt i) (txt j)), .int (ordr (txt j) (txt k)), .int (ordr (txt i) (txt k))]) (rest := []) ⟨hx, hb, hml, hown, hts⟩ hE h0 hS (c_X2_isTrueOfThree l G (ordr (txt i) (txt j)) (ordr (txt j) (txt k)) (ordr (txt i) (txt k)) (ordr_tri (hB.g (by omega)) (hB.g (by omega)) (hB.g (by omega))) H2) (va_cwS 3 hts gX2_isTrue_X2_isTrueOfThree rfl rfl rfl (by decide +kernel) ⟨Nat.le_of_ble_eq_true rfl, Nat.le_of_ble_eq_true rfl⟩) (by omega) rfl rfl hl.1 rfl (lv_room (Nat.le_of_ble_eq_true rfl)) dX2_isTrue_72 ⟨by first | exact Nat.le_of_ble_eq_true rfl | omega, by first | exact Nat.le_of_ble_eq_true rfl | omega⟩) hS (by omega) (fun _ _ _ _ _ h => h.elim) (fun locs hq hS => ?_)
                        refine x_if_neB (tgt := 80) hx hb dX2_isTrue_75 (by decide) (fun c75 => ?_) (fun c75 => ?_)
                        · refine lv_iinc (v := nI (k + 1)) (lv' := [(3, .int (nI (k + 1))), (2, .int (nI j)), (1, .int (nI i)), (0, .ref b)]) hx hb dX2_isTrue_80 hl (k := 0) rfl (nI_1 _) (by decide) rfl (fun ls hl => ?_)
                          refine lv_goto (tgt := 48) hx hb dX2_isTrue_83 (by decide) ?_
                          exact ih48 (k + 1) (by omega) _ hS ls (by omega) (lv_sub hl [0, 1, 2, 3] rfl)
                        · exact absurd c75 (by decide)
                  exact loop48 _ 0 (by omega) _ hS ls (Nat.lt_succ_self _) (lv_sub hl [0, 1, 2, 3] rfl)
                · exact absurd c41 (by decide)
          exact loop29 _ 0 (by omega) _ hS ls (Nat.lt_succ_self _) (lv_sub hl [0, 1, 2] rfl)
        · exact absurd c22 (by decide)
  exact loop6 _ 0 (by omega) H1 _ hS hO hSl hB hVE hXO ls (Nat.lt_succ_self _) (lv_sub hl [0, 1] rfl)
