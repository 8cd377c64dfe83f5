abbrev RMX2_orderSlots : Room := { frames := 6, cells := 0, slots := 0, locals := 135 }
set_option maxHeartbeats 4000000 in
set_option maxRecDepth 100000 in
theorem c_X2_orderSlots (l : Launch) (G : gG) (b : Nat) (L : List Nat) (txt : Nat → List Nat) (sl : Nat → Nat) (sp : Nat) (H0 : Heap) (hB : XB G b L txt sl sp H0) : XM l yX2_orderSlots wsX2_orderSlots RMX2_orderSlots G [.ref b] H0 (b + 5) (b + 6) 0 0 (qV (fun H1 => XB G b L txt sl sp H1 ∧ ∃ pm, OS txt 8 pm ∧ XI G b pm H1)) xN := by
  refine x_ofW (cc := cX2_orderSlots) (maxL := 3) (ret := none) (by decide) rfl (Nat.le_of_ble_eq_true rfl) ?_
  intro p e s m below meth c hx hb hr hml hown hts hlocks hout hin2 h0 hE ls hl
  replace hown : s.vm.findClass RX2 = some m.cls := hown
  have hK := hE.1
  have hS : va_S (gA (b + 5) (b + 6) H0.size) H0 H0 [] := va_S.rf
  generalize hargs : ([.ref b] : List Value).toArray = args at hts ⊢
  have hw0 := hts (.fieldLink RX2 25 "Releaseledger" "slotsInOrder" "[I") (by decide +kernel)
  have hw1 : ∀ w ∈ u_ws RX2 TX2 6, w ∈ wsX2_orderSlots := by decide +kernel
  have hw2 := hts (.fieldLink RX2 18 "Releaseledger" "slots" "[LReleaseledger$Version;") (by decide +kernel)
  have hl : lv_has ls 3 [(0, .ref b)] := hl
  have hO := hB.O
  have hT := hB.T
  obtain ⟨f3, hSl, hsl⟩ := hB.2.2.1
  have hrg := hB.rng
  obtain ⟨f5, hIn⟩ := hB.2.2.2.2.1
  have hgt : ∀ i, i < 8 → Gt (txt i) := fun i hi => hB.g hi
  refine lv_iconst (v := nI 0) hx hb dX2_orderSlots_0 (by decide) ?_
  refine lv_istore_n (lv' := [(1, .int (nI 0)), (0, .ref b)]) hx hb dX2_orderSlots_1 rfl hl (by decide) rfl (fun ls hl => ?_)
  have loop2 : ∀ (fu : Nat) (u : Nat) (g : Nat → Int32) (pm : Nat → Nat) (hu : u ≤ 8) (hOS : OS txt u pm) (h1 : ∀ j, j < u → g j = nI (pm j)) (H : Heap) (locs : List Loc) (hS : va_S (gA (b + 5) (b + 6) H0.size) H0 H locs) (hO : gO G b 2 [.ref (b + 1), .ref (b + 3), .ref (b + 4), .ref (b + 5), .ref (b + 6), .ref (vk b sp)] H) (hSl : gQ G (b + 3) 2 8 f3 H) (hIn : gI G (b + 5) 1 8 g H) (hB : XB G b L txt sl sp H) (ls : Array Slot), 8 - u < fu → lv_has ls 3 [(1, .int (nI u)), (0, .ref b)] → W p l e RMX2_orderSlots s m args below meth c H locs 0 0 (XQ below args s H0 (b + 5) (b + 6) 0 0 (qV (fun H1 => XB G b L txt sl sp H1 ∧ ∃ pm, OS txt 8 pm ∧ XI G b pm H1)) xN) (F0 m 2 ls []) := by
    intro fu2
    induction fu2 with
    | zero => intro u g pm hu hOS h1 H locs hS hO hSl hIn hB ls hmu; exact absurd hmu (Nat.not_lt_zero _)
    | succ fu2 ih2 =>
      intro u g pm hu hOS h1 H locs hS hO hSl hIn hB ls hmu2 hl
      refine lv_iload_n hx hb dX2_orderSlots_2 rfl (lv_at hl 0 rfl) ?_
      refine lv_bipush (v := nI 8) hx hb dX2_orderSlots_3 (by decide) ?_
      refine x_icmp_ge (tgt := 71) hx hb (by omega) (by omega) dX2_orderSlots_5 (by decide) (fun c5 => ?_) (fun c5 => ?_)
      · exact x_vret hx hb hr hlocks h0 hS (by omega) (by omega) dX2_orderSlots_71 (⟨hB, pm, by rw [show 8 = u by omega]; exact hOS, _, hIn, fun i hi => h1 i (by omega)⟩)
      · refine lv_iload_n hx hb dX2_orderSlots_8 rfl (lv_at hl 0 rfl) ?_
        refine lv_istore_n (lv' := [(2, .int (nI u)), (1, .int (nI u)), (0, .ref b)]) hx hb dX2_orderSlots_9 rfl hl (by decide) rfl (fun ls hl => ?_)
        have loop10 : ∀ (fu : Nat) (q : Nat) (g2 : Nat → Int32) (hqu : q ≤ u) (h2a : ∀ j, j < q → g2 j = nI (pm j)) (h2b : ∀ j, q < j → j ≤ u → g2 j = nI (pm (j - 1))) (h2c : ∀ j, q ≤ j → j < u → ordr (txt u) (txt (pm j)) < 0) (H : Heap) (locs : List Loc) (hS : va_S (gA (b + 5) (b + 6) H0.size) H0 H locs) (hO : gO G b 2 [.ref (b + 1), .ref (b + 3), .ref (b + 4), .ref (b + 5), .ref (b + 6), .ref (vk b sp)] H) (hSl : gQ G (b + 3) 2 8 f3 H) (hIn : gI G (b + 5) 1 8 g2 H) (hB : XB G b L txt sl sp H) (ls : Array Slot), q < fu → lv_has ls 3 [(2, .int (nI q)), (1, .int (nI u)), (0, .ref b)] → W p l e RMX2_orderSlots s m args below meth c H locs 0 0 (XQ below args s H0 (b + 5) (b + 6) 0 0 (qV (fun H1 => XB G b L txt sl sp H1 ∧ ∃ pm, OS txt 8 pm ∧ XI G b pm H1)) xN) (F0 m 10 ls []) := by
          intro fu10
          induction fu10 with
          | zero => intro q g2 hqu h2a h2b h2c H locs hS hO hSl hIn hB ls hmu; exact absurd hmu (Nat.not_lt_zero _)
          | succ fu10 ih10 =>
            intro q g2 hqu h2a h2b h2c H locs hS hO hSl hIn hB ls hmu10 hl
            refine lv_iload_n hx hb dX2_orderSlots_10 rfl (lv_at hl 0 rfl) ?_
            refine x_if_leN (tgt := 58) hx hb (by omega) dX2_orderSlots_11 (by decide) (fun c11 => ?_) (fun c11 => ?_)
            · have hend : q = 0 ∨ ¬ ordr (txt u) (txt (pm (q - 1))) < 0 := Or.inl c11
              refine lv_aload_n hx hb dX2_orderSlots_58 rfl (lv_at hl 2 rfl) ?_
              refine x_get (ci := 2) hx hb hts hown hK rfl hw1 3 (by decide) hw0 hO rfl dX2_orderSlots_59 ?_
              refine lv_iload_n hx hb dX2_orderSlots_62 rfl (lv_at hl 0 rfl) ?_
              refine lv_iload_n hx hb dX2_orderSlots_63 rfl (lv_at hl 1 rfl) ?_
              refine x_iast hx hb hK hIn (by omega) (by decide) hS (by unfold gA; omega) dX2_orderSlots_64 (fun H1 locs hIn hF hz hS => ?_)
              have hO := hO.fr hF (by omega)
              have hSl := hSl.fr hF (by omega)
              have hB := hB.setI hF hIn
              refine lv_iinc (v := nI (u + 1)) (lv' := [(1, .int (nI (u + 1))), (2, .int (nI q)), (0, .ref b)]) hx hb dX2_orderSlots_65 hl (k := 1) rfl (nI_1 _) (by decide) rfl (fun ls hl => ?_)
              refine lv_goto (tgt := 2) hx hb dX2_orderSlots_68 (by decide) ?_
              exact ih2 (u + 1) (upd g2 q (nI u)) (insP pm q u) (by omega) (os_ins hgt (by omega) hOS hqu hend h2c) (os_g h2a h2b) H1 _ hS hO hSl hIn hB ls (by omega) (lv_sub hl [0, 2] rfl)
            · have hM_u := hB.V (i := u) (by omega)
              have hO_u := hM_u.1.1
              have hMt_u := hM_u.2.1
              have hMn_u := hMt_u.le
              have hdis_u := hB.dis (i := u) (by omega)
              have gM_u := hB.g (i := u) (by omega)
              have hri_u := hB.rngi (i := u) (by omega)
              have hpl := hOS.1 (q - 1) (by omega)
              have hM_p := hB.V (i := pm (q - 1)) (by omega)
              have gM_p := hB.g (i := pm (q - 1)) (by omega)
              refine lv_aload_n hx hb dX2_orderSlots_14 rfl (lv_at hl 2 rfl) ?_
              refine x_get (ci := 2) hx hb hts hown hK rfl hw1 1 (by decide) hw2 hO rfl dX2_orderSlots_15 ?_
              refine lv_iload_n hx hb dX2_orderSlots_18 rfl (lv_at hl 1 rfl) ?_
              refine x_aald (k := 2) (v := (vk b (sl u))) hx hb hK (by decide) rfl hSl (by omega) (by decide) (hsl _ (by omega)) dX2_orderSlots_19 ?_
              refine lv_aload_n hx hb dX2_orderSlots_20 rfl (lv_at hl 2 rfl) ?_
              refine lv_aload_n hx hb dX2_orderSlots_21 rfl (lv_at hl 2 rfl) ?_
              refine x_get (ci := 2) hx hb hts hown hK rfl hw1 3 (by decide) hw0 hO rfl dX2_orderSlots_22 ?_
              refine lv_iload_n hx hb dX2_orderSlots_25 rfl (lv_at hl 0 rfl) ?_
              refine lv_iconst (v := nI 1) hx hb dX2_orderSlots_26 (by decide) ?_
              refine lv_isub hx hb dX2_orderSlots_27 ?_
              refine x_rw (z := nI (q - 1)) (pk_sub (by omega)) ?_
              refine x_iald hx hb hK hIn (by omega) (by decide) dX2_orderSlots_28 ?_
              refine x_rw (z := (nI (pm (q - 1)))) (h2a _ (by omega)) ?_
              refine x_goR_ro (x_runV (As := [.int (nI (pm (q - 1)))]) (rest := [.ref (vk b (sl u))]) ⟨hx, hb, hml, hown, hts⟩ hE h0 hS (c_X2_versionIn0 l G b L txt sl sp (pm (q - 1)) (by omega) H hB) (cwV 1 hts gX2_orderSlots_X2_versionIn rfl rfl rfl (by decide +kernel) ⟨Nat.le_of_ble_eq_true rfl, Nat.le_of_ble_eq_true rfl⟩) (hB.recv hK) (by omega) rfl rfl hl.1 rfl (lv_room (Nat.le_of_ble_eq_true rfl)) dX2_orderSlots_29 ⟨by first | exact Nat.le_of_ble_eq_true rfl | omega, by first | exact Nat.le_of_ble_eq_true rfl | omega⟩) hS (by omega) (fun _ _ _ _ _ h => h.elim) (fun locs hq hS => ?_)
              refine x_goI_ro (x_runV (As := [.ref (vk b (sl (pm (q - 1))))]) (rest := []) ⟨hx, hb, hml, hown, hts⟩ hE h0 hS (c_X1_orderTo l G (vk b (sl u)) (vk b (sl (pm (q - 1)))) (txt u) (txt (pm (q - 1))) (tk (txt u)) (tk (txt (pm (q - 1)))) gM_u.J gM_p.J H hM_u hM_p) (cwV 1 hts gX2_orderSlots_X1_orderTo rfl rfl rfl (by decide +kernel) ⟨Nat.le_of_ble_eq_true rfl, Nat.le_of_ble_eq_true rfl⟩) (hM_u.recv hK) (by omega) rfl rfl hl.1 rfl (lv_room (Nat.le_of_ble_eq_true rfl)) dX2_orderSlots_32 ⟨by first | exact Nat.le_of_ble_eq_true rfl | omega, by first | exact Nat.le_of_ble_eq_true rfl | omega⟩) hS (by omega) (fun _ _ _ _ _ h => h.elim) (fun locs hq hS => ?_)
              refine x_rw (z := ordr (txt u) (txt (pm (q - 1)))) rfl ?_
              refine lv_if_ge (tgt := 58) hx hb dX2_orderSlots_35 (by decide) (fun c35 => ?_) (fun c35 => ?_)
              · have hend : q = 0 ∨ ¬ ordr (txt u) (txt (pm (q - 1))) < 0 := Or.inr (Int32.not_lt.mpr c35)
                refine lv_aload_n hx hb dX2_orderSlots_58 rfl (lv_at hl 2 rfl) ?_
                refine x_get (ci := 2) hx hb hts hown hK rfl hw1 3 (by decide) hw0 hO rfl dX2_orderSlots_59 ?_
                refine lv_iload_n hx hb dX2_orderSlots_62 rfl (lv_at hl 0 rfl) ?_
                refine lv_iload_n hx hb dX2_orderSlots_63 rfl (lv_at hl 1 rfl) ?_
                refine x_iast hx hb hK hIn (by omega) (by decide) hS (by unfold gA; omega) dX2_orderSlots_64 (fun H4 locs hIn hF hz hS => ?_)
                have hO := hO.fr hF (by omega)
                have hSl := hSl.fr hF (by omega)
                have hB := hB.setI hF hIn
                refine lv_iinc (v := nI (u + 1)) (lv' := [(1, .int (nI (u + 1))), (2, .int (nI q)), (0, .ref b)]) hx hb dX2_orderSlots_65 hl (k := 1) rfl (nI_1 _) (by decide) rfl (fun ls hl => ?_)
                refine lv_goto (tgt := 2) hx hb dX2_orderSlots_68 (by decide) ?_
                exact ih2 (u + 1) (upd g2 q (nI u)) (insP pm q u) (by omega) (os_ins hgt (by omega) hOS hqu hend h2c) (os_g h2a h2b) H4 _ hS hO hSl hIn hB ls (by omega) (lv_sub hl [0, 2] rfl)
              · refine lv_aload_n hx hb dX2_orderSlots_38 rfl (lv_at hl 2 rfl) ?_
                refine x_get (ci := 2) hx hb hts hown hK rfl hw1 3 (by decide) hw0 hO rfl dX2_orderSlots_39 ?_
                refine lv_iload_n hx hb dX2_orderSlots_42 rfl (lv_at hl 0 rfl) ?_
                refine lv_aload_n hx hb dX2_orderSlots_43 rfl (lv_at hl 2 rfl) ?_
                refine x_get (ci := 2) hx hb hts hown hK rfl hw1 3 (by decide) hw0 hO rfl dX2_orderSlots_44 ?_
                refine lv_iload_n hx hb dX2_orderSlots_47 rfl (lv_at hl 0 rfl) ?_
                refine lv_iconst (v := nI 1) hx hb dX2_orderSlots_48 (by decide) ?_
                refine lv_isub hx hb dX2_orderSlots_49 ?_
                refine x_rw (z := nI (q - 1)) (pk_sub (by omega)) ?_
                refine x_iald hx hb hK hIn (by omega) (by decide) dX2_orderSlots_50 ?_
                refine x_rw (z := (nI (pm (q - 1)))) (h2a _ (by omega)) ?_
                refine x_iast hx hb hK hIn (by omega) (by decide) hS (by unfold gA; omega) dX2_orderSlots_51 (fun H5 locs hIn hF hz hS => ?_)
                have hO := hO.fr hF (by omega)
                have hSl := hSl.fr hF (by omega)
                have hB := hB.setI hF hIn
                refine lv_iinc (v := nI (q - 1)) (lv' := [(2, .int (nI (q - 1))), (1, .int (nI u)), (0, .ref b)]) hx hb dX2_orderSlots_52 hl (k := 0) rfl (x_dec (by omega)) (by decide) rfl (fun ls hl => ?_)
                refine lv_goto (tgt := 10) hx hb dX2_orderSlots_55 (by decide) ?_
                exact ih10 (q - 1) (upd g2 q (nI (pm (q - 1)))) (by omega) (fun j hj => by rw [pk_un (by omega)]; exact h2a j (by omega)) (os_b c11 h2b) (os_c (P := fun j => ordr (txt u) (txt (pm j)) < 0) h2c (Int32.not_le.mp c35)) H5 _ hS hO hSl hIn hB ls (by omega) (lv_sub hl [0, 1, 2] rfl)
        exact loop10 _ u g (by omega) h1 (fun j h1 h2 => absurd h1 (by omega)) (fun j h1 h2 => absurd h1 (by omega)) H _ hS hO hSl hIn hB ls (Nat.lt_succ_self _) (lv_sub hl [0, 1, 2] rfl)
  exact loop2 _ 0 f5 (fun _ => 0) (by omega) ⟨fun i h => absurd h (Nat.not_lt_zero _), fun i j h => absurd h (Nat.not_lt_zero _), fun i j _ h => absurd h (Nat.not_lt_zero _)⟩ lt_0 H0 _ hS hO hSl hIn hB ls (Nat.lt_succ_self _) (lv_sub hl [0, 1] rfl)

abbrev RMX2_at : Room := { frames := 7, cells := 1, slots := 6, locals := 157 }
set_option maxHeartbeats 4000000 in
set_option maxRecDepth 100000 in
theorem c_X2_at (l : Launch) (G : gG) (b : Nat) (L : List Nat) (txt : Nat → List Nat) (x : Int32) (H0 : Heap) (hXW : XW G b L txt H0) : XM l yX2_at wsX2_at RMX2_at G [.ref b, .int x] H0 b (b + 115) 1 6 (qI (fun r H1 => okN 8 x ∧ XW G b L txt H1 ∧ ∃ pm, OS txt 8 pm ∧ r = nI (pm (ix x)))) (fun E H1 => E = xIO ∧ ¬ okN 8 x ∧ XW G b L txt H1) := by
  refine x_ofW (cc := cX2_at) (maxL := 2) (ret := (some .int)) (by decide) rfl (Nat.le_of_ble_eq_true rfl) ?_
  intro p e s m below meth c hx hb hr hml hown hts hlocks hout hin2 h0 hE ls hl
  replace hown : s.vm.findClass RX2 = some m.cls := hown
  have hK := hE.1
  have hS : va_S (gA b (b + 115) H0.size) H0 H0 [] := va_S.rf
  generalize hargs : ([.ref b, .int x] : List Value).toArray = args at hts ⊢
  have hw0 := hts (.classLink RX2 126 xIO) (by decide +kernel)
  have hw1 := hts (.initialized xIO) (by decide +kernel)
  have hw2 := hts (.fieldLink RX2 25 "Releaseledger" "slotsInOrder" "[I") (by decide +kernel)
  have hw3 : ∀ w ∈ u_ws RX2 TX2 6, w ∈ wsX2_at := by decide +kernel
  have hl : lv_has ls 2 [(0, .ref b), (1, .int x)] := hl
  obtain ⟨sl, sp, P0, hB, hVo⟩ := hXW
  have hrg := hB.rng
  have hO := hB.O
  have hT := hB.T
  obtain ⟨f3, hSl, hsl⟩ := hB.2.2.1
  have hTn := hT.le
  have hOs := hVo.1.1
  have hVt := hVo.2.1
  refine lv_iload_n hx hb dX2_at_0 rfl (lv_at hl 1 rfl) ?_
  refine lv_if_lt (tgt := 10) hx hb dX2_at_1 (by decide) (fun c1 => ?_) (fun c1 => ?_)
  · exact x_throw (cls := xIO) (text := "the places are 0 to 7") hx hb hE h0 hS hown hlocks hout (by rw [hml]; exact hl.1) (by decide) hw0 hw1 ot_IO (by decide +kernel) nb_IO (fun w h => by first | exact hts w (List.mem_cons_of_mem _ (List.mem_append_right _ h)) | exact hts w (List.mem_cons_of_mem _ (List.mem_append_left _ (List.mem_append_right _ h))) | exact hts w (List.mem_cons_of_mem _ (List.mem_append_left _ (List.mem_append_left _ (List.mem_append_right _ h))))) dX2_at_10 dX2_at_13 dX2_at_14 dX2_at_16 dX2_at_19 (Nat.le_of_ble_eq_true rfl) (Nat.le_of_ble_eq_true rfl) (Nat.le_of_ble_eq_true rfl) (Nat.le_of_ble_eq_true rfl) (by omega) (by omega) (fun H1 hF => ⟨rfl, fun h => by have h2 := (okN_iff (by decide)).mp h; first | exact h2.1 c1 | exact c7 h2.2, (XW.mk' hB hVo).fr hF (by omega)⟩)
  · refine lv_iload_n hx hb dX2_at_4 rfl (lv_at hl 1 rfl) ?_
    refine lv_bipush (v := nI 8) hx hb dX2_at_5 (by decide) ?_
    refine lv_icmp_lt (tgt := 20) hx hb dX2_at_7 (by decide) (fun c7 => ?_) (fun c7 => ?_)
    · obtain ⟨i, hi, rfl⟩ := (okN_iff (n := 8) (by decide)).mpr ⟨c1, c7⟩
      refine lv_aload_n hx hb dX2_at_20 rfl (lv_at hl 0 rfl) ?_
      refine x_goV (x_runV (As := []) (rest := []) ⟨hx, hb, hml, hown, hts⟩ hE h0 hS (c_X2_orderSlots l G b L txt sl sp H0 hB) (cwV 0 hts gX2_at_X2_orderSlots rfl rfl rfl (by decide +kernel) ⟨Nat.le_of_ble_eq_true rfl, Nat.le_of_ble_eq_true rfl⟩) (hB.recv hK) (by omega) rfl rfl hl.1 rfl (lv_room (Nat.le_of_ble_eq_true rfl)) dX2_at_21 ⟨by first | exact Nat.le_of_ble_eq_true rfl | omega, by first | exact Nat.le_of_ble_eq_true rfl | omega⟩) hS (by omega) (fun _ _ _ _ _ h => h.elim) (fun  H1 locs hq hF hS => ?_)
      have hO := hO.fr hF (by omega)
      have hVo := hVo.fr hF (by omega)
      obtain ⟨hB, pm, hOS, f5, hIn, hin⟩ := hq
      refine lv_aload_n hx hb dX2_at_24 rfl (lv_at hl 0 rfl) ?_
      refine x_get (ci := 2) hx hb hts hown hK rfl hw3 3 (by decide) hw2 hO rfl dX2_at_25 ?_
      refine lv_iload_n hx hb dX2_at_28 rfl (lv_at hl 1 rfl) ?_
      refine x_iald hx hb hK hIn (by omega) (by decide) dX2_at_29 ?_
      refine x_rw (z := (nI (pm i))) (hin _ (by omega)) ?_
      exact x_iret hx hb hr hlocks h0 hS (by omega) (by omega) dX2_at_30 (⟨⟨i, hi, rfl⟩, XW.mk' hB hVo, pm, hOS, by rw [ix_N (by omega)]⟩)
    · exact x_throw (cls := xIO) (text := "the places are 0 to 7") hx hb hE h0 hS hown hlocks hout (by rw [hml]; exact hl.1) (by decide) hw0 hw1 ot_IO (by decide +kernel) nb_IO (fun w h => by first | exact hts w (List.mem_cons_of_mem _ (List.mem_append_right _ h)) | exact hts w (List.mem_cons_of_mem _ (List.mem_append_left _ (List.mem_append_right _ h))) | exact hts w (List.mem_cons_of_mem _ (List.mem_append_left _ (List.mem_append_left _ (List.mem_append_right _ h))))) dX2_at_10 dX2_at_13 dX2_at_14 dX2_at_16 dX2_at_19 (Nat.le_of_ble_eq_true rfl) (Nat.le_of_ble_eq_true rfl) (Nat.le_of_ble_eq_true rfl) (Nat.le_of_ble_eq_true rfl) (by omega) (by omega) (fun H1 hF => ⟨rfl, fun h => by have h2 := (okN_iff (by decide)).mp h; first | exact h2.1 c1 | exact c7 h2.2, (XW.mk' hB hVo).fr hF (by omega)⟩)

abbrev RMX2_sort : Room := { frames := 7, cells := 0, slots := 0, locals := 157 }
set_option maxHeartbeats 4000000 in
set_option maxRecDepth 100000 in
theorem c_X2_sort (l : Launch) (G : gG) (b : Nat) (L : List Nat) (txt : Nat → List Nat) (H0 : Heap) (hXW : XW G b L txt H0) : XM l yX2_sort wsX2_sort RMX2_sort G [.ref b] H0 b (b + 115) 0 0 (qI (fun r H1 => ∃ pm, OS txt 8 pm ∧ r = nI (cntB (fun j => decide (pm j ≠ j)) 8) ∧ XW G b L (fun i => txt (pm i)) H1)) xN := by
  refine x_ofW (cc := cX2_sort) (maxL := 3) (ret := (some .int)) (by decide) rfl (Nat.le_of_ble_eq_true rfl) ?_
  intro p e s m below meth c hx hb hr hml hown hts hlocks hout hin2 h0 hE ls hl
  replace hown : s.vm.findClass RX2 = some m.cls := hown
  have hK := hE.1
  have hS : va_S (gA b (b + 115) H0.size) H0 H0 [] := va_S.rf
  generalize hargs : ([.ref b] : List Value).toArray = args at hts ⊢
  have hw0 := hts (.fieldLink RX2 18 "Releaseledger" "slots" "[LReleaseledger$Version;") (by decide +kernel)
  have hw1 : ∀ w ∈ u_ws RX2 TX2 6, w ∈ wsX2_sort := by decide +kernel
  have hw2 := hts (.fieldLink RX2 22 "Releaseledger" "sorted" "[LReleaseledger$Version;") (by decide +kernel)
  have hw3 := hts (.fieldLink RX2 25 "Releaseledger" "slotsInOrder" "[I") (by decide +kernel)
  have hl : lv_has ls 3 [(0, .ref b)] := hl
  obtain ⟨sl, sp, P0, hB, hVo⟩ := hXW
  have hrg := hB.rng
  have hO := hB.O
  have hT := hB.T
  obtain ⟨f3, hSl, hsl⟩ := hB.2.2.1
  have hTn := hT.le
  have hOs := hVo.1.1
  have hVt := hVo.2.1
  obtain ⟨f4, hSo⟩ := hB.2.2.2.1
  refine lv_aload_n hx hb dX2_sort_0 rfl (lv_at hl 0 rfl) ?_
  refine x_goV (x_runV (As := []) (rest := []) ⟨hx, hb, hml, hown, hts⟩ hE h0 hS (c_X2_orderSlots l G b L txt sl sp H0 hB) (cwV 0 hts gX2_sort_X2_orderSlots rfl rfl rfl (by decide +kernel) ⟨Nat.le_of_ble_eq_true rfl, Nat.le_of_ble_eq_true rfl⟩) (hB.recv hK) (by omega) rfl rfl hl.1 rfl (lv_room (Nat.le_of_ble_eq_true rfl)) dX2_sort_1 ⟨by first | exact Nat.le_of_ble_eq_true rfl | omega, by first | exact Nat.le_of_ble_eq_true rfl | omega⟩) hS (by omega) (fun _ _ _ _ _ h => h.elim) (fun  H1 locs hq hF hS => ?_)
  have hO := hO.fr hF (by omega)
  have hSl := hSl.fr hF (by omega)
  have hSo := hSo.fr hF (by omega)
  have hVo := hVo.fr hF (by omega)
  obtain ⟨hB, pm, hOS, f5, hIn, hin⟩ := hq
  refine lv_iconst (v := nI 0) hx hb dX2_sort_4 (by decide) ?_
  refine lv_istore_n (lv' := [(1, .int (nI 0)), (0, .ref b)]) hx hb dX2_sort_5 rfl hl (by decide) rfl (fun ls hl => ?_)
  refine lv_iconst (v := nI 0) hx hb dX2_sort_6 (by decide) ?_
  refine lv_istore_n (lv' := [(2, .int (nI 0)), (1, .int (nI 0)), (0, .ref b)]) hx hb dX2_sort_7 rfl hl (by decide) rfl (fun ls hl => ?_)
  have loop8 : ∀ (fu : Nat) (k i : Nat) (g : Nat → Option Nat) (hk : k = cntB (fun j => decide (pm j ≠ j)) i) (hi : i ≤ 8) (h1 : ∀ j, j < i → g j = some (vk b (sl (pm j)))) (H : Heap) (locs : List Loc) (hS : va_S (gA b (b + 115) H0.size) H0 H locs) (hO : gO G b 2 [.ref (b + 1), .ref (b + 3), .ref (b + 4), .ref (b + 5), .ref (b + 6), .ref (vk b sp)] H) (hSl : gQ G (b + 3) 2 8 f3 H) (hSo : gQ G (b + 4) 2 8 g H) (hIn : gI G (b + 5) 1 8 f5 H) (hB : XB G b L txt sl sp H) (hVo : Vo G (vk b sp) P0 H) (ls : Array Slot), 8 - i < fu → lv_has ls 3 [(2, .int (nI i)), (1, .int (nI k)), (0, .ref b)] → W p l e RMX2_sort s m args below meth c H locs (0 + 0) (0 + 0) (XQ below args s H0 b (b + 115) 0 0 (qI (fun r H1 => ∃ pm, OS txt 8 pm ∧ r = nI (cntB (fun j => decide (pm j ≠ j)) 8) ∧ XW G b L (fun i => txt (pm i)) H1)) xN) (F0 m 8 ls []) := by
    intro fu8
    induction fu8 with
    | zero => intro k i g hk hi h1 H locs hS hO hSl hSo hIn hB hVo ls hmu; exact absurd hmu (Nat.not_lt_zero _)
    | succ fu8 ih8 =>
      intro k i g hk hi h1 H locs hS hO hSl hSo hIn hB hVo ls hmu8 hl
      refine lv_iload_n hx hb dX2_sort_8 rfl (lv_at hl 0 rfl) ?_
      refine lv_bipush (v := nI 8) hx hb dX2_sort_9 (by decide) ?_
      refine x_icmp_ge (tgt := 49) hx hb (by omega) (by omega) dX2_sort_11 (by decide) (fun c11 => ?_) (fun c11 => ?_)
      · have hFr : gF (b + 3) (b + 3 + 1) H H := gF.rf
        have hk8 : k = cntB (fun j => decide (pm j ≠ j)) 8 := by rw [hk, show i = 8 by omega]
        have h4 : ∀ j, j < 8 → g j = some (vk b (sl (pm j))) := fun j hj => h1 j (by omega)
        obtain ⟨Hs, hHs⟩ : ∃ z, z = H := ⟨_, rfl⟩
        have hBs : XB G b L txt sl sp Hs := by rw [hHs]; exact hB
        replace hFr : gF (b + 3) (b + 3 + 1) Hs H := by rw [hHs]; exact hFr
        clear hHs
        refine lv_iconst (v := nI 0) hx hb dX2_sort_49 (by decide) ?_
        refine lv_istore_n (lv' := [(2, .int (nI 0)), (1, .int (nI k)), (0, .ref b)]) hx hb dX2_sort_50 rfl hl (by decide) rfl (fun ls hl => ?_)
        have loop51 : ∀ (fu : Nat) (i : Nat) (g3 : Nat → Option Nat) (hi : i ≤ 8) (h5 : ∀ j, j < i → g3 j = some (vk b (sl (pm j)))) (H : Heap) (locs : List Loc) (hS : va_S (gA b (b + 115) H0.size) H0 H locs) (hO : gO G b 2 [.ref (b + 1), .ref (b + 3), .ref (b + 4), .ref (b + 5), .ref (b + 6), .ref (vk b sp)] H) (hSl : gQ G (b + 3) 2 8 g3 H) (hSo : gQ G (b + 4) 2 8 g H) (hIn : gI G (b + 5) 1 8 f5 H) (hVo : Vo G (vk b sp) P0 H) (hFr : gF (b + 3) (b + 3 + 1) Hs H) (ls : Array Slot), 8 - i < fu → lv_has ls 3 [(2, .int (nI i)), (1, .int (nI k)), (0, .ref b)] → W p l e RMX2_sort s m args below meth c H locs (0 + 0) (0 + 0) (XQ below args s H0 b (b + 115) 0 0 (qI (fun r H1 => ∃ pm, OS txt 8 pm ∧ r = nI (cntB (fun j => decide (pm j ≠ j)) 8) ∧ XW G b L (fun i => txt (pm i)) H1)) xN) (F0 m 51 ls []) := by
          intro fu51
          induction fu51 with
          | zero => intro i g3 hi h5 H locs hS hO hSl hSo hIn hVo hFr ls hmu; exact absurd hmu (Nat.not_lt_zero _)
          | succ fu51 ih51 =>
            intro i g3 hi h5 H locs hS hO hSl hSo hIn hVo hFr ls hmu51 hl
            refine lv_iload_n hx hb dX2_sort_51 rfl (lv_at hl 0 rfl) ?_
            refine lv_bipush (v := nI 8) hx hb dX2_sort_52 (by decide) ?_
            refine x_icmp_ge (tgt := 75) hx hb (by omega) (by omega) dX2_sort_54 (by decide) (fun c54 => ?_) (fun c54 => ?_)
            · refine lv_iload_n hx hb dX2_sort_75 rfl (lv_at hl 1 rfl) ?_
              exact x_iret hx hb hr hlocks h0 hS (by omega) (by omega) dX2_sort_76 (⟨pm, hOS, by rw [hk8], XW.mk' (hBs.sorted hOS hFr hSl (fun j hj => h5 j (by omega))) hVo⟩)
            · have hpl := hOS.1 i (by omega)
              have hM_p := (hBs.V (i := pm i) (by omega)).fr hFr (by unfold vk; omega)
              refine lv_aload_n hx hb dX2_sort_57 rfl (lv_at hl 2 rfl) ?_
              refine x_get (ci := 2) hx hb hts hown hK rfl hw1 1 (by decide) hw0 hO rfl dX2_sort_58 ?_
              refine lv_iload_n hx hb dX2_sort_61 rfl (lv_at hl 0 rfl) ?_
              refine lv_aload_n hx hb dX2_sort_62 rfl (lv_at hl 2 rfl) ?_
              refine x_get (ci := 2) hx hb hts hown hK rfl hw1 2 (by decide) hw2 hO rfl dX2_sort_63 ?_
              refine lv_iload_n hx hb dX2_sort_66 rfl (lv_at hl 0 rfl) ?_
              refine x_aald (k := 2) (v := (vk b (sl (pm i)))) hx hb hK (by decide) rfl hSo (by omega) (by decide) (h4 _ (by omega)) dX2_sort_67 ?_
              refine x_aast hx hb hK hSl hM_p.1.1 (by omega) (by decide) hS (by unfold gA; omega) dX2_sort_68 (fun H2 locs hSl hF hz hS => ?_)
              have hO := hO.fr hF (by omega)
              have hSo := hSo.fr hF (by omega)
              have hIn := hIn.fr hF (by omega)
              have hVo := hVo.fr hF (by omega)
              have hFr := hFr.trans hF (by omega)
              refine lv_iinc (v := nI (i + 1)) (lv' := [(2, .int (nI (i + 1))), (1, .int (nI k)), (0, .ref b)]) hx hb dX2_sort_69 hl (k := 0) rfl (nI_1 _) (by decide) rfl (fun ls hl => ?_)
              refine lv_goto (tgt := 51) hx hb dX2_sort_72 (by decide) ?_
              exact ih51 (i + 1) (va_up g3 i (some (vk b (sl (pm i))))) (by omega) (lt_s (fun j hj => by show (if j = i then _ else _) = _; rw [if_neg (by omega)]; exact h5 j hj) (va_up_self _ _ _)) H2 _ hS hO hSl hSo hIn hVo hFr ls (by omega) (lv_sub hl [0, 1, 2] rfl)
        exact loop51 _ 0 f3 (by omega) lt_0 H _ hS hO hSl hSo hIn hVo hFr ls (Nat.lt_succ_self _) (lv_sub hl [0, 1, 2] rfl)
      · have hpl := hOS.1 i (by omega)
        have hM_p := hB.V (i := pm i) (by omega)
        refine lv_aload_n hx hb dX2_sort_14 rfl (lv_at hl 2 rfl) ?_
        refine x_get (ci := 2) hx hb hts hown hK rfl hw1 2 (by decide) hw2 hO rfl dX2_sort_15 ?_
        refine lv_iload_n hx hb dX2_sort_18 rfl (lv_at hl 0 rfl) ?_
        refine lv_aload_n hx hb dX2_sort_19 rfl (lv_at hl 2 rfl) ?_
        refine lv_aload_n hx hb dX2_sort_20 rfl (lv_at hl 2 rfl) ?_
        refine x_get (ci := 2) hx hb hts hown hK rfl hw1 3 (by decide) hw3 hO rfl dX2_sort_21 ?_
        refine lv_iload_n hx hb dX2_sort_24 rfl (lv_at hl 0 rfl) ?_
        refine x_iald hx hb hK hIn (by omega) (by decide) dX2_sort_25 ?_
        refine x_rw (z := (nI (pm i))) (hin _ (by omega)) ?_
        refine x_goR_ro (x_runV (As := [.int (nI (pm i))]) (rest := [.int (nI i), .ref (b + 4)]) ⟨hx, hb, hml, hown, hts⟩ hE h0 hS (c_X2_versionIn0 l G b L txt sl sp (pm i) (by omega) H hB) (cwV 1 hts gX2_sort_X2_versionIn rfl rfl rfl (by decide +kernel) ⟨Nat.le_of_ble_eq_true rfl, Nat.le_of_ble_eq_true rfl⟩) (hB.recv hK) (by omega) rfl rfl hl.1 rfl (lv_room (Nat.le_of_ble_eq_true rfl)) dX2_sort_26 ⟨by first | exact Nat.le_of_ble_eq_true rfl | omega, by first | exact Nat.le_of_ble_eq_true rfl | omega⟩) hS (by omega) (fun _ _ _ _ _ h => h.elim) (fun locs hq hS => ?_)
        refine x_aast hx hb hK hSo hM_p.1.1 (by omega) (by decide) hS (by unfold gA; omega) dX2_sort_29 (fun H4 locs hSo hF hz hS => ?_)
        have hO := hO.fr hF (by omega)
        have hSl := hSl.fr hF (by omega)
        have hIn := hIn.fr hF (by omega)
        have hVo := hVo.fr hF (by omega)
        have hB := hB.setS hF hSo
        refine lv_aload_n hx hb dX2_sort_30 rfl (lv_at hl 2 rfl) ?_
        refine x_get (ci := 2) hx hb hts hown hK rfl hw1 3 (by decide) hw3 hO rfl dX2_sort_31 ?_
        refine lv_iload_n hx hb dX2_sort_34 rfl (lv_at hl 0 rfl) ?_
        refine x_iald hx hb hK hIn (by omega) (by decide) dX2_sort_35 ?_
        refine x_rw (z := (nI (pm i))) (hin _ (by omega)) ?_
        refine lv_iload_n hx hb dX2_sort_36 rfl (lv_at hl 0 rfl) ?_
        refine x_icmp_eq (tgt := 43) hx hb (by omega) (by omega) dX2_sort_37 (by decide) (fun c37 => ?_) (fun c37 => ?_)
        · have hk2 : k = cntB (fun j => decide (pm j ≠ j)) (i + 1) := by rw [cntB_f (by exact decide_eq_false (fun g => g c37))]; exact hk
          refine lv_iinc (v := nI (i + 1)) (lv' := [(2, .int (nI (i + 1))), (1, .int (nI k)), (0, .ref b)]) hx hb dX2_sort_43 hl (k := 0) rfl (nI_1 _) (by decide) rfl (fun ls hl => ?_)
          refine lv_goto (tgt := 8) hx hb dX2_sort_46 (by decide) ?_
          exact ih8 k (i + 1) (va_up g i (some (vk b (sl (pm i))))) hk2 (by omega) (lt_s (fun j hj => by show (if j = i then _ else _) = _; rw [if_neg (by omega)]; exact h1 j hj) (va_up_self _ _ _)) H4 _ hS hO hSl hSo hIn hB hVo ls (by omega) (lv_sub hl [0, 1, 2] rfl)
        · have hk2 : k + 1 = cntB (fun j => decide (pm j ≠ j)) (i + 1) := by rw [cntB_t (by exact decide_eq_true c37)]; rw [hk]
          refine lv_iinc (v := nI (k + 1)) (lv' := [(1, .int (nI (k + 1))), (2, .int (nI i)), (0, .ref b)]) hx hb dX2_sort_40 hl (k := 1) rfl (nI_1 _) (by decide) rfl (fun ls hl => ?_)
          refine lv_iinc (v := nI (i + 1)) (lv' := [(2, .int (nI (i + 1))), (1, .int (nI (k + 1))), (0, .ref b)]) hx hb dX2_sort_43 hl (k := 1) rfl (nI_1 _) (by decide) rfl (fun ls hl => ?_)
          refine lv_goto (tgt := 8) hx hb dX2_sort_46 (by decide) ?_
          exact ih8 (k + 1) (i + 1) (va_up g i (some (vk b (sl (pm i))))) hk2 (by omega) (lt_s (fun j hj => by show (if j = i then _ else _) = _; rw [if_neg (by omega)]; exact h1 j hj) (va_up_self _ _ _)) H4 _ hS hO hSl hSo hIn hB hVo ls (by omega) (lv_sub hl [0, 1, 2] rfl)
  exact loop8 _ 0 0 f4 rfl (by omega) lt_0 H1 _ hS hO hSl hSo hIn hB hVo ls (Nat.lt_succ_self _) (lv_sub hl [0, 1, 2] rfl)
