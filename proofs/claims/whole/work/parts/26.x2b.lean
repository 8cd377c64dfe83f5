abbrev RMX2_checkJoin : Room := { frames := 7, cells := 1, slots := 6, locals := 121 }
set_option maxHeartbeats 4000000 in
set_option maxRecDepth 100000 in
theorem c_X2_checkJoin (l : Launch) (G : gG) (b : Nat) (L : List Nat) (txt : Nat → List Nat) (sl : Nat → Nat) (sp : Nat) (how k n : Nat) (hh : how < 65536) (hk31 : k < 3) (hn31 : n < 1000) (H0 : Heap) (hB : XB G b L txt sl sp H0) : XM l yX2_checkJoin wsX2_checkJoin RMX2_checkJoin G [.ref b, .int (nI how), .int (nI k), .int (nI n)] H0 0 0 1 6 (roV H0 (Jn L how k n)) (fun E _ => E = xIS ∧ ¬ Jn L how k n) := by
  refine x_ofW (cc := cX2_checkJoin) (maxL := 4) (ret := none) (by decide) rfl (Nat.le_of_ble_eq_true rfl) ?_
  intro p e s m below meth c hx hb hr hml hown hts hlocks hout hin2 h0 hE ls hl
  replace hown : s.vm.findClass RX2 = some m.cls := hown
  have hK := hE.1
  have hS : va_S (gA 0 0 H0.size) H0 H0 [] := va_S.rf
  generalize hargs : ([.ref b, .int (nI how), .int (nI k), .int (nI n)] : List Value).toArray = args at hts ⊢
  have hw0 := hts (.fieldLink RX2 10 "Releaseledger" "draft" "LReleaseledger$Text;") (by decide +kernel)
  have hw1 : ∀ w ∈ u_ws RX2 TX2 6, w ∈ wsX2_checkJoin := by decide +kernel
  have hw2 := hts (.classLink RX2 160 xIS) (by decide +kernel)
  have hw3 := hts (.initialized xIS) (by decide +kernel)
  have hl : lv_has ls 4 [(0, .ref b), (1, .int (nI how)), (2, .int (nI k)), (3, .int (nI n))] := hl
  have hO := hB.O
  have hT := hB.T
  obtain ⟨f3, hSl, hsl⟩ := hB.2.2.1
  have hTn := hT.le
  refine lv_aload_n hx hb dX2_checkJoin_0 rfl (lv_at hl 0 rfl) ?_
  refine x_get (ci := 2) hx hb hts hown hK rfl hw1 0 (by decide) hw0 hO rfl dX2_checkJoin_1 ?_
  refine x_goI_ro (x_runV (As := []) (rest := []) ⟨hx, hb, hml, hown, hts⟩ hE h0 hS (c_X0_length l G (b + 1) L H0 hT) (cwV 0 hts gX2_checkJoin_X0_length rfl rfl rfl (by decide +kernel) ⟨Nat.le_of_ble_eq_true rfl, Nat.le_of_ble_eq_true rfl⟩) (hT.recv hK) (by omega) rfl rfl hl.1 rfl (lv_room (Nat.le_of_ble_eq_true rfl)) dX2_checkJoin_4 ⟨by first | exact Nat.le_of_ble_eq_true rfl | omega, by first | exact Nat.le_of_ble_eq_true rfl | omega⟩) hS (by omega) (fun _ _ _ _ _ h => h.elim) (fun locs hq hS => ?_)
  refine x_if_neN (tgt := 20) hx hb (by omega) dX2_checkJoin_7 (by decide) (fun c7 => ?_) (fun c7 => ?_)
  · refine lv_iload_n hx hb dX2_checkJoin_20 rfl (lv_at hl 1 rfl) ?_
    refine lv_bipush (v := nI 110) hx hb dX2_checkJoin_21 (by decide) ?_
    refine x_icmp_ne (tgt := 47) hx hb (by omega) (by omega) dX2_checkJoin_23 (by decide) (fun c23 => ?_) (fun c23 => ?_)
    · refine lv_iload_n hx hb dX2_checkJoin_47 rfl (lv_at hl 1 rfl) ?_
      refine lv_bipush (v := nI 43) hx hb dX2_checkJoin_48 (by decide) ?_
      refine x_icmp_ne (tgt := 75) hx hb (by omega) (by omega) dX2_checkJoin_50 (by decide) (fun c50 => ?_) (fun c50 => ?_)
      · refine lv_aload_n hx hb dX2_checkJoin_75 rfl (lv_at hl 0 rfl) ?_
        refine x_get (ci := 2) hx hb hts hown hK rfl hw1 0 (by decide) hw0 hO rfl dX2_checkJoin_76 ?_
        refine lv_iload_n hx hb dX2_checkJoin_79 rfl (lv_at hl 1 rfl) ?_
        refine lv_bipush (v := nI 110) hx hb dX2_checkJoin_80 (by decide) ?_
        refine x_icmp_ne (tgt := 89) hx hb (by omega) (by omega) dX2_checkJoin_82 (by decide) (fun c82 => ?_) (fun c82 => ?_)
        · refine lv_iconst (v := nI 1) hx hb dX2_checkJoin_89 (by decide) ?_
          refine lv_iload_n hx hb dX2_checkJoin_90 rfl (lv_at hl 3 rfl) ?_
          refine lv_iadd hx hb dX2_checkJoin_91 ?_
          refine x_rw (z := nI (1 + n)) (nI_add _ _) ?_
          refine x_goV_ro (x_runS (As := [.ref (b + 1), .int (nI (1 + n))]) (rest := []) ⟨hx, hb, hml, hown, hts⟩ hE h0 hS (c_X2_checkRoom l G (b + 1) L (1 + n) (by omega) H0 hT) (va_cwS 2 hts gX2_checkJoin_X2_checkRoom rfl rfl rfl (by decide +kernel) ⟨Nat.le_of_ble_eq_true rfl, Nat.le_of_ble_eq_true rfl⟩) (by omega) rfl rfl hl.1 rfl (lv_room (Nat.le_of_ble_eq_true rfl)) dX2_checkJoin_92 ⟨by first | exact Nat.le_of_ble_eq_true rfl | omega, by first | exact Nat.le_of_ble_eq_true rfl | omega⟩) hS (by omega) (fun E ce q9 H1 locs1 hXx hFx hSx hce hcv hcl => x_thru hout hlocks h0 hSx hce hcv hcl (⟨hXx.1, fun h => hXx.2 (by have h4 := h.2.2.2; first | (rw [if_pos (by omega)] at h4; omega) | (rw [if_neg (by omega)] at h4; omega))⟩) (by omega) (by omega)) (fun locs hq hS => ?_)
          exact x_vret hx hb hr hlocks h0 hS (by omega) (by omega) dX2_checkJoin_95 (⟨rfl, by omega, fun h => by omega, fun h => by first | omega | exact h.2 (of_decide_eq_true c62), by first | (rw [if_pos (by omega)]; omega) | (rw [if_neg (by omega)]; omega)⟩)
        · refine lv_iload_n hx hb dX2_checkJoin_85 rfl (lv_at hl 3 rfl) ?_
          refine lv_goto (tgt := 92) hx hb dX2_checkJoin_86 (by decide) ?_
          refine x_goV_ro (x_runS (As := [.ref (b + 1), .int (nI n)]) (rest := []) ⟨hx, hb, hml, hown, hts⟩ hE h0 hS (c_X2_checkRoom l G (b + 1) L (n) (by omega) H0 hT) (va_cwS 2 hts gX2_checkJoin_X2_checkRoom rfl rfl rfl (by decide +kernel) ⟨Nat.le_of_ble_eq_true rfl, Nat.le_of_ble_eq_true rfl⟩) (by omega) rfl rfl hl.1 rfl (lv_room (Nat.le_of_ble_eq_true rfl)) dX2_checkJoin_92 ⟨by first | exact Nat.le_of_ble_eq_true rfl | omega, by first | exact Nat.le_of_ble_eq_true rfl | omega⟩) hS (by omega) (fun E ce q9 H1 locs1 hXx hFx hSx hce hcv hcl => x_thru hout hlocks h0 hSx hce hcv hcl (⟨hXx.1, fun h => hXx.2 (by have h4 := h.2.2.2; first | (rw [if_pos (by omega)] at h4; omega) | (rw [if_neg (by omega)] at h4; omega))⟩) (by omega) (by omega)) (fun locs hq hS => ?_)
          exact x_vret hx hb hr hlocks h0 hS (by omega) (by omega) dX2_checkJoin_95 (⟨rfl, by omega, fun h => by omega, fun h => by first | omega | exact h.2 (of_decide_eq_true c62), by first | (rw [if_pos (by omega)]; omega) | (rw [if_neg (by omega)]; omega)⟩)
      · refine lv_aload_n hx hb dX2_checkJoin_53 rfl (lv_at hl 0 rfl) ?_
        refine x_get (ci := 2) hx hb hts hown hK rfl hw1 0 (by decide) hw0 hO rfl dX2_checkJoin_54 ?_
        refine lv_bipush (v := nI 45) hx hb dX2_checkJoin_57 (by decide) ?_
        refine x_goI_ro (x_runV (As := [.int (nI 45)]) (rest := []) ⟨hx, hb, hml, hown, hts⟩ hE h0 hS (c_X0_has l G (b + 1) L 45 (by decide) H0 hT) (cwV 1 hts gX2_checkJoin_X0_has rfl rfl rfl (by decide +kernel) ⟨Nat.le_of_ble_eq_true rfl, Nat.le_of_ble_eq_true rfl⟩) (hT.recv hK) (by omega) rfl rfl hl.1 rfl (lv_room (Nat.le_of_ble_eq_true rfl)) dX2_checkJoin_59 ⟨by first | exact Nat.le_of_ble_eq_true rfl | omega, by first | exact Nat.le_of_ble_eq_true rfl | omega⟩) hS (by omega) (fun _ _ _ _ _ h => h.elim) (fun locs hq hS => ?_)
        refine x_if_neB (tgt := 75) hx hb dX2_checkJoin_62 (by decide) (fun c62 => ?_) (fun c62 => ?_)
        · refine lv_aload_n hx hb dX2_checkJoin_75 rfl (lv_at hl 0 rfl) ?_
          refine x_get (ci := 2) hx hb hts hown hK rfl hw1 0 (by decide) hw0 hO rfl dX2_checkJoin_76 ?_
          refine lv_iload_n hx hb dX2_checkJoin_79 rfl (lv_at hl 1 rfl) ?_
          refine lv_bipush (v := nI 110) hx hb dX2_checkJoin_80 (by decide) ?_
          refine x_icmp_ne (tgt := 89) hx hb (by omega) (by omega) dX2_checkJoin_82 (by decide) (fun c82 => ?_) (fun c82 => ?_)
          · refine lv_iconst (v := nI 1) hx hb dX2_checkJoin_89 (by decide) ?_
            refine lv_iload_n hx hb dX2_checkJoin_90 rfl (lv_at hl 3 rfl) ?_
            refine lv_iadd hx hb dX2_checkJoin_91 ?_
            refine x_rw (z := nI (1 + n)) (nI_add _ _) ?_
            refine x_goV_ro (x_runS (As := [.ref (b + 1), .int (nI (1 + n))]) (rest := []) ⟨hx, hb, hml, hown, hts⟩ hE h0 hS (c_X2_checkRoom l G (b + 1) L (1 + n) (by omega) H0 hT) (va_cwS 2 hts gX2_checkJoin_X2_checkRoom rfl rfl rfl (by decide +kernel) ⟨Nat.le_of_ble_eq_true rfl, Nat.le_of_ble_eq_true rfl⟩) (by omega) rfl rfl hl.1 rfl (lv_room (Nat.le_of_ble_eq_true rfl)) dX2_checkJoin_92 ⟨by first | exact Nat.le_of_ble_eq_true rfl | omega, by first | exact Nat.le_of_ble_eq_true rfl | omega⟩) hS (by omega) (fun E ce q9 H1 locs1 hXx hFx hSx hce hcv hcl => x_thru hout hlocks h0 hSx hce hcv hcl (⟨hXx.1, fun h => hXx.2 (by have h4 := h.2.2.2; first | (rw [if_pos (by omega)] at h4; omega) | (rw [if_neg (by omega)] at h4; omega))⟩) (by omega) (by omega)) (fun locs hq hS => ?_)
            exact x_vret hx hb hr hlocks h0 hS (by omega) (by omega) dX2_checkJoin_95 (⟨rfl, by omega, fun h => by omega, fun h => by first | omega | exact h.2 (of_decide_eq_true c62), by first | (rw [if_pos (by omega)]; omega) | (rw [if_neg (by omega)]; omega)⟩)
          · refine lv_iload_n hx hb dX2_checkJoin_85 rfl (lv_at hl 3 rfl) ?_
            refine lv_goto (tgt := 92) hx hb dX2_checkJoin_86 (by decide) ?_
            refine x_goV_ro (x_runS (As := [.ref (b + 1), .int (nI n)]) (rest := []) ⟨hx, hb, hml, hown, hts⟩ hE h0 hS (c_X2_checkRoom l G (b + 1) L (n) (by omega) H0 hT) (va_cwS 2 hts gX2_checkJoin_X2_checkRoom rfl rfl rfl (by decide +kernel) ⟨Nat.le_of_ble_eq_true rfl, Nat.le_of_ble_eq_true rfl⟩) (by omega) rfl rfl hl.1 rfl (lv_room (Nat.le_of_ble_eq_true rfl)) dX2_checkJoin_92 ⟨by first | exact Nat.le_of_ble_eq_true rfl | omega, by first | exact Nat.le_of_ble_eq_true rfl | omega⟩) hS (by omega) (fun E ce q9 H1 locs1 hXx hFx hSx hce hcv hcl => x_thru hout hlocks h0 hSx hce hcv hcl (⟨hXx.1, fun h => hXx.2 (by have h4 := h.2.2.2; first | (rw [if_pos (by omega)] at h4; omega) | (rw [if_neg (by omega)] at h4; omega))⟩) (by omega) (by omega)) (fun locs hq hS => ?_)
            exact x_vret hx hb hr hlocks h0 hS (by omega) (by omega) dX2_checkJoin_95 (⟨rfl, by omega, fun h => by omega, fun h => by first | omega | exact h.2 (of_decide_eq_true c62), by first | (rw [if_pos (by omega)]; omega) | (rw [if_neg (by omega)]; omega)⟩)
        · exact x_throw (cls := xIS) (text := "a build row is told only behind an early one") hx hb hE h0 hS hown hlocks hout (by rw [hml]; exact hl.1) (by decide) hw2 hw3 ot_IS (by decide +kernel) nb_IS (fun w h => by first | exact hts w (List.mem_cons_of_mem _ (List.mem_append_right _ h)) | exact hts w (List.mem_cons_of_mem _ (List.mem_append_left _ (List.mem_append_right _ h))) | exact hts w (List.mem_cons_of_mem _ (List.mem_append_left _ (List.mem_append_left _ (List.mem_append_right _ h))))) dX2_checkJoin_65 dX2_checkJoin_68 dX2_checkJoin_69 dX2_checkJoin_71 dX2_checkJoin_74 (Nat.le_of_ble_eq_true rfl) (Nat.le_of_ble_eq_true rfl) (Nat.le_of_ble_eq_true rfl) (Nat.le_of_ble_eq_true rfl) (by omega) (by omega) (fun H1 hF => ⟨rfl, fun h => h.2.2.1 ⟨by omega, of_decide_eq_false c62⟩⟩)
    · refine lv_aload_n hx hb dX2_checkJoin_26 rfl (lv_at hl 0 rfl) ?_
      refine x_get (ci := 2) hx hb hts hown hK rfl hw1 0 (by decide) hw0 hO rfl dX2_checkJoin_27 ?_
      refine x_goI_ro (x_runV (As := []) (rest := []) ⟨hx, hb, hml, hown, hts⟩ hE h0 hS (c_X0_lastKind l G (b + 1) L (by omega) H0 hT) (cwV 0 hts gX2_checkJoin_X0_lastKind rfl rfl rfl (by decide +kernel) ⟨Nat.le_of_ble_eq_true rfl, Nat.le_of_ble_eq_true rfl⟩) (hT.recv hK) (by omega) rfl rfl hl.1 rfl (lv_room (Nat.le_of_ble_eq_true rfl)) dX2_checkJoin_30 ⟨by first | exact Nat.le_of_ble_eq_true rfl | omega, by first | exact Nat.le_of_ble_eq_true rfl | omega⟩) hS (by omega) (fun _ _ _ _ _ h => h.elim) (fun locs hq hS => ?_)
      have hkl := kd_lt (cg L (L.length - 1))
      refine lv_iload_n hx hb dX2_checkJoin_33 rfl (lv_at hl 2 rfl) ?_
      refine x_icmp_ne (tgt := 47) hx hb (by omega) (by omega) dX2_checkJoin_34 (by decide) (fun c34 => ?_) (fun c34 => ?_)
      · refine lv_iload_n hx hb dX2_checkJoin_47 rfl (lv_at hl 1 rfl) ?_
        refine lv_bipush (v := nI 43) hx hb dX2_checkJoin_48 (by decide) ?_
        refine x_icmp_ne (tgt := 75) hx hb (by omega) (by omega) dX2_checkJoin_50 (by decide) (fun c50 => ?_) (fun c50 => ?_)
        · refine lv_aload_n hx hb dX2_checkJoin_75 rfl (lv_at hl 0 rfl) ?_
          refine x_get (ci := 2) hx hb hts hown hK rfl hw1 0 (by decide) hw0 hO rfl dX2_checkJoin_76 ?_
          refine lv_iload_n hx hb dX2_checkJoin_79 rfl (lv_at hl 1 rfl) ?_
          refine lv_bipush (v := nI 110) hx hb dX2_checkJoin_80 (by decide) ?_
          refine x_icmp_ne (tgt := 89) hx hb (by omega) (by omega) dX2_checkJoin_82 (by decide) (fun c82 => ?_) (fun c82 => ?_)
          · refine lv_iconst (v := nI 1) hx hb dX2_checkJoin_89 (by decide) ?_
            refine lv_iload_n hx hb dX2_checkJoin_90 rfl (lv_at hl 3 rfl) ?_
            refine lv_iadd hx hb dX2_checkJoin_91 ?_
            refine x_rw (z := nI (1 + n)) (nI_add _ _) ?_
            refine x_goV_ro (x_runS (As := [.ref (b + 1), .int (nI (1 + n))]) (rest := []) ⟨hx, hb, hml, hown, hts⟩ hE h0 hS (c_X2_checkRoom l G (b + 1) L (1 + n) (by omega) H0 hT) (va_cwS 2 hts gX2_checkJoin_X2_checkRoom rfl rfl rfl (by decide +kernel) ⟨Nat.le_of_ble_eq_true rfl, Nat.le_of_ble_eq_true rfl⟩) (by omega) rfl rfl hl.1 rfl (lv_room (Nat.le_of_ble_eq_true rfl)) dX2_checkJoin_92 ⟨by first | exact Nat.le_of_ble_eq_true rfl | omega, by first | exact Nat.le_of_ble_eq_true rfl | omega⟩) hS (by omega) (fun E ce q9 H1 locs1 hXx hFx hSx hce hcv hcl => x_thru hout hlocks h0 hSx hce hcv hcl (⟨hXx.1, fun h => hXx.2 (by have h4 := h.2.2.2; first | (rw [if_pos (by omega)] at h4; omega) | (rw [if_neg (by omega)] at h4; omega))⟩) (by omega) (by omega)) (fun locs hq hS => ?_)
            exact x_vret hx hb hr hlocks h0 hS (by omega) (by omega) dX2_checkJoin_95 (⟨rfl, by omega, fun h => by omega, fun h => by first | omega | exact h.2 (of_decide_eq_true c62), by first | (rw [if_pos (by omega)]; omega) | (rw [if_neg (by omega)]; omega)⟩)
          · refine lv_iload_n hx hb dX2_checkJoin_85 rfl (lv_at hl 3 rfl) ?_
            refine lv_goto (tgt := 92) hx hb dX2_checkJoin_86 (by decide) ?_
            refine x_goV_ro (x_runS (As := [.ref (b + 1), .int (nI n)]) (rest := []) ⟨hx, hb, hml, hown, hts⟩ hE h0 hS (c_X2_checkRoom l G (b + 1) L (n) (by omega) H0 hT) (va_cwS 2 hts gX2_checkJoin_X2_checkRoom rfl rfl rfl (by decide +kernel) ⟨Nat.le_of_ble_eq_true rfl, Nat.le_of_ble_eq_true rfl⟩) (by omega) rfl rfl hl.1 rfl (lv_room (Nat.le_of_ble_eq_true rfl)) dX2_checkJoin_92 ⟨by first | exact Nat.le_of_ble_eq_true rfl | omega, by first | exact Nat.le_of_ble_eq_true rfl | omega⟩) hS (by omega) (fun E ce q9 H1 locs1 hXx hFx hSx hce hcv hcl => x_thru hout hlocks h0 hSx hce hcv hcl (⟨hXx.1, fun h => hXx.2 (by have h4 := h.2.2.2; first | (rw [if_pos (by omega)] at h4; omega) | (rw [if_neg (by omega)] at h4; omega))⟩) (by omega) (by omega)) (fun locs hq hS => ?_)
            exact x_vret hx hb hr hlocks h0 hS (by omega) (by omega) dX2_checkJoin_95 (⟨rfl, by omega, fun h => by omega, fun h => by first | omega | exact h.2 (of_decide_eq_true c62), by first | (rw [if_pos (by omega)]; omega) | (rw [if_neg (by omega)]; omega)⟩)
        · refine lv_aload_n hx hb dX2_checkJoin_53 rfl (lv_at hl 0 rfl) ?_
          refine x_get (ci := 2) hx hb hts hown hK rfl hw1 0 (by decide) hw0 hO rfl dX2_checkJoin_54 ?_
          refine lv_bipush (v := nI 45) hx hb dX2_checkJoin_57 (by decide) ?_
          refine x_goI_ro (x_runV (As := [.int (nI 45)]) (rest := []) ⟨hx, hb, hml, hown, hts⟩ hE h0 hS (c_X0_has l G (b + 1) L 45 (by decide) H0 hT) (cwV 1 hts gX2_checkJoin_X0_has rfl rfl rfl (by decide +kernel) ⟨Nat.le_of_ble_eq_true rfl, Nat.le_of_ble_eq_true rfl⟩) (hT.recv hK) (by omega) rfl rfl hl.1 rfl (lv_room (Nat.le_of_ble_eq_true rfl)) dX2_checkJoin_59 ⟨by first | exact Nat.le_of_ble_eq_true rfl | omega, by first | exact Nat.le_of_ble_eq_true rfl | omega⟩) hS (by omega) (fun _ _ _ _ _ h => h.elim) (fun locs hq hS => ?_)
          refine x_if_neB (tgt := 75) hx hb dX2_checkJoin_62 (by decide) (fun c62 => ?_) (fun c62 => ?_)
          · refine lv_aload_n hx hb dX2_checkJoin_75 rfl (lv_at hl 0 rfl) ?_
            refine x_get (ci := 2) hx hb hts hown hK rfl hw1 0 (by decide) hw0 hO rfl dX2_checkJoin_76 ?_
            refine lv_iload_n hx hb dX2_checkJoin_79 rfl (lv_at hl 1 rfl) ?_
            refine lv_bipush (v := nI 110) hx hb dX2_checkJoin_80 (by decide) ?_
            refine x_icmp_ne (tgt := 89) hx hb (by omega) (by omega) dX2_checkJoin_82 (by decide) (fun c82 => ?_) (fun c82 => ?_)
            · refine lv_iconst (v := nI 1) hx hb dX2_checkJoin_89 (by decide) ?_
              refine lv_iload_n hx hb dX2_checkJoin_90 rfl (lv_at hl 3 rfl) ?_
              refine lv_iadd hx hb dX2_checkJoin_91 ?_
              refine x_rw (z := nI (1 + n)) (nI_add _ _) ?_
              refine x_goV_ro (x_runS (As := [.ref (b + 1), .int (nI (1 + n))]) (rest := []) ⟨hx, hb, hml, hown, hts⟩ hE h0 hS (c_X2_checkRoom l G (b + 1) L (1 + n) (by omega) H0 hT) (va_cwS 2 hts gX2_checkJoin_X2_checkRoom rfl rfl rfl (by decide +kernel) ⟨Nat.le_of_ble_eq_true rfl, Nat.le_of_ble_eq_true rfl⟩) (by omega) rfl rfl hl.1 rfl (lv_room (Nat.le_of_ble_eq_true rfl)) dX2_checkJoin_92 ⟨by first | exact Nat.le_of_ble_eq_true rfl | omega, by first | exact Nat.le_of_ble_eq_true rfl | omega⟩) hS (by omega) (fun E ce q9 H1 locs1 hXx hFx hSx hce hcv hcl => x_thru hout hlocks h0 hSx hce hcv hcl (⟨hXx.1, fun h => hXx.2 (by have h4 := h.2.2.2; first | (rw [if_pos (by omega)] at h4; omega) | (rw [if_neg (by omega)] at h4; omega))⟩) (by omega) (by omega)) (fun locs hq hS => ?_)
              exact x_vret hx hb hr hlocks h0 hS (by omega) (by omega) dX2_checkJoin_95 (⟨rfl, by omega, fun h => by omega, fun h => by first | omega | exact h.2 (of_decide_eq_true c62), by first | (rw [if_pos (by omega)]; omega) | (rw [if_neg (by omega)]; omega)⟩)
            · refine lv_iload_n hx hb dX2_checkJoin_85 rfl (lv_at hl 3 rfl) ?_
              refine lv_goto (tgt := 92) hx hb dX2_checkJoin_86 (by decide) ?_
              refine x_goV_ro (x_runS (As := [.ref (b + 1), .int (nI n)]) (rest := []) ⟨hx, hb, hml, hown, hts⟩ hE h0 hS (c_X2_checkRoom l G (b + 1) L (n) (by omega) H0 hT) (va_cwS 2 hts gX2_checkJoin_X2_checkRoom rfl rfl rfl (by decide +kernel) ⟨Nat.le_of_ble_eq_true rfl, Nat.le_of_ble_eq_true rfl⟩) (by omega) rfl rfl hl.1 rfl (lv_room (Nat.le_of_ble_eq_true rfl)) dX2_checkJoin_92 ⟨by first | exact Nat.le_of_ble_eq_true rfl | omega, by first | exact Nat.le_of_ble_eq_true rfl | omega⟩) hS (by omega) (fun E ce q9 H1 locs1 hXx hFx hSx hce hcv hcl => x_thru hout hlocks h0 hSx hce hcv hcl (⟨hXx.1, fun h => hXx.2 (by have h4 := h.2.2.2; first | (rw [if_pos (by omega)] at h4; omega) | (rw [if_neg (by omega)] at h4; omega))⟩) (by omega) (by omega)) (fun locs hq hS => ?_)
              exact x_vret hx hb hr hlocks h0 hS (by omega) (by omega) dX2_checkJoin_95 (⟨rfl, by omega, fun h => by omega, fun h => by first | omega | exact h.2 (of_decide_eq_true c62), by first | (rw [if_pos (by omega)]; omega) | (rw [if_neg (by omega)]; omega)⟩)
          · exact x_throw (cls := xIS) (text := "a build row is told only behind an early one") hx hb hE h0 hS hown hlocks hout (by rw [hml]; exact hl.1) (by decide) hw2 hw3 ot_IS (by decide +kernel) nb_IS (fun w h => by first | exact hts w (List.mem_cons_of_mem _ (List.mem_append_right _ h)) | exact hts w (List.mem_cons_of_mem _ (List.mem_append_left _ (List.mem_append_right _ h))) | exact hts w (List.mem_cons_of_mem _ (List.mem_append_left _ (List.mem_append_left _ (List.mem_append_right _ h))))) dX2_checkJoin_65 dX2_checkJoin_68 dX2_checkJoin_69 dX2_checkJoin_71 dX2_checkJoin_74 (Nat.le_of_ble_eq_true rfl) (Nat.le_of_ble_eq_true rfl) (Nat.le_of_ble_eq_true rfl) (Nat.le_of_ble_eq_true rfl) (by omega) (by omega) (fun H1 hF => ⟨rfl, fun h => h.2.2.1 ⟨by omega, of_decide_eq_false c62⟩⟩)
      · exact x_throw (cls := xIS) (text := "two tokens of one kind need a sign between") hx hb hE h0 hS hown hlocks hout (by rw [hml]; exact hl.1) (by decide) hw2 hw3 ot_IS (by decide +kernel) nb_IS (fun w h => by first | exact hts w (List.mem_cons_of_mem _ (List.mem_append_right _ h)) | exact hts w (List.mem_cons_of_mem _ (List.mem_append_left _ (List.mem_append_right _ h))) | exact hts w (List.mem_cons_of_mem _ (List.mem_append_left _ (List.mem_append_left _ (List.mem_append_right _ h))))) dX2_checkJoin_37 dX2_checkJoin_40 dX2_checkJoin_41 dX2_checkJoin_43 dX2_checkJoin_46 (Nat.le_of_ble_eq_true rfl) (Nat.le_of_ble_eq_true rfl) (Nat.le_of_ble_eq_true rfl) (Nat.le_of_ble_eq_true rfl) (by omega) (by omega) (fun H1 hF => ⟨rfl, fun h => h.2.1 (by omega)⟩)
  · exact x_throw (cls := xIS) (text := "the draft is empty") hx hb hE h0 hS hown hlocks hout (by rw [hml]; exact hl.1) (by decide) hw2 hw3 ot_IS (by decide +kernel) nb_IS (fun w h => by first | exact hts w (List.mem_cons_of_mem _ (List.mem_append_right _ h)) | exact hts w (List.mem_cons_of_mem _ (List.mem_append_left _ (List.mem_append_right _ h))) | exact hts w (List.mem_cons_of_mem _ (List.mem_append_left _ (List.mem_append_left _ (List.mem_append_right _ h))))) dX2_checkJoin_10 dX2_checkJoin_13 dX2_checkJoin_14 dX2_checkJoin_16 dX2_checkJoin_19 (Nat.le_of_ble_eq_true rfl) (Nat.le_of_ble_eq_true rfl) (Nat.le_of_ble_eq_true rfl) (Nat.le_of_ble_eq_true rfl) (by omega) (by omega) (fun H1 hF => ⟨rfl, fun h => by have := h.1; omega⟩)

abbrev RMX2_exchangeSpare : Room := { frames := 6, cells := 0, slots := 0, locals := 135 }
set_option maxHeartbeats 4000000 in
set_option maxRecDepth 100000 in
/-- the spare version comes into a slot -/
theorem c_X2_exchangeSpare (l : Launch) (G : gG) (b : Nat) (L : List Nat) (txt : Nat → List Nat) (sl : Nat → Nat) (sp : Nat) (P : List Nat) (i : Nat) (hi8 : i < 8) (gP : Gt P) (H0 : Heap) (hB : XB G b L txt sl sp H0) (hP : VR G (vk b sp) P (tk P) H0) : XM l yX2_exchangeSpare wsX2_exchangeSpare RMX2_exchangeSpare G [.ref b, .int (nI i)] H0 b (b + 115) 0 0 (qI (fun r H1 => r = ordr P (txt i) ∧ XW G b L (up txt i P) H1)) xN := by
  refine x_ofW (cc := cX2_exchangeSpare) (maxL := 4) (ret := (some .int)) (by decide) rfl (Nat.le_of_ble_eq_true rfl) ?_
  intro p e s m below meth c hx hb hr hml hown hts hlocks hout hin2 h0 hE ls hl
  replace hown : s.vm.findClass RX2 = some m.cls := hown
  have hK := hE.1
  have hS : va_S (gA b (b + 115) H0.size) H0 H0 [] := va_S.rf
  generalize hargs : ([.ref b, .int (nI i)] : List Value).toArray = args at hts ⊢
  have hw0 := hts (.fieldLink RX2 33 "Releaseledger" "spare" "LReleaseledger$Version;") (by decide +kernel)
  have hw1 : ∀ w ∈ u_ws RX2 TX2 6, w ∈ wsX2_exchangeSpare := by decide +kernel
  have hw2 := hts (.fieldLink RX2 18 "Releaseledger" "slots" "[LReleaseledger$Version;") (by decide +kernel)
  have hl : lv_has ls 4 [(0, .ref b), (1, .int (nI i))] := hl
  have hO := hB.O
  have hT := hB.T
  obtain ⟨f3, hSl, hsl⟩ := hB.2.2.1
  have hrg := hB.rng
  have hM := hB.V hi8
  refine lv_aload_n hx hb dX2_exchangeSpare_0 rfl (lv_at hl 0 rfl) ?_
  refine lv_iload_n hx hb dX2_exchangeSpare_1 rfl (lv_at hl 1 rfl) ?_
  refine x_goR_ro (x_runV (As := [.int (nI i)]) (rest := []) ⟨hx, hb, hml, hown, hts⟩ hE h0 hS (c_X2_versionIn0 l G b L txt sl sp i (by omega) H0 hB) (cwV 1 hts gX2_exchangeSpare_X2_versionIn rfl rfl rfl (by decide +kernel) ⟨Nat.le_of_ble_eq_true rfl, Nat.le_of_ble_eq_true rfl⟩) (hB.recv hK) (by omega) rfl rfl hl.1 rfl (lv_room (Nat.le_of_ble_eq_true rfl)) dX2_exchangeSpare_2 ⟨by first | exact Nat.le_of_ble_eq_true rfl | omega, by first | exact Nat.le_of_ble_eq_true rfl | omega⟩) hS (by omega) (fun _ _ _ _ _ h => h.elim) (fun locs hq hS => ?_)
  refine lv_astore_n (lv' := [(2, .ref (vk b (sl i))), (0, .ref b), (1, .int (nI i))]) hx hb dX2_exchangeSpare_5 rfl hl (by decide) rfl (fun ls hl => ?_)
  refine lv_aload_n hx hb dX2_exchangeSpare_6 rfl (lv_at hl 1 rfl) ?_
  refine x_get (ci := 2) hx hb hts hown hK rfl hw1 5 (by decide) hw0 hO rfl dX2_exchangeSpare_7 ?_
  refine lv_aload_n hx hb dX2_exchangeSpare_10 rfl (lv_at hl 0 rfl) ?_
  refine x_goI_ro (x_runV (As := [.ref (vk b (sl i))]) (rest := []) ⟨hx, hb, hml, hown, hts⟩ hE h0 hS (c_X1_orderTo l G (vk b sp) (vk b (sl i)) P (txt i) (tk P) (tk (txt i)) gP.J (hB.g hi8).J H0 hP hM) (cwV 1 hts gX2_exchangeSpare_X1_orderTo rfl rfl rfl (by decide +kernel) ⟨Nat.le_of_ble_eq_true rfl, Nat.le_of_ble_eq_true rfl⟩) (hP.recv hK) (by omega) rfl rfl hl.1 rfl (lv_room (Nat.le_of_ble_eq_true rfl)) dX2_exchangeSpare_11 ⟨by first | exact Nat.le_of_ble_eq_true rfl | omega, by first | exact Nat.le_of_ble_eq_true rfl | omega⟩) hS (by omega) (fun _ _ _ _ _ h => h.elim) (fun locs hq hS => ?_)
  refine x_rw (z := ordr P (txt i)) rfl ?_
  refine lv_istore_n (lv' := [(3, .int (ordr P (txt i))), (2, .ref (vk b (sl i))), (0, .ref b), (1, .int (nI i))]) hx hb dX2_exchangeSpare_14 rfl hl (by decide) rfl (fun ls hl => ?_)
  refine lv_aload_n hx hb dX2_exchangeSpare_15 rfl (lv_at hl 2 rfl) ?_
  refine x_get (ci := 2) hx hb hts hown hK rfl hw1 1 (by decide) hw2 hO rfl dX2_exchangeSpare_16 ?_
  refine lv_iload_n hx hb dX2_exchangeSpare_19 rfl (lv_at hl 3 rfl) ?_
  refine lv_aload_n hx hb dX2_exchangeSpare_20 rfl (lv_at hl 2 rfl) ?_
  refine x_get (ci := 2) hx hb hts hown hK rfl hw1 5 (by decide) hw0 hO rfl dX2_exchangeSpare_21 ?_
  refine x_aast hx hb hK hSl hP.1.1 (by omega) (by decide) hS (by unfold gA; omega) dX2_exchangeSpare_24 (fun H3 locs hSl hF hz hS => ?_)
  have hO := hO.fr hF (by omega)
  have hF1 := hF
  refine lv_aload_n hx hb dX2_exchangeSpare_25 rfl (lv_at hl 2 rfl) ?_
  refine lv_aload_n hx hb dX2_exchangeSpare_26 rfl (lv_at hl 1 rfl) ?_
  refine x_put (ci := 2) hx hb hts hown hK rfl hw1 tyX2_ok nmX2 5 (by decide) hw0 rfl (tyX2_ok 5 (by decide)) rfl rfl hO (Nat.le_of_ble_eq_true rfl) hS (by unfold gA; omega) dX2_exchangeSpare_27 (fun H4 locs hO hF hz hS => ?_)
  have hO : gO G b 2 [.ref (b + 1), .ref (b + 3), .ref (b + 4), .ref (b + 5), .ref (b + 6), .ref (vk b (sl i))] H4 := hO
  have hSl := hSl.fr hF (by omega)
  have hF2 := hF
  refine lv_iload_n hx hb dX2_exchangeSpare_30 rfl (lv_at hl 0 rfl) ?_
  exact x_iret hx hb hr hlocks h0 hS (by omega) (by omega) dX2_exchangeSpare_31 (⟨rfl, hB.exch hP gP hi8 hF1 hF2 hO hSl hsl⟩)

abbrev RMX2_parseAnew : Room := { frames := 4, cells := 0, slots := 0, locals := 84 }
set_option maxHeartbeats 4000000 in
set_option maxRecDepth 100000 in
theorem c_X2_parseAnew (l : Launch) (G : gG) (b : Nat) (L : List Nat) (txt : Nat → List Nat) (sl : Nat → Nat) (sp : Nat) (P0 : List Nat) (i : Nat) (hi8 : i < 8) (H0 : Heap) (hB : XB G b L txt sl sp H0) (hVo : Vo G (vk b sp) P0 H0) : XM l yX2_parseAnew wsX2_parseAnew RMX2_parseAnew G [.ref b, .ref (vk b (sl i))] H0 (vk b sp) (vk b sp + 12) 0 0 (qV (fun H1 => VR G (vk b sp) (txt i) (tk (txt i)) H1)) xN := by
  refine x_ofW (cc := cX2_parseAnew) (maxL := 2) (ret := none) (by decide) rfl (Nat.le_of_ble_eq_true rfl) ?_
  intro p e s m below meth c hx hb hr hml hown hts hlocks hout hin2 h0 hE ls hl
  replace hown : s.vm.findClass RX2 = some m.cls := hown
  have hK := hE.1
  have hS : va_S (gA (vk b sp) (vk b sp + 12) H0.size) H0 H0 [] := va_S.rf
  generalize hargs : ([.ref b, .ref (vk b (sl i))] : List Value).toArray = args at hts ⊢
  have hw0 := hts (.fieldLink RX2 33 "Releaseledger" "spare" "LReleaseledger$Version;") (by decide +kernel)
  have hw1 : ∀ w ∈ u_ws RX2 TX2 6, w ∈ wsX2_parseAnew := by decide +kernel
  have hw2 : ∀ w ∈ u_ws RX1 TX1 4, w ∈ wsX2_parseAnew := by decide +kernel
  have hl : lv_has ls 2 [(0, .ref b), (1, .ref (vk b (sl i)))] := hl
  have hO := hB.O
  have hT := hB.T
  obtain ⟨f3, hSl, hsl⟩ := hB.2.2.1
  have hrg := hB.rng
  have hdis := hB.dis hi8
  have hM := hB.V hi8
  have hOi := hM.1.1
  have hOs := hVo.1.1
  have hMt := hM.2.1
  have hMn := hMt.le
  refine lv_aload_n hx hb dX2_parseAnew_0 rfl (lv_at hl 0 rfl) ?_
  refine x_get (ci := 2) hx hb hts hown hK rfl hw1 5 (by decide) hw0 hO rfl dX2_parseAnew_1 ?_
  refine lv_aload_n hx hb dX2_parseAnew_4 rfl (lv_at hl 1 rfl) ?_
  refine x_getN (ci := 1) (host := RX2) hx hb hts hown hK rfl hw2 0 (by decide) (x_nest hE (by decide +kernel)) hOi rfl dX2_parseAnew_5 ?_
  refine x_goV (x_runV (As := [.ref (vk b (sl i) + 1)]) (rest := []) ⟨hx, hb, hml, hown, hts⟩ hE h0 hS (c_X1_tell l G (vk b sp) (vk b (sl i) + 1) P0 (txt i) (by omega) H0 hVo hMt) (cwV 1 hts gX2_parseAnew_X1_tell rfl rfl rfl (by decide +kernel) ⟨Nat.le_of_ble_eq_true rfl, Nat.le_of_ble_eq_true rfl⟩) (hVo.recv hK) (by omega) rfl rfl hl.1 rfl (lv_room (Nat.le_of_ble_eq_true rfl)) dX2_parseAnew_8 ⟨by first | exact Nat.le_of_ble_eq_true rfl | omega, by first | exact Nat.le_of_ble_eq_true rfl | omega⟩) hS (by omega) (fun _ _ _ _ _ h => h.elim) (fun  H1 locs hq hF hS => ?_)
  have hO := hO.fr hF (by omega)
  have hOi := hOi.fr hF (by omega)
  have hVo := hq
  have hOs := hVo.1.1
  have hVt := hVo.2.1
  refine lv_aload_n hx hb dX2_parseAnew_11 rfl (lv_at hl 0 rfl) ?_
  refine x_get (ci := 2) hx hb hts hown hK rfl hw1 5 (by decide) hw0 hO rfl dX2_parseAnew_12 ?_
  refine x_goV (x_runV (As := []) (rest := []) ⟨hx, hb, hml, hown, hts⟩ hE h0 hS (c_X1_readTokens l G (vk b sp) (txt i) H1 hVo) (cwV 0 hts gX2_parseAnew_X1_readTokens rfl rfl rfl (by decide +kernel) ⟨Nat.le_of_ble_eq_true rfl, Nat.le_of_ble_eq_true rfl⟩) (hVo.recv hK) (by omega) rfl rfl hl.1 rfl (lv_room (Nat.le_of_ble_eq_true rfl)) dX2_parseAnew_15 ⟨by first | exact Nat.le_of_ble_eq_true rfl | omega, by first | exact Nat.le_of_ble_eq_true rfl | omega⟩) hS (by omega) (fun _ _ _ _ _ h => h.elim) (fun  H2 locs hq hF hS => ?_)
  have hO := hO.fr hF (by omega)
  have hOi := hOi.fr hF (by omega)
  exact x_vret hx hb hr hlocks h0 hS (by omega) (by omega) dX2_parseAnew_18 (hq)

abbrev RMX2_parseWithNumberBehind : Room := { frames := 4, cells := 0, slots := 0, locals := 84 }
set_option maxHeartbeats 4000000 in
set_option maxRecDepth 100000 in
theorem c_X2_parseWithNumberBehind (l : Launch) (G : gG) (b : Nat) (L : List Nat) (txt : Nat → List Nat) (sl : Nat → Nat) (sp : Nat) (P0 : List Nat) (i : Nat) (hi8 : i < 8) (ch n : Nat) (hch : ch < 65536) (hn9 : n < 1000000000) (hlen : (txt i).length + 1 + dgs n ≤ 60) (H0 : Heap) (hB : XB G b L txt sl sp H0) (hVo : Vo G (vk b sp) P0 H0) : XM l yX2_parseWithNumberBehind wsX2_parseWithNumberBehind RMX2_parseWithNumberBehind G [.ref b, .ref (vk b (sl i)), .int (nI ch), .int (nI n)] H0 (vk b sp) (vk b sp + 12) 0 0 (qV (fun H1 => VR G (vk b sp) (txt i ++ [ch] ++ dg n) (tk (txt i ++ [ch] ++ dg n)) H1)) xN := by
  refine x_ofW (cc := cX2_parseWithNumberBehind) (maxL := 4) (ret := none) (by decide) rfl (Nat.le_of_ble_eq_true rfl) ?_
  intro p e s m below meth c hx hb hr hml hown hts hlocks hout hin2 h0 hE ls hl
  replace hown : s.vm.findClass RX2 = some m.cls := hown
  have hK := hE.1
  have hS : va_S (gA (vk b sp) (vk b sp + 12) H0.size) H0 H0 [] := va_S.rf
  generalize hargs : ([.ref b, .ref (vk b (sl i)), .int (nI ch), .int (nI n)] : List Value).toArray = args at hts ⊢
  have hw0 := hts (.fieldLink RX2 33 "Releaseledger" "spare" "LReleaseledger$Version;") (by decide +kernel)
  have hw1 : ∀ w ∈ u_ws RX2 TX2 6, w ∈ wsX2_parseWithNumberBehind := by decide +kernel
  have hw2 : ∀ w ∈ u_ws RX1 TX1 4, w ∈ wsX2_parseWithNumberBehind := by decide +kernel
  have hl : lv_has ls 4 [(0, .ref b), (1, .ref (vk b (sl i))), (2, .int (nI ch)), (3, .int (nI n))] := hl
  have hO := hB.O
  have hT := hB.T
  obtain ⟨f3, hSl, hsl⟩ := hB.2.2.1
  have hrg := hB.rng
  have hdis := hB.dis hi8
  have hM := hB.V hi8
  have hOi := hM.1.1
  have hOs := hVo.1.1
  have hMt := hM.2.1
  have hMn := hMt.le
  refine lv_aload_n hx hb dX2_parseWithNumberBehind_0 rfl (lv_at hl 0 rfl) ?_
  refine x_get (ci := 2) hx hb hts hown hK rfl hw1 5 (by decide) hw0 hO rfl dX2_parseWithNumberBehind_1 ?_
  refine lv_aload_n hx hb dX2_parseWithNumberBehind_4 rfl (lv_at hl 1 rfl) ?_
  refine x_getN (ci := 1) (host := RX2) hx hb hts hown hK rfl hw2 0 (by decide) (x_nest hE (by decide +kernel)) hOi rfl dX2_parseWithNumberBehind_5 ?_
  refine x_goV (x_runV (As := [.ref (vk b (sl i) + 1)]) (rest := []) ⟨hx, hb, hml, hown, hts⟩ hE h0 hS (c_X1_tell l G (vk b sp) (vk b (sl i) + 1) P0 (txt i) (by omega) H0 hVo hMt) (cwV 1 hts gX2_parseWithNumberBehind_X1_tell rfl rfl rfl (by decide +kernel) ⟨Nat.le_of_ble_eq_true rfl, Nat.le_of_ble_eq_true rfl⟩) (hVo.recv hK) (by omega) rfl rfl hl.1 rfl (lv_room (Nat.le_of_ble_eq_true rfl)) dX2_parseWithNumberBehind_8 ⟨by first | exact Nat.le_of_ble_eq_true rfl | omega, by first | exact Nat.le_of_ble_eq_true rfl | omega⟩) hS (by omega) (fun _ _ _ _ _ h => h.elim) (fun  H1 locs hq hF hS => ?_)
  have hO := hO.fr hF (by omega)
  have hOi := hOi.fr hF (by omega)
  have hVo := hq
  have hOs := hVo.1.1
  have hVt := hVo.2.1
  refine lv_aload_n hx hb dX2_parseWithNumberBehind_11 rfl (lv_at hl 0 rfl) ?_
  refine x_get (ci := 2) hx hb hts hown hK rfl hw1 5 (by decide) hw0 hO rfl dX2_parseWithNumberBehind_12 ?_
  refine x_getN (ci := 1) (host := RX2) hx hb hts hown hK rfl hw2 0 (by decide) (x_nest hE (by decide +kernel)) hOs rfl dX2_parseWithNumberBehind_15 ?_
  refine lv_iload_n hx hb dX2_parseWithNumberBehind_18 rfl (lv_at hl 2 rfl) ?_
  refine x_goV (x_runV (As := [.int (nI ch)]) (rest := []) ⟨hx, hb, hml, hown, hts⟩ hE h0 hS (c_X0_put l G (vk b sp + 1) (txt i) ch (by have := dgs_pos n; omega) hch H1 hVt) (cwV 1 hts gX2_parseWithNumberBehind_X0_put rfl rfl rfl (by decide +kernel) ⟨Nat.le_of_ble_eq_true rfl, Nat.le_of_ble_eq_true rfl⟩) (hVt.recv hK) (by omega) rfl rfl hl.1 rfl (lv_room (Nat.le_of_ble_eq_true rfl)) dX2_parseWithNumberBehind_19 ⟨by first | exact Nat.le_of_ble_eq_true rfl | omega, by first | exact Nat.le_of_ble_eq_true rfl | omega⟩) hS (by omega) (fun _ _ _ _ _ h => h.elim) (fun  H2 locs hq hF hS => ?_)
  have hO := hO.fr hF (by omega)
  have hOi := hOi.fr hF (by omega)
  have hOs := hOs.fr hF (by omega)
  have hVo := hVo.setT hF hq
  have hVt := hq
  refine lv_aload_n hx hb dX2_parseWithNumberBehind_22 rfl (lv_at hl 0 rfl) ?_
  refine x_get (ci := 2) hx hb hts hown hK rfl hw1 5 (by decide) hw0 hO rfl dX2_parseWithNumberBehind_23 ?_
  refine x_getN (ci := 1) (host := RX2) hx hb hts hown hK rfl hw2 0 (by decide) (x_nest hE (by decide +kernel)) hOs rfl dX2_parseWithNumberBehind_26 ?_
  refine lv_iload_n hx hb dX2_parseWithNumberBehind_29 rfl (lv_at hl 3 rfl) ?_
  refine lv_iconst (v := nI 0) hx hb dX2_parseWithNumberBehind_30 (by decide) ?_
  refine x_goV (x_runV (As := [.int (nI n), .int (nI 0)]) (rest := []) ⟨hx, hb, hml, hown, hts⟩ hE h0 hS (c_X0_putNumber l G (vk b sp + 1) (txt i ++ [ch]) n 0 hn9 (by decide) (by simp; omega) H2 hVt) (cwV 2 hts gX2_parseWithNumberBehind_X0_putNumber rfl rfl rfl (by decide +kernel) ⟨Nat.le_of_ble_eq_true rfl, Nat.le_of_ble_eq_true rfl⟩) (hVt.recv hK) (by omega) rfl rfl hl.1 rfl (lv_room (Nat.le_of_ble_eq_true rfl)) dX2_parseWithNumberBehind_31 ⟨by first | exact Nat.le_of_ble_eq_true rfl | omega, by first | exact Nat.le_of_ble_eq_true rfl | omega⟩) hS (by omega) (fun _ _ _ _ _ h => h.elim) (fun  H3 locs hq hF hS => ?_)
  have hO := hO.fr hF (by omega)
  have hOi := hOi.fr hF (by omega)
  have hOs := hOs.fr hF (by omega)
  replace hq : Tx G (vk b sp + 1) (txt i ++ [ch] ++ dg n) H3 := by rw [List.replicate_zero, List.append_nil] at hq; exact hq
  have hVo := hVo.setT hF hq
  have hVt := hq
  refine lv_aload_n hx hb dX2_parseWithNumberBehind_34 rfl (lv_at hl 0 rfl) ?_
  refine x_get (ci := 2) hx hb hts hown hK rfl hw1 5 (by decide) hw0 hO rfl dX2_parseWithNumberBehind_35 ?_
  refine x_goV (x_runV (As := []) (rest := []) ⟨hx, hb, hml, hown, hts⟩ hE h0 hS (c_X1_readTokens l G (vk b sp) (txt i ++ [ch] ++ dg n) H3 hVo) (cwV 0 hts gX2_parseWithNumberBehind_X1_readTokens rfl rfl rfl (by decide +kernel) ⟨Nat.le_of_ble_eq_true rfl, Nat.le_of_ble_eq_true rfl⟩) (hVo.recv hK) (by omega) rfl rfl hl.1 rfl (lv_room (Nat.le_of_ble_eq_true rfl)) dX2_parseWithNumberBehind_38 ⟨by first | exact Nat.le_of_ble_eq_true rfl | omega, by first | exact Nat.le_of_ble_eq_true rfl | omega⟩) hS (by omega) (fun _ _ _ _ _ h => h.elim) (fun  H4 locs hq hF hS => ?_)
  have hO := hO.fr hF (by omega)
  have hOi := hOi.fr hF (by omega)
  exact x_vret hx hb hr hlocks h0 hS (by omega) (by omega) dX2_parseWithNumberBehind_41 (hq)

abbrev RMX2_parseWithLetterBehind : Room := { frames := 4, cells := 0, slots := 0, locals := 84 }
set_option maxHeartbeats 4000000 in
set_option maxRecDepth 100000 in
theorem c_X2_parseWithLetterBehind (l : Launch) (G : gG) (b : Nat) (L : List Nat) (txt : Nat → List Nat) (sl : Nat → Nat) (sp : Nat) (P0 : List Nat) (i : Nat) (hi8 : i < 8) (x : Nat) (hx1 : 97 ≤ x) (hx2 : x ≤ 122) (hlen : (txt i).length + 2 ≤ 60) (H0 : Heap) (hB : XB G b L txt sl sp H0) (hVo : Vo G (vk b sp) P0 H0) : XM l yX2_parseWithLetterBehind wsX2_parseWithLetterBehind RMX2_parseWithLetterBehind G [.ref b, .ref (vk b (sl i)), .int (nI x)] H0 (vk b sp) (vk b sp + 12) 0 0 (qV (fun H1 => VR G (vk b sp) (txt i ++ [45] ++ [x]) (tk (txt i ++ [45] ++ [x])) H1)) xN := by
  refine x_ofW (cc := cX2_parseWithLetterBehind) (maxL := 3) (ret := none) (by decide) rfl (Nat.le_of_ble_eq_true rfl) ?_
  intro p e s m below meth c hx hb hr hml hown hts hlocks hout hin2 h0 hE ls hl
  replace hown : s.vm.findClass RX2 = some m.cls := hown
  have hK := hE.1
  have hS : va_S (gA (vk b sp) (vk b sp + 12) H0.size) H0 H0 [] := va_S.rf
  generalize hargs : ([.ref b, .ref (vk b (sl i)), .int (nI x)] : List Value).toArray = args at hts ⊢
  have hw0 := hts (.fieldLink RX2 33 "Releaseledger" "spare" "LReleaseledger$Version;") (by decide +kernel)
  have hw1 : ∀ w ∈ u_ws RX2 TX2 6, w ∈ wsX2_parseWithLetterBehind := by decide +kernel
  have hw2 : ∀ w ∈ u_ws RX1 TX1 4, w ∈ wsX2_parseWithLetterBehind := by decide +kernel
  have hl : lv_has ls 3 [(0, .ref b), (1, .ref (vk b (sl i))), (2, .int (nI x))] := hl
  have hO := hB.O
  have hT := hB.T
  obtain ⟨f3, hSl, hsl⟩ := hB.2.2.1
  have hrg := hB.rng
  have hdis := hB.dis hi8
  have hM := hB.V hi8
  have hOi := hM.1.1
  have hOs := hVo.1.1
  have hMt := hM.2.1
  have hMn := hMt.le
  refine lv_aload_n hx hb dX2_parseWithLetterBehind_0 rfl (lv_at hl 0 rfl) ?_
  refine x_get (ci := 2) hx hb hts hown hK rfl hw1 5 (by decide) hw0 hO rfl dX2_parseWithLetterBehind_1 ?_
  refine lv_aload_n hx hb dX2_parseWithLetterBehind_4 rfl (lv_at hl 1 rfl) ?_
  refine x_getN (ci := 1) (host := RX2) hx hb hts hown hK rfl hw2 0 (by decide) (x_nest hE (by decide +kernel)) hOi rfl dX2_parseWithLetterBehind_5 ?_
  refine x_goV (x_runV (As := [.ref (vk b (sl i) + 1)]) (rest := []) ⟨hx, hb, hml, hown, hts⟩ hE h0 hS (c_X1_tell l G (vk b sp) (vk b (sl i) + 1) P0 (txt i) (by omega) H0 hVo hMt) (cwV 1 hts gX2_parseWithLetterBehind_X1_tell rfl rfl rfl (by decide +kernel) ⟨Nat.le_of_ble_eq_true rfl, Nat.le_of_ble_eq_true rfl⟩) (hVo.recv hK) (by omega) rfl rfl hl.1 rfl (lv_room (Nat.le_of_ble_eq_true rfl)) dX2_parseWithLetterBehind_8 ⟨by first | exact Nat.le_of_ble_eq_true rfl | omega, by first | exact Nat.le_of_ble_eq_true rfl | omega⟩) hS (by omega) (fun _ _ _ _ _ h => h.elim) (fun  H1 locs hq hF hS => ?_)
  have hO := hO.fr hF (by omega)
  have hOi := hOi.fr hF (by omega)
  have hVo := hq
  have hOs := hVo.1.1
  have hVt := hVo.2.1
  refine lv_aload_n hx hb dX2_parseWithLetterBehind_11 rfl (lv_at hl 0 rfl) ?_
  refine x_get (ci := 2) hx hb hts hown hK rfl hw1 5 (by decide) hw0 hO rfl dX2_parseWithLetterBehind_12 ?_
  refine x_getN (ci := 1) (host := RX2) hx hb hts hown hK rfl hw2 0 (by decide) (x_nest hE (by decide +kernel)) hOs rfl dX2_parseWithLetterBehind_15 ?_
  refine lv_bipush (v := nI 45) hx hb dX2_parseWithLetterBehind_18 (by decide) ?_
  refine x_goV (x_runV (As := [.int (nI 45)]) (rest := []) ⟨hx, hb, hml, hown, hts⟩ hE h0 hS (c_X0_put l G (vk b sp + 1) (txt i) 45 (by omega) (by decide) H1 hVt) (cwV 1 hts gX2_parseWithLetterBehind_X0_put rfl rfl rfl (by decide +kernel) ⟨Nat.le_of_ble_eq_true rfl, Nat.le_of_ble_eq_true rfl⟩) (hVt.recv hK) (by omega) rfl rfl hl.1 rfl (lv_room (Nat.le_of_ble_eq_true rfl)) dX2_parseWithLetterBehind_20 ⟨by first | exact Nat.le_of_ble_eq_true rfl | omega, by first | exact Nat.le_of_ble_eq_true rfl | omega⟩) hS (by omega) (fun _ _ _ _ _ h => h.elim) (fun  H2 locs hq hF hS => ?_)
  have hO := hO.fr hF (by omega)
  have hOi := hOi.fr hF (by omega)
  have hOs := hOs.fr hF (by omega)
  have hVo := hVo.setT hF hq
  have hVt := hq
  refine lv_aload_n hx hb dX2_parseWithLetterBehind_23 rfl (lv_at hl 0 rfl) ?_
  refine x_get (ci := 2) hx hb hts hown hK rfl hw1 5 (by decide) hw0 hO rfl dX2_parseWithLetterBehind_24 ?_
  refine x_getN (ci := 1) (host := RX2) hx hb hts hown hK rfl hw2 0 (by decide) (x_nest hE (by decide +kernel)) hOs rfl dX2_parseWithLetterBehind_27 ?_
  refine lv_iload_n hx hb dX2_parseWithLetterBehind_30 rfl (lv_at hl 2 rfl) ?_
  refine x_goV (x_runV (As := [.int (nI x)]) (rest := []) ⟨hx, hb, hml, hown, hts⟩ hE h0 hS (c_X0_put l G (vk b sp + 1) (txt i ++ [45]) x (by simp; omega) (by omega) H2 hVt) (cwV 1 hts gX2_parseWithLetterBehind_X0_put rfl rfl rfl (by decide +kernel) ⟨Nat.le_of_ble_eq_true rfl, Nat.le_of_ble_eq_true rfl⟩) (hVt.recv hK) (by omega) rfl rfl hl.1 rfl (lv_room (Nat.le_of_ble_eq_true rfl)) dX2_parseWithLetterBehind_31 ⟨by first | exact Nat.le_of_ble_eq_true rfl | omega, by first | exact Nat.le_of_ble_eq_true rfl | omega⟩) hS (by omega) (fun _ _ _ _ _ h => h.elim) (fun  H3 locs hq hF hS => ?_)
  have hO := hO.fr hF (by omega)
  have hOi := hOi.fr hF (by omega)
  have hOs := hOs.fr hF (by omega)
  have hVo := hVo.setT hF hq
  have hVt := hq
  refine lv_aload_n hx hb dX2_parseWithLetterBehind_34 rfl (lv_at hl 0 rfl) ?_
  refine x_get (ci := 2) hx hb hts hown hK rfl hw1 5 (by decide) hw0 hO rfl dX2_parseWithLetterBehind_35 ?_
  refine x_goV (x_runV (As := []) (rest := []) ⟨hx, hb, hml, hown, hts⟩ hE h0 hS (c_X1_readTokens l G (vk b sp) (txt i ++ [45] ++ [x]) H3 hVo) (cwV 0 hts gX2_parseWithLetterBehind_X1_readTokens rfl rfl rfl (by decide +kernel) ⟨Nat.le_of_ble_eq_true rfl, Nat.le_of_ble_eq_true rfl⟩) (hVo.recv hK) (by omega) rfl rfl hl.1 rfl (lv_room (Nat.le_of_ble_eq_true rfl)) dX2_parseWithLetterBehind_38 ⟨by first | exact Nat.le_of_ble_eq_true rfl | omega, by first | exact Nat.le_of_ble_eq_true rfl | omega⟩) hS (by omega) (fun _ _ _ _ _ h => h.elim) (fun  H4 locs hq hF hS => ?_)
  have hO := hO.fr hF (by omega)
  have hOi := hOi.fr hF (by omega)
  exact x_vret hx hb hr hlocks h0 hS (by omega) (by omega) dX2_parseWithLetterBehind_41 (hq)
