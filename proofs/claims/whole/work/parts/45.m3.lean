abbrev RMX3_isNumber : Room := { frames := 2, cells := 0, slots := 0, locals := 32 }
set_option maxHeartbeats 4000000 in
set_option maxRecDepth 100000 in
theorem c_X3_isNumber (l : Launch) (G : gG) (y : Nat) (n th : Int32) (w : Wt) (sd : Nat) (hsd : sd < 2) (a : Nat) (L : List Nat) (hw : w sd = some (a, tk L)) (hJ : Jt L (tk L)) (r i : Nat) (hr3 : r < 3) (hi31 : i < 2147483648) (H0 : Heap) (hO : MO G y n th H0) (hLA : LA G y w H0) (hT : TA G a L H0) : XM l yX3_isNumber wsX3_isNumber RMX3_isNumber G [.ref y, .int (nI sd), .int (nI r), .int (nI i)] H0 0 0 0 0 (roI H0 (bI (nB L (tk L) r i)) True) xN := by
  refine x_ofW (cc := cX3_isNumber) (maxL := 4) (ret := (some .boolean)) (by decide) rfl (Nat.le_of_ble_eq_true rfl) ?_
  intro p e s m below meth c hx hb hr hml hown hts hlocks hout hin2 h0 hE ls hl
  replace hown : s.vm.findClass RX3 = some m.cls := hown
  have hK := hE.1
  have hS : va_S (gA 0 0 H0.size) H0 H0 [] := va_S.rf
  generalize hargs : ([.ref y, .int (nI sd), .int (nI r), .int (nI i)] : List Value).toArray = args at hts ⊢
  have hw0 := hts (.fieldLink RX3 28 "ReleaseledgerModel" "many" "[[I") (by decide +kernel)
  have hw1 : ∀ w ∈ u_ws RX3 TX3 9, w ∈ wsX3_isNumber := by decide +kernel
  have hw2 := hts (.fieldLink RX3 23 "ReleaseledgerModel" "seen" "[[C") (by decide +kernel)
  have hw3 := hts (.fieldLink RX3 33 "ReleaseledgerModel" "starts" "[[[I") (by decide +kernel)
  have hl : lv_has ls 4 [(0, .ref y), (1, .int (nI sd)), (2, .int (nI r)), (3, .int (nI i))] := hl
  obtain ⟨m13, m16, m25, lmid, ⟨fn, m12, hfn⟩, lcnt, ltok⟩ := id hLA
  obtain ⟨m17_ssd, m26_ssd⟩ := lmid sd hsd
  obtain ⟨fm_ssd, mm_ssd, hfm_ssd⟩ := lcnt sd hsd
  replace hfm_ssd := hfm_ssd _ hw
  have h60_ssd := tk_le L r
  obtain ⟨fs_ssd, fe_ssd, ms_ssd, me_ssd, hse_ssd⟩ := ltok sd hsd r hr3
  replace hse_ssd := hse_ssd _ hw
  obtain ⟨ft_a, hTa_a, hTf_a, hTn_a, hTc_a⟩ := hT
  refine lv_iload_n hx hb dX3_isNumber_0 rfl (lv_at hl 3 rfl) ?_
  refine lv_aload_n hx hb dX3_isNumber_1 rfl (lv_at hl 0 rfl) ?_
  refine x_get (ci := 3) hx hb hts hown hK rfl hw1 5 (by decide) hw0 hO rfl dX3_isNumber_2 ?_
  refine lv_iload_n hx hb dX3_isNumber_5 rfl (lv_at hl 1 rfl) ?_
  refine x_aald (k := 3) (v := (y + 14 + sd)) hx hb hK (by decide) rfl m13 (by omega) (by decide) (by rw [rwk_at (by omega), Nat.one_mul]) dX3_isNumber_6 ?_
  refine lv_iload_n hx hb dX3_isNumber_7 rfl (lv_at hl 2 rfl) ?_
  refine x_iald hx hb hK mm_ssd (by omega) (by decide) dX3_isNumber_8 ?_
  refine x_rw (z := (nI ((tk L r).length))) (hfm_ssd _ (by omega)) ?_
  refine x_icmp_ge (tgt := 35) hx hb (by omega) (by omega) dX3_isNumber_9 (by decide) (fun c9 => ?_) (fun c9 => ?_)
  · refine lv_iconst (v := nI 1) hx hb dX3_isNumber_35 (by decide) ?_
    refine lv_goto (tgt := 40) hx hb dX3_isNumber_36 (by decide) ?_
    exact x_zret hx hb hr hlocks h0 hS (by omega) (by omega) dX3_isNumber_40 (by first | rfl | exact bI_nar _) (⟨rfl, (by first | (rw [nB_out c9]; rfl) | (rw [nB_in (by omega), c32]; rfl)), trivial⟩)
  · have htl := hJ.lt hr3 (i := i) (by omega)
    have hcc := hTc_a _ (cg_mem (L := L) (i := (tg (tk L r) i).1) (by omega))
    refine lv_aload_n hx hb dX3_isNumber_12 rfl (lv_at hl 0 rfl) ?_
    refine x_get (ci := 3) hx hb hts hown hK rfl hw1 4 (by decide) hw2 hO rfl dX3_isNumber_13 ?_
    refine lv_iload_n hx hb dX3_isNumber_16 rfl (lv_at hl 1 rfl) ?_
    refine x_aald (k := 4) (v := a) hx hb hK (by decide) rfl m12 (by omega) (by decide) (hfn sd hsd _ hw) dX3_isNumber_17 ?_
    refine lv_aload_n hx hb dX3_isNumber_18 rfl (lv_at hl 0 rfl) ?_
    refine x_get (ci := 3) hx hb hts hown hK rfl hw1 6 (by decide) hw3 hO rfl dX3_isNumber_19 ?_
    refine lv_iload_n hx hb dX3_isNumber_22 rfl (lv_at hl 1 rfl) ?_
    refine x_aald (k := 5) (v := (y + 17 + 4 * sd)) hx hb hK (by decide) rfl m16 (by omega) (by decide) (rwk_at (by omega)) dX3_isNumber_23 ?_
    refine lv_iload_n hx hb dX3_isNumber_24 rfl (lv_at hl 2 rfl) ?_
    refine x_aald (k := 3) (v := (y + 18 + 4 * sd + r)) hx hb hK (by decide) rfl m17_ssd (by omega) (by decide) (rw3_at (by omega)) dX3_isNumber_25 ?_
    refine lv_iload_n hx hb dX3_isNumber_26 rfl (lv_at hl 3 rfl) ?_
    refine x_iald hx hb hK ms_ssd (by omega) (by decide) dX3_isNumber_27 ?_
    refine x_rw (z := (nI ((tg (tk L r) i).1))) (hse_ssd _ (by omega)).1 ?_
    refine x_cald hx hb hK hTa_a (by omega) (by decide) dX3_isNumber_28 ?_
    refine x_rw (z := (nI (cg L ((tg (tk L r) i).1)))) (hTf_a _ (by omega)) ?_
    refine x_goI_ro (x_runS (As := [.int (nI (cg L ((tg (tk L r) i).1)))]) (rest := []) ⟨hx, hb, hml, hown, hts⟩ hE h0 hS (c_X3_isDigit l G (cg L (tg (tk L r) i).1) hcc H0) (va_cwS 1 hts gX3_isNumber_X3_isDigit rfl rfl rfl (by decide +kernel) ⟨Nat.le_of_ble_eq_true rfl, Nat.le_of_ble_eq_true rfl⟩) (by omega) rfl rfl hl.1 rfl (lv_room (Nat.le_of_ble_eq_true rfl)) dX3_isNumber_29 ⟨by first | exact Nat.le_of_ble_eq_true rfl | omega, by first | exact Nat.le_of_ble_eq_true rfl | omega⟩) hS (by omega) (fun _ _ _ _ _ h => h.elim) (fun locs hq hS => ?_)
    refine x_if_eqB (tgt := 39) hx hb dX3_isNumber_32 (by decide) (fun c32 => ?_) (fun c32 => ?_)
    · refine lv_iconst (v := nI 0) hx hb dX3_isNumber_39 (by decide) ?_
      exact x_zret hx hb hr hlocks h0 hS (by omega) (by omega) dX3_isNumber_40 (by first | rfl | exact bI_nar _) (⟨rfl, (by rw [nB_in (by omega), c32]; rfl), trivial⟩)
    · refine lv_iconst (v := nI 1) hx hb dX3_isNumber_35 (by decide) ?_
      refine lv_goto (tgt := 40) hx hb dX3_isNumber_36 (by decide) ?_
      exact x_zret hx hb hr hlocks h0 hS (by omega) (by omega) dX3_isNumber_40 (by first | rfl | exact bI_nar _) (⟨rfl, (by first | (rw [nB_out c9]; rfl) | (rw [nB_in (by omega), c32]; rfl)), trivial⟩)

abbrev RMX3_number : Room := { frames := 1, cells := 0, slots := 0, locals := 12 }
set_option maxHeartbeats 4000000 in
set_option maxRecDepth 100000 in
theorem c_X3_number (l : Launch) (G : gG) (y : Nat) (n th : Int32) (w : Wt) (sd : Nat) (hsd : sd < 2) (a : Nat) (L : List Nat) (hw : w sd = some (a, tk L)) (hJ : Jt L (tk L)) (r i : Nat) (hr3 : r < 3) (hi31 : i < 2147483648) (hnm : nB L (tk L) r i = true) (H0 : Heap) (hO : MO G y n th H0) (hLA : LA G y w H0) (hT : TA G a L H0) : XM l yX3_number wsX3_number RMX3_number G [.ref y, .int (nI sd), .int (nI r), .int (nI i)] H0 0 0 0 0 (roI H0 (nI (vN L (tk L) r i)) True) xN := by
  refine x_ofW (cc := cX3_number) (maxL := 6) (ret := (some .int)) (by decide) rfl (Nat.le_of_ble_eq_true rfl) ?_
  intro p e s m below meth c hx hb hr hml hown hts hlocks hout hin2 h0 hE ls hl
  replace hown : s.vm.findClass RX3 = some m.cls := hown
  have hK := hE.1
  have hS : va_S (gA 0 0 H0.size) H0 H0 [] := va_S.rf
  generalize hargs : ([.ref y, .int (nI sd), .int (nI r), .int (nI i)] : List Value).toArray = args at hts ⊢
  have hw0 := hts (.fieldLink RX3 28 "ReleaseledgerModel" "many" "[[I") (by decide +kernel)
  have hw1 : ∀ w ∈ u_ws RX3 TX3 9, w ∈ wsX3_number := by decide +kernel
  have hw2 := hts (.fieldLink RX3 36 "ReleaseledgerModel" "ends" "[[[I") (by decide +kernel)
  have hw3 := hts (.fieldLink RX3 23 "ReleaseledgerModel" "seen" "[[C") (by decide +kernel)
  have hw4 := hts (.fieldLink RX3 33 "ReleaseledgerModel" "starts" "[[[I") (by decide +kernel)
  have hl : lv_has ls 6 [(0, .ref y), (1, .int (nI sd)), (2, .int (nI r)), (3, .int (nI i))] := hl
  obtain ⟨m13, m16, m25, lmid, ⟨fn, m12, hfn⟩, lcnt, ltok⟩ := id hLA
  obtain ⟨m17_ssd, m26_ssd⟩ := lmid sd hsd
  obtain ⟨fm_ssd, mm_ssd, hfm_ssd⟩ := lcnt sd hsd
  replace hfm_ssd := hfm_ssd _ hw
  have h60_ssd := tk_le L r
  obtain ⟨fs_ssd, fe_ssd, ms_ssd, me_ssd, hse_ssd⟩ := ltok sd hsd r hr3
  replace hse_ssd := hse_ssd _ hw
  obtain ⟨ft_a, hTa_a, hTf_a, hTn_a, hTc_a⟩ := hT
  refine lv_iconst (v := nI 0) hx hb dX3_number_0 (by decide) ?_
  refine lv_istore (lv' := [(4, .int (nI 0)), (0, .ref y), (1, .int (nI sd)), (2, .int (nI r)), (3, .int (nI i))]) hx hb dX3_number_1 hl (by decide) rfl (fun ls hl => ?_)
  refine lv_iload_n hx hb dX3_number_3 rfl (lv_at hl 4 rfl) ?_
  refine lv_aload_n hx hb dX3_number_4 rfl (lv_at hl 1 rfl) ?_
  refine x_get (ci := 3) hx hb hts hown hK rfl hw1 5 (by decide) hw0 hO rfl dX3_number_5 ?_
  refine lv_iload_n hx hb dX3_number_8 rfl (lv_at hl 2 rfl) ?_
  refine x_aald (k := 3) (v := (y + 14 + sd)) hx hb hK (by decide) rfl m13 (by omega) (by decide) (by rw [rwk_at (by omega), Nat.one_mul]) dX3_number_9 ?_
  refine lv_iload_n hx hb dX3_number_10 rfl (lv_at hl 3 rfl) ?_
  refine x_iald hx hb hK mm_ssd (by omega) (by decide) dX3_number_11 ?_
  refine x_rw (z := (nI ((tk L r).length))) (hfm_ssd _ (by omega)) ?_
  refine x_icmp_ge (tgt := 28) hx hb (by omega) (by omega) dX3_number_12 (by decide) (fun c12 => ?_) (fun c12 => ?_)
  · refine lv_bipush (v := nI 60) hx hb dX3_number_28 (by decide) ?_
    refine lv_istore (lv' := [(5, .int (nI 60)), (4, .int (nI 0)), (0, .ref y), (1, .int (nI sd)), (2, .int (nI r)), (3, .int (nI i))]) hx hb dX3_number_30 hl (by decide) rfl (fun ls hl => ?_)
    have loop32 : ∀ (fu : Nat) (v q k : Nat) (hz1 : i < (tk L r).length → q = (tg (tk L r) i).1 + k ∧ q ≤ (tg (tk L r) i).2 ∧ v = nv L (tg (tk L r) i).1 k) (hz0 : ¬ i < (tk L r).length → q = 60 ∧ v = 0) (locs : List Loc) (hS : va_S (gA 0 0 H0.size) H0 H0 locs) (ls : Array Slot), 60 - q < fu → lv_has ls 6 [(5, .int (nI q)), (4, .int (nI v)), (3, .int (nI i)), (2, .int (nI r)), (1, .int (nI sd)), (0, .ref y)] → W p l e RMX3_number s m args below meth c H0 locs 0 0 (XQ below args s H0 0 0 0 0 (roI H0 (nI (vN L (tk L) r i)) True) xN) (F0 m 32 ls []) := by
      intro fu32
      induction fu32 with
      | zero => intro v q k hz1 hz0 locs hS  ls hmu; exact absurd hmu (Nat.not_lt_zero _)
      | succ fu32 ih32 =>
        intro v q k hz1 hz0 locs hS  ls hmu32 hl
        refine lv_iload hx hb dX3_number_32 (lv_at hl 0 rfl) ?_
        refine lv_bipush (v := nI 60) hx hb dX3_number_34 (by decide) ?_
        refine x_icmp_ge (tgt := 80) hx hb (by omega) (by omega) dX3_number_36 (by decide) (fun c36 => ?_) (fun c36 => ?_)
        · refine lv_iload hx hb dX3_number_80 (lv_at hl 1 rfl) ?_
          refine x_iret hx hb hr hlocks h0 hS (by omega) (by omega) dX3_number_82 ?_
          have hve : v = vN L (tk L) r i := by
            by_cases hin : i < (tk L r).length
            · obtain ⟨hqk, hqe, hvk⟩ := hz1 hin
              have htl := hJ.lt hr3 hin
              rw [vN_in hin, hvk]
              exact congrArg (nv L (tg (tk L r) i).1) (by omega)
            · rw [vN_out hin]; exact (hz0 hin).2
          exact ⟨rfl, congrArg nI hve, trivial⟩
        · have hin : i < (tk L r).length := Classical.byContradiction (fun h => by have := hz0 h; omega)
          obtain ⟨hqk, hqe, hvk⟩ := hz1 hin
          have htl := hJ.lt hr3 hin
          refine lv_iload hx hb dX3_number_39 (lv_at hl 0 rfl) ?_
          refine lv_aload_n hx hb dX3_number_41 rfl (lv_at hl 5 rfl) ?_
          refine x_get (ci := 3) hx hb hts hown hK rfl hw1 7 (by decide) hw2 hO rfl dX3_number_42 ?_
          refine lv_iload_n hx hb dX3_number_45 rfl (lv_at hl 4 rfl) ?_
          refine x_aald (k := 5) (v := (y + 26 + 4 * sd)) hx hb hK (by decide) rfl m25 (by omega) (by decide) (rwk_at (by omega)) dX3_number_46 ?_
          refine lv_iload_n hx hb dX3_number_47 rfl (lv_at hl 3 rfl) ?_
          refine x_aald (k := 3) (v := (y + 27 + 4 * sd + r)) hx hb hK (by decide) rfl m26_ssd (by omega) (by decide) (rw3_at (by omega)) dX3_number_48 ?_
          refine lv_iload_n hx hb dX3_number_49 rfl (lv_at hl 2 rfl) ?_
          refine x_iald hx hb hK me_ssd (by omega) (by decide) dX3_number_50 ?_
          refine x_rw (z := (nI ((tg (tk L r) i).2))) (hse_ssd _ (by omega)).2 ?_
          refine x_icmp_ge (tgt := 80) hx hb (by omega) (by omega) dX3_number_51 (by decide) (fun c51 => ?_) (fun c51 => ?_)
          · refine lv_iload hx hb dX3_number_80 (lv_at hl 1 rfl) ?_
            refine x_iret hx hb hr hlocks h0 hS (by omega) (by omega) dX3_number_82 ?_
            have hve : v = vN L (tk L) r i := by
              by_cases hin : i < (tk L r).length
              · obtain ⟨hqk, hqe, hvk⟩ := hz1 hin
                have htl := hJ.lt hr3 hin
                rw [vN_in hin, hvk]
                exact congrArg (nv L (tg (tk L r) i).1) (by omega)
              · rw [vN_out hin]; exact (hz0 hin).2
            exact ⟨rfl, congrArg nI hve, trivial⟩
          · refine lv_bipush (v := nI 10) hx hb dX3_number_54 (by decide) ?_
            refine lv_iload hx hb dX3_number_56 (lv_at hl 1 rfl) ?_
            refine lv_imul hx hb dX3_number_58 ?_
            refine x_rw (z := nI (10 * v)) (pk_mul _ _) ?_
            have hkq := tk_hom hin (j := q) (by omega) (by omega)
            rw [nB_in hin] at hnm
            have h48 := kd_48 (hkq.trans (of_decide_eq_true hnm))
            refine lv_aload_n hx hb dX3_number_59 rfl (lv_at hl 5 rfl) ?_
            refine x_get (ci := 3) hx hb hts hown hK rfl hw1 4 (by decide) hw3 hO rfl dX3_number_60 ?_
            refine lv_iload_n hx hb dX3_number_63 rfl (lv_at hl 4 rfl) ?_
            refine x_aald (k := 4) (v := a) hx hb hK (by decide) rfl m12 (by omega) (by decide) (hfn sd hsd _ hw) dX3_number_64 ?_
            refine lv_iload hx hb dX3_number_65 (lv_at hl 0 rfl) ?_
            refine x_cald hx hb hK hTa_a (by omega) (by decide) dX3_number_67 ?_
            refine x_rw (z := (nI (cg L q))) (hTf_a _ (by omega)) ?_
            refine lv_bipush (v := nI 48) hx hb dX3_number_68 (by decide) ?_
            refine lv_isub hx hb dX3_number_70 ?_
            refine x_rw (z := nI ((cg L q) - 48)) (pk_sub (by omega)) ?_
            refine lv_iadd hx hb dX3_number_71 ?_
            refine x_rw (z := nI ((10 * v) + ((cg L q) - 48))) (nI_add _ _) ?_
            refine lv_istore (lv' := [(4, .int (nI ((10 * v) + ((cg L q) - 48)))), (5, .int (nI q)), (3, .int (nI i)), (2, .int (nI r)), (1, .int (nI sd)), (0, .ref y)]) hx hb dX3_number_72 hl (by decide) rfl (fun ls hl => ?_)
            refine lv_iinc (v := nI (q + 1)) (lv' := [(5, .int (nI (q + 1))), (4, .int (nI ((10 * v) + ((cg L q) - 48)))), (3, .int (nI i)), (2, .int (nI r)), (1, .int (nI sd)), (0, .ref y)]) hx hb dX3_number_74 hl (k := 1) rfl (nI_1 _) (by decide) rfl (fun ls hl => ?_)
            refine lv_goto (tgt := 32) hx hb dX3_number_77 (by decide) ?_
            exact ih32 ((10 * v) + ((cg L q) - 48)) (q + 1) (k + 1) (fun h => ⟨by omega, by omega, by rw [hvk, hqk]; rfl⟩) (fun h => absurd hin h) _ hS ls (by omega) (lv_sub hl [0, 1, 2, 3, 4, 5] rfl)
    exact loop32 _ 0 60 0 (fun h => by first | exact absurd h (by omega) | exact ⟨rfl, by omega, rfl⟩) (fun h => by first | exact absurd (by omega) h | exact ⟨rfl, rfl⟩) _ hS ls (Nat.lt_succ_self _) (lv_sub hl [0, 1, 5, 4, 3, 2] rfl)
  · have htl := hJ.lt hr3 (i := i) (by omega)
    refine lv_aload_n hx hb dX3_number_15 rfl (lv_at hl 1 rfl) ?_
    refine x_get (ci := 3) hx hb hts hown hK rfl hw1 6 (by decide) hw4 hO rfl dX3_number_16 ?_
    refine lv_iload_n hx hb dX3_number_19 rfl (lv_at hl 2 rfl) ?_
    refine x_aald (k := 5) (v := (y + 17 + 4 * sd)) hx hb hK (by decide) rfl m16 (by omega) (by decide) (rwk_at (by omega)) dX3_number_20 ?_
    refine lv_iload_n hx hb dX3_number_21 rfl (lv_at hl 3 rfl) ?_
    refine x_aald (k := 3) (v := (y + 18 + 4 * sd + r)) hx hb hK (by decide) rfl m17_ssd (by omega) (by decide) (rw3_at (by omega)) dX3_number_22 ?_
    refine lv_iload_n hx hb dX3_number_23 rfl (lv_at hl 4 rfl) ?_
    refine x_iald hx hb hK ms_ssd (by omega) (by decide) dX3_number_24 ?_
    refine x_rw (z := (nI ((tg (tk L r) i).1))) (hse_ssd _ (by omega)).1 ?_
    refine lv_goto (tgt := 30) hx hb dX3_number_25 (by decide) ?_
    refine lv_istore (lv' := [(5, .int (nI ((tg (tk L r) i).1))), (4, .int (nI 0)), (0, .ref y), (1, .int (nI sd)), (2, .int (nI r)), (3, .int (nI i))]) hx hb dX3_number_30 hl (by decide) rfl (fun ls hl => ?_)
    have loop32 : ∀ (fu : Nat) (v q k : Nat) (hz1 : i < (tk L r).length → q = (tg (tk L r) i).1 + k ∧ q ≤ (tg (tk L r) i).2 ∧ v = nv L (tg (tk L r) i).1 k) (hz0 : ¬ i < (tk L r).length → q = 60 ∧ v = 0) (locs : List Loc) (hS : va_S (gA 0 0 H0.size) H0 H0 locs) (ls : Array Slot), 60 - q < fu → lv_has ls 6 [(5, .int (nI q)), (4, .int (nI v)), (3, .int (nI i)), (2, .int (nI r)), (1, .int (nI sd)), (0, .ref y)] → W p l e RMX3_number s m args below meth c H0 locs 0 0 (XQ below args s H0 0 0 0 0 (roI H0 (nI (vN L (tk L) r i)) True) xN) (F0 m 32 ls []) := by
      intro fu32
      induction fu32 with
      | zero => intro v q k hz1 hz0 locs hS  ls hmu; exact absurd hmu (Nat.not_lt_zero _)
      | succ fu32 ih32 =>
        intro v q k hz1 hz0 locs hS  ls hmu32 hl
        refine lv_iload hx hb dX3_number_32 (lv_at hl 0 rfl) ?_
        refine lv_bipush (v := nI 60) hx hb dX3_number_34 (by decide) ?_
        refine x_icmp_ge (tgt := 80) hx hb (by omega) (by omega) dX3_number_36 (by decide) (fun c36 => ?_) (fun c36 => ?_)
        · refine lv_iload hx hb dX3_number_80 (lv_at hl 1 rfl) ?_
          refine x_iret hx hb hr hlocks h0 hS (by omega) (by omega) dX3_number_82 ?_
          have hve : v = vN L (tk L) r i := by
            by_cases hin : i < (tk L r).length
            · obtain ⟨hqk, hqe, hvk⟩ := hz1 hin
              have htl := hJ.lt hr3 hin
              rw [vN_in hin, hvk]
              exact congrArg (nv L (tg (tk L r) i).1) (by omega)
            · rw [vN_out hin]; exact (hz0 hin).2
          exact ⟨rfl, congrArg nI hve, trivial⟩
        · have hin : i < (tk L r).length := Classical.byContradiction (fun h => by have := hz0 h; omega)
          obtain ⟨hqk, hqe, hvk⟩ := hz1 hin
          have htl := hJ.lt hr3 hin
          refine lv_iload hx hb dX3_number_39 (lv_at hl 0 rfl) ?_
          refine lv_aload_n hx hb dX3_number_41 rfl (lv_at hl 5 rfl) ?_
          refine x_get (ci := 3) hx hb hts hown hK rfl hw1 7 (by decide) hw2 hO rfl dX3_number_42 ?_
          refine lv_iload_n hx hb dX3_number_45 rfl (lv_at hl 4 rfl) ?_
          refine x_aald (k := 5) (v := (y + 26 + 4 * sd)) hx hb hK (by decide) rfl m25 (by omega) (by decide) (rwk_at (by omega)) dX3_number_46 ?_
          refine lv_iload_n hx hb dX3_number_47 rfl (lv_at hl 3 rfl) ?_
          refine x_aald (k := 3) (v := (y + 27 + 4 * sd + r)) hx hb hK (by decide) rfl m26_ssd (by omega) (by decide) (rw3_at (by omega)) dX3_number_48 ?_
          refine lv_iload_n hx hb dX3_number_49 rfl (lv_at hl 2 rfl) ?_
          refine x_iald hx hb hK me_ssd (by omega) (by decide) dX3_number_50 ?_
          refine x_rw (z := (nI ((tg (tk L r) i).2))) (hse_ssd _ (by omega)).2 ?_
          refine x_icmp_ge (tgt := 80) hx hb (by omega) (by omega) dX3_number_51 (by decide) (fun c51 => ?_) (fun c51 => ?_)
          · refine lv_iload hx hb dX3_number_80 (lv_at hl 1 rfl) ?_
            refine x_iret hx hb hr hlocks h0 hS (by omega) (by omega) dX3_number_82 ?_
            have hve : v = vN L (tk L) r i := by
              by_cases hin : i < (tk L r).length
              · obtain ⟨hqk, hqe, hvk⟩ := hz1 hin
                have htl := hJ.lt hr3 hin
                rw [vN_in hin, hvk]
                exact congrArg (nv L (tg (tk L r) i).1) (by omega)
              · rw [vN_out hin]; exact (hz0 hin).2
            exact ⟨rfl, congrArg nI hve, trivial⟩
          · refine lv_bipush (v := nI 10) hx hb dX3_number_54 (by decide) ?_
            refine lv_iload hx hb dX3_number_56 (lv_at hl 1 rfl) ?_
            refine lv_imul hx hb dX3_number_58 ?_
            refine x_rw (z := nI (10 * v)) (pk_mul _ _) ?_
            have hkq := tk_hom hin (j := q) (by omega) (by omega)
            rw [nB_in hin] at hnm
            have h48 := kd_48 (hkq.trans (of_decide_eq_true hnm))
            refine lv_aload_n hx hb dX3_number_59 rfl (lv_at hl 5 rfl) ?_
            refine x_get (ci := 3) hx hb hts hown hK rfl hw1 4 (by decide) hw3 hO rfl dX3_number_60 ?_
            refine lv_iload_n hx hb dX3_number_63 rfl (lv_at hl 4 rfl) ?_
            refine x_aald (k := 4) (v := a) hx hb hK (by decide) rfl m12 (by omega) (by decide) (hfn sd hsd _ hw) dX3_number_64 ?_
            refine lv_iload hx hb dX3_number_65 (lv_at hl 0 rfl) ?_
            refine x_cald hx hb hK hTa_a (by omega) (by decide) dX3_number_67 ?_
            refine x_rw (z := (nI (cg L q))) (hTf_a _ (by omega)) ?_
            refine lv_bipush (v := nI 48) hx hb dX3_number_68 (by decide) ?_
            refine lv_isub hx hb dX3_number_70 ?_
            refine x_rw (z := nI ((cg L q) - 48)) (pk_sub (by omega)) ?_
            refine lv_iadd hx hb dX3_number_71 ?_
            refine x_rw (z := nI ((10 * v) + ((cg L q) - 48))) (nI_add _ _) ?_
            refine lv_istore (lv' := [(4, .int (nI ((10 * v) + ((cg L q) - 48)))), (5, .int (nI q)), (3, .int (nI i)), (2, .int (nI r)), (1, .int (nI sd)), (0, .ref y)]) hx hb dX3_number_72 hl (by decide) rfl (fun ls hl => ?_)
            refine lv_iinc (v := nI (q + 1)) (lv' := [(5, .int (nI (q + 1))), (4, .int (nI ((10 * v) + ((cg L q) - 48)))), (3, .int (nI i)), (2, .int (nI r)), (1, .int (nI sd)), (0, .ref y)]) hx hb dX3_number_74 hl (k := 1) rfl (nI_1 _) (by decide) rfl (fun ls hl => ?_)
            refine lv_goto (tgt := 32) hx hb dX3_number_77 (by decide) ?_
            exact ih32 ((10 * v) + ((cg L q) - 48)) (q + 1) (k + 1) (fun h => ⟨by omega, by omega, by rw [hvk, hqk]; rfl⟩) (fun h => absurd hin h) _ hS ls (by omega) (lv_sub hl [0, 1, 2, 3, 4, 5] rfl)
    exact loop32 _ 0 ((tg (tk L r) i).1) 0 (fun h => by first | exact absurd h (by omega) | exact ⟨rfl, by omega, rfl⟩) (fun h => by first | exact absurd (by omega) h | exact ⟨rfl, rfl⟩) _ hS ls (Nat.lt_succ_self _) (lv_sub hl [0, 1, 5, 4, 3, 2] rfl)

abbrev RMX3_words : Room := { frames := 1, cells := 0, slots := 0, locals := 12 }
set_option maxHeartbeats 4000000 in
set_option maxRecDepth 100000 in
theorem c_X3_words (l : Launch) (G : gG) (y : Nat) (n th : Int32) (w : Wt) (a z : Nat) (L P : List Nat) (hwa : w 0 = some (a, tk L)) (hwz : w 1 = some (z, tk P)) (hJ : Jt L (tk L)) (hJ2 : Jt P (tk P)) (r i : Nat) (hr3 : r < 3) (hi1 : i < (tk L r).length) (hi2 : i < (tk P r).length) (H0 : Heap) (hO : MO G y n th H0) (hLA : LA G y w H0) (hT : TA G a L H0) (hT2 : TA G z P H0) : XM l yX3_words wsX3_words RMX3_words G [.ref y, .int (nI r), .int (nI i)] H0 0 0 0 0 (roI H0 (ow L P (tg (tk L r) i).1 ((tg (tk L r) i).2 - (tg (tk L r) i).1) (tg (tk P r) i).1 ((tg (tk P r) i).2 - (tg (tk P r) i).1)) True) xN := by
  refine x_ofW (cc := cX3_words) (maxL := 8) (ret := (some .int)) (by decide) rfl (Nat.le_of_ble_eq_true rfl) ?_
  intro p e s m below meth c hx hb hr hml hown hts hlocks hout hin2 h0 hE ls hl
  replace hown : s.vm.findClass RX3 = some m.cls := hown
  have hK := hE.1
  have hS : va_S (gA 0 0 H0.size) H0 H0 [] := va_S.rf
  generalize hargs : ([.ref y, .int (nI r), .int (nI i)] : List Value).toArray = args at hts ⊢
  have hw0 := hts (.fieldLink RX3 36 "ReleaseledgerModel" "ends" "[[[I") (by decide +kernel)
  have hw1 : ∀ w ∈ u_ws RX3 TX3 9, w ∈ wsX3_words := by decide +kernel
  have hw2 := hts (.fieldLink RX3 33 "ReleaseledgerModel" "starts" "[[[I") (by decide +kernel)
  have hw3 := hts (.fieldLink RX3 23 "ReleaseledgerModel" "seen" "[[C") (by decide +kernel)
  have hl : lv_has ls 8 [(0, .ref y), (1, .int (nI r)), (2, .int (nI i))] := hl
  obtain ⟨m13, m16, m25, lmid, ⟨fn, m12, hfn⟩, lcnt, ltok⟩ := id hLA
  obtain ⟨m17_s0, m26_s0⟩ := lmid 0 (by decide)
  obtain ⟨fm_s0, mm_s0, hfm_s0⟩ := lcnt 0 (by decide)
  replace hfm_s0 := hfm_s0 _ hwa
  have h60_s0 := tk_le L r
  obtain ⟨fs_s0, fe_s0, ms_s0, me_s0, hse_s0⟩ := ltok 0 (by decide) r hr3
  replace hse_s0 := hse_s0 _ hwa
  obtain ⟨m17_s1, m26_s1⟩ := lmid 1 (by decide)
  obtain ⟨fm_s1, mm_s1, hfm_s1⟩ := lcnt 1 (by decide)
  replace hfm_s1 := hfm_s1 _ hwz
  have h60_s1 := tk_le P r
  obtain ⟨fs_s1, fe_s1, ms_s1, me_s1, hse_s1⟩ := ltok 1 (by decide) r hr3
  replace hse_s1 := hse_s1 _ hwz
  obtain ⟨ft_a, hTa_a, hTf_a, hTn_a, hTc_a⟩ := hT
  obtain ⟨ft_z, hTa_z, hTf_z, hTn_z, hTc_z⟩ := hT2
  have ht1 := hJ.lt hr3 hi1
  have ht2 := hJ2.lt hr3 hi2
  refine lv_aload_n hx hb dX3_words_0 rfl (lv_at hl 0 rfl) ?_
  refine x_get (ci := 3) hx hb hts hown hK rfl hw1 7 (by decide) hw0 hO rfl dX3_words_1 ?_
  refine lv_iconst (v := nI 0) hx hb dX3_words_4 (by decide) ?_
  refine x_aald (k := 5) (v := (y + 26 + 4 * 0)) hx hb hK (by decide) rfl m25 (by omega) (by decide) (rwk_at (by omega)) dX3_words_5 ?_
  refine lv_iload_n hx hb dX3_words_6 rfl (lv_at hl 1 rfl) ?_
  refine x_aald (k := 3) (v := (y + 27 + 4 * 0 + r)) hx hb hK (by decide) rfl m26_s0 (by omega) (by decide) (rw3_at (by omega)) dX3_words_7 ?_
  refine lv_iload_n hx hb dX3_words_8 rfl (lv_at hl 2 rfl) ?_
  refine x_iald hx hb hK me_s0 (by omega) (by decide) dX3_words_9 ?_
  refine x_rw (z := (nI ((tg (tk L r) i).2))) (hse_s0 _ (by omega)).2 ?_
  refine lv_aload_n hx hb dX3_words_10 rfl (lv_at hl 0 rfl) ?_
  refine x_get (ci := 3) hx hb hts hown hK rfl hw1 6 (by decide) hw2 hO rfl dX3_words_11 ?_
  refine lv_iconst (v := nI 0) hx hb dX3_words_14 (by decide) ?_
  refine x_aald (k := 5) (v := (y + 17 + 4 * 0)) hx hb hK (by decide) rfl m16 (by omega) (by decide) (rwk_at (by omega)) dX3_words_15 ?_
  refine lv_iload_n hx hb dX3_words_16 rfl (lv_at hl 1 rfl) ?_
  refine x_aald (k := 3) (v := (y + 18 + 4 * 0 + r)) hx hb hK (by decide) rfl m17_s0 (by omega) (by decide) (rw3_at (by omega)) dX3_words_17 ?_
  refine lv_iload_n hx hb dX3_words_18 rfl (lv_at hl 2 rfl) ?_
  refine x_iald hx hb hK ms_s0 (by omega) (by decide) dX3_words_19 ?_
  refine x_rw (z := (nI ((tg (tk L r) i).1))) (hse_s0 _ (by omega)).1 ?_
  refine lv_isub hx hb dX3_words_20 ?_
  refine x_rw (z := nI (((tg (tk L r) i).2) - ((tg (tk L r) i).1))) (pk_sub (by omega)) ?_
  refine lv_istore_n (lv' := [(3, .int (nI (((tg (tk L r) i).2) - ((tg (tk L r) i).1)))), (0, .ref y), (1, .int (nI r)), (2, .int (nI i))]) hx hb dX3_words_21 rfl hl (by decide) rfl (fun ls hl => ?_)
  refine lv_aload_n hx hb dX3_words_22 rfl (lv_at hl 1 rfl) ?_
  refine x_get (ci := 3) hx hb hts hown hK rfl hw1 7 (by decide) hw0 hO rfl dX3_words_23 ?_
  refine lv_iconst (v := nI 1) hx hb dX3_words_26 (by decide) ?_
  refine x_aald (k := 5) (v := (y + 26 + 4 * 1)) hx hb hK (by decide) rfl m25 (by omega) (by decide) (rwk_at (by omega)) dX3_words_27 ?_
  refine lv_iload_n hx hb dX3_words_28 rfl (lv_at hl 2 rfl) ?_
  refine x_aald (k := 3) (v := (y + 27 + 4 * 1 + r)) hx hb hK (by decide) rfl m26_s1 (by omega) (by decide) (rw3_at (by omega)) dX3_words_29 ?_
  refine lv_iload_n hx hb dX3_words_30 rfl (lv_at hl 3 rfl) ?_
  refine x_iald hx hb hK me_s1 (by omega) (by decide) dX3_words_31 ?_
  refine x_rw (z := (nI ((tg (tk P r) i).2))) (hse_s1 _ (by omega)).2 ?_
  refine lv_aload_n hx hb dX3_words_32 rfl (lv_at hl 1 rfl) ?_
  refine x_get (ci := 3) hx hb hts hown hK rfl hw1 6 (by decide) hw2 hO rfl dX3_words_33 ?_
  refine lv_iconst (v := nI 1) hx hb dX3_words_36 (by decide) ?_
  refine x_aald (k := 5) (v := (y + 17 + 4 * 1)) hx hb hK (by decide) rfl m16 (by omega) (by decide) (rwk_at (by omega)) dX3_words_37 ?_
  refine lv_iload_n hx hb dX3_words_38 rfl (lv_at hl 2 rfl) ?_
  refine x_aald (k := 3) (v := (y + 18 + 4 * 1 + r)) hx hb hK (by decide) rfl m17_s1 (by omega) (by decide) (rw3_at (by omega)) dX3_words_39 ?_
  refine lv_iload_n hx hb dX3_words_40 rfl (lv_at hl 3 rfl) ?_
  refine x_iald hx hb hK ms_s1 (by omega) (by decide) dX3_words_41 ?_
  refine x_rw (z := (nI ((tg (tk P r) i).1))) (hse_s1 _ (by omega)).1 ?_
  refine lv_isub hx hb dX3_words_42 ?_
  refine x_rw (z := nI (((tg (tk P r) i).2) - ((tg (tk P r) i).1))) (pk_sub (by omega)) ?_
  refine lv_istore (lv' := [(4, .int (nI (((tg (tk P r) i).2) - ((tg (tk P r) i).1)))), (3, .int (nI (((tg (tk L r) i).2) - ((tg (tk L r) i).1)))), (0, .ref y), (1, .int (nI r)), (2, .int (nI i))]) hx hb dX3_words_43 hl (by decide) rfl (fun ls hl => ?_)
  refine lv_iconst (v := nI 0) hx hb dX3_words_45 (by decide) ?_
  refine lv_istore (lv' := [(5, .int (nI 0)), (4, .int (nI (((tg (tk P r) i).2) - ((tg (tk P r) i).1)))), (3, .int (nI (((tg (tk L r) i).2) - ((tg (tk L r) i).1)))), (0, .ref y), (1, .int (nI r)), (2, .int (nI i))]) hx hb dX3_words_46 hl (by decide) rfl (fun ls hl => ?_)
  have loop48 : ∀ (fu : Nat) (j : Nat) (hjj : j ≤ (tg (tk L r) i).2 - (tg (tk L r) i).1 ∧ j ≤ (tg (tk P r) i).2 - (tg (tk P r) i).1) (hz : ∀ a, a < j → oI (nI (cg L ((tg (tk L r) i).1 + a))) (nI (cg P ((tg (tk P r) i).1 + a))) = 0) (locs : List Loc) (hS : va_S (gA 0 0 H0.size) H0 H0 locs) (ls : Array Slot), (tg (tk L r) i).2 - (tg (tk L r) i).1 - j < fu → lv_has ls 8 [(5, .int (nI j)), (4, .int (nI (((tg (tk P r) i).2) - ((tg (tk P r) i).1)))), (3, .int (nI (((tg (tk L r) i).2) - ((tg (tk L r) i).1)))), (2, .int (nI i)), (1, .int (nI r)), (0, .ref y)] → W p l e RMX3_words s m args below meth c H0 locs 0 0 (XQ below args s H0 0 0 0 0 (roI H0 (ow L P (tg (tk L r) i).1 ((tg (tk L r) i).2 - (tg (tk L r) i).1) (tg (tk P r) i).1 ((tg (tk P r) i).2 - (tg (tk P r) i).1)) True) xN) (F0 m 48 ls []) := by
    intro fu48
    induction fu48 with
    | zero => intro j hjj hz locs hS  ls hmu; exact absurd hmu (Nat.not_lt_zero _)
    | succ fu48 ih48 =>
      intro j hjj hz locs hS  ls hmu48 hl
      refine lv_iload hx hb dX3_words_48 (lv_at hl 0 rfl) ?_
      refine lv_iload_n hx hb dX3_words_50 rfl (lv_at hl 2 rfl) ?_
      refine x_icmp_ge (tgt := 131) hx hb (by omega) (by omega) dX3_words_51 (by decide) (fun c51 => ?_) (fun c51 => ?_)
      · refine lv_iload_n hx hb dX3_words_131 rfl (lv_at hl 2 rfl) ?_
        refine lv_iload hx hb dX3_words_132 (lv_at hl 1 rfl) ?_
        refine x_icmp_ge (tgt := 141) hx hb (by omega) (by omega) dX3_words_134 (by decide) (fun c134 => ?_) (fun c134 => ?_)
        · refine lv_iload_n hx hb dX3_words_141 rfl (lv_at hl 2 rfl) ?_
          refine lv_iload hx hb dX3_words_142 (lv_at hl 1 rfl) ?_
          refine x_icmp_le (tgt := 151) hx hb (by omega) (by omega) dX3_words_144 (by decide) (fun c144 => ?_) (fun c144 => ?_)
          · refine lv_iconst (v := nI 0) hx hb dX3_words_151 (by decide) ?_
            exact x_iret hx hb hr hlocks h0 hS (by omega) (by omega) dX3_words_152 (⟨rfl, (by rw [ow_end hz (by omega), oI_N (by omega) (by omega), oN_eq (by omega)]; rfl), trivial⟩)
          · refine lv_iconst (v := nI 1) hx hb dX3_words_147 (by decide) ?_
            refine lv_goto (tgt := 152) hx hb dX3_words_148 (by decide) ?_
            exact x_iret hx hb hr hlocks h0 hS (by omega) (by omega) dX3_words_152 (⟨rfl, (by rw [ow_end hz (by omega), oI_N (by omega) (by omega), oN_gt c144]; rfl), trivial⟩)
        · refine lv_iconst (v := (-1)) hx hb dX3_words_137 (by decide) ?_
          refine lv_goto (tgt := 152) hx hb dX3_words_138 (by decide) ?_
          exact x_iret hx hb hr hlocks h0 hS (by omega) (by omega) dX3_words_152 (⟨rfl, (by rw [ow_end hz (by omega), oI_N (by omega) (by omega), oN_lt c134]), trivial⟩)
      · refine lv_iload hx hb dX3_words_54 (lv_at hl 0 rfl) ?_
        refine lv_iload hx hb dX3_words_56 (lv_at hl 1 rfl) ?_
        refine x_icmp_ge (tgt := 131) hx hb (by omega) (by omega) dX3_words_58 (by decide) (fun c58 => ?_) (fun c58 => ?_)
        · refine lv_iload_n hx hb dX3_words_131 rfl (lv_at hl 2 rfl) ?_
          refine lv_iload hx hb dX3_words_132 (lv_at hl 1 rfl) ?_
          refine x_icmp_ge (tgt := 141) hx hb (by omega) (by omega) dX3_words_134 (by decide) (fun c134 => ?_) (fun c134 => ?_)
          · refine lv_iload_n hx hb dX3_words_141 rfl (lv_at hl 2 rfl) ?_
            refine lv_iload hx hb dX3_words_142 (lv_at hl 1 rfl) ?_
            refine x_icmp_le (tgt := 151) hx hb (by omega) (by omega) dX3_words_144 (by decide) (fun c144 => ?_) (fun c144 => ?_)
            · refine lv_iconst (v := nI 0) hx hb dX3_words_151 (by decide) ?_
              exact x_iret hx hb hr hlocks h0 hS (by omega) (by omega) dX3_words_152 (⟨rfl, (by rw [ow_end hz (by omega), oI_N (by omega) (by omega), oN_eq (by omega)]; rfl), trivial⟩)
            · refine lv_iconst (v := nI 1) hx hb dX3_words_147 (by decide) ?_
              refine lv_goto (tgt := 152) hx hb dX3_words_148 (by decide) ?_
              exact x_iret hx hb hr hlocks h0 hS (by omega) (by omega) dX3_words_152 (⟨rfl, (by rw [ow_end hz (by omega), oI_N (by omega) (by omega), oN_gt c144]; rfl), trivial⟩)
          · refine lv_iconst (v := (-1)) hx hb dX3_words_137 (by decide) ?_
            refine lv_goto (tgt := 152) hx hb dX3_words_138 (by decide) ?_
            exact x_iret hx hb hr hlocks h0 hS (by omega) (by omega) dX3_words_152 (⟨rfl, (by rw [ow_end hz (by omega), oI_N (by omega) (by omega), oN_lt c134]), trivial⟩)
        · refine lv_aload_n hx hb dX3_words_61 rfl (lv_at hl 5 rfl) ?_
          refine x_get (ci := 3) hx hb hts hown hK rfl hw1 4 (by decide) hw3 hO rfl dX3_words_62 ?_
          refine lv_iconst (v := nI 0) hx hb dX3_words_65 (by decide) ?_
          refine x_aald (k := 4) (v := a) hx hb hK (by decide) rfl m12 (by omega) (by decide) (hfn 0 (by decide) _ hwa) dX3_words_66 ?_
          refine lv_aload_n hx hb dX3_words_67 rfl (lv_at hl 5 rfl) ?_
          refine x_get (ci := 3) hx hb hts hown hK rfl hw1 6 (by decide) hw2 hO rfl dX3_words_68 ?_
          refine lv_iconst (v := nI 0) hx hb dX3_words_71 (by decide) ?_
          refine x_aald (k := 5) (v := (y + 17 + 4 * 0)) hx hb hK (by decide) rfl m16 (by omega) (by decide) (rwk_at (by omega)) dX3_words_72 ?_
          refine lv_iload_n hx hb dX3_words_73 rfl (lv_at hl 4 rfl) ?_
          refine x_aald (k := 3) (v := (y + 18 + 4 * 0 + r)) hx hb hK (by decide) rfl m17_s0 (by omega) (by decide) (rw3_at (by omega)) dX3_words_74 ?_
          refine lv_iload_n hx hb dX3_words_75 rfl (lv_at hl 3 rfl) ?_
          refine x_iald hx hb hK ms_s0 (by omega) (by decide) dX3_words_76 ?_
          refine x_rw (z := (nI ((tg (tk L r) i).1))) (hse_s0 _ (by omega)).1 ?_
          refine lv_iload hx hb dX3_words_77 (lv_at hl 0 rfl) ?_
          refine lv_iadd hx hb dX3_words_79 ?_
          refine x_rw (z := nI (((tg (tk L r) i).1) + j)) (nI_add _ _) ?_
          refine x_cald hx hb hK hTa_a (by omega) (by decide) dX3_words_80 ?_
          refine x_rw (z := (nI (cg L (((tg (tk L r) i).1) + j)))) (hTf_a _ (by omega)) ?_
          refine lv_istore (lv' := [(6, .int (nI (cg L (((tg (tk L r) i).1) + j)))), (5, .int (nI j)), (4, .int (nI (((tg (tk P r) i).2) - ((tg (tk P r) i).1)))), (3, .int (nI (((tg (tk L r) i).2) - ((tg (tk L r) i).1)))), (2, .int (nI i)), (1, .int (nI r)), (0, .ref y)]) hx hb dX3_words_81 hl (by decide) rfl (fun ls hl => ?_)
          refine lv_aload_n hx hb dX3_words_83 rfl (lv_at hl 6 rfl) ?_
          refine x_get (ci := 3) hx hb hts hown hK rfl hw1 4 (by decide) hw3 hO rfl dX3_words_84 ?_
          refine lv_iconst (v := nI 1) hx hb dX3_words_87 (by decide) ?_
          refine x_aald (k := 4) (v := z) hx hb hK (by decide) rfl m12 (by omega) (by decide) (hfn 1 (by decide) _ hwz) dX3_words_88 ?_
          refine lv_aload_n hx hb dX3_words_89 rfl (lv_at hl 6 rfl) ?_
          refine x_get (ci := 3) hx hb hts hown hK rfl hw1 6 (by decide) hw2 hO rfl dX3_words_90 ?_
          refine lv_iconst (v := nI 1) hx hb dX3_words_93 (by decide) ?_
          refine x_aald (k := 5) (v := (y + 17 + 4 * 1)) hx hb hK (by decide) rfl m16 (by omega) (by decide) (rwk_at (by omega)) dX3_words_94 ?_
          refine lv_iload_n hx hb dX3_words_95 rfl (lv_at hl 5 rfl) ?_
          refine x_aald (k := 3) (v := (y + 18 + 4 * 1 + r)) hx hb hK (by decide) rfl m17_s1 (by omega) (by decide) (rw3_at (by omega)) dX3_words_96 ?_
          refine lv_iload_n hx hb dX3_words_97 rfl (lv_at hl 4 rfl) ?_
          refine x_iald hx hb hK ms_s1 (by omega) (by decide) dX3_words_98 ?_
          refine x_rw (z := (nI ((tg (tk P r) i).1))) (hse_s1 _ (by omega)).1 ?_
          refine lv_iload hx hb dX3_words_99 (lv_at hl 1 rfl) ?_
          refine lv_iadd hx hb dX3_words_101 ?_
          refine x_rw (z := nI (((tg (tk P r) i).1) + j)) (nI_add _ _) ?_
          refine x_cald hx hb hK hTa_z (by omega) (by decide) dX3_words_102 ?_
          refine x_rw (z := (nI (cg P (((tg (tk P r) i).1) + j)))) (hTf_z _ (by omega)) ?_
          refine lv_istore (lv' := [(7, .int (nI (cg P (((tg (tk P r) i).1) + j)))), (6, .int (nI (cg L (((tg (tk L r) i).1) + j)))), (5, .int (nI j)), (4, .int (nI (((tg (tk P r) i).2) - ((tg (tk P r) i).1)))), (3, .int (nI (((tg (tk L r) i).2) - ((tg (tk L r) i).1)))), (2, .int (nI i)), (1, .int (nI r)), (0, .ref y)]) hx hb dX3_words_103 hl (by decide) rfl (fun ls hl => ?_)
          have hc1 := hTc_a _ (cg_mem (L := L) (i := (tg (tk L r) i).1 + j) (by omega))
          have hc2 := hTc_z _ (cg_mem (L := P) (i := (tg (tk P r) i).1 + j) (by omega))
          refine lv_iload hx hb dX3_words_105 (lv_at hl 1 rfl) ?_
          refine lv_iload hx hb dX3_words_107 (lv_at hl 0 rfl) ?_
          refine x_icmp_eq (tgt := 125) hx hb (by omega) (by omega) dX3_words_109 (by decide) (fun c109 => ?_) (fun c109 => ?_)
          · refine lv_iinc (v := nI (j + 1)) (lv' := [(5, .int (nI (j + 1))), (7, .int (nI (cg P (((tg (tk P r) i).1) + j)))), (6, .int (nI (cg L (((tg (tk L r) i).1) + j)))), (4, .int (nI (((tg (tk P r) i).2) - ((tg (tk P r) i).1)))), (3, .int (nI (((tg (tk L r) i).2) - ((tg (tk L r) i).1)))), (2, .int (nI i)), (1, .int (nI r)), (0, .ref y)]) hx hb dX3_words_125 hl (k := 2) rfl (nI_1 _) (by decide) rfl (fun ls hl => ?_)
            refine lv_goto (tgt := 48) hx hb dX3_words_128 (by decide) ?_
            exact ih48 (j + 1) (by omega) (lt_s hz (by rw [c109]; exact if_pos rfl)) _ hS ls (by omega) (lv_sub hl [0, 3, 4, 5, 6, 7] rfl)
          · refine lv_iload hx hb dX3_words_112 (lv_at hl 1 rfl) ?_
            refine lv_iload hx hb dX3_words_114 (lv_at hl 0 rfl) ?_
            refine x_icmp_ge (tgt := 123) hx hb (by omega) (by omega) dX3_words_116 (by decide) (fun c116 => ?_) (fun c116 => ?_)
            · refine lv_iconst (v := nI 1) hx hb dX3_words_123 (by decide) ?_
              exact x_iret hx hb hr hlocks h0 hS (by omega) (by omega) dX3_words_124 (⟨rfl, (by rw [ow_hit hz (by rw [oI_N (by omega) (by omega)]; rw [oN_gt (by omega)]; decide) (by omega), oI_N (by omega) (by omega), oN_gt (by omega)]; rfl), trivial⟩)
            · refine lv_iconst (v := (-1)) hx hb dX3_words_119 (by decide) ?_
              refine lv_goto (tgt := 124) hx hb dX3_words_120 (by decide) ?_
              exact x_iret hx hb hr hlocks h0 hS (by omega) (by omega) dX3_words_124 (⟨rfl, (by rw [ow_hit hz (by rw [oI_N (by omega) (by omega)]; rw [oN_lt c116]; decide) (by omega), oI_N (by omega) (by omega), oN_lt c116]), trivial⟩)
  exact loop48 _ 0 (by omega) lt_0 _ hS ls (Nat.lt_succ_self _) (lv_sub hl [0, 1, 2, 5, 4, 3] rfl)

abbrev RMX3_rows : Room := { frames := 3, cells := 0, slots := 0, locals := 55 }
set_option maxHeartbeats 4000000 in
set_option maxRecDepth 100000 in
theorem c_X3_rows (l : Launch) (G : gG) (y : Nat) (n th : Int32) (w : Wt) (a z : Nat) (L P : List Nat) (hwa : w 0 = some (a, tk L)) (hwz : w 1 = some (z, tk P)) (hJ : Jt L (tk L)) (hJ2 : Jt P (tk P)) (r : Nat) (hr3 : r < 3) (H0 : Heap) (hO : MO G y n th H0) (hLA : LA G y w H0) (hT : TA G a L H0) (hT2 : TA G z P H0) : XM l yX3_rows wsX3_rows RMX3_rows G [.ref y, .int (nI r)] H0 0 0 0 0 (roI H0 (rz L P r) True) xN := by
  refine x_ofW (cc := cX3_rows) (maxL := 7) (ret := (some .int)) (by decide) rfl (Nat.le_of_ble_eq_true rfl) ?_
  intro p e s m below meth c hx hb hr hml hown hts hlocks hout hin2 h0 hE ls hl
  replace hown : s.vm.findClass RX3 = some m.cls := hown
  have hK := hE.1
  have hS : va_S (gA 0 0 H0.size) H0 H0 [] := va_S.rf
  generalize hargs : ([.ref y, .int (nI r)] : List Value).toArray = args at hts ⊢
  have hw0 := hts (.fieldLink RX3 28 "ReleaseledgerModel" "many" "[[I") (by decide +kernel)
  have hw1 : ∀ w ∈ u_ws RX3 TX3 9, w ∈ wsX3_rows := by decide +kernel
  have hl : lv_has ls 7 [(0, .ref y), (1, .int (nI r))] := hl
  obtain ⟨m13, -, -, -, -, lcnt, -⟩ := id hLA
  obtain ⟨fm_s0, mm_s0, hfm_s0⟩ := lcnt 0 (by decide)
  obtain ⟨fm_s1, mm_s1, hfm_s1⟩ := lcnt 1 (by decide)
  replace hfm_s0 := hfm_s0 _ hwa
  replace hfm_s1 := hfm_s1 _ hwz
  have h60_s0 := tk_le L r
  have h60_s1 := tk_le P r
  have hTn_a := hT.le
  have hTn_z := hT2.le
  refine lv_iconst (v := nI 0) hx hb dX3_rows_0 (by decide) ?_
  refine lv_istore_n (lv' := [(2, .int (nI 0)), (0, .ref y), (1, .int (nI r))]) hx hb dX3_rows_1 rfl hl (by decide) rfl (fun ls hl => ?_)
  have loop2 : ∀ (fu : Nat) (i : Nat) (him : i ≤ max (tk L r).length (tk P r).length) (hz : ∀ a, a < i → tcmp L (tk L) P (tk P) r a = 0) (locs : List Loc) (hS : va_S (gA 0 0 H0.size) H0 H0 locs) (ls : Array Slot), max (tk L r).length (tk P r).length - i < fu → lv_has ls 7 [(2, .int (nI i)), (1, .int (nI r)), (0, .ref y)] → W p l e RMX3_rows s m args below meth c H0 locs 0 0 (XQ below args s H0 0 0 0 0 (roI H0 (rz L P r) True) xN) (F0 m 2 ls []) := by
    intro fu2
    induction fu2 with
    | zero => intro i him hz locs hS  ls hmu; exact absurd hmu (Nat.not_lt_zero _)
    | succ fu2 ih2 =>
      intro i him hz locs hS  ls hmu2 hl
      refine lv_iload_n hx hb dX3_rows_2 rfl (lv_at hl 0 rfl) ?_
      refine lv_aload_n hx hb dX3_rows_3 rfl (lv_at hl 2 rfl) ?_
      refine x_get (ci := 3) hx hb hts hown hK rfl hw1 5 (by decide) hw0 hO rfl dX3_rows_4 ?_
      refine lv_iconst (v := nI 0) hx hb dX3_rows_7 (by decide) ?_
      refine x_aald (k := 3) (v := (y + 14 + 0)) hx hb hK (by decide) rfl m13 (by omega) (by decide) (by rw [rwk_at (by omega), Nat.one_mul]) dX3_rows_8 ?_
      refine lv_iload_n hx hb dX3_rows_9 rfl (lv_at hl 1 rfl) ?_
      refine x_iald hx hb hK mm_s0 (by omega) (by decide) dX3_rows_10 ?_
      refine x_rw (z := (nI ((tk L r).length))) (hfm_s0 _ (by omega)) ?_
      refine x_icmp_lt (tgt := 26) hx hb (by omega) (by omega) dX3_rows_11 (by decide) (fun c11 => ?_) (fun c11 => ?_)
      · refine lv_aload_n hx hb dX3_rows_26 rfl (lv_at hl 2 rfl) ?_
        refine lv_iconst (v := nI 0) hx hb dX3_rows_27 (by decide) ?_
        refine lv_iload_n hx hb dX3_rows_28 rfl (lv_at hl 1 rfl) ?_
        refine lv_iload_n hx hb dX3_rows_29 rfl (lv_at hl 0 rfl) ?_
        refine x_goI_ro (x_runV (As := [.int (nI 0), .int (nI r), .int (nI i)]) (rest := []) ⟨hx, hb, hml, hown, hts⟩ hE h0 hS (c_X3_isNumber l G y n th w 0 (by decide) a L hwa hJ r i hr3 (by omega) H0 hO hLA hT) (cwV 3 hts gX3_rows_X3_isNumber rfl rfl rfl (by decide +kernel) ⟨Nat.le_of_ble_eq_true rfl, Nat.le_of_ble_eq_true rfl⟩) (gO.recv (C := RX3) hK hO rfl) (by omega) rfl rfl hl.1 rfl (lv_room (Nat.le_of_ble_eq_true rfl)) dX3_rows_30 ⟨by first | exact Nat.le_of_ble_eq_true rfl | omega, by first | exact Nat.le_of_ble_eq_true rfl | omega⟩) hS (by omega) (fun _ _ _ _ _ h => h.elim) (fun locs hq hS => ?_)
        refine lv_istore_n (lv' := [(3, .int (bI (nB L (tk L) r i))), (2, .int (nI i)), (1, .int (nI r)), (0, .ref y)]) hx hb dX3_rows_33 rfl hl (by decide) rfl (fun ls hl => ?_)
        refine lv_aload_n hx hb dX3_rows_34 rfl (lv_at hl 3 rfl) ?_
        refine lv_iconst (v := nI 1) hx hb dX3_rows_35 (by decide) ?_
        refine lv_iload_n hx hb dX3_rows_36 rfl (lv_at hl 2 rfl) ?_
        refine lv_iload_n hx hb dX3_rows_37 rfl (lv_at hl 1 rfl) ?_
        refine x_goI_ro (x_runV (As := [.int (nI 1), .int (nI r), .int (nI i)]) (rest := []) ⟨hx, hb, hml, hown, hts⟩ hE h0 hS (c_X3_isNumber l G y n th w 1 (by decide) z P hwz hJ2 r i hr3 (by omega) H0 hO hLA hT2) (cwV 3 hts gX3_rows_X3_isNumber rfl rfl rfl (by decide +kernel) ⟨Nat.le_of_ble_eq_true rfl, Nat.le_of_ble_eq_true rfl⟩) (gO.recv (C := RX3) hK hO rfl) (by omega) rfl rfl hl.1 rfl (lv_room (Nat.le_of_ble_eq_true rfl)) dX3_rows_38 ⟨by first | exact Nat.le_of_ble_eq_true rfl | omega, by first | exact Nat.le_of_ble_eq_true rfl | omega⟩) hS (by omega) (fun _ _ _ _ _ h => h.elim) (fun locs hq hS => ?_)
        refine lv_istore (lv' := [(4, .int (bI (nB P (tk P) r i))), (3, .int (bI (nB L (tk L) r i))), (2, .int (nI i)), (1, .int (nI r)), (0, .ref y)]) hx hb dX3_rows_41 hl (by decide) rfl (fun ls hl => ?_)
        refine lv_iload_n hx hb dX3_rows_43 rfl (lv_at hl 1 rfl) ?_
        refine lv_iload hx hb dX3_rows_44 (lv_at hl 0 rfl) ?_
        refine lv_icmp_eq (tgt := 59) hx hb dX3_rows_46 (by decide) (fun c46 => ?_) (fun c46 => ?_)
        · have hnn := bI_inj c46
          refine lv_iload_n hx hb dX3_rows_59 rfl (lv_at hl 1 rfl) ?_
          refine x_if_eqB (tgt := 73) hx hb dX3_rows_60 (by decide) (fun c60 => ?_) (fun c60 => ?_)
          · obtain ⟨hi1, hk1⟩ := nB_f c60
            obtain ⟨hi2, hk2⟩ := nB_f (hnn.symm.trans c60)
            refine lv_aload_n hx hb dX3_rows_73 rfl (lv_at hl 4 rfl) ?_
            refine lv_iload_n hx hb dX3_rows_74 rfl (lv_at hl 3 rfl) ?_
            refine lv_iload_n hx hb dX3_rows_75 rfl (lv_at hl 2 rfl) ?_
            refine x_goI_ro (x_runV (As := [.int (nI r), .int (nI i)]) (rest := []) ⟨hx, hb, hml, hown, hts⟩ hE h0 hS (c_X3_words l G y n th w a z L P hwa hwz hJ hJ2 r i hr3 hi1 hi2 H0 hO hLA hT hT2) (cwV 2 hts gX3_rows_X3_words rfl rfl rfl (by decide +kernel) ⟨Nat.le_of_ble_eq_true rfl, Nat.le_of_ble_eq_true rfl⟩) (gO.recv (C := RX3) hK hO rfl) (by omega) rfl rfl hl.1 rfl (lv_room (Nat.le_of_ble_eq_true rfl)) dX3_rows_76 ⟨by first | exact Nat.le_of_ble_eq_true rfl | omega, by first | exact Nat.le_of_ble_eq_true rfl | omega⟩) hS (by omega) (fun _ _ _ _ _ h => h.elim) (fun locs hq hS => ?_)
            have hcm := tc_ww hJ hJ2 hr3 c60 (hnn.symm.trans c60)
            refine lv_istore (lv' := [(5, .int (ow L P (tg (tk L r) i).1 ((tg (tk L r) i).2 - (tg (tk L r) i).1) (tg (tk P r) i).1 ((tg (tk P r) i).2 - (tg (tk P r) i).1))), (4, .int (bI (nB P (tk P) r i))), (3, .int (bI (nB L (tk L) r i))), (2, .int (nI i)), (1, .int (nI r)), (0, .ref y)]) hx hb dX3_rows_79 hl (by decide) rfl (fun ls hl => ?_)
            refine lv_iload_n hx hb dX3_rows_81 rfl (lv_at hl 2 rfl) ?_
            refine x_if_eqB (tgt := 95) hx hb dX3_rows_82 (by decide) (fun c82 => ?_) (fun c82 => ?_)
            · refine lv_iconst (v := nI 0) hx hb dX3_rows_95 (by decide) ?_
              refine lv_istore (lv' := [(6, .int (nI 0)), (5, .int (ow L P (tg (tk L r) i).1 ((tg (tk L r) i).2 - (tg (tk L r) i).1) (tg (tk P r) i).1 ((tg (tk P r) i).2 - (tg (tk P r) i).1))), (4, .int (bI (nB P (tk P) r i))), (3, .int (bI (nB L (tk L) r i))), (2, .int (nI i)), (1, .int (nI r)), (0, .ref y)]) hx hb dX3_rows_96 hl (by decide) rfl (fun ls hl => ?_)
              refine lv_iload hx hb dX3_rows_98 (lv_at hl 1 rfl) ?_
              refine lv_iload hx hb dX3_rows_100 (lv_at hl 0 rfl) ?_
              refine lv_icmp_eq (tgt := 118) hx hb dX3_rows_102 (by decide) (fun c102 => ?_) (fun c102 => ?_)
              · refine lv_iinc (v := nI (i + 1)) (lv' := [(2, .int (nI (i + 1))), (6, .int (nI 0)), (5, .int (ow L P (tg (tk L r) i).1 ((tg (tk L r) i).2 - (tg (tk L r) i).1) (tg (tk P r) i).1 ((tg (tk P r) i).2 - (tg (tk P r) i).1))), (4, .int (bI (nB P (tk P) r i))), (3, .int (bI (nB L (tk L) r i))), (1, .int (nI r)), (0, .ref y)]) hx hb dX3_rows_118 hl (k := 4) rfl (nI_1 _) (by decide) rfl (fun ls hl => ?_)
                refine lv_goto (tgt := 2) hx hb dX3_rows_121 (by decide) ?_
                exact ih2 (i + 1) (by omega) (lt_s hz (by first | (rw [hcm, oN_eq c102]) | (rw [hcm]; exact c102))) _ hS ls (by omega) (lv_sub hl [0, 5, 6] rfl)
              · refine lv_iload hx hb dX3_rows_105 (lv_at hl 1 rfl) ?_
                refine lv_iload hx hb dX3_rows_107 (lv_at hl 0 rfl) ?_
                refine lv_icmp_ge (tgt := 116) hx hb dX3_rows_109 (by decide) (fun c109 => ?_) (fun c109 => ?_)
                · refine lv_iconst (v := nI 1) hx hb dX3_rows_116 (by decide) ?_
                  exact x_iret hx hb hr hlocks h0 hS (by omega) (by omega) dX3_rows_117 (⟨rfl, rz_hit hz (by rw [hcm]; first | exact oN_gt (by omega) | exact ow_gt (by first | exact c109 | exact Int32.not_lt.mp c109) c102) (by decide) (by omega), trivial⟩)
                · refine lv_iconst (v := (-1)) hx hb dX3_rows_112 (by decide) ?_
                  refine lv_goto (tgt := 117) hx hb dX3_rows_113 (by decide) ?_
                  exact x_iret hx hb hr hlocks h0 hS (by omega) (by omega) dX3_rows_117 (⟨rfl, rz_hit hz (by rw [hcm]; first | exact oN_lt c109 | exact ow_lt (Int32.not_le.mp c109)) (by decide) (by omega), trivial⟩)
            · exact Bool.noConfusion (c60.symm.trans c82)
          · have hn2 := hnn.symm.trans c60
            have hv1 := vN_lt hJ hr3 c60
            have hv2 := vN_lt hJ2 hr3 hn2
            have hcm := tc_nn hJ hJ2 hr3 c60 hn2
            refine lv_aload_n hx hb dX3_rows_63 rfl (lv_at hl 4 rfl) ?_
            refine lv_iconst (v := nI 0) hx hb dX3_rows_64 (by decide) ?_
            refine lv_iload_n hx hb dX3_rows_65 rfl (lv_at hl 3 rfl) ?_
            refine lv_iload_n hx hb dX3_rows_66 rfl (lv_at hl 2 rfl) ?_
            refine x_goI_ro (x_runV (As := [.int (nI 0), .int (nI r), .int (nI i)]) (rest := []) ⟨hx, hb, hml, hown, hts⟩ hE h0 hS (c_X3_number l G y n th w 0 (by decide) a L hwa hJ r i hr3 (by omega) c60 H0 hO hLA hT) (cwV 3 hts gX3_rows_X3_number rfl rfl rfl (by decide +kernel) ⟨Nat.le_of_ble_eq_true rfl, Nat.le_of_ble_eq_true rfl⟩) (gO.recv (C := RX3) hK hO rfl) (by omega) rfl rfl hl.1 rfl (lv_room (Nat.le_of_ble_eq_true rfl)) dX3_rows_67 ⟨by first | exact Nat.le_of_ble_eq_true rfl | omega, by first | exact Nat.le_of_ble_eq_true rfl | omega⟩) hS (by omega) (fun _ _ _ _ _ h => h.elim) (fun locs hq hS => ?_)
            refine lv_goto (tgt := 79) hx hb dX3_rows_70 (by decide) ?_
            refine lv_istore (lv' := [(5, .int (nI (vN L (tk L) r i))), (4, .int (bI (nB P (tk P) r i))), (3, .int (bI (nB L (tk L) r i))), (2, .int (nI i)), (1, .int (nI r)), (0, .ref y)]) hx hb dX3_rows_79 hl (by decide) rfl (fun ls hl => ?_)
            refine lv_iload_n hx hb dX3_rows_81 rfl (lv_at hl 2 rfl) ?_
            refine x_if_eqB (tgt := 95) hx hb dX3_rows_82 (by decide) (fun c82 => ?_) (fun c82 => ?_)
            · exact Bool.noConfusion (c60.symm.trans c82)
            · refine lv_aload_n hx hb dX3_rows_85 rfl (lv_at hl 5 rfl) ?_
              refine lv_iconst (v := nI 1) hx hb dX3_rows_86 (by decide) ?_
              refine lv_iload_n hx hb dX3_rows_87 rfl (lv_at hl 4 rfl) ?_
              refine lv_iload_n hx hb dX3_rows_88 rfl (lv_at hl 3 rfl) ?_
              refine x_goI_ro (x_runV (As := [.int (nI 1), .int (nI r), .int (nI i)]) (rest := []) ⟨hx, hb, hml, hown, hts⟩ hE h0 hS (c_X3_number l G y n th w 1 (by decide) z P hwz hJ2 r i hr3 (by omega) hn2 H0 hO hLA hT2) (cwV 3 hts gX3_rows_X3_number rfl rfl rfl (by decide +kernel) ⟨Nat.le_of_ble_eq_true rfl, Nat.le_of_ble_eq_true rfl⟩) (gO.recv (C := RX3) hK hO rfl) (by omega) rfl rfl hl.1 rfl (lv_room (Nat.le_of_ble_eq_true rfl)) dX3_rows_89 ⟨by first | exact Nat.le_of_ble_eq_true rfl | omega, by first | exact Nat.le_of_ble_eq_true rfl | omega⟩) hS (by omega) (fun _ _ _ _ _ h => h.elim) (fun locs hq hS => ?_)
              refine lv_goto (tgt := 96) hx hb dX3_rows_92 (by decide) ?_
              refine lv_istore (lv' := [(6, .int (nI (vN P (tk P) r i))), (5, .int (nI (vN L (tk L) r i))), (4, .int (bI (nB P (tk P) r i))), (3, .int (bI (nB L (tk L) r i))), (2, .int (nI i)), (1, .int (nI r)), (0, .ref y)]) hx hb dX3_rows_96 hl (by decide) rfl (fun ls hl => ?_)
              refine lv_iload hx hb dX3_rows_98 (lv_at hl 1 rfl) ?_
              refine lv_iload hx hb dX3_rows_100 (lv_at hl 0 rfl) ?_
              refine x_icmp_eq (tgt := 118) hx hb (by omega) (by omega) dX3_rows_102 (by decide) (fun c102 => ?_) (fun c102 => ?_)
              · refine lv_iinc (v := nI (i + 1)) (lv' := [(2, .int (nI (i + 1))), (6, .int (nI (vN P (tk P) r i))), (5, .int (nI (vN L (tk L) r i))), (4, .int (bI (nB P (tk P) r i))), (3, .int (bI (nB L (tk L) r i))), (1, .int (nI r)), (0, .ref y)]) hx hb dX3_rows_118 hl (k := 4) rfl (nI_1 _) (by decide) rfl (fun ls hl => ?_)
                refine lv_goto (tgt := 2) hx hb dX3_rows_121 (by decide) ?_
                exact ih2 (i + 1) (by omega) (lt_s hz (by first | (rw [hcm, oN_eq c102]) | (rw [hcm]; exact c102))) _ hS ls (by omega) (lv_sub hl [0, 5, 6] rfl)
              · refine lv_iload hx hb dX3_rows_105 (lv_at hl 1 rfl) ?_
                refine lv_iload hx hb dX3_rows_107 (lv_at hl 0 rfl) ?_
                refine x_icmp_ge (tgt := 116) hx hb (by omega) (by omega) dX3_rows_109 (by decide) (fun c109 => ?_) (fun c109 => ?_)
                · refine lv_iconst (v := nI 1) hx hb dX3_rows_116 (by decide) ?_
                  exact x_iret hx hb hr hlocks h0 hS (by omega) (by omega) dX3_rows_117 (⟨rfl, rz_hit hz (by rw [hcm]; first | exact oN_gt (by omega) | exact ow_gt (by first | exact c109 | exact Int32.not_lt.mp c109) c102) (by decide) (by omega), trivial⟩)
                · refine lv_iconst (v := (-1)) hx hb dX3_rows_112 (by decide) ?_
                  refine lv_goto (tgt := 117) hx hb dX3_rows_113 (by decide) ?_
                  exact x_iret hx hb hr hlocks h0 hS (by omega) (by omega) dX3_rows_117 (⟨rfl, rz_hit hz (by rw [hcm]; first | exact oN_lt c109 | exact ow_lt (Int32.not_le.mp c109)) (by decide) (by omega), trivial⟩)
        · refine lv_iload_n hx hb dX3_rows_49 rfl (lv_at hl 1 rfl) ?_
          refine x_if_eqB (tgt := 57) hx hb dX3_rows_50 (by decide) (fun c50 => ?_) (fun c50 => ?_)
          · refine lv_iconst (v := nI 1) hx hb dX3_rows_57 (by decide) ?_
            exact x_iret hx hb hr hlocks h0 hS (by omega) (by omega) dX3_rows_58 (⟨rfl, rz_hit hz (tc_wn hJ hJ2 hr3 c50 (by cases g : nB P (tk P) r i with | true => rfl | false => exact absurd (by rw [c50, g]) c46)) (by decide) (by omega), trivial⟩)
          · refine lv_iconst (v := (-1)) hx hb dX3_rows_53 (by decide) ?_
            refine lv_goto (tgt := 58) hx hb dX3_rows_54 (by decide) ?_
            exact x_iret hx hb hr hlocks h0 hS (by omega) (by omega) dX3_rows_58 (⟨rfl, rz_hit hz (tc_nw hJ hJ2 hr3 c50 (by cases g : nB P (tk P) r i with | false => rfl | true => exact absurd (by rw [c50, g]) c46)) (by decide) (by omega), trivial⟩)
      · refine lv_iload_n hx hb dX3_rows_14 rfl (lv_at hl 0 rfl) ?_
        refine lv_aload_n hx hb dX3_rows_15 rfl (lv_at hl 2 rfl) ?_
        refine x_get (ci := 3) hx hb hts hown hK rfl hw1 5 (by decide) hw0 hO rfl dX3_rows_16 ?_
        refine lv_iconst (v := nI 1) hx hb dX3_rows_19 (by decide) ?_
        refine x_aald (k := 3) (v := (y + 14 + 1)) hx hb hK (by decide) rfl m13 (by omega) (by decide) (by rw [rwk_at (by omega), Nat.one_mul]) dX3_rows_20 ?_
        refine lv_iload_n hx hb dX3_rows_21 rfl (lv_at hl 1 rfl) ?_
        refine x_iald hx hb hK mm_s1 (by omega) (by decide) dX3_rows_22 ?_
        refine x_rw (z := (nI ((tk P r).length))) (hfm_s1 _ (by omega)) ?_
        refine x_icmp_ge (tgt := 124) hx hb (by omega) (by omega) dX3_rows_23 (by decide) (fun c23 => ?_) (fun c23 => ?_)
        · refine lv_iconst (v := nI 0) hx hb dX3_rows_124 (by decide) ?_
          exact x_iret hx hb hr hlocks h0 hS (by omega) (by omega) dX3_rows_125 (⟨rfl, rz_end hz (by omega), trivial⟩)
        · refine lv_aload_n hx hb dX3_rows_26 rfl (lv_at hl 2 rfl) ?_
          refine lv_iconst (v := nI 0) hx hb dX3_rows_27 (by decide) ?_
          refine lv_iload_n hx hb dX3_rows_28 rfl (lv_at hl 1 rfl) ?_
          refine lv_iload_n hx hb dX3_rows_29 rfl (lv_at hl 0 rfl) ?_
          refine x_goI_ro (x_runV (As := [.int (nI 0), .int (nI r), .int (nI i)]) (rest := []) ⟨hx, hb, hml, hown, hts⟩ hE h0 hS (c_X3_isNumber l G y n th w 0 (by decide) a L hwa hJ r i hr3 (by omega) H0 hO hLA hT) (cwV 3 hts gX3_rows_X3_isNumber rfl rfl rfl (by decide +kernel) ⟨Nat.le_of_ble_eq_true rfl, Nat.le_of_ble_eq_true rfl⟩) (gO.recv (C := RX3) hK hO rfl) (by omega) rfl rfl hl.1 rfl (lv_room (Nat.le_of_ble_eq_true rfl)) dX3_rows_30 ⟨by first | exact Nat.le_of_ble_eq_true rfl | omega, by first | exact Nat.le_of_ble_eq_true rfl | omega⟩) hS (by omega) (fun _ _ _ _ _ h => h.elim) (fun locs hq hS => ?_)
          refine lv_istore_n (lv' := [(3, .int (bI (nB L (tk L) r i))), (2, .int (nI i)), (1, .int (nI r)), (0, .ref y)]) hx hb dX3_rows_33 rfl hl (by decide) rfl (fun ls hl => ?_)
          refine lv_aload_n hx hb dX3_rows_34 rfl (lv_at hl 3 rfl) ?_
          refine lv_iconst (v := nI 1) hx hb dX3_rows_35 (by decide) ?_
          refine lv_iload_n hx hb dX3_rows_36 rfl (lv_at hl 2 rfl) ?_
          refine lv_iload_n hx hb dX3_rows_37 rfl (lv_at hl 1 rfl) ?_
          refine x_goI_ro (x_runV (As := [.int (nI 1), .int (nI r), .int (nI i)]) (rest := []) ⟨hx, hb, hml, hown, hts⟩ hE h0 hS (c_X3_isNumber l G y n th w 1 (by decide) z P hwz hJ2 r i hr3 (by omega) H0 hO hLA hT2) (cwV 3 hts gX3_rows_X3_isNumber rfl rfl rfl (by decide +kernel) ⟨Nat.le_of_ble_eq_true rfl, Nat.le_of_ble_eq_true rfl⟩) (gO.recv (C := RX3) hK hO rfl) (by omega) rfl rfl hl.1 rfl (lv_room (Nat.le_of_ble_eq_true rfl)) dX3_rows_38 ⟨by first | exact Nat.le_of_ble_eq_true rfl | omega, by first | exact Nat.le_of_ble_eq_true rfl | omega⟩) hS (by omega) (fun _ _ _ _ _ h => h.elim) (fun locs hq hS => ?_)
          refine lv_istore (lv' := [(4, .int (bI (nB P (tk P) r i))), (3, .int (bI (nB L (tk L) r i))), (2, .int (nI i)), (1, .int (nI r)), (0, .ref y)]) hx hb dX3_rows_41 hl (by decide) rfl (fun ls hl => ?_)
          refine lv_iload_n hx hb dX3_rows_43 rfl (lv_at hl 1 rfl) ?_
          refine lv_iload hx hb dX3_rows_44 (lv_at hl 0 rfl) ?_
          refine lv_icmp_eq (tgt := 59) hx hb dX3_rows_46 (by decide) (fun c46 => ?_) (fun c46 => ?_)
          · have hnn := bI_inj c46
            refine lv_iload_n hx hb dX3_rows_59 rfl (lv_at hl 1 rfl) ?_
            refine x_if_eqB (tgt := 73) hx hb dX3_rows_60 (by decide) (fun c60 => ?_) (fun c60 => ?_)
            · obtain ⟨hi1, hk1⟩ := nB_f c60
              obtain ⟨hi2, hk2⟩ := nB_f (hnn.symm.trans c60)
              refine lv_aload_n hx hb dX3_rows_73 rfl (lv_at hl 4 rfl) ?_
              refine lv_iload_n hx hb dX3_rows_74 rfl (lv_at hl 3 rfl) ?_
              refine lv_iload_n hx hb dX3_rows_75 rfl (lv_at hl 2 rfl) ?_
              refine x_goI_ro (x_runV (As := [.int (nI r), .int (nI i)]) (rest := []) ⟨hx, hb, hml, hown, hts⟩ hE h0 hS (c_X3_words l G y n th w a z L P hwa hwz hJ hJ2 r i hr3 hi1 hi2 H0 hO hLA hT hT2) (cwV 2 hts gX3_rows_X3_words rfl rfl rfl (by decide +kernel) ⟨Nat.le_of_ble_eq_true rfl, Nat.le_of_ble_eq_true rfl⟩) (gO.recv (C := RX3) hK hO rfl) (by omega) rfl rfl hl.1 rfl (lv_room (Nat.le_of_ble_eq_true rfl)) dX3_rows_76 ⟨by first | exact Nat.le_of_ble_eq_true rfl | omega, by first | exact Nat.le_of_ble_eq_true rfl | omega⟩) hS (by omega) (fun _ _ _ _ _ h => h.elim) (fun locs hq hS => ?_)
              have hcm := tc_ww hJ hJ2 hr3 c60 (hnn.symm.trans c60)
              refine lv_istore (lv' := [(5, .int (ow L P (tg (tk L r) i).1 ((tg (tk L r) i).2 - (tg (tk L r) i).1) (tg (tk P r) i).1 ((tg (tk P r) i).2 - (tg (tk P r) i).1))), (4, .int (bI (nB P (tk P) r i))), (3, .int (bI (nB L (tk L) r i))), (2, .int (nI i)), (1, .int (nI r)), (0, .ref y)]) hx hb dX3_rows_79 hl (by decide) rfl (fun ls hl => ?_)
              refine lv_iload_n hx hb dX3_rows_81 rfl (lv_at hl 2 rfl) ?_
              refine x_if_eqB (tgt := 95) hx hb dX3_rows_82 (by decide) (fun c82 => ?_) (fun c82 => ?_)
              · refine lv_iconst (v := nI 0) hx hb dX3_rows_95 (by decide) ?_
                refine lv_istore (lv' := [(6, .int (nI 0)), (5, .int (ow L P (tg (tk L r) i).1 ((tg (tk L r) i).2 - (tg (tk L r) i).1) (tg (tk P r) i).1 ((tg (tk P r) i).2 - (tg (tk P r) i).1))), (4, .int (bI (nB P (tk P) r i))), (3, .int (bI (nB L (tk L) r i))), (2, .int (nI i)), (1, .int (nI r)), (0, .ref y)]) hx hb dX3_rows_96 hl (by decide) rfl (fun ls hl => ?_)
                refine lv_iload hx hb dX3_rows_98 (lv_at hl 1 rfl) ?_
                refine lv_iload hx hb dX3_rows_100 (lv_at hl 0 rfl) ?_
                refine lv_icmp_eq (tgt := 118) hx hb dX3_rows_102 (by decide) (fun c102 => ?_) (fun c102 => ?_)
                · refine lv_iinc (v := nI (i + 1)) (lv' := [(2, .int (nI (i + 1))), (6, .int (nI 0)), (5, .int (ow L P (tg (tk L r) i).1 ((tg (tk L r) i).2 - (tg (tk L r) i).1) (tg (tk P r) i).1 ((tg (tk P r) i).2 - (tg (tk P r) i).1))), (4, .int (bI (nB P (tk P) r i))), (3, .int (bI (nB L (tk L) r i))), (1, .int (nI r)), (0, .ref y)]) hx hb dX3_rows_118 hl (k := 4) rfl (nI_1 _) (by decide) rfl (fun ls hl => ?_)
                  refine lv_goto (tgt := 2) hx hb dX3_rows_121 (by decide) ?_
                  exact ih2 (i + 1) (by omega) (lt_s hz (by first | (rw [hcm, oN_eq c102]) | (rw [hcm]; exact c102))) _ hS ls (by omega) (lv_sub hl [0, 5, 6] rfl)
                · refine lv_iload hx hb dX3_rows_105 (lv_at hl 1 rfl) ?_
                  refine lv_iload hx hb dX3_rows_107 (lv_at hl 0 rfl) ?_
                  refine lv_icmp_ge (tgt := 116) hx hb dX3_rows_109 (by decide) (fun c109 => ?_) (fun c109 => ?_)
                  · refine lv_iconst (v := nI 1) hx hb dX3_rows_116 (by decide) ?_
                    exact x_iret hx hb hr hlocks h0 hS (by omega) (by omega) dX3_rows_117 (⟨rfl, rz_hit hz (by rw [hcm]; first | exact oN_gt (by omega) | exact ow_gt (by first | exact c109 | exact Int32.not_lt.mp c109) c102) (by decide) (by omega), trivial⟩)
                  · refine lv_iconst (v := (-1)) hx hb dX3_rows_112 (by decide) ?_
                    refine lv_goto (tgt := 117) hx hb dX3_rows_113 (by decide) ?_
                    exact x_iret hx hb hr hlocks h0 hS (by omega) (by omega) dX3_rows_117 (⟨rfl, rz_hit hz (by rw [hcm]; first | exact oN_lt c109 | exact ow_lt (Int32.not_le.mp c109)) (by decide) (by omega), trivial⟩)
              · exact Bool.noConfusion (c60.symm.trans c82)
            · have hn2 := hnn.symm.trans c60
              have hv1 := vN_lt hJ hr3 c60
              have hv2 := vN_lt hJ2 hr3 hn2
              have hcm := tc_nn hJ hJ2 hr3 c60 hn2
              refine lv_aload_n hx hb dX3_rows_63 rfl (lv_at hl 4 rfl) ?_
              refine lv_iconst (v := nI 0) hx hb dX3_rows_64 (by decide) ?_
              refine lv_iload_n hx hb dX3_rows_65 rfl (lv_at hl 3 rfl) ?_
              refine lv_iload_n hx hb dX3_rows_66 rfl (lv_at hl 2 rfl) ?_
              refine x_goI_ro (x_runV (As := [.int (nI 0), .int (nI r), .int (nI i)]) (rest := []) ⟨hx, hb, hml, hown, hts⟩ hE h0 hS (c_X3_number l G y n th w 0 (by decide) a L hwa hJ r i hr3 (by omega) c60 H0 hO hLA hT) (cwV 3 hts gX3_rows_X3_number rfl rfl rfl (by decide +kernel) ⟨Nat.le_of_ble_eq_true rfl, Nat.le_of_ble_eq_true rfl⟩) (gO.recv (C := RX3) hK hO rfl) (by omega) rfl rfl hl.1 rfl (lv_room (Nat.le_of_ble_eq_true rfl)) dX3_rows_67 ⟨by first | exact Nat.le_of_ble_eq_true rfl | omega, by first | exact Nat.le_of_ble_eq_true rfl | omega⟩) hS (by omega) (fun _ _ _ _ _ h => h.elim) (fun locs hq hS => ?_)
              refine lv_goto (tgt := 79) hx hb dX3_rows_70 (by decide) ?_
              refine lv_istore (lv' := [(5, .int (nI (vN L (tk L) r i))), (4, .int (bI (nB P (tk P) r i))), (3, .int (bI (nB L (tk L) r i))), (2, .int (nI i)), (1, .int (nI r)), (0, .ref y)]) hx hb dX3_rows_79 hl (by decide) rfl (fun ls hl => ?_)
              refine lv_iload_n hx hb dX3_rows_81 rfl (lv_at hl 2 rfl) ?_
              refine x_if_eqB (tgt := 95) hx hb dX3_rows_82 (by decide) (fun c82 => ?_) (fun c82 => ?_)
              · exact Bool.noConfusion (c60.symm.trans c82)
              · refine lv_aload_n hx hb dX3_rows_85 rfl (lv_at hl 5 rfl) ?_
                refine lv_iconst (v := nI 1) hx hb dX3_rows_86 (by decide) ?_
                refine lv_iload_n hx hb dX3_rows_87 rfl (lv_at hl 4 rfl) ?_
                refine lv_iload_n hx hb dX3_rows_88 rfl (lv_at hl 3 rfl) ?_
                refine x_goI_ro (x_runV (As := [.int (nI 1), .int (nI r), .int (nI i)]) (rest := []) ⟨hx, hb, hml, hown, hts⟩ hE h0 hS (c_X3_number l G y n th w 1 (by decide) z P hwz hJ2 r i hr3 (by omega) hn2 H0 hO hLA hT2) (cwV 3 hts gX3_rows_X3_number rfl rfl rfl (by decide +kernel) ⟨Nat.le_of_ble_eq_true rfl, Nat.le_of_ble_eq_true rfl⟩) (gO.recv (C := RX3) hK hO rfl) (by omega) rfl rfl hl.1 rfl (lv_room (Nat.le_of_ble_eq_true rfl)) dX3_rows_89 ⟨by first | exact Nat.le_of_ble_eq_true rfl | omega, by first | exact Nat.le_of_ble_eq_true rfl | omega⟩) hS (by omega) (fun _ _ _ _ _ h => h.elim) (fun locs hq hS => ?_)
                refine lv_goto (tgt := 96) hx hb dX3_rows_92 (by decide) ?_
                refine lv_istore (lv' := [(6, .int (nI (vN P (tk P) r i))), (5, .int (nI (vN L (tk L) r i))), (4, .int (bI (nB P (tk P) r i))), (3, .int (bI (nB L (tk L) r i))), (2, .int (nI i)), (1, .int (nI r)), (0, .ref y)]) hx hb dX3_rows_96 hl (by decide) rfl (fun ls hl => ?_)
                refine lv_iload hx hb dX3_rows_98 (lv_at hl 1 rfl) ?_
                refine lv_iload hx hb dX3_rows_100 (lv_at hl 0 rfl) ?_
                refine x_icmp_eq (tgt := 118) hx hb (by omega) (by omega) dX3_rows_102 (by decide) (fun c102 => ?_) (fun c102 => ?_)
                · refine lv_iinc (v := nI (i + 1)) (lv' := [(2, .int (nI (i + 1))), (6, .int (nI (vN P (tk P) r i))), (5, .int (nI (vN L (tk L) r i))), (4, .int (bI (nB P (tk P) r i))), (3, .int (bI (nB L (tk L) r i))), (1, .int (nI r)), (0, .ref y)]) hx hb dX3_rows_118 hl (k := 4) rfl (nI_1 _) (by decide) rfl (fun ls hl => ?_)
                  refine lv_goto (tgt := 2) hx hb dX3_rows_121 (by decide) ?_
                  exact ih2 (i + 1) (by omega) (lt_s hz (by first | (rw [hcm, oN_eq c102]) | (rw [hcm]; exact c102))) _ hS ls (by omega) (lv_sub hl [0, 5, 6] rfl)
                · refine lv_iload hx hb dX3_rows_105 (lv_at hl 1 rfl) ?_
                  refine lv_iload hx hb dX3_rows_107 (lv_at hl 0 rfl) ?_
                  refine x_icmp_ge (tgt := 116) hx hb (by omega) (by omega) dX3_rows_109 (by decide) (fun c109 => ?_) (fun c109 => ?_)
                  · refine lv_iconst (v := nI 1) hx hb dX3_rows_116 (by decide) ?_
                    exact x_iret hx hb hr hlocks h0 hS (by omega) (by omega) dX3_rows_117 (⟨rfl, rz_hit hz (by rw [hcm]; first | exact oN_gt (by omega) | exact ow_gt (by first | exact c109 | exact Int32.not_lt.mp c109) c102) (by decide) (by omega), trivial⟩)
                  · refine lv_iconst (v := (-1)) hx hb dX3_rows_112 (by decide) ?_
                    refine lv_goto (tgt := 117) hx hb dX3_rows_113 (by decide) ?_
                    exact x_iret hx hb hr hlocks h0 hS (by omega) (by omega) dX3_rows_117 (⟨rfl, rz_hit hz (by rw [hcm]; first | exact oN_lt c109 | exact ow_lt (Int32.not_le.mp c109)) (by decide) (by omega), trivial⟩)
          · refine lv_iload_n hx hb dX3_rows_49 rfl (lv_at hl 1 rfl) ?_
            refine x_if_eqB (tgt := 57) hx hb dX3_rows_50 (by decide) (fun c50 => ?_) (fun c50 => ?_)
            · refine lv_iconst (v := nI 1) hx hb dX3_rows_57 (by decide) ?_
              exact x_iret hx hb hr hlocks h0 hS (by omega) (by omega) dX3_rows_58 (⟨rfl, rz_hit hz (tc_wn hJ hJ2 hr3 c50 (by cases g : nB P (tk P) r i with | true => rfl | false => exact absurd (by rw [c50, g]) c46)) (by decide) (by omega), trivial⟩)
            · refine lv_iconst (v := (-1)) hx hb dX3_rows_53 (by decide) ?_
              refine lv_goto (tgt := 58) hx hb dX3_rows_54 (by decide) ?_
              exact x_iret hx hb hr hlocks h0 hS (by omega) (by omega) dX3_rows_58 (⟨rfl, rz_hit hz (tc_nw hJ hJ2 hr3 c50 (by cases g : nB P (tk P) r i with | false => rfl | true => exact absurd (by rw [c50, g]) c46)) (by decide) (by omega), trivial⟩)
  exact loop2 _ 0 (by omega) lt_0 _ hS ls (Nat.lt_succ_self _) (lv_sub hl [0, 2, 1] rfl)
