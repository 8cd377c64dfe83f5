abbrev RMX3_look : Room := { frames := 2, cells := 0, slots := 0, locals := 32 }
set_option maxHeartbeats 4000000 in
set_option maxRecDepth 100000 in
theorem c_X3_look (l : Launch) (G : gG) (y : Nat) (n th : Int32) (w : Wt) (sd : Nat) (hsd : sd < 2) (a : Nat) (L : List Nat) (had : a < y + 12 ∨ y + 34 ≤ a) (hya : y ≠ a) (H0 : Heap) (hO : MO G y n th H0) (hLA : LA G y w H0) (hT : TA G a L H0) : XM l yX3_look wsX3_look RMX3_look G [.ref y, .int (nI sd), .ref a, .int (nI L.length)] H0 (y + 12) (y + 34) 0 0 (qV (fun H1 => LA G y (wset w sd (a, tk L)) H1)) xN := by
  refine x_ofW (cc := cX3_look) (maxL := 8) (ret := none) (by decide) rfl (Nat.le_of_ble_eq_true rfl) ?_
  intro p e s m below meth c hx hb hr hml hown hts hlocks hout hin2 h0 hE ls hl
  replace hown : s.vm.findClass RX3 = some m.cls := hown
  have hK := hE.1
  have hS : va_S (gA (y + 12) (y + 34) H0.size) H0 H0 [] := va_S.rf
  generalize hargs : ([.ref y, .int (nI sd), .ref a, .int (nI L.length)] : List Value).toArray = args at hts ⊢
  have hw0 := hts (.fieldLink RX3 23 "ReleaseledgerModel" "seen" "[[C") (by decide +kernel)
  have hw1 : ∀ w ∈ u_ws RX3 TX3 9, w ∈ wsX3_look := by decide +kernel
  have hw2 := hts (.fieldLink RX3 28 "ReleaseledgerModel" "many" "[[I") (by decide +kernel)
  have hw3 := hts (.fieldLink RX3 33 "ReleaseledgerModel" "starts" "[[[I") (by decide +kernel)
  have hw4 := hts (.fieldLink RX3 36 "ReleaseledgerModel" "ends" "[[[I") (by decide +kernel)
  have hl : lv_has ls 8 [(0, .ref y), (1, .int (nI sd)), (2, .ref a), (3, .int (nI L.length))] := hl
  obtain ⟨ft, hTa, hTf, hTn, hTc⟩ := hT
  obtain ⟨l13, l16, l25, lmid, ⟨fn, ho12, hfn⟩, lcnt, ltok⟩ := id hLA
  obtain ⟨fm, hom, hfm0⟩ := lcnt sd hsd
  have ho13 := l13
  refine lv_aload_n hx hb dX3_look_0 rfl (lv_at hl 0 rfl) ?_
  refine x_get (ci := 3) hx hb hts hown hK rfl hw1 4 (by decide) hw0 hO rfl dX3_look_1 ?_
  refine lv_iload_n hx hb dX3_look_4 rfl (lv_at hl 1 rfl) ?_
  refine lv_aload_n hx hb dX3_look_5 rfl (lv_at hl 2 rfl) ?_
  refine x_aastA hx hb hK hE ho12 hTa (by omega) (by decide) hS (by unfold gA; omega) dX3_look_6 (fun H1 locs ho12 hF hz hS => ?_)
  have hO := hO.fr hF (by omega)
  have hTa := hTa.fr hF (by omega)
  have ho13 := ho13.fr hF (by omega)
  have hom := hom.fr hF (by omega)
  have f1 := hF
  refine lv_iconst (v := nI 0) hx hb dX3_look_7 (by decide) ?_
  refine lv_istore (lv' := [(4, .int (nI 0)), (0, .ref y), (1, .int (nI sd)), (2, .ref a), (3, .int (nI L.length))]) hx hb dX3_look_8 hl (by decide) rfl (fun ls hl => ?_)
  refine lv_aload_n hx hb dX3_look_10 rfl (lv_at hl 1 rfl) ?_
  refine x_get (ci := 3) hx hb hts hown hK rfl hw1 5 (by decide) hw2 hO rfl dX3_look_11 ?_
  refine lv_iload_n hx hb dX3_look_14 rfl (lv_at hl 2 rfl) ?_
  refine x_aald (k := 3) (v := (y + 14 + sd)) hx hb hK (by decide) rfl ho13 (by omega) (by decide) (by rw [rwk_at (by omega), Nat.one_mul]) dX3_look_15 ?_
  refine lv_iconst (v := nI 0) hx hb dX3_look_16 (by decide) ?_
  refine lv_iconst (v := nI 0) hx hb dX3_look_17 (by decide) ?_
  refine x_iast hx hb hK hom (by omega) (by decide) hS (by unfold gA; omega) dX3_look_18 (fun H2 locs hom hF hz hS => ?_)
  have hO := hO.fr hF (by omega)
  have hTa := hTa.fr hF (by omega)
  have ho12 := ho12.fr hF (by omega)
  have ho13 := ho13.fr hF (by omega)
  have f2 := hF
  refine lv_aload_n hx hb dX3_look_19 rfl (lv_at hl 1 rfl) ?_
  refine x_get (ci := 3) hx hb hts hown hK rfl hw1 5 (by decide) hw2 hO rfl dX3_look_20 ?_
  refine lv_iload_n hx hb dX3_look_23 rfl (lv_at hl 2 rfl) ?_
  refine x_aald (k := 3) (v := (y + 14 + sd)) hx hb hK (by decide) rfl ho13 (by omega) (by decide) (by rw [rwk_at (by omega), Nat.one_mul]) dX3_look_24 ?_
  refine lv_iconst (v := nI 1) hx hb dX3_look_25 (by decide) ?_
  refine lv_iconst (v := nI 0) hx hb dX3_look_26 (by decide) ?_
  refine x_iast hx hb hK hom (by omega) (by decide) hS (by unfold gA; omega) dX3_look_27 (fun H3 locs hom hF hz hS => ?_)
  have hO := hO.fr hF (by omega)
  have hTa := hTa.fr hF (by omega)
  have ho12 := ho12.fr hF (by omega)
  have ho13 := ho13.fr hF (by omega)
  have f2 := gF.trans f2 hF (by omega)
  refine lv_aload_n hx hb dX3_look_28 rfl (lv_at hl 1 rfl) ?_
  refine x_get (ci := 3) hx hb hts hown hK rfl hw1 5 (by decide) hw2 hO rfl dX3_look_29 ?_
  refine lv_iload_n hx hb dX3_look_32 rfl (lv_at hl 2 rfl) ?_
  refine x_aald (k := 3) (v := (y + 14 + sd)) hx hb hK (by decide) rfl ho13 (by omega) (by decide) (by rw [rwk_at (by omega), Nat.one_mul]) dX3_look_33 ?_
  refine lv_iconst (v := nI 2) hx hb dX3_look_34 (by decide) ?_
  refine lv_iconst (v := nI 0) hx hb dX3_look_35 (by decide) ?_
  refine x_iast hx hb hK hom (by omega) (by decide) hS (by unfold gA; omega) dX3_look_36 (fun H4 locs hom hF hz hS => ?_)
  have hO := hO.fr hF (by omega)
  have hTa := hTa.fr hF (by omega)
  have ho12 := ho12.fr hF (by omega)
  have ho13 := ho13.fr hF (by omega)
  have hLA := LA.begin hLA hsd f1 (gF.trans f2 hF (by omega)) hfn ho12 hom
  refine lv_iconst (v := nI 0) hx hb dX3_look_37 (by decide) ?_
  refine lv_istore (lv' := [(5, .int (nI 0)), (4, .int (nI 0)), (0, .ref y), (1, .int (nI sd)), (2, .ref a), (3, .int (nI L.length))]) hx hb dX3_look_38 hl (by decide) rfl (fun ls hl => ?_)
  have loop40 : ∀ (fu : Nat) (q : Nat) (hq : q ≤ L.length) (hnw : q < L.length → kd (cg L q) ≠ 0 → kd (cg L q) ≠ (pf L q).2.1) (H : Heap) (locs : List Loc) (hS : va_S (gA (y + 12) (y + 34) H0.size) H0 H locs) (hO : gO G y 3 [.ref (y + 1), .int n, .ref (y + 2), .ref (y + 11), .ref (y + 12), .ref (y + 13), .ref (y + 16), .ref (y + 25), .int th] H) (hTa : gI G a 0 60 ft H) (hLA : LA G y (wset w sd (a, (pf L q).2.2)) H) (ls : Array Slot), L.length - q < fu → lv_has ls 8 [(5, .int (nI q)), (4, .int (nI ((pf L q).1))), (3, .int (nI L.length)), (2, .ref a), (1, .int (nI sd)), (0, .ref y)] → W p l e RMX3_look s m args below meth c H locs 0 0 (XQ below args s H0 (y + 12) (y + 34) 0 0 (qV (fun H1 => LA G y (wset w sd (a, tk L)) H1)) xN) (F0 m 40 ls []) := by
    intro fu40
    induction fu40 with
    | zero => intro q hq hnw H locs hS hO hTa hLA ls hmu; exact absurd hmu (Nat.not_lt_zero _)
    | succ fu40 ih40 =>
      intro q hq hnw H locs hS hO hTa hLA ls hmu40 hl
      refine lv_iload hx hb dX3_look_40 (lv_at hl 0 rfl) ?_
      refine lv_iload_n hx hb dX3_look_42 rfl (lv_at hl 2 rfl) ?_
      refine x_icmp_ge (tgt := 208) hx hb (by omega) (by omega) dX3_look_43 (by decide) (fun c43 => ?_) (fun c43 => ?_)
      · refine x_vret hx hb hr hlocks h0 hS (by omega) (by omega) dX3_look_208 ?_
        have hq2 : q = L.length := by omega
        subst hq2
        exact hLA
      · have hrow : (pf L q).1 < 3 := (pf_inv L q).1
        have hcq := hTc _ (cg_mem (i := q) (by omega))
        refine lv_aload_n hx hb dX3_look_46 rfl (lv_at hl 3 rfl) ?_
        refine lv_iload hx hb dX3_look_47 (lv_at hl 0 rfl) ?_
        refine x_cald hx hb hK hTa (by omega) (by decide) dX3_look_49 ?_
        refine x_rw (z := (nI (cg L q))) (hTf _ (by omega)) ?_
        refine lv_istore (lv' := [(6, .int (nI (cg L q))), (5, .int (nI q)), (4, .int (nI ((pf L q).1))), (3, .int (nI L.length)), (2, .ref a), (1, .int (nI sd)), (0, .ref y)]) hx hb dX3_look_50 hl (by decide) rfl (fun ls hl => ?_)
        refine lv_iload hx hb dX3_look_52 (lv_at hl 0 rfl) ?_
        refine x_goI_ro (x_runS (As := [.int (nI (cg L q))]) (rest := []) ⟨hx, hb, hml, hown, hts⟩ hE h0 hS (c_X3_isPoint l G (cg L q) hcq H) (va_cwS 1 hts gX3_look_X3_isPoint rfl rfl rfl (by decide +kernel) ⟨Nat.le_of_ble_eq_true rfl, Nat.le_of_ble_eq_true rfl⟩) (by omega) rfl rfl hl.1 rfl (lv_room (Nat.le_of_ble_eq_true rfl)) dX3_look_54 ⟨by first | exact Nat.le_of_ble_eq_true rfl | omega, by first | exact Nat.le_of_ble_eq_true rfl | omega⟩) hS (by omega) (fun _ _ _ _ _ h => h.elim) (fun locs hq hS => ?_)
        refine x_if_eqB (tgt := 103) hx hb dX3_look_57 (by decide) (fun c57 => ?_) (fun c57 => ?_)
        · have hk := of_decide_eq_false c57
          refine lv_iload hx hb dX3_look_103 (lv_at hl 1 rfl) ?_
          refine lv_iconst (v := nI 1) hx hb dX3_look_105 (by decide) ?_
          refine lv_iadd hx hb dX3_look_106 ?_
          refine x_rw (z := nI (q + 1)) (nI_add _ _) ?_
          refine lv_istore (lv' := [(7, .int (nI (q + 1))), (6, .int (nI (cg L q))), (5, .int (nI q)), (4, .int (nI ((pf L q).1))), (3, .int (nI L.length)), (2, .ref a), (1, .int (nI sd)), (0, .ref y)]) hx hb dX3_look_107 hl (by decide) rfl (fun ls hl => ?_)
          have loop109 : ∀ (fu : Nat) (t : Nat) (hqt : q < t) (htl : t ≤ L.length) (hes : ∀ j, q ≤ j → j < t → kd (cg L j) = kd (cg L q)) (locs : List Loc) (hS : va_S (gA (y + 12) (y + 34) H0.size) H0 H locs) (ls : Array Slot), L.length - t < fu → lv_has ls 8 [(7, .int (nI t)), (6, .int (nI (cg L q))), (5, .int (nI q)), (4, .int (nI ((pf L q).1))), (3, .int (nI L.length)), (2, .ref a), (1, .int (nI sd)), (0, .ref y)] → W p l e RMX3_look s m args below meth c H locs (0 + 0) (0 + 0) (XQ below args s H0 (y + 12) (y + 34) 0 0 (qV (fun H1 => LA G y (wset w sd (a, tk L)) H1)) xN) (F0 m 109 ls []) := by
            intro fu109
            induction fu109 with
            | zero => intro t hqt htl hes locs hS  ls hmu; exact absurd hmu (Nat.not_lt_zero _)
            | succ fu109 ih109 =>
              intro t hqt htl hes locs hS  ls hmu109 hl
              refine lv_iload hx hb dX3_look_109 (lv_at hl 0 rfl) ?_
              refine lv_iload_n hx hb dX3_look_111 rfl (lv_at hl 4 rfl) ?_
              have join146 : ∀  (hfin : t = L.length ∨ kd (cg L t) ≠ kd (cg L q)) (locs : List Loc) (hS : va_S (gA (y + 12) (y + 34) H0.size) H0 H locs) (ls : Array Slot), lv_has ls 8 [(7, .int (nI t)), (6, .int (nI (cg L q))), (5, .int (nI q)), (4, .int (nI ((pf L q).1))), (3, .int (nI L.length)), (2, .ref a), (1, .int (nI sd)), (0, .ref y)] → W p l e RMX3_look s m args below meth c H locs (0 + 0) (0 + 0) (XQ below args s H0 (y + 12) (y + 34) 0 0 (qV (fun H1 => LA G y (wset w sd (a, tk L)) H1)) xN) (F0 m 146 ls []) := by
                intro  hfin locs hS  ls hl
                have hpi := pf_inv L q
                have hrow : (pf L q).1 < 3 := hpi.1
                have hcnt : ((pf L q).2.2 (pf L q).1).length ≤ q := hpi.2.1 (pf L q).1
                have hpr := pf_run hqt hk (hnw (by omega) hk) hes
                obtain ⟨ho13, ho16, ho25, lmid2, -, lcnt2, ltok2⟩ := id hLA
                obtain ⟨ho17, ho26⟩ := lmid2 sd hsd
                obtain ⟨fm2, hom, hfm2⟩ := lcnt2 sd hsd
                obtain ⟨fs, fe, hos, hoe, hfse⟩ := ltok2 sd hsd (pf L q).1 hrow
                replace hfm2 := hfm2 _ wset_self
                replace hfse := hfse _ wset_self
                have hfm := hfm2
                refine lv_aload_n hx hb dX3_look_146 rfl (lv_at hl 7 rfl) ?_
                refine x_get (ci := 3) hx hb hts hown hK rfl hw1 6 (by decide) hw3 hO rfl dX3_look_147 ?_
                refine lv_iload_n hx hb dX3_look_150 rfl (lv_at hl 6 rfl) ?_
                refine x_aald (k := 5) (v := (y + 17 + 4 * sd)) hx hb hK (by decide) rfl ho16 (by omega) (by decide) (rwk_at (by omega)) dX3_look_151 ?_
                refine lv_iload hx hb dX3_look_152 (lv_at hl 3 rfl) ?_
                refine x_aald (k := 3) (v := (y + 18 + 4 * sd + (pf L q).1)) hx hb hK (by decide) rfl ho17 (by omega) (by decide) (rw3_at (by omega)) dX3_look_154 ?_
                refine lv_aload_n hx hb dX3_look_155 rfl (lv_at hl 7 rfl) ?_
                refine x_get (ci := 3) hx hb hts hown hK rfl hw1 5 (by decide) hw2 hO rfl dX3_look_156 ?_
                refine lv_iload_n hx hb dX3_look_159 rfl (lv_at hl 6 rfl) ?_
                refine x_aald (k := 3) (v := (y + 14 + sd)) hx hb hK (by decide) rfl ho13 (by omega) (by decide) (by rw [rwk_at (by omega), Nat.one_mul]) dX3_look_160 ?_
                refine lv_iload hx hb dX3_look_161 (lv_at hl 3 rfl) ?_
                refine x_iald hx hb hK hom (by omega) (by decide) dX3_look_163 ?_
                refine x_rw (z := (nI (((pf L q).2.2 ((pf L q).1)).length))) (hfm _ hrow) ?_
                refine lv_iload hx hb dX3_look_164 (lv_at hl 2 rfl) ?_
                refine x_iast hx hb hK hos (by omega) (by decide) hS (by unfold gA; omega) dX3_look_166 (fun H6 locs hos hF hz hS => ?_)
                have hO := hO.fr hF (by omega)
                have hTa := hTa.fr hF (by omega)
                have ho13 := ho13.fr hF (by omega)
                have ho16 := ho16.fr hF (by omega)
                have ho17 := ho17.fr hF (by omega)
                have ho25 := ho25.fr hF (by omega)
                have ho26 := ho26.fr hF (by omega)
                have hom := hom.fr hF (by omega)
                have hoe := hoe.fr hF (by omega)
                have f1 := hF
                refine lv_aload_n hx hb dX3_look_167 rfl (lv_at hl 7 rfl) ?_
                refine x_get (ci := 3) hx hb hts hown hK rfl hw1 7 (by decide) hw4 hO rfl dX3_look_168 ?_
                refine lv_iload_n hx hb dX3_look_171 rfl (lv_at hl 6 rfl) ?_
                refine x_aald (k := 5) (v := (y + 26 + 4 * sd)) hx hb hK (by decide) rfl ho25 (by omega) (by decide) (rwk_at (by omega)) dX3_look_172 ?_
                refine lv_iload hx hb dX3_look_173 (lv_at hl 3 rfl) ?_
                refine x_aald (k := 3) (v := (y + 27 + 4 * sd + (pf L q).1)) hx hb hK (by decide) rfl ho26 (by omega) (by decide) (rw3_at (by omega)) dX3_look_175 ?_
                refine lv_aload_n hx hb dX3_look_176 rfl (lv_at hl 7 rfl) ?_
                refine x_get (ci := 3) hx hb hts hown hK rfl hw1 5 (by decide) hw2 hO rfl dX3_look_177 ?_
                refine lv_iload_n hx hb dX3_look_180 rfl (lv_at hl 6 rfl) ?_
                refine x_aald (k := 3) (v := (y + 14 + sd)) hx hb hK (by decide) rfl ho13 (by omega) (by decide) (by rw [rwk_at (by omega), Nat.one_mul]) dX3_look_181 ?_
                refine lv_iload hx hb dX3_look_182 (lv_at hl 3 rfl) ?_
                refine x_iald hx hb hK hom (by omega) (by decide) dX3_look_184 ?_
                refine x_rw (z := (nI (((pf L q).2.2 ((pf L q).1)).length))) (hfm _ hrow) ?_
                refine lv_iload hx hb dX3_look_185 (lv_at hl 0 rfl) ?_
                refine x_iast hx hb hK hoe (by omega) (by decide) hS (by unfold gA; omega) dX3_look_187 (fun H7 locs hoe hF hz hS => ?_)
                have hO := hO.fr hF (by omega)
                have hTa := hTa.fr hF (by omega)
                have ho13 := ho13.fr hF (by omega)
                have ho16 := ho16.fr hF (by omega)
                have ho17 := ho17.fr hF (by omega)
                have ho25 := ho25.fr hF (by omega)
                have ho26 := ho26.fr hF (by omega)
                have hom := hom.fr hF (by omega)
                have hos := hos.fr hF (by omega)
                have f2 := hF
                refine lv_aload_n hx hb dX3_look_188 rfl (lv_at hl 7 rfl) ?_
                refine x_get (ci := 3) hx hb hts hown hK rfl hw1 5 (by decide) hw2 hO rfl dX3_look_189 ?_
                refine lv_iload_n hx hb dX3_look_192 rfl (lv_at hl 6 rfl) ?_
                refine x_aald (k := 3) (v := (y + 14 + sd)) hx hb hK (by decide) rfl ho13 (by omega) (by decide) (by rw [rwk_at (by omega), Nat.one_mul]) dX3_look_193 ?_
                refine lv_iload hx hb dX3_look_194 (lv_at hl 3 rfl) ?_
                refine lv_dup2_11 hx hb dX3_look_196 rfl rfl ?_
                refine x_iald hx hb hK hom (by omega) (by decide) dX3_look_197 ?_
                refine x_rw (z := (nI (((pf L q).2.2 ((pf L q).1)).length))) (hfm _ hrow) ?_
                refine lv_iconst (v := nI 1) hx hb dX3_look_198 (by decide) ?_
                refine lv_iadd hx hb dX3_look_199 ?_
                refine x_rw (z := nI ((((pf L q).2.2 ((pf L q).1)).length) + 1)) (nI_add _ _) ?_
                refine x_iast hx hb hK hom (by omega) (by decide) hS (by unfold gA; omega) dX3_look_200 (fun H8 locs hom hF hz hS => ?_)
                have hO := hO.fr hF (by omega)
                have hTa := hTa.fr hF (by omega)
                have ho13 := ho13.fr hF (by omega)
                have ho16 := ho16.fr hF (by omega)
                have ho17 := ho17.fr hF (by omega)
                have ho25 := ho25.fr hF (by omega)
                have ho26 := ho26.fr hF (by omega)
                have hos := hos.fr hF (by omega)
                have hoe := hoe.fr hF (by omega)
                have hLA := LA.add hLA wset_self hsd hrow f1 f2 hF hfse hfm hos hoe hom
                rw [wset_wset] at hLA
                have e3 : (pf L t).2.2 = addT (pf L q).2.2 (pf L q).1 (q, t) := by rw [hpr]
                rw [← e3] at hLA
                refine lv_iload hx hb dX3_look_201 (lv_at hl 0 rfl) ?_
                refine lv_istore (lv' := [(5, .int (nI t)), (7, .int (nI t)), (6, .int (nI (cg L q))), (4, .int (nI ((pf L q).1))), (3, .int (nI L.length)), (2, .ref a), (1, .int (nI sd)), (0, .ref y)]) hx hb dX3_look_203 hl (by decide) rfl (fun ls hl => ?_)
                have e4 : (pf L q).1 = (pf L t).1 := by rw [hpr]
                rw [e4] at hl
                refine lv_goto (tgt := 40) hx hb dX3_look_205 (by decide) ?_
                exact ih40 t (by omega) (fun h1 h2 => by first | (rw [pf_J (of_decide_eq_true c57)]; exact h2) | (rw [hpr]; exact hfin.resolve_left (by omega))) H8 _ hS hO hTa hLA ls (by omega) (lv_sub hl [0, 3, 4, 5, 6, 7] rfl)
              refine x_icmp_ge (tgt := 146) hx hb (by omega) (by omega) dX3_look_112 (by decide) (fun c112 => ?_) (fun c112 => ?_)
              · exact join146  (by first | exact Or.inl (by omega) | exact Or.inr (fun h => hk (h.symm.trans (of_decide_eq_true c122))) | exact Or.inr (fun h => c137 (by rw [h]))) _ hS ls (lv_sub hl [0, 1, 2, 3, 4, 5, 6, 7] rfl)
              · have hct := hTc _ (cg_mem (i := t) (by omega))
                refine lv_aload_n hx hb dX3_look_115 rfl (lv_at hl 5 rfl) ?_
                refine lv_iload hx hb dX3_look_116 (lv_at hl 0 rfl) ?_
                refine x_cald hx hb hK hTa (by omega) (by decide) dX3_look_118 ?_
                refine x_rw (z := (nI (cg L t))) (hTf _ (by omega)) ?_
                refine x_goI_ro (x_runS (As := [.int (nI (cg L t))]) (rest := []) ⟨hx, hb, hml, hown, hts⟩ hE h0 hS (c_X3_isPoint l G (cg L t) hct H) (va_cwS 1 hts gX3_look_X3_isPoint rfl rfl rfl (by decide +kernel) ⟨Nat.le_of_ble_eq_true rfl, Nat.le_of_ble_eq_true rfl⟩) (by omega) rfl rfl hl.1 rfl (lv_room (Nat.le_of_ble_eq_true rfl)) dX3_look_119 ⟨by first | exact Nat.le_of_ble_eq_true rfl | omega, by first | exact Nat.le_of_ble_eq_true rfl | omega⟩) hS (by omega) (fun _ _ _ _ _ h => h.elim) (fun locs hq hS => ?_)
                refine x_if_neB (tgt := 146) hx hb dX3_look_122 (by decide) (fun c122 => ?_) (fun c122 => ?_)
                · exact join146  (by first | exact Or.inl (by omega) | exact Or.inr (fun h => hk (h.symm.trans (of_decide_eq_true c122))) | exact Or.inr (fun h => c137 (by rw [h]))) _ hS ls (lv_sub hl [0, 1, 2, 3, 4, 5, 6, 7] rfl)
                · refine lv_aload_n hx hb dX3_look_125 rfl (lv_at hl 5 rfl) ?_
                  refine lv_iload hx hb dX3_look_126 (lv_at hl 0 rfl) ?_
                  refine x_cald hx hb hK hTa (by omega) (by decide) dX3_look_128 ?_
                  refine x_rw (z := (nI (cg L t))) (hTf _ (by omega)) ?_
                  refine x_goI_ro (x_runS (As := [.int (nI (cg L t))]) (rest := []) ⟨hx, hb, hml, hown, hts⟩ hE h0 hS (c_X3_isDigit l G (cg L t) hct H) (va_cwS 1 hts gX3_look_X3_isDigit rfl rfl rfl (by decide +kernel) ⟨Nat.le_of_ble_eq_true rfl, Nat.le_of_ble_eq_true rfl⟩) (by omega) rfl rfl hl.1 rfl (lv_room (Nat.le_of_ble_eq_true rfl)) dX3_look_129 ⟨by first | exact Nat.le_of_ble_eq_true rfl | omega, by first | exact Nat.le_of_ble_eq_true rfl | omega⟩) hS (by omega) (fun _ _ _ _ _ h => h.elim) (fun locs hq hS => ?_)
                  refine lv_iload hx hb dX3_look_132 (lv_at hl 1 rfl) ?_
                  refine x_goI_ro (x_runS (As := [.int (nI (cg L q))]) (rest := [.int (bI (decide (kd (cg L t) = 1)))]) ⟨hx, hb, hml, hown, hts⟩ hE h0 hS (c_X3_isDigit l G (cg L q) hcq H) (va_cwS 1 hts gX3_look_X3_isDigit rfl rfl rfl (by decide +kernel) ⟨Nat.le_of_ble_eq_true rfl, Nat.le_of_ble_eq_true rfl⟩) (by omega) rfl rfl hl.1 rfl (lv_room (Nat.le_of_ble_eq_true rfl)) dX3_look_134 ⟨by first | exact Nat.le_of_ble_eq_true rfl | omega, by first | exact Nat.le_of_ble_eq_true rfl | omega⟩) hS (by omega) (fun _ _ _ _ _ h => h.elim) (fun locs hq hS => ?_)
                  refine lv_icmp_ne (tgt := 146) hx hb dX3_look_137 (by decide) (fun c137 => ?_) (fun c137 => ?_)
                  · exact join146  (by first | exact Or.inl (by omega) | exact Or.inr (fun h => hk (h.symm.trans (of_decide_eq_true c122))) | exact Or.inr (fun h => c137 (by rw [h]))) _ hS ls (lv_sub hl [0, 1, 2, 3, 4, 5, 6, 7] rfl)
                  · refine lv_iinc (v := nI (t + 1)) (lv' := [(7, .int (nI (t + 1))), (6, .int (nI (cg L q))), (5, .int (nI q)), (4, .int (nI ((pf L q).1))), (3, .int (nI L.length)), (2, .ref a), (1, .int (nI sd)), (0, .ref y)]) hx hb dX3_look_140 hl (k := 0) rfl (nI_1 _) (by decide) rfl (fun ls hl => ?_)
                    refine lv_goto (tgt := 109) hx hb dX3_look_143 (by decide) ?_
                    exact ih109 (t + 1) (by omega) (by omega) (run_ext hes (kd_eq (of_decide_eq_false c122) hk (bI_inj c137))) _ hS ls (by omega) (lv_sub hl [0, 1, 2, 3, 4, 5, 6, 7] rfl)
          exact loop109 _ (q + 1) (by omega) (by omega) (fun j h1 h2 => by rw [show j = q by omega]) _ hS ls (Nat.lt_succ_self _) (lv_sub hl [0, 1, 2, 3, 4, 5, 6, 7] rfl)
        · refine lv_iload hx hb dX3_look_60 (lv_at hl 0 rfl) ?_
          refine lv_bipush (v := nI 45) hx hb dX3_look_62 (by decide) ?_
          refine x_icmp_ne (tgt := 76) hx hb (by omega) (by omega) dX3_look_64 (by decide) (fun c64 => ?_) (fun c64 => ?_)
          · refine lv_iload hx hb dX3_look_76 (lv_at hl 0 rfl) ?_
            refine lv_bipush (v := nI 43) hx hb dX3_look_78 (by decide) ?_
            refine x_icmp_ne (tgt := 93) hx hb (by omega) (by omega) dX3_look_80 (by decide) (fun c80 => ?_) (fun c80 => ?_)
            · refine lv_iload hx hb dX3_look_93 (lv_at hl 2 rfl) ?_
              have e5 : (pf L (q + 1)).2.2 = (pf L q).2.2 := by rw [pf_J (of_decide_eq_true c57)]
              rw [← e5] at hLA
              refine x_rw (z := nI (pf L (q + 1)).1) (congrArg nI (show (pf L q).1 = (pf L (q + 1)).1 by rw [pf_J (of_decide_eq_true c57)]; show _ = rowB _ _; unfold rowB; split <;> (try split) <;> omega)) ?_
              refine lv_istore (lv' := [(4, .int (nI ((pf L (q + 1)).1))), (6, .int (nI (cg L q))), (5, .int (nI q)), (3, .int (nI L.length)), (2, .ref a), (1, .int (nI sd)), (0, .ref y)]) hx hb dX3_look_95 hl (by decide) rfl (fun ls hl => ?_)
              refine lv_iinc (v := nI (q + 1)) (lv' := [(5, .int (nI (q + 1))), (4, .int (nI ((pf L (q + 1)).1))), (6, .int (nI (cg L q))), (3, .int (nI L.length)), (2, .ref a), (1, .int (nI sd)), (0, .ref y)]) hx hb dX3_look_97 hl (k := 2) rfl (nI_1 _) (by decide) rfl (fun ls hl => ?_)
              refine lv_goto (tgt := 40) hx hb dX3_look_100 (by decide) ?_
              exact ih40 (q + 1) (by omega) (fun h1 h2 => by first | (rw [pf_J (of_decide_eq_true c57)]; exact h2) | (rw [hpr]; exact hfin.resolve_left (by omega))) H _ hS hO hTa hLA ls (by omega) (lv_sub hl [0, 1, 3, 4, 5, 6] rfl)
            · refine lv_iload hx hb dX3_look_83 (lv_at hl 2 rfl) ?_
              refine lv_iconst (v := nI 1) hx hb dX3_look_85 (by decide) ?_
              refine x_icmp_ne (tgt := 93) hx hb (by omega) (by omega) dX3_look_86 (by decide) (fun c86 => ?_) (fun c86 => ?_)
              · refine lv_iload hx hb dX3_look_93 (lv_at hl 2 rfl) ?_
                have e5 : (pf L (q + 1)).2.2 = (pf L q).2.2 := by rw [pf_J (of_decide_eq_true c57)]
                rw [← e5] at hLA
                refine x_rw (z := nI (pf L (q + 1)).1) (congrArg nI (show (pf L q).1 = (pf L (q + 1)).1 by rw [pf_J (of_decide_eq_true c57)]; show _ = rowB _ _; unfold rowB; split <;> (try split) <;> omega)) ?_
                refine lv_istore (lv' := [(4, .int (nI ((pf L (q + 1)).1))), (6, .int (nI (cg L q))), (5, .int (nI q)), (3, .int (nI L.length)), (2, .ref a), (1, .int (nI sd)), (0, .ref y)]) hx hb dX3_look_95 hl (by decide) rfl (fun ls hl => ?_)
                refine lv_iinc (v := nI (q + 1)) (lv' := [(5, .int (nI (q + 1))), (4, .int (nI ((pf L (q + 1)).1))), (6, .int (nI (cg L q))), (3, .int (nI L.length)), (2, .ref a), (1, .int (nI sd)), (0, .ref y)]) hx hb dX3_look_97 hl (k := 2) rfl (nI_1 _) (by decide) rfl (fun ls hl => ?_)
                refine lv_goto (tgt := 40) hx hb dX3_look_100 (by decide) ?_
                exact ih40 (q + 1) (by omega) (fun h1 h2 => by first | (rw [pf_J (of_decide_eq_true c57)]; exact h2) | (rw [hpr]; exact hfin.resolve_left (by omega))) H _ hS hO hTa hLA ls (by omega) (lv_sub hl [0, 1, 3, 4, 5, 6] rfl)
              · refine lv_iconst (v := nI 2) hx hb dX3_look_89 (by decide) ?_
                refine lv_goto (tgt := 95) hx hb dX3_look_90 (by decide) ?_
                have e5 : (pf L (q + 1)).2.2 = (pf L q).2.2 := by rw [pf_J (of_decide_eq_true c57)]
                rw [← e5] at hLA
                refine x_rw (z := nI (pf L (q + 1)).1) (congrArg nI (show 2 = (pf L (q + 1)).1 by rw [pf_J (of_decide_eq_true c57)]; show _ = rowB _ _; unfold rowB; split <;> (try split) <;> omega)) ?_
                refine lv_istore (lv' := [(4, .int (nI ((pf L (q + 1)).1))), (6, .int (nI (cg L q))), (5, .int (nI q)), (3, .int (nI L.length)), (2, .ref a), (1, .int (nI sd)), (0, .ref y)]) hx hb dX3_look_95 hl (by decide) rfl (fun ls hl => ?_)
                refine lv_iinc (v := nI (q + 1)) (lv' := [(5, .int (nI (q + 1))), (4, .int (nI ((pf L (q + 1)).1))), (6, .int (nI (cg L q))), (3, .int (nI L.length)), (2, .ref a), (1, .int (nI sd)), (0, .ref y)]) hx hb dX3_look_97 hl (k := 2) rfl (nI_1 _) (by decide) rfl (fun ls hl => ?_)
                refine lv_goto (tgt := 40) hx hb dX3_look_100 (by decide) ?_
                exact ih40 (q + 1) (by omega) (fun h1 h2 => by first | (rw [pf_J (of_decide_eq_true c57)]; exact h2) | (rw [hpr]; exact hfin.resolve_left (by omega))) H _ hS hO hTa hLA ls (by omega) (lv_sub hl [0, 1, 3, 4, 5, 6] rfl)
          · refine lv_iload hx hb dX3_look_67 (lv_at hl 2 rfl) ?_
            refine x_if_neN (tgt := 76) hx hb (by omega) dX3_look_69 (by decide) (fun c69 => ?_) (fun c69 => ?_)
            · refine lv_iload hx hb dX3_look_76 (lv_at hl 0 rfl) ?_
              refine lv_bipush (v := nI 43) hx hb dX3_look_78 (by decide) ?_
              refine x_icmp_ne (tgt := 93) hx hb (by omega) (by omega) dX3_look_80 (by decide) (fun c80 => ?_) (fun c80 => ?_)
              · refine lv_iload hx hb dX3_look_93 (lv_at hl 2 rfl) ?_
                have e5 : (pf L (q + 1)).2.2 = (pf L q).2.2 := by rw [pf_J (of_decide_eq_true c57)]
                rw [← e5] at hLA
                refine x_rw (z := nI (pf L (q + 1)).1) (congrArg nI (show (pf L q).1 = (pf L (q + 1)).1 by rw [pf_J (of_decide_eq_true c57)]; show _ = rowB _ _; unfold rowB; split <;> (try split) <;> omega)) ?_
                refine lv_istore (lv' := [(4, .int (nI ((pf L (q + 1)).1))), (6, .int (nI (cg L q))), (5, .int (nI q)), (3, .int (nI L.length)), (2, .ref a), (1, .int (nI sd)), (0, .ref y)]) hx hb dX3_look_95 hl (by decide) rfl (fun ls hl => ?_)
                refine lv_iinc (v := nI (q + 1)) (lv' := [(5, .int (nI (q + 1))), (4, .int (nI ((pf L (q + 1)).1))), (6, .int (nI (cg L q))), (3, .int (nI L.length)), (2, .ref a), (1, .int (nI sd)), (0, .ref y)]) hx hb dX3_look_97 hl (k := 2) rfl (nI_1 _) (by decide) rfl (fun ls hl => ?_)
                refine lv_goto (tgt := 40) hx hb dX3_look_100 (by decide) ?_
                exact ih40 (q + 1) (by omega) (fun h1 h2 => by first | (rw [pf_J (of_decide_eq_true c57)]; exact h2) | (rw [hpr]; exact hfin.resolve_left (by omega))) H _ hS hO hTa hLA ls (by omega) (lv_sub hl [0, 1, 3, 4, 5, 6] rfl)
              · refine lv_iload hx hb dX3_look_83 (lv_at hl 2 rfl) ?_
                refine lv_iconst (v := nI 1) hx hb dX3_look_85 (by decide) ?_
                refine x_icmp_ne (tgt := 93) hx hb (by omega) (by omega) dX3_look_86 (by decide) (fun c86 => ?_) (fun c86 => ?_)
                · refine lv_iload hx hb dX3_look_93 (lv_at hl 2 rfl) ?_
                  have e5 : (pf L (q + 1)).2.2 = (pf L q).2.2 := by rw [pf_J (of_decide_eq_true c57)]
                  rw [← e5] at hLA
                  refine x_rw (z := nI (pf L (q + 1)).1) (congrArg nI (show (pf L q).1 = (pf L (q + 1)).1 by rw [pf_J (of_decide_eq_true c57)]; show _ = rowB _ _; unfold rowB; split <;> (try split) <;> omega)) ?_
                  refine lv_istore (lv' := [(4, .int (nI ((pf L (q + 1)).1))), (6, .int (nI (cg L q))), (5, .int (nI q)), (3, .int (nI L.length)), (2, .ref a), (1, .int (nI sd)), (0, .ref y)]) hx hb dX3_look_95 hl (by decide) rfl (fun ls hl => ?_)
                  refine lv_iinc (v := nI (q + 1)) (lv' := [(5, .int (nI (q + 1))), (4, .int (nI ((pf L (q + 1)).1))), (6, .int (nI (cg L q))), (3, .int (nI L.length)), (2, .ref a), (1, .int (nI sd)), (0, .ref y)]) hx hb dX3_look_97 hl (k := 2) rfl (nI_1 _) (by decide) rfl (fun ls hl => ?_)
                  refine lv_goto (tgt := 40) hx hb dX3_look_100 (by decide) ?_
                  exact ih40 (q + 1) (by omega) (fun h1 h2 => by first | (rw [pf_J (of_decide_eq_true c57)]; exact h2) | (rw [hpr]; exact hfin.resolve_left (by omega))) H _ hS hO hTa hLA ls (by omega) (lv_sub hl [0, 1, 3, 4, 5, 6] rfl)
                · refine lv_iconst (v := nI 2) hx hb dX3_look_89 (by decide) ?_
                  refine lv_goto (tgt := 95) hx hb dX3_look_90 (by decide) ?_
                  have e5 : (pf L (q + 1)).2.2 = (pf L q).2.2 := by rw [pf_J (of_decide_eq_true c57)]
                  rw [← e5] at hLA
                  refine x_rw (z := nI (pf L (q + 1)).1) (congrArg nI (show 2 = (pf L (q + 1)).1 by rw [pf_J (of_decide_eq_true c57)]; show _ = rowB _ _; unfold rowB; split <;> (try split) <;> omega)) ?_
                  refine lv_istore (lv' := [(4, .int (nI ((pf L (q + 1)).1))), (6, .int (nI (cg L q))), (5, .int (nI q)), (3, .int (nI L.length)), (2, .ref a), (1, .int (nI sd)), (0, .ref y)]) hx hb dX3_look_95 hl (by decide) rfl (fun ls hl => ?_)
                  refine lv_iinc (v := nI (q + 1)) (lv' := [(5, .int (nI (q + 1))), (4, .int (nI ((pf L (q + 1)).1))), (6, .int (nI (cg L q))), (3, .int (nI L.length)), (2, .ref a), (1, .int (nI sd)), (0, .ref y)]) hx hb dX3_look_97 hl (k := 2) rfl (nI_1 _) (by decide) rfl (fun ls hl => ?_)
                  refine lv_goto (tgt := 40) hx hb dX3_look_100 (by decide) ?_
                  exact ih40 (q + 1) (by omega) (fun h1 h2 => by first | (rw [pf_J (of_decide_eq_true c57)]; exact h2) | (rw [hpr]; exact hfin.resolve_left (by omega))) H _ hS hO hTa hLA ls (by omega) (lv_sub hl [0, 1, 3, 4, 5, 6] rfl)
            · refine lv_iconst (v := nI 1) hx hb dX3_look_72 (by decide) ?_
              refine lv_goto (tgt := 95) hx hb dX3_look_73 (by decide) ?_
              have e5 : (pf L (q + 1)).2.2 = (pf L q).2.2 := by rw [pf_J (of_decide_eq_true c57)]
              rw [← e5] at hLA
              refine x_rw (z := nI (pf L (q + 1)).1) (congrArg nI (show 1 = (pf L (q + 1)).1 by rw [pf_J (of_decide_eq_true c57)]; show _ = rowB _ _; unfold rowB; split <;> (try split) <;> omega)) ?_
              refine lv_istore (lv' := [(4, .int (nI ((pf L (q + 1)).1))), (6, .int (nI (cg L q))), (5, .int (nI q)), (3, .int (nI L.length)), (2, .ref a), (1, .int (nI sd)), (0, .ref y)]) hx hb dX3_look_95 hl (by decide) rfl (fun ls hl => ?_)
              refine lv_iinc (v := nI (q + 1)) (lv' := [(5, .int (nI (q + 1))), (4, .int (nI ((pf L (q + 1)).1))), (6, .int (nI (cg L q))), (3, .int (nI L.length)), (2, .ref a), (1, .int (nI sd)), (0, .ref y)]) hx hb dX3_look_97 hl (k := 2) rfl (nI_1 _) (by decide) rfl (fun ls hl => ?_)
              refine lv_goto (tgt := 40) hx hb dX3_look_100 (by decide) ?_
              exact ih40 (q + 1) (by omega) (fun h1 h2 => by first | (rw [pf_J (of_decide_eq_true c57)]; exact h2) | (rw [hpr]; exact hfin.resolve_left (by omega))) H _ hS hO hTa hLA ls (by omega) (lv_sub hl [0, 1, 3, 4, 5, 6] rfl)
  exact loop40 _ 0 (by omega) (fun _ h => h) H4 _ hS hO hTa hLA ls (Nat.lt_succ_self _) (lv_sub hl [0, 1, 5, 4, 3, 2] rfl)
