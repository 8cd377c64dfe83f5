/-! ===== what the start gives: the classes, the arrays, the exceptions' words ===== -/
theorem gStrs_in : ∀ q ∈ gStrs, Cond.stringRef q.1 q.2.1 q.2.2 ∈ lw_tbl := by decide +kernel
theorem gB_in : ∀ w ∈ gB, w ∈ lw_tbl := by decide +kernel
theorem w_prim {ty : FieldType} {args : Array Value} {s : State} (h : (Cond.arrayClass ty).before args s = true) : ∃ cA : ClassId, ArrOfT s cA ty ∧ s.vm.findClass ("[" ++ ty.toString) = some cA := by
  obtain ⟨comp, kC, cc, h1, h2, h3⟩ := Cond.arrayClass_spec h
  exact ⟨comp, fun N z => ⟨(fun k h => by cases h), kC, h2, cc, h3⟩, h1⟩
theorem w_arr {t : FieldType} {s : State} (h : gAr t s) : ∃ cA : ClassId, ArrOfT s cA (.array t) ∧ s.vm.findClass ("[" ++ (FieldType.array t).toString) = some cA := by
  obtain ⟨comp, c, k, h1, -, h3, h4, h5⟩ := arrayOverA_spec h
  exact ⟨c, fun N z => ⟨(fun k h => by cases h), k, h3, comp, h4⟩, h5⟩
theorem w_obj {C : String} {s : State} (h : va_AO C s) : ∃ cA : ClassId, ArrOfT s cA (.object C) ∧ va_RA s cA (.object C) := by
  obtain ⟨comp, c, k, h1, -, h3, h4, h5⟩ := Cond.arrayOver_spec h
  exact ⟨c, fun N z => ⟨(fun k h => by cases h), k, h3, comp, h4⟩, k, comp, h3, h4, h1, h5⟩
theorem law_K {args : Array Value} {s : State} (hts : ∀ w ∈ wsL_law, w.before args s = true) (hj : (Cond.arrayClass .long).before args s = true) (hO : va_AO RX1 s) (hI : gAr .int s) (hCh : gAr .char s) (hII : gAr (.array .int) s) : ∃ G : gG, gK G s ∧ G.2.2 = s.heap.size := by
  obtain ⟨c0, i0, k0⟩ := u_known (C := RX0) (T := TX0) (N := 2) hts (by decide +kernel) (hts (.instantiable RX0 2) (by decide +kernel))
  obtain ⟨c1, i1, k1⟩ := u_known (C := RX1) (T := TX1) (N := 4) hts (by decide +kernel) (hts (.instantiable RX1 4) (by decide +kernel))
  obtain ⟨c2, i2, k2⟩ := u_known (C := RX2) (T := TX2) (N := 6) hts (by decide +kernel) (hts (.instantiable RX2 6) (by decide +kernel))
  obtain ⟨c3, i3, k3⟩ := u_known (C := RX3) (T := TX3) (N := 9) hts (by decide +kernel) (hts (.instantiable RX3 9) (by decide +kernel))
  obtain ⟨a0, f0, g0⟩ := w_prim (hts (.arrayClass .char) (by decide +kernel))
  obtain ⟨a1, f1, g1⟩ := w_prim (hts (.arrayClass .int) (by decide +kernel))
  obtain ⟨a6, f6, g6⟩ := w_prim hj
  obtain ⟨a2, f2, g2⟩ := w_obj hO
  obtain ⟨a3, f3, g3⟩ := w_arr hI
  obtain ⟨a4, f4, g4⟩ := w_arr hCh
  obtain ⟨a5, f5, g5⟩ := w_arr hII
  refine ⟨((fun c => match c with | 0 => c0 | 1 => c1 | 2 => c2 | _ => c3, fun c => match c with | 0 => i0 | 1 => i1 | 2 => i2 | _ => i3), (fun k => match k with | 0 => a0 | 1 => a1 | 2 => a2 | 3 => a3 | 4 => a4 | 5 => a5 | _ => a6, s.heap.size)), ⟨fun c q hq => ?_, fun k q hk => ?_⟩, rfl⟩
  · match c, hq with
    | 0, hq => cases hq; exact k0
    | 1, hq => cases hq; exact k1
    | 2, hq => cases hq; exact k2
    | 3, hq => cases hq; exact k3
    | n + 4, hq => cases hq
  · have h7 : k < 7 := by
      have := (List.getElem?_eq_some_iff.mp hk).1
      unfold gTys at this
      rw [List.length_map, List.length_range] at this
      exact this
    rw [gTys_at h7] at hk
    cases hk
    rcases (show k = 0 ∨ k = 1 ∨ k = 2 ∨ k = 3 ∨ k = 4 ∨ k = 5 ∨ k = 6 by omega) with rfl | rfl | rfl | rfl | rfl | rfl | rfl
    · exact ⟨f0, g0⟩
    · exact ⟨f1, g1⟩
    · exact ⟨f2, g2⟩
    · exact ⟨f3, g3⟩
    · exact ⟨f4, g4⟩
    · exact ⟨f5, g5⟩
    · exact ⟨f6, g6⟩
theorem law_world {l : Launch} (hl : l.stackTraces = false) {b : Addr} {s : State} (hts : ∀ w ∈ lw_tbl, w.before #[Value.ref b] s = true) (hgv : (Jvm.Cond.and given_1 narrow_1).before #[Value.ref b] s = true) : ∃ G : gG, gE l G 0 0 s ∧ gX s := by
  have hs := flat_of_before _ hgv
  have hO : va_AO RX1 s := va_AO.of (hts (.arrayOver (.object RX1)) (by decide +kernel))
  have hI : gAr .int s := hts (.arrayOver (.array .int)) (by decide +kernel)
  have hCh : gAr .char s := hts (.arrayOver (.array .char)) (by decide +kernel)
  have hII : gAr (.array .int) s := hts (.arrayOver (.array (.array .int))) (by decide +kernel)
  obtain ⟨G, hK, hG⟩ := law_K (fun w h => hts w (wsL_law_in w h)) (hts (.arrayClass .long) (by decide +kernel)) hO hI hCh hII
  have hA : ∀ a : Nat, a < s.heap.size → ¬ (fun q => G.2.2 ≤ q) a := fun a h1 h2 => by
    have h2 : G.2.2 ≤ a := h2
    omega
  refine ⟨G, ⟨hK, ⟨hl, vx_Zqof (hts (.laysStatic Bundle.tN "UNASSIGNED_STACK" Bundle.steD) (by decide +kernel)) (hts (.initialized Bundle.tN) (by decide +kernel)) (hs (.isRef (.static Bundle.tN "UNASSIGNED_STACK" Bundle.steD)) (by decide +kernel)) hA, vx_Zqof (hts (.laysStatic Bundle.tN "SUPPRESSED_SENTINEL" Bundle.listD) (by decide +kernel)) (hts (.initialized Bundle.tN) (by decide +kernel)) (hs (.isRef (.static Bundle.tN "SUPPRESSED_SENTINEL" Bundle.listD)) (by decide +kernel)) hA, fun q hq => ?_, fun w hw => vx_ot_at (State.WarmedH.refl s) rfl (List.all_eq_true.mp gB_ot w hw) (hts w (gB_in w hw)), hO, hI, hCh, hII⟩, by rw [hG]; exact Nat.le_refl _, fun h => absurd h (Nat.lt_irrefl 0)⟩, ?_⟩
  · have h2 := hs (.exactly (.string q.1 q.2.1) "java/lang/String") ((by decide +kernel : ∀ q ∈ gStrs, Cond.exactly (.string q.1 q.2.1) "java/lang/String" ∈ _) q hq)
    obtain ⟨a, c, cell, k, q1, -⟩ := Cond.exactly_spec (args := #[Value.ref b]) (first := s) (o := none) (s := s) (idx := []) (t := .string q.1 q.2.1) (cls := "java/lang/String") h2
    exact ⟨a, vk_R.of (hts _ (gStrs_in q hq)) q1⟩
  · exact ⟨va_Nc.of (hs (.not (.castable xIA xIS)) (by decide +kernel)), va_Nc.of (hs (.not (.castable xIA xIO)) (by decide +kernel)), va_Nc.of (hs (.not (.castable xIS xIA)) (by decide +kernel)), va_Nc.of (hs (.not (.castable xIS xIO)) (by decide +kernel)), va_Nc.of (hs (.not (.castable xIO xIA)) (by decide +kernel)), va_Nc.of (hs (.not (.castable xIO xIS)) (by decide +kernel))⟩
