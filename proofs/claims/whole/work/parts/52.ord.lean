/-! ===== the reference's order of two slots, with whatever it looked at ===== -/
theorem c_X3_orderE (l : Launch) (G : gG) (y T : Nat) (L : List Nat) (txt : Nat → List Nat) (tad : Nat → Nat) (th : Int32) (i j : Nat) (hi8 : i < 8) (hj8 : j < 8) (H0 : Heap) (hMT : MT G y T L txt tad th H0) (hLE : LE G y H0) : XM l yX3_order wsX3_order RMX3_order G [.ref y, .int (nI i), .int (nI j)] H0 (y + 12) (y + 34) 1 2 (qI (fun r H1 => r = ordr (txt i) (txt j) ∧ LE G y H1)) xN := by
  obtain ⟨w, hLA⟩ := hLE
  exact c_X3_order l G y T L txt tad th w i j hi8 hj8 H0 hMT hLA
theorem befB_t {txt : Nat → List Nat} {x y : Nat} (h : bef txt x y) : befB txt x y = true := befB_iff.mpr h
theorem befB_f {txt : Nat → List Nat} {x y : Nat} (h : ¬ bef txt x y) : befB txt x y = false := by
  cases e : befB txt x y with
  | false => rfl
  | true => exact absurd (befB_iff.mp e) h
/-- what the order looks at, told of two texts that are the same on the slots -/
theorem plc_congr {t1 t2 : Nat → List Nat} (h : ∀ i, i < 8 → t1 i = t2 i) {s : Nat} (hs : s < 8) : plc t1 s = plc t2 s := by
  unfold plc
  refine cntB_congr fun i hi => ?_
  unfold befB
  rw [h i hi, h s hs]
/-- the texts in another order, their rows as they stand -/
theorem MT.sorted {G : gG} {y T : Nat} {L : List Nat} {txt : Nat → List Nat} {tad pm : Nat → Nat} {th : Int32} {H H1 H2 : Heap} {f2 : Nat → Option Nat} {f11 : Nat → Int32} (h : MT G y T L txt tad th H) (hp : ∀ i, i < 8 → pm i < 8) (k2 : gF (y + 2) (y + 12) H H2)
    (c1 : gQ G (y + 2) 4 8 f2 H2) (c2 : gI G (y + 11) 1 8 f11 H2) (hrow : ∀ i, i < 8 → TA G (tad i) (txt i) H2) (hf2 : ∀ i, i < 8 → f2 i = some (tad (pm i))) (hf11 : ∀ i, i < 8 → f11 i = nI (txt (pm i)).length) : MT G y T L (fun i => txt (pm i)) (fun i => tad (pm i)) th H2 := by
  obtain ⟨h1, h2, -, -, h5, h6, h7, h8⟩ := h
  refine ⟨h1.fr k2 (by omega), h2.fr k2 (by omega), ⟨_, c1, hf2⟩, ⟨_, c2, hf11⟩, fun j hj => ?_, h6, h7, Nat.le_trans h8 k2.1⟩
  obtain ⟨a1, a2, a3, a4⟩ := h5 (pm j) (hp j hj)
  exact ⟨hrow _ (hp j hj), a2, a3, a4⟩
