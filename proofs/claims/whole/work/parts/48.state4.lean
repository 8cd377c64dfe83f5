/-! ===== the reference: what its calls do to its state ===== -/
theorem MT.setO {G : gG} {y T : Nat} {L : List Nat} {txt : Nat → List Nat} {tad : Nat → Nat} {th th2 : Int32} {H H1 : Heap} (h : MT G y T L txt tad th H) (k : gF y (y + 1) H H1) (hO : MO G y (nI L.length) th2 H1) : MT G y T L txt tad th2 H1 := by
  obtain ⟨h1, h2, ⟨f2, h3, h3b⟩, ⟨f11, h4, h4b⟩, h5, h6, h7, h8⟩ := h
  refine ⟨hO, h2.fr k (by omega), ⟨f2, h3.fr k (by omega), h3b⟩, ⟨f11, h4.fr k (by omega), h4b⟩, fun i hi => ?_, h6, h7, Nat.le_trans h8 k.1⟩
  obtain ⟨a1, a2, a3, a4⟩ := h5 i hi
  exact ⟨a1.fr k (by omega), a2, a3, a4⟩
/-- the draft changes -/
theorem MT.setD {G : gG} {y T : Nat} {L D : List Nat} {txt : Nat → List Nat} {tad : Nat → Nat} {th th2 : Int32} {H H1 : Heap} (h : MT G y T L txt tad th H) (k : gF y (y + 2) H H1) (hO : MO G y (nI D.length) th2 H1) (hT : TA G (y + 1) D H1) (hD : D = [] ∨ Gt D) : MT G y T D txt tad th2 H1 := by
  obtain ⟨h1, h2, ⟨f2, h3, h3b⟩, ⟨f11, h4, h4b⟩, h5, h6, h7, h8⟩ := h
  refine ⟨hO, hT, ⟨f2, h3.fr k (by omega), h3b⟩, ⟨f11, h4.fr k (by omega), h4b⟩, fun i hi => ?_, hD, h7, Nat.le_trans h8 k.1⟩
  obtain ⟨a1, a2, a3, a4⟩ := h5 i hi
  exact ⟨a1.fr k (by omega), a2, a3, a4⟩
theorem MT.W {G : gG} {y T : Nat} {L : List Nat} {txt : Nat → List Nat} {tad : Nat → Nat} {th : Int32} {w : Wt} {H : Heap} (h : MT G y T L txt tad th H) (hLA : LA G y w H) : MW G y L txt th H := ⟨tad, w, h.rise h.T.2 (Nat.le_refl _), hLA⟩
theorem inB_okN {x : Int32} {n : Nat} (hn : n < 2147483647) : inB x (nI 0) (nI n) = true ↔ okN (n + 1) x := inB_iff.trans (okNum hn)
theorem inB_okP {x : Int32} {n : Nat} (hn : n < 2147483647) : inB x (nI 1) (nI n) = true ↔ okP n x := inB_iff.trans (okP_iff hn).symm
theorem inB_no {x a b : Int32} {A : Prop} (h : inB x a b = false) (h2 : inB x a b = true ↔ A) : ¬ A := fun g => by rw [h2.mpr g] at h; cases h
