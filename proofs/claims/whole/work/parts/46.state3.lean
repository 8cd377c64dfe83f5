/-! ===== the reference: its state ===== -/
/-- all of the reference but what it looked at; its texts lie below T -/
def MT (G : gG) (y T : Nat) (L : List Nat) (txt : Nat → List Nat) (tad : Nat → Nat) (th : Int32) (H : Heap) : Prop :=
  MO G y (nI L.length) th H ∧ TA G (y + 1) L H ∧ (∃ f2 : Nat → Option Nat, gQ G (y + 2) 4 8 f2 H ∧ ∀ i, i < 8 → f2 i = some (tad i)) ∧ (∃ f11 : Nat → Int32, gI G (y + 11) 1 8 f11 H ∧ ∀ i, i < 8 → f11 i = nI (txt i).length) ∧ (∀ i, i < 8 → TA G (tad i) (txt i) H ∧ Gt (txt i) ∧ ((y + 3 ≤ tad i ∧ tad i < y + 11) ∨ y + 35 ≤ tad i) ∧ tad i < T) ∧ (L = [] ∨ Gt L) ∧ y + 34 < T ∧ T ≤ H.size
/-- the reference -/
def MW (G : gG) (y : Nat) (L : List Nat) (txt : Nat → List Nat) (th : Int32) (H : Heap) : Prop := ∃ (tad : Nat → Nat) (w : Wt), MT G y H.size L txt tad th H ∧ LA G y w H
theorem MT.fr {G : gG} {y T lo hi : Nat} {L : List Nat} {txt : Nat → List Nat} {tad : Nat → Nat} {th : Int32} {H H1 : Heap} (h : MT G y T L txt tad th H) (f : gF lo hi H H1) (hd : (y + 12 ≤ lo ∧ hi ≤ y + 35) ∨ hi ≤ y ∨ hi ≤ lo ∨ T ≤ lo) : MT G y T L txt tad th H1 := by
  obtain ⟨h1, h2, ⟨f2, h3, h3b⟩, ⟨f11, h4, h4b⟩, h5, h6, h7, h8⟩ := h
  refine ⟨h1.fr f (by omega), h2.fr f (by omega), ⟨f2, h3.fr f (by omega), h3b⟩, ⟨f11, h4.fr f (by omega), h4b⟩, fun i hi => ?_, h6, h7, Nat.le_trans h8 f.1⟩
  obtain ⟨a1, a2, a3, a4⟩ := h5 i hi
  exact ⟨a1.fr f (by omega), a2, a3, a4⟩
theorem MT.O {G : gG} {y T : Nat} {L : List Nat} {txt : Nat → List Nat} {tad : Nat → Nat} {th : Int32} {H : Heap} (h : MT G y T L txt tad th H) : MO G y (nI L.length) th H := h.1
theorem MT.tx {G : gG} {y T i : Nat} {L : List Nat} {txt : Nat → List Nat} {tad : Nat → Nat} {th : Int32} {H : Heap} (h : MT G y T L txt tad th H) (hi : i < 8) : TA G (tad i) (txt i) H := (h.2.2.2.2.1 i hi).1
theorem MT.gt {G : gG} {y T i : Nat} {L : List Nat} {txt : Nat → List Nat} {tad : Nat → Nat} {th : Int32} {H : Heap} (h : MT G y T L txt tad th H) (hi : i < 8) : Gt (txt i) := (h.2.2.2.2.1 i hi).2.1
theorem MT.rg {G : gG} {y T i : Nat} {L : List Nat} {txt : Nat → List Nat} {tad : Nat → Nat} {th : Int32} {H : Heap} (h : MT G y T L txt tad th H) (hi : i < 8) : ((y + 3 ≤ tad i ∧ tad i < y + 11) ∨ y + 35 ≤ tad i) ∧ tad i < T := (h.2.2.2.2.1 i hi).2.2
theorem MT.T {G : gG} {y T : Nat} {L : List Nat} {txt : Nat → List Nat} {tad : Nat → Nat} {th : Int32} {H : Heap} (h : MT G y T L txt tad th H) : y + 34 < T ∧ T ≤ H.size := h.2.2.2.2.2.2
theorem MT.rise {G : gG} {y T S : Nat} {L : List Nat} {txt : Nat → List Nat} {tad : Nat → Nat} {th : Int32} {H : Heap} (h : MT G y T L txt tad th H) (h1 : T ≤ S) (h2 : S ≤ H.size) : MT G y S L txt tad th H := by
  obtain ⟨g1, g2, g3, g4, g5, g6, g7, g8⟩ := h
  exact ⟨g1, g2, g3, g4, fun i hi => ⟨(g5 i hi).1, (g5 i hi).2.1, (g5 i hi).2.2.1, by have := (g5 i hi).2.2.2; omega⟩, g6, by omega, h2⟩
/-- a text comes into a slot -/
theorem MT.set {G : gG} {y T i z : Nat} {L P : List Nat} {txt : Nat → List Nat} {tad : Nat → Nat} {th : Int32} {H H1 H2 : Heap} {f2 : Nat → Option Nat} {f11 : Nat → Int32} (h : MT G y T L txt tad th H) (k1 : gF (y + 2) (y + 2 + 1) H H1) (k2 : gF (y + 11) (y + 11 + 1) H1 H2) (hf2 : ∀ i, i < 8 → f2 i = some (tad i)) (hf11 : ∀ i, i < 8 → f11 i = nI (txt i).length)
    (c1 : gQ G (y + 2) 4 8 (va_up f2 i (some z)) H2) (c2 : gI G (y + 11) 1 8 (upd f11 i (nI P.length)) H2) (hz : y + 35 ≤ z) (hT : TA G z P H2) (gP : Gt P) : MT G y H2.size L (up txt i P) (fun j => if j = i then z else tad j) th H2 := by
  obtain ⟨h1, h2, -, -, h5, h6, h7, h8⟩ := h
  have hs := Nat.le_trans k1.1 k2.1
  refine ⟨(h1.fr k1 (by omega)).fr k2 (by omega), (h2.fr k1 (by omega)).fr k2 (by omega), ⟨_, c1, fun j hj => ?_⟩, ⟨_, c2, fun j hj => ?_⟩, fun j hj => ?_, h6, by omega, Nat.le_refl _⟩
  · by_cases e : j = i
    · subst e; simp [va_up]
    · simp [va_up, e, hf2 j hj]
  · by_cases e : j = i
    · subst e; simp [upd, up]
    · simp [upd, up, e, hf11 j hj]
  · by_cases e : j = i
    · subst e
      simp only [if_pos, up]
      exact ⟨hT, gP, Or.inr hz, hT.lt⟩
    · obtain ⟨a1, a2, a3, a4⟩ := h5 j hj
      simp only [if_neg e, up]
      exact ⟨(a1.fr k1 (by omega)).fr k2 (by omega), a2, a3, by omega⟩
theorem TA_mk {G : gG} {z : Nat} {P : List Nat} {g : Nat → Int32} {H : Heap} (h : gI G z 0 60 g H) (h1 : ∀ j, j < P.length → g j = nI (cg P j)) (gP : Gt P) : TA G z P H := ⟨g, h, h1, gP.le, gP.2.2.2.2.2⟩
theorem up_ext {g : Nat → Int32} {P : List Nat} {k : Nat} (h : ∀ j, j < k → g j = nI (cg P j)) : ∀ j, j < k + 1 → upd g k (nI (cg P k)) j = nI (cg P j) := by
  intro j hj
  by_cases e : j = k
  · subst e; exact pk_us
  · rw [pk_un e]; exact h j (by omega)
