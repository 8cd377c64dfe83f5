/-! ===== the state of the class ===== -/
/-- a text as it is told: it ends with a token; its rows are begun; no number is too great -/
def Gt (L : List Nat) : Prop := (pf L L.length).2.1 ≠ 0 ∧ Jt L (tk L) ∧ (1 ≤ (pf L L.length).1 → 0 < (tk L 1).length) ∧ ((pf L L.length).1 = 2 → 0 < (tk L 2).length) ∧ L.length ≤ 60 ∧ ∀ c ∈ L, c < 65536
theorem Gt.J {L : List Nat} (h : Gt L) : Jt L (tk L) := h.2.1
theorem Gt.le {L : List Nat} (h : Gt L) : L.length ≤ 60 := h.2.2.2.2.1
def vk (b k : Nat) : Nat := b + 7 + 12 * k
/-- all of the class but its spare version: draft L, texts in the slots, which version is in which slot -/
def XB (G : gG) (b : Nat) (L : List Nat) (txt : Nat → List Nat) (sl : Nat → Nat) (sp : Nat) (H : Heap) : Prop :=
  gO G b 2 [.ref (b + 1), .ref (b + 3), .ref (b + 4), .ref (b + 5), .ref (b + 6), .ref (vk b sp)] H ∧ Tx G (b + 1) L H ∧ (∃ f3 : Nat → Option Nat, gQ G (b + 3) 2 8 f3 H ∧ ∀ i, i < 8 → f3 i = some (vk b (sl i))) ∧ (∃ f4 : Nat → Option Nat, gQ G (b + 4) 2 8 f4 H) ∧ (∃ f5 : Nat → Int32, gI G (b + 5) 1 8 f5 H) ∧ (∃ f6 : Nat → Int32, gI G (b + 6) 1 64 f6 H) ∧ (∀ i, i < 8 → VR G (vk b (sl i)) (txt i) (tk (txt i)) H) ∧ (sp < 9 ∧ (∀ i, i < 8 → sl i < 9 ∧ sl i ≠ sp) ∧ ∀ i j, i < 8 → j < 8 → sl i = sl j → i = j) ∧ (∀ i, i < 8 → Gt (txt i)) ∧ (L = [] ∨ Gt L)
/-- the class, with any spare version -/
def XW (G : gG) (b : Nat) (L : List Nat) (txt : Nat → List Nat) (H : Heap) : Prop := ∃ (sl : Nat → Nat) (sp : Nat) (P : List Nat), XB G b L txt sl sp H ∧ Vo G (vk b sp) P H
theorem XB.O {G : gG} {b sp : Nat} {L : List Nat} {txt : Nat → List Nat} {sl : Nat → Nat} {H : Heap} (h : XB G b L txt sl sp H) : gO G b 2 [.ref (b + 1), .ref (b + 3), .ref (b + 4), .ref (b + 5), .ref (b + 6), .ref (vk b sp)] H := h.1
theorem XB.T {G : gG} {b sp : Nat} {L : List Nat} {txt : Nat → List Nat} {sl : Nat → Nat} {H : Heap} (h : XB G b L txt sl sp H) : Tx G (b + 1) L H := h.2.1
theorem XB.V {G : gG} {b sp i : Nat} {L : List Nat} {txt : Nat → List Nat} {sl : Nat → Nat} {H : Heap} (h : XB G b L txt sl sp H) (hi : i < 8) : VR G (vk b (sl i)) (txt i) (tk (txt i)) H := h.2.2.2.2.2.2.1 i hi
theorem XB.g {G : gG} {b sp i : Nat} {L : List Nat} {txt : Nat → List Nat} {sl : Nat → Nat} {H : Heap} (h : XB G b L txt sl sp H) (hi : i < 8) : Gt (txt i) := h.2.2.2.2.2.2.2.2.1 i hi
theorem XB.d {G : gG} {b sp : Nat} {L : List Nat} {txt : Nat → List Nat} {sl : Nat → Nat} {H : Heap} (h : XB G b L txt sl sp H) : L = [] ∨ Gt L := h.2.2.2.2.2.2.2.2.2
theorem XB.n {G : gG} {b sp : Nat} {L : List Nat} {txt : Nat → List Nat} {sl : Nat → Nat} {H : Heap} (h : XB G b L txt sl sp H) : sp < 9 ∧ (∀ i, i < 8 → sl i < 9 ∧ sl i ≠ sp) ∧ ∀ i j, i < 8 → j < 8 → sl i = sl j → i = j := h.2.2.2.2.2.2.2.1
theorem XB.recv {G : gG} {b sp : Nat} {L : List Nat} {txt : Nat → List Nat} {sl : Nat → Nat} {H : Heap} {s : State} (hK : gK G s) (h : XB G b L txt sl sp H) : ∃ cell : Cell, H[b]? = some cell ∧ cell.vm.isStatics = false ∧ s.vm.findClass RX2 = some cell.cls := gO.recv (C := RX2) hK h.1 rfl
/-- what is behind: old cells outside the class change, or the spare version's -/
theorem XB.fr {G : gG} {b sp lo hi : Nat} {L : List Nat} {txt : Nat → List Nat} {sl : Nat → Nat} {H H1 : Heap} (h : XB G b L txt sl sp H) (f : gF lo hi H H1) (hd : b + 115 ≤ lo ∨ hi ≤ b ∨ hi ≤ lo ∨ (vk b sp ≤ lo ∧ hi ≤ vk b sp + 12)) : XB G b L txt sl sp H1 := by
  obtain ⟨h1, h2, ⟨f3, h3, h3b⟩, ⟨f4, h4⟩, ⟨f5, h5⟩, ⟨f6, h6⟩, h7, h8, h9, h10⟩ := h
  have hv : ∀ k, k < 9 → k ≠ sp → vk b k + 12 ≤ lo ∨ hi ≤ vk b k ∨ hi ≤ lo := by
    intro k hk hne
    have := h8.1
    unfold vk at hd ⊢
    omega
  have e : ∀ q, (q < lo ∨ hi ≤ q) ∨ hi ≤ lo → gF q (q + 1) H H1 → True := fun _ _ _ => trivial
  have f' : hi ≤ lo → gF 0 0 H H1 := fun g => gF.widen f (by omega)
  have fx : ∀ {P : Heap → Prop} (a n : Nat), (∀ {lo hi : Nat}, gF lo hi H H1 → (a + n ≤ lo ∨ hi ≤ a) → P H1) → (a + n ≤ lo ∨ hi ≤ a ∨ hi ≤ lo) → P H1 := by
    intro P a n g hh
    rcases hh with hh | hh | hh
    · exact g f (Or.inl hh)
    · exact g f (Or.inr hh)
    · exact g (f' hh) (Or.inr (Nat.zero_le _))
  have hb : b + 7 ≤ lo ∨ hi ≤ b ∨ hi ≤ lo := by unfold vk at hd; omega
  refine ⟨fx b 1 (fun g hh => h1.fr g (by omega)) (by omega), fx (b + 1) 2 (fun g hh => h2.fr g (by omega)) (by omega), ⟨f3, fx (P := fun H1 => gQ G (b + 3) 2 8 f3 H1) (b + 3) 1 (fun g hh => h3.fr g (by omega)) (by omega), h3b⟩, ⟨f4, fx (P := fun H1 => gQ G (b + 4) 2 8 f4 H1) (b + 4) 1 (fun g hh => h4.fr g (by omega)) (by omega)⟩, ⟨f5, fx (P := fun H1 => gI G (b + 5) 1 8 f5 H1) (b + 5) 1 (fun g hh => h5.fr g (by omega)) (by omega)⟩, ⟨f6, fx (P := fun H1 => gI G (b + 6) 1 64 f6 H1) (b + 6) 1 (fun g hh => h6.fr g (by omega)) (by omega)⟩, fun i hi8 => ?_, h8, h9, h10⟩
  exact fx (P := fun H1 => VR G (vk b (sl i)) (txt i) (tk (txt i)) H1) (vk b (sl i)) 12 (fun g hh => (h7 i hi8).fr g hh) (hv _ (h8.2.1 i hi8).1 (h8.2.1 i hi8).2)
/-- the draft changes -/
theorem XB.setD {G : gG} {b sp : Nat} {L D : List Nat} {txt : Nat → List Nat} {sl : Nat → Nat} {H H1 : Heap} (h : XB G b L txt sl sp H) (f : gF (b + 1) (b + 3) H H1) (hT : Tx G (b + 1) D H1) (hD : D = [] ∨ Gt D) : XB G b D txt sl sp H1 := by
  obtain ⟨h1, h2, ⟨f3, h3, h3b⟩, ⟨f4, h4⟩, ⟨f5, h5⟩, ⟨f6, h6⟩, h7, h8, h9, h10⟩ := h
  refine ⟨h1.fr f (by omega), hT, ⟨f3, h3.fr f (by omega), h3b⟩, ⟨f4, h4.fr f (by omega)⟩, ⟨f5, h5.fr f (by omega)⟩, ⟨f6, h6.fr f (by omega)⟩, fun i hi => (h7 i hi).fr f (by unfold vk; omega), h8, h9, hD⟩
/-- texts: numbers and words behind (to be shown) -/
def jn (L : List Nat) (how : Nat) : List Nat := if how = 110 then L else L ++ [how]
def num (n z : Nat) : List Nat := List.replicate z 48 ++ dg n
def isWay (ch : Nat) : Prop := ch = 110 ∨ ch = 46 ∨ ch = 45 ∨ ch = 43
theorem okN_le {x : Int32} {n : Nat} (hn : n < 2147483647) : okN (n + 1) x ↔ ¬ x < 0 ∧ x ≤ nI n := by
  constructor
  · rintro ⟨i, hi, rfl⟩
    exact ⟨nI_pos (by omega), nI_le (by omega) (by omega)⟩
  · rintro ⟨h1, h2⟩
    obtain ⟨j, hj, rfl⟩ := nI_of h1
    have := (nI_leI hj (by omega)).mp h2
    exact ⟨j, by omega, rfl⟩
