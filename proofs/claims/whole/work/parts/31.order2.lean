/-! ===== the theorem's parts: the order as numbers of the texts ===== -/
theorem ordr_self {L : List Nat} (hL : Gt L) : ordr L L = 0 := by sorry
theorem ordr_anti {L P : List Nat} (hL : Gt L) (hP : Gt P) : ordr L P = - ordr P L := by sorry
/-- what is looked at of three orders -/
def tri (x y z : Int32) : Bool := if x = 0 then decide (z = y) else decide (0 < x) || decide (0 ≤ y) || decide (z < 0)
theorem ordr_tri {L P K : List Nat} (hL : Gt L) (hP : Gt P) (hK : Gt K) : tri (ordr L P) (ordr P K) (ordr L K) = true := by sorry
theorem tellr_iff {L P : List Nat} : ordr L P = 0 ↔ tellr L P = -1 := by
  unfold ordr tellr ordT tellT
  generalize rcmp L (tk L) P (tk P) = f
  show (if (if (if (0 : Int32) = 0 then f 0 else 0) = 0 then f 1 else (if (0 : Int32) = 0 then f 0 else 0)) = 0 then f 2 else (if (if (0 : Int32) = 0 then f 0 else 0) = 0 then f 1 else (if (0 : Int32) = 0 then f 0 else 0))) = 0 ↔ _
  rw [if_pos rfl]
  have e0 : ¬ nI 0 = -1 := by decide
  have e1 : ¬ nI 1 = -1 := by decide
  have e2 : ¬ nI 2 = -1 := by decide
  by_cases h0 : f 0 = 0
  · by_cases h1 : f 1 = 0
    · by_cases h2 : f 2 = 0
      · simp [h0, h1, h2]
      · simp [h0, h1, h2, e2]
    · simp [h0, h1, e1]
  · simp [h0, e0]
theorem ordr_zero {L : List Nat} (hL : Gt L) (h : L.length + 2 ≤ 60) : ordr (L ++ [46] ++ dg 0) L = 0 := by sorry
theorem ordr_one {L : List Nat} (hL : Gt L) (h : L.length + 2 ≤ 60) : 0 < ordr (L ++ [46] ++ dg 1) L := by sorry
theorem ordr_let {L : List Nat} (hL : Gt L) (h : L.length + 2 ≤ 60) (h1 : ¬ 0 < (tk L 1).length) : ordr (L ++ [45] ++ [97]) L < 0 := by sorry
/-- the orders of each two, as they are kept -/
def XO (G : gG) (b : Nat) (txt : Nat → List Nat) (H : Heap) : Prop := ∃ f6 : Nat → Int32, gI G (b + 6) 1 64 f6 H ∧ ∀ a d, a < 8 → d < 8 → f6 (a * 8 + d) = ordr (txt a) (txt d)
theorem XO.fr {G : gG} {b lo hi : Nat} {txt : Nat → List Nat} {H H1 : Heap} (h : XO G b txt H) (f : gF lo hi H H1) (hd : b + 7 ≤ lo ∨ hi ≤ b + 6) : XO G b txt H1 := by
  obtain ⟨f6, h1, h2⟩ := h
  exact ⟨f6, h1.fr f (by omega), h2⟩
def VoE (G : gG) (v : Nat) (H : Heap) : Prop := ∃ P : List Nat, Vo G v P H
theorem VoE.fr {G : gG} {v lo hi : Nat} {H H1 : Heap} (h : VoE G v H) (f : gF lo hi H H1) (hd : v + 12 ≤ lo ∨ hi ≤ v) : VoE G v H1 := by
  obtain ⟨P, h⟩ := h
  exact ⟨P, h.fr f hd⟩
theorem XB.setO {G : gG} {b sp : Nat} {L : List Nat} {txt : Nat → List Nat} {sl : Nat → Nat} {H H1 : Heap} {f6 : Nat → Int32} (h : XB G b L txt sl sp H) (f : gF (b + 6) (b + 6 + 1) H H1) (hO : gI G (b + 6) 1 64 f6 H1) : XB G b L txt sl sp H1 := by
  obtain ⟨h1, h2, ⟨f3, h3, h3b⟩, ⟨f4, h4⟩, ⟨f5, h5⟩, ⟨f6', h6⟩, h7, h8, h9, h10⟩ := h
  exact ⟨h1.fr f (by omega), h2.fr f (by omega), ⟨f3, h3.fr f (by omega), h3b⟩, ⟨f4, h4.fr f (by omega)⟩, ⟨f5, h5.fr f (by omega)⟩, ⟨f6, hO⟩, fun i hi => (h7 i hi).fr f (by unfold vk; omega), h8, h9, h10⟩
theorem fo_1 {g : Nat → Int32} {F : Nat → Nat → Int32} {i j : Nat} {v : Int32} (h : ∀ a d, a < i → d < 8 → g (a * 8 + d) = F a d) (hj : j < 8) : ∀ a d, a < i → d < 8 → upd g (i * 8 + j) v (a * 8 + d) = F a d := by
  intro a d ha hd
  rw [← h a d ha hd]
  simp [upd, show a * 8 + d ≠ i * 8 + j by omega]
theorem fo_2 {g : Nat → Int32} {F : Nat → Nat → Int32} {i j : Nat} (h : ∀ d, d < j → g (i * 8 + d) = F i d) : ∀ d, d < j + 1 → upd g (i * 8 + j) (F i j) (i * 8 + d) = F i d := by
  intro d hd
  by_cases e : d = j
  · subst e; simp [upd]
  · rw [← h d (by omega)]
    exact pk_un (by omega)
theorem fo_3 {g : Nat → Int32} {F : Nat → Nat → Int32} {i : Nat} (h : ∀ a d, a < i → d < 8 → g (a * 8 + d) = F a d) (h2 : ∀ d, d < 8 → g (i * 8 + d) = F i d) : ∀ a d, a < i + 1 → d < 8 → g (a * 8 + d) = F a d := by
  intro a d ha hd
  by_cases e : a = i
  · subst e; exact h2 d hd
  · exact h a d (by omega) hd
