/-! ===== the slots in order ===== -/
def bef (txt : Nat → List Nat) (x y : Nat) : Prop := ordr (txt x) (txt y) < 0 ∨ (ordr (txt x) (txt y) = 0 ∧ x < y)
/-- the first n slots in the order of their versions, same ones as they stand -/
def OS (txt : Nat → List Nat) (n : Nat) (pm : Nat → Nat) : Prop := (∀ i, i < n → pm i < n) ∧ (∀ i j, i < n → j < n → pm i = pm j → i = j) ∧ ∀ i j, i < j → j < n → bef txt (pm i) (pm j)
def insP (pm : Nat → Nat) (q u : Nat) : Nat → Nat := fun j => if j < q then pm j else if j = q then u else pm (j - 1)
theorem ordr_rng (L P : List Nat) : ordr L P = 0 ∨ ordr L P < 0 ∨ 0 < ordr L P := by
  rcases Int.lt_trichotomy (ordr L P).toInt 0 with h | h | h
  · exact Or.inr (Or.inl (Int32.lt_iff_toInt_lt.mpr h))
  · exact Or.inl (Int32.toInt_inj.mp h)
  · exact Or.inr (Or.inr (Int32.lt_iff_toInt_lt.mpr h))
theorem bef_trans {txt : Nat → List Nat} (hg : ∀ i, i < 8 → Gt (txt i)) {x y z : Nat} (hx : x < 8) (hy : y < 8) (hz : z < 8) (h1 : bef txt x y) (h2 : bef txt y z) : bef txt x z := by
  have ht := ordr_tri (hg x hx) (hg y hy) (hg z hz)
  unfold tri at ht
  rcases h1 with h1 | ⟨h1, k1⟩
  · rw [if_neg (fun e => by rw [e] at h1; exact absurd h1 (by decide))] at ht
    have n1 : ¬ 0 < ordr (txt x) (txt y) := fun g => Int32.lt_irrefl (Int32.lt_trans h1 g)
    rw [decide_eq_false n1] at ht
    rcases h2 with h2 | ⟨h2, k2⟩
    · have n2 : ¬ 0 ≤ ordr (txt y) (txt z) := Int32.not_le.mpr h2
      rw [decide_eq_false n2] at ht
      exact Or.inl (of_decide_eq_true (by simpa using ht))
    · have ht2 := ordr_tri (hg z hz) (hg y hy) (hg x hx)
      unfold tri at ht2
      have e : ordr (txt z) (txt y) = 0 := by rw [ordr_anti (hg z hz) (hg y hy), h2]; rfl
      rw [if_pos e] at ht2
      have e2 := of_decide_eq_true ht2
      rw [ordr_anti (hg z hz) (hg x hx), ordr_anti (hg y hy) (hg x hx)] at e2
      have e3 : ordr (txt x) (txt z) = ordr (txt x) (txt y) := by
        have := congrArg (fun w : Int32 => - w) e2
        simpa using this
      exact Or.inl (by rw [e3]; exact h1)
  · rw [if_pos h1] at ht
    have e := of_decide_eq_true ht
    rcases h2 with h2 | ⟨h2, k2⟩
    · exact Or.inl (by rw [e]; exact h2)
    · exact Or.inr ⟨by rw [e]; exact h2, by omega⟩
theorem os_ins {txt : Nat → List Nat} (hg : ∀ i, i < 8 → Gt (txt i)) {u q : Nat} {pm : Nat → Nat} (hu : u < 8) (h : OS txt u pm) (hq : q ≤ u) (hend : q = 0 ∨ ¬ ordr (txt u) (txt (pm (q - 1))) < 0) (h3 : ∀ j, q ≤ j → j < u → ordr (txt u) (txt (pm j)) < 0) : OS txt (u + 1) (insP pm q u) := by
  obtain ⟨g1, g2, g3⟩ := h
  have lo : ∀ j, j < q → insP pm q u j = pm j := fun j hj => if_pos hj
  have at' : insP pm q u q = u := by unfold insP; rw [if_neg (Nat.lt_irrefl q), if_pos rfl]
  have hi : ∀ j, q < j → insP pm q u j = pm (j - 1) := fun j hj => by unfold insP; rw [if_neg (by omega), if_neg (by omega)]
  have hlo : ∀ j, j < q → bef txt (pm j) u := by
    intro j hj
    have hend' := hend.resolve_left (by omega)
    have last : bef txt (pm (q - 1)) u := by
      have hp := g1 (q - 1) (by omega)
      rcases ordr_rng (txt (pm (q - 1))) (txt u) with e | e | e
      · exact Or.inr ⟨e, hp⟩
      · exact Or.inl e
      · exfalso
        apply hend'
        rw [ordr_anti (hg u hu) (hg _ (by omega))]
        rw [Int32.lt_iff_toInt_lt] at e ⊢
        have : (0 : Int32).toInt = 0 := by decide
        rw [this] at e ⊢
        rw [Int32.toInt_neg]
        have hb := Int32.toInt_lt (ordr (txt (pm (q - 1))) (txt u))
        rw [Int.bmod_eq_of_le] <;> omega
    by_cases e : j = q - 1
    · rw [e]; exact last
    · exact bef_trans hg (by have := g1 j (by omega); omega) (by have := g1 (q - 1) (by omega); omega) hu (g3 j (q - 1) (by omega) (by omega)) last
  refine ⟨fun i hi8 => ?_, fun i j hi8 hj8 e => ?_, fun i j hij hj8 => ?_⟩
  · rcases Nat.lt_trichotomy i q with c | c | c
    · rw [lo i c]; have := g1 i (by omega); omega
    · rw [c, at']; omega
    · rw [hi i c]; have := g1 (i - 1) (by omega); omega
  · rcases Nat.lt_trichotomy i q with c | c | c <;> rcases Nat.lt_trichotomy j q with d | d | d
    · rw [lo i c, lo j d] at e; exact g2 i j (by omega) (by omega) e
    · rw [lo i c, d, at'] at e; have := g1 i (by omega); omega
    · rw [lo i c, hi j d] at e; have := g2 i (j - 1) (by omega) (by omega) e; omega
    · rw [c, at', lo j d] at e; have := g1 j (by omega); omega
    · omega
    · rw [c, at', hi j d] at e; have := g1 (j - 1) (by omega); omega
    · rw [hi i c, lo j d] at e; have := g2 (i - 1) j (by omega) (by omega) e; omega
    · rw [hi i c, d, at'] at e; have := g1 (i - 1) (by omega); omega
    · rw [hi i c, hi j d] at e; have := g2 (i - 1) (j - 1) (by omega) (by omega) e; omega
  · rcases Nat.lt_trichotomy i q with c | c | c <;> rcases Nat.lt_trichotomy j q with d | d | d
    · rw [lo i c, lo j d]; exact g3 i j hij (by omega)
    · rw [lo i c, d, at']; exact hlo i c
    · rw [lo i c, hi j d]
      by_cases e : i = j - 1
      · omega
      · exact g3 i (j - 1) (by omega) (by omega)
    · omega
    · omega
    · rw [c, at', hi j d]; exact Or.inl (h3 (j - 1) (by omega) (by omega))
    · omega
    · omega
    · rw [hi i c, hi j d]; exact g3 (i - 1) (j - 1) (by omega) (by omega)
theorem os_b {g : Nat → Int32} {pm : Nat → Nat} {q u : Nat} (hq : 0 < q) (h : ∀ j, q < j → j ≤ u → g j = nI (pm (j - 1))) : ∀ j, q - 1 < j → j ≤ u → upd g q (nI (pm (q - 1))) j = nI (pm (j - 1)) := by
  intro j h1 h2
  by_cases e : j = q
  · subst e; exact pk_us
  · rw [pk_un e]; exact h j (by omega) h2
theorem os_g {g : Nat → Int32} {pm : Nat → Nat} {q u : Nat} (ha : ∀ j, j < q → g j = nI (pm j)) (hb : ∀ j, q < j → j ≤ u → g j = nI (pm (j - 1))) : ∀ j, j < u + 1 → upd g q (nI u) j = nI (insP pm q u j) := by
  intro j hj
  unfold insP
  rcases Nat.lt_trichotomy j q with c | c | c
  · rw [pk_un (by omega), if_pos c]; exact ha j c
  · subst c; rw [if_neg (Nat.lt_irrefl j), if_pos rfl]; exact pk_us
  · rw [pk_un (by omega), if_neg (by omega), if_neg (by omega)]; exact hb j c (by omega)
theorem XB.setI {G : gG} {b sp : Nat} {L : List Nat} {txt : Nat → List Nat} {sl : Nat → Nat} {H H1 : Heap} {f5 : Nat → Int32} (h : XB G b L txt sl sp H) (f : gF (b + 5) (b + 5 + 1) H H1) (hO : gI G (b + 5) 1 8 f5 H1) : XB G b L txt sl sp H1 := by
  obtain ⟨h1, h2, ⟨f3, h3, h3b⟩, ⟨f4, h4⟩, ⟨f5', h5⟩, ⟨f6, h6⟩, h7, h8, h9, h10⟩ := h
  exact ⟨h1.fr f (by omega), h2.fr f (by omega), ⟨f3, h3.fr f (by omega), h3b⟩, ⟨f4, h4.fr f (by omega)⟩, ⟨f5, hO⟩, ⟨f6, h6.fr f (by omega)⟩, fun i hi => (h7 i hi).fr f (by unfold vk; omega), h8, h9, h10⟩
theorem XB.setS {G : gG} {b sp : Nat} {L : List Nat} {txt : Nat → List Nat} {sl : Nat → Nat} {H H1 : Heap} {f4 : Nat → Option Nat} (h : XB G b L txt sl sp H) (f : gF (b + 4) (b + 4 + 1) H H1) (hO : gQ G (b + 4) 2 8 f4 H1) : XB G b L txt sl sp H1 := by
  obtain ⟨h1, h2, ⟨f3, h3, h3b⟩, ⟨f4', h4⟩, ⟨f5, h5⟩, ⟨f6, h6⟩, h7, h8, h9, h10⟩ := h
  exact ⟨h1.fr f (by omega), h2.fr f (by omega), ⟨f3, h3.fr f (by omega), h3b⟩, ⟨f4, hO⟩, ⟨f5, h5.fr f (by omega)⟩, ⟨f6, h6.fr f (by omega)⟩, fun i hi => (h7 i hi).fr f (by unfold vk; omega), h8, h9, h10⟩
/-- the slots hold their versions in order -/
theorem XB.sorted {G : gG} {b sp : Nat} {L : List Nat} {txt : Nat → List Nat} {sl pm : Nat → Nat} {H H1 : Heap} {f3 : Nat → Option Nat} (h : XB G b L txt sl sp H) (hp : OS txt 8 pm) (f : gF (b + 3) (b + 3 + 1) H H1) (hO : gQ G (b + 3) 2 8 f3 H1) (h3 : ∀ j, j < 8 → f3 j = some (vk b (sl (pm j)))) : XB G b L (fun i => txt (pm i)) (fun i => sl (pm i)) sp H1 := by
  obtain ⟨h1, h2, ⟨f3', h3', h3b⟩, ⟨f4, h4⟩, ⟨f5, h5⟩, ⟨f6, h6⟩, h7, h8, h9, h10⟩ := h
  exact ⟨h1.fr f (by omega), h2.fr f (by omega), ⟨f3, hO, h3⟩, ⟨f4, h4.fr f (by omega)⟩, ⟨f5, h5.fr f (by omega)⟩, ⟨f6, h6.fr f (by omega)⟩, fun i hi => (h7 _ (hp.1 i hi)).fr f (by unfold vk; omega), ⟨h8.1, fun i hi => h8.2.1 _ (hp.1 i hi), fun i j hi hj e => hp.2.1 i j hi hj (h8.2.2 _ _ (hp.1 i hi) (hp.1 j hj) e)⟩, fun i hi => h9 _ (hp.1 i hi), h10⟩
/-- where the slots in order are kept -/
def XI (G : gG) (b : Nat) (pm : Nat → Nat) (H : Heap) : Prop := ∃ f5 : Nat → Int32, gI G (b + 5) 1 8 f5 H ∧ ∀ i, i < 8 → f5 i = nI (pm i)
theorem os_c {P : Nat → Prop} {q u : Nat} (h : ∀ j, q ≤ j → j < u → P j) (hp : P (q - 1)) : ∀ j, q - 1 ≤ j → j < u → P j := by
  intro j h1 h2
  by_cases e : j = q - 1
  · rw [e]; exact hp
  · exact h j (by omega) h2
