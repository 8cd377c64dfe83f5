/-! ===== words and texts put together; the slots in order, told by their places ===== -/
theorem wd_app {L : List Nat} {r j : Nat} : L ++ wd r (j + 1) = (L ++ wd r j) ++ [ltr (r / 52 ^ j % 52)] := (List.append_assoc _ _ _).symm
theorem wd_ext {L : List Nat} {r j x : Nat} {g : Nat → Int32} (hg0 : ∀ i, i < (L ++ wd r j).length → g i = nI (cg (L ++ wd r j) i)) (hx : x = ltr (r / 52 ^ j % 52)) : ∀ i, i < (L ++ wd r (j + 1)).length → upd g (L ++ wd r j).length (nI x) i = nI (cg (L ++ wd r (j + 1)) i) := by
  intro i hi
  subst hx
  rw [wd_app] at hi ⊢
  rw [List.length_append, List.length_singleton] at hi
  by_cases e : i = (L ++ wd r j).length
  · subst e; rw [cg_new]; exact pk_us
  · rw [pk_un e, cg_app (by omega)]; exact hg0 i (by omega)
theorem ar_ext {P : List Nat} {n x : Nat} {g g2 : Nat → Int32} (h : ∀ i, i < P.length → g i = nI (cg P i)) (hk : ∀ i, i < P.length + 1 → g2 i = upd g P.length (nI x) i) (hv : ∀ i, i < 0 + dgs n → g2 (P.length + 1 + i) = nI (cg (num n 0) i)) : ∀ j, j < (P ++ [x] ++ dg n).length → g2 j = nI (cg (P ++ [x] ++ dg n) j) := by
  intro j hj
  have el : (P ++ [x]).length = P.length + 1 := by rw [List.length_append, List.length_singleton]
  rw [List.length_append, el] at hj
  by_cases c : j < P.length
  · rw [hk j (by omega), pk_un (by omega), h j c, cg_app (by omega), cg_app c]
  · by_cases e : j = P.length
    · subst e
      rw [hk _ (by omega), pk_us, cg_app (by omega), cg_new]
    · obtain ⟨k, rfl⟩ : ∃ k, j = P.length + 1 + k := ⟨j - (P.length + 1), by omega⟩
      have hk' : k < dgs n := by unfold dgs; omega
      rw [hv k (by omega)]
      have e2 := cg_app2 (L := P ++ [x]) (M := dg n) (i := k)
      rw [el] at e2
      rw [e2]
      rfl
theorem tri_ext {a b d : Nat} {g g2 g3 : Nat → Int32} (h : ∀ i, i < (dg a).length → g i = nI (cg (dg a) i)) (hk : ∀ i, i < (dg a).length + 1 → g2 i = upd g (dg a).length (nI 46) i) (hv : ∀ i, i < 0 + dgs b → g2 ((dg a).length + 1 + i) = nI (cg (num b 0) i))
    (hk2 : ∀ i, i < (dg a ++ [46] ++ dg b).length + 1 → g3 i = upd g2 (dg a ++ [46] ++ dg b).length (nI 46) i) (hv2 : ∀ i, i < 0 + dgs d → g3 ((dg a ++ [46] ++ dg b).length + 1 + i) = nI (cg (num d 0) i)) : ∀ j, j < (dg a ++ [46] ++ dg b ++ [46] ++ dg d).length → g3 j = nI (cg (dg a ++ [46] ++ dg b ++ [46] ++ dg d) j) :=
  ar_ext (ar_ext h hk hv) hk2 hv2
theorem MT.gs {G : gG} {y T : Nat} {L : List Nat} {txt : Nat → List Nat} {tad : Nat → Nat} {th : Int32} {H : Heap} (h : MT G y T L txt tad th H) : ∀ i, i < 8 → Gt (txt i) := fun _ hi => h.gt hi
def befB (txt : Nat → List Nat) (x y : Nat) : Bool := decide (ordr (txt x) (txt y) < 0) || (decide (ordr (txt x) (txt y) = 0) && decide (x < y))
theorem befB_iff {txt : Nat → List Nat} {x y : Nat} : befB txt x y = true ↔ bef txt x y := by
  unfold befB bef
  simp
/-- how many come before -/
def plc (txt : Nat → List Nat) (s : Nat) : Nat := cntB (fun k => befB txt k s) 8
theorem cntB_le {f : Nat → Bool} (n : Nat) : cntB f n ≤ n := by
  induction n with
  | zero => exact Nat.le_refl _
  | succ n ih =>
    cases h : f n with
    | true => rw [cntB_t h]; omega
    | false => rw [cntB_f h]; omega
theorem cntB_mono {f g : Nat → Bool} {n : Nat} (h : ∀ i, i < n → f i = true → g i = true) : cntB f n ≤ cntB g n := by
  induction n with
  | zero => exact Nat.le_refl _
  | succ n ih =>
    have ih := ih (fun i hi => h i (by omega))
    cases hf : f n with
    | true => rw [cntB_t hf, cntB_t (h n (by omega) hf)]; omega
    | false =>
      rw [cntB_f hf]
      cases hg : g n with
      | true => rw [cntB_t hg]; omega
      | false => rw [cntB_f hg]; exact ih
theorem cntB_lt {f g : Nat → Bool} {n x : Nat} (h : ∀ i, i < n → f i = true → g i = true) (hx : x < n) (hf : f x = false) (hg : g x = true) : cntB f n < cntB g n := by
  induction n with
  | zero => exact absurd hx (Nat.not_lt_zero _)
  | succ n ih =>
    by_cases e : x = n
    · subst e
      rw [cntB_f hf, cntB_t hg]
      have := cntB_mono (n := x) (fun i hi => h i (by omega))
      omega
    · have ih := ih (fun i hi => h i (by omega)) (by omega)
      cases hf2 : f n with
      | true => rw [cntB_t hf2, cntB_t (h n (by omega) hf2)]; omega
      | false =>
        rw [cntB_f hf2]
        cases hg2 : g n with
        | true => rw [cntB_t hg2]; omega
        | false => rw [cntB_f hg2]; exact ih
theorem cntB_congr {f g : Nat → Bool} {n : Nat} (h : ∀ i, i < n → f i = g i) : cntB f n = cntB g n := by
  induction n with
  | zero => rfl
  | succ n ih =>
    have ih := ih (fun i hi => h i (by omega))
    show cntB f n + (if f n = true then 1 else 0) = cntB g n + (if g n = true then 1 else 0)
    rw [ih, h n (by omega)]
theorem bef_irr {txt : Nat → List Nat} (hg : ∀ i, i < 8 → Gt (txt i)) {x : Nat} (hx : x < 8) : ¬ bef txt x x := by
  unfold bef
  rw [ordr_self (hg x hx)]
  rintro (h | h)
  · exact absurd h (by decide)
  · omega
theorem i_neg {a : Int32} (h : 0 < a) : -a < 0 := by
  rw [Int32.lt_iff_toInt_lt] at h ⊢
  have e : (0 : Int32).toInt = 0 := by decide
  rw [e] at h ⊢
  rw [Int32.toInt_neg]
  have hb := Int32.toInt_lt a
  rw [Int.bmod_eq_of_le] <;> omega
theorem ordr_pos {L P : List Nat} (hL : Gt L) (hP : Gt P) (h : 0 < ordr L P) : ordr P L < 0 := by
  rw [ordr_anti hP hL]
  exact i_neg h
theorem bef_tot {txt : Nat → List Nat} (hg : ∀ i, i < 8 → Gt (txt i)) {x y : Nat} (hx : x < 8) (hy : y < 8) (hne : x ≠ y) : bef txt x y ∨ bef txt y x := by
  rcases ordr_rng (txt x) (txt y) with h | h | h
  · rcases Nat.lt_or_gt_of_ne hne with g | g
    · exact Or.inl (Or.inr ⟨h, g⟩)
    · refine Or.inr (Or.inr ⟨?_, g⟩)
      rw [ordr_anti (hg y hy) (hg x hx), h]
      rfl
  · exact Or.inl (Or.inl h)
  · exact Or.inr (Or.inl (ordr_pos (hg x hx) (hg y hy) h))
theorem plc_lt {txt : Nat → List Nat} (hg : ∀ i, i < 8 → Gt (txt i)) {x y : Nat} (hx : x < 8) (hy : y < 8) (h : bef txt x y) : plc txt x < plc txt y := by
  refine cntB_lt (x := x) (fun i hi g => ?_) hx ?_ (befB_iff.mpr h)
  · exact befB_iff.mpr (bef_trans hg hi hx hy (befB_iff.mp g) h)
  · cases e : befB txt x x with
    | false => rfl
    | true => exact absurd (befB_iff.mp e) (bef_irr hg hx)
theorem plc_8 {txt : Nat → List Nat} (hg : ∀ i, i < 8 → Gt (txt i)) {x : Nat} (hx : x < 8) : plc txt x < 8 := by
  have h := cntB_lt (f := fun k => befB txt k x) (g := fun _ => true) (n := 8) (x := x) (fun _ _ _ => rfl) hx (by
    cases e : befB txt x x with
    | false => rfl
    | true => exact absurd (befB_iff.mp e) (bef_irr hg hx)) rfl
  exact Nat.lt_of_lt_of_le h (cntB_le 8)
theorem plc_inj {txt : Nat → List Nat} (hg : ∀ i, i < 8 → Gt (txt i)) {x y : Nat} (hx : x < 8) (hy : y < 8) (h : plc txt x = plc txt y) : x = y := by
  by_cases e : x = y
  · exact e
  · exfalso
    rcases bef_tot hg hx hy e with g | g
    · have := plc_lt hg hx hy g; omega
    · have := plc_lt hg hy hx g; omega
theorem inc8 {f : Nat → Nat} (h8 : ∀ i, i < 8 → f i < 8) (hs : ∀ i, i < 7 → f i < f (i + 1)) {i : Nat} (hi : i < 8) : f i = i := by
  have a0 := h8 0 (by decide); have a7 := h8 7 (by decide)
  have b0 : f 0 < f 1 := hs 0 (by decide); have b1 : f 1 < f 2 := hs 1 (by decide); have b2 : f 2 < f 3 := hs 2 (by decide); have b3 : f 3 < f 4 := hs 3 (by decide); have b4 : f 4 < f 5 := hs 4 (by decide); have b5 : f 5 < f 6 := hs 5 (by decide); have b6 : f 6 < f 7 := hs 6 (by decide)
  rcases (show i = 0 ∨ i = 1 ∨ i = 2 ∨ i = 3 ∨ i = 4 ∨ i = 5 ∨ i = 6 ∨ i = 7 by omega) with rfl | rfl | rfl | rfl | rfl | rfl | rfl | rfl <;> omega
theorem os_plc {txt : Nat → List Nat} (hg : ∀ i, i < 8 → Gt (txt i)) {pm : Nat → Nat} (h : OS txt 8 pm) {i : Nat} (hi : i < 8) : plc txt (pm i) = i :=
  inc8 (f := fun i => plc txt (pm i)) (fun i hi => plc_8 hg (h.1 i hi)) (fun i hi => plc_lt hg (h.1 i (by omega)) (h.1 (i + 1) (by omega)) (h.2.2 i (i + 1) (by omega) (by omega))) hi
theorem os_down {txt : Nat → List Nat} (hg : ∀ i, i < 8 → Gt (txt i)) {u : Nat} {pm : Nat → Nat} (hu : u < 8) (h : OS txt u pm) : ∀ q, q ≤ u → (∀ j, q ≤ j → j < u → ordr (txt u) (txt (pm j)) < 0) → ∃ pm2, OS txt (u + 1) pm2 := by
  intro q
  induction q with
  | zero => exact fun hq h3 => ⟨_, os_ins hg hu h hq (Or.inl rfl) h3⟩
  | succ q ih =>
    intro hq h3
    by_cases c : ordr (txt u) (txt (pm q)) < 0
    · exact ih (by omega) (os_c (q := q + 1) h3 c)
    · exact ⟨_, os_ins hg hu h hq (Or.inr c) h3⟩
theorem os_ex {txt : Nat → List Nat} (hg : ∀ i, i < 8 → Gt (txt i)) : ∀ u, u ≤ 8 → ∃ pm, OS txt u pm := by
  intro u
  induction u with
  | zero => exact fun _ => ⟨fun i => i, fun i hi => absurd hi (Nat.not_lt_zero _), fun i j hi => absurd hi (Nat.not_lt_zero _), fun i j _ hj => absurd hj (Nat.not_lt_zero _)⟩
  | succ u ih =>
    intro hu
    obtain ⟨pm, h⟩ := ih (by omega)
    exact os_down hg (by omega) h u (Nat.le_refl _) (fun j h1 h2 => by omega)
theorem ar_one {P : List Nat} {x : Nat} {g : Nat → Int32} (h : ∀ i, i < P.length → g i = nI (cg P i)) : ∀ j, j < (P ++ [x]).length → upd g P.length (nI x) j = nI (cg (P ++ [x]) j) := by
  intro j hj
  rw [List.length_append, List.length_singleton] at hj
  by_cases e : j = P.length
  · subst e; rw [cg_new]; exact pk_us
  · rw [pk_un e, cg_app (by omega)]; exact h j (by omega)
theorem ar_two {P : List Nat} {x z : Nat} {g : Nat → Int32} (h : ∀ i, i < P.length → g i = nI (cg P i)) : ∀ j, j < (P ++ [x] ++ [z]).length → upd (upd g P.length (nI x)) (P.length + 1) (nI z) j = nI (cg (P ++ [x] ++ [z]) j) := by
  have e : (P ++ [x]).length = P.length + 1 := by rw [List.length_append, List.length_singleton]
  have := ar_one (x := z) (ar_one (x := x) h)
  rw [e] at this
  exact this
