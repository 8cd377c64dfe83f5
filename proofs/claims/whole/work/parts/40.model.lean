/-! ===== the reference: its arrays ===== -/
/-- a text in an array of signs -/
def TA (G : gG) (a : Nat) (L : List Nat) (H : Heap) : Prop := ∃ f : Nat → Int32, gI G a 0 60 f H ∧ (∀ i, i < L.length → f i = nI (cg L i)) ∧ L.length ≤ 60 ∧ ∀ c ∈ L, c < 65536
theorem TA.fr {G : gG} {a lo hi : Nat} {L : List Nat} {H H1 : Heap} (h : TA G a L H) (f : gF lo hi H H1) (hd : a < lo ∨ hi ≤ a) : TA G a L H1 := by
  obtain ⟨g, h1, h2⟩ := h
  exact ⟨g, h1.fr f hd, h2⟩
theorem TA.le {G : gG} {a : Nat} {L : List Nat} {H : Heap} (h : TA G a L H) : L.length ≤ 60 := by
  obtain ⟨g, h1, h2, h3, h4⟩ := h
  exact h3
theorem TA.cg_lt {G : gG} {a i : Nat} {L : List Nat} {H : Heap} (h : TA G a L H) (hi : i < L.length) : cg L i < 65536 := by
  obtain ⟨g, h1, h2, h3, h4⟩ := h
  exact h4 _ (cg_mem hi)
theorem TA.lt {G : gG} {a : Nat} {L : List Nat} {H : Heap} (h : TA G a L H) : a < H.size := by
  obtain ⟨g, h1, h2⟩ := h
  exact h1.lt
/-- references b, b + k, .. -/
def rwk (b k n : Nat) : Nat → Option Nat := fun j => if j < n then some (b + k * j) else none
theorem rwk_at {b k n j : Nat} (h : j < n) : rwk b k n j = some (b + k * j) := if_pos h
/-- what was looked at, side by side: where the text is, its tokens -/
abbrev Wt : Type := Nat → Option (Nat × Tk)
def LA (G : gG) (y : Nat) (w : Wt) (H : Heap) : Prop := gQ G (y + 13) 3 2 (rwk (y + 14) 1 2) H ∧ gQ G (y + 16) 5 2 (rwk (y + 17) 4 2) H ∧ gQ G (y + 25) 5 2 (rwk (y + 26) 4 2) H ∧ (∀ s, s < 2 → gQ G (y + 17 + 4 * s) 3 3 (rw3 (y + 18 + 4 * s)) H ∧ gQ G (y + 26 + 4 * s) 3 3 (rw3 (y + 27 + 4 * s)) H) ∧ (∃ fn : Nat → Option Nat, gQ G (y + 12) 4 2 fn H ∧ ∀ s, s < 2 → ∀ z, w s = some z → fn s = some z.1) ∧ (∀ s, s < 2 → ∃ fm : Nat → Int32, gI G (y + 14 + s) 1 3 fm H ∧ ∀ z, w s = some z → ∀ r, r < 3 → fm r = nI (z.2 r).length) ∧ ∀ s, s < 2 → ∀ r, r < 3 → ∃ fs fe : Nat → Int32, gI G (y + 18 + 4 * s + r) 1 60 fs H ∧ gI G (y + 27 + 4 * s + r) 1 60 fe H ∧ ∀ z, w s = some z → ∀ i, i < (z.2 r).length → fs i = nI (tg (z.2 r) i).1 ∧ fe i = nI (tg (z.2 r) i).2
def wset (w : Wt) (s : Nat) (z : Nat × Tk) : Wt := fun j => if j = s then some z else w j
theorem wset_self {w : Wt} {s : Nat} {z : Nat × Tk} : wset w s z s = some z := if_pos rfl
theorem wset_ne {w : Wt} {s j : Nat} {z : Nat × Tk} (h : j ≠ s) : wset w s z j = w j := if_neg h
theorem wset_wset {w : Wt} {s : Nat} {z z2 : Nat × Tk} : wset (wset w s z) s z2 = wset w s z2 := by
  funext j
  by_cases h : j = s
  · subst h; rw [wset_self, wset_self]
  · rw [wset_ne h, wset_ne h, wset_ne h]
theorem LA.fr {G : gG} {y lo hi : Nat} {w : Wt} {H H1 : Heap} (h : LA G y w H) (f : gF lo hi H H1) (hd : y + 34 ≤ lo ∨ hi ≤ y + 12) : LA G y w H1 := by
  obtain ⟨h1, h2, h3, h4, ⟨fn, h5, h5b⟩, h6, h7⟩ := h
  refine ⟨h1.fr f (by omega), h2.fr f (by omega), h3.fr f (by omega), fun s hs => ⟨(h4 s hs).1.fr f (by omega), (h4 s hs).2.fr f (by omega)⟩, ⟨fn, h5.fr f (by omega), h5b⟩, fun s hs => ?_, fun s hs r hr => ?_⟩
  · obtain ⟨fm, g1, g2⟩ := h6 s hs
    exact ⟨fm, g1.fr f (by omega), g2⟩
  · obtain ⟨fs, fe, g1, g2, g3⟩ := h7 s hs r hr
    exact ⟨fs, fe, g1.fr f (by omega), g2.fr f (by omega), g3⟩
/-- a side begins: its text is set, its counts are 0 -/
theorem LA.begin {G : gG} {y s a : Nat} {w : Wt} {H H1 H2 : Heap} {fn : Nat → Option Nat} {fm : Nat → Int32} (h : LA G y w H) (hs : s < 2) (f1 : gF (y + 12) (y + 12 + 1) H H1) (f2 : gF (y + 14 + s) (y + 14 + s + 1) H1 H2) (hfn : ∀ s, s < 2 → ∀ z, w s = some z → fn s = some z.1)
    (c1 : gQ G (y + 12) 4 2 (va_up fn s (some a)) H2) (c2 : gI G (y + 14 + s) 1 3 (upd (upd (upd fm 0 (nI 0)) 1 (nI 0)) 2 (nI 0)) H2) : LA G y (wset w s (a, fun _ => [])) H2 := by
  obtain ⟨h1, h2, h3, h4, -, h6, h7⟩ := h
  refine ⟨(h1.fr f1 (by omega)).fr f2 (by omega), (h2.fr f1 (by omega)).fr f2 (by omega), (h3.fr f1 (by omega)).fr f2 (by omega), fun j hj => ⟨((h4 j hj).1.fr f1 (by omega)).fr f2 (by omega), ((h4 j hj).2.fr f1 (by omega)).fr f2 (by omega)⟩, ⟨_, c1, fun j hj z hz => ?_⟩, fun j hj => ?_, fun j hj r hr => ?_⟩
  · by_cases e : j = s
    · subst e
      rw [wset_self] at hz
      cases hz
      exact va_up_self _ _ _
    · rw [wset_ne e] at hz
      rw [← hfn j hj z hz]
      simp [va_up, e]
  · by_cases e : j = s
    · subst e
      refine ⟨_, c2, fun z hz r hr => ?_⟩
      rw [wset_self] at hz
      cases hz
      show _ = nI 0
      rcases (show r = 0 ∨ r = 1 ∨ r = 2 by omega) with rfl | rfl | rfl <;> simp [upd]
    · obtain ⟨fm', g1, g2⟩ := h6 j hj
      refine ⟨fm', (g1.fr f1 (by omega)).fr f2 (by omega), fun z hz => ?_⟩
      rw [wset_ne e] at hz
      exact g2 z hz
  · obtain ⟨fs, fe, g1, g2, g3⟩ := h7 j hj r hr
    refine ⟨fs, fe, (g1.fr f1 (by omega)).fr f2 (by omega), (g2.fr f1 (by omega)).fr f2 (by omega), fun z hz i hi => ?_⟩
    by_cases e : j = s
    · subst e
      rw [wset_self] at hz
      cases hz
      exact absurd hi (Nat.not_lt_zero _)
    · rw [wset_ne e] at hz
      exact g3 z hz i hi
/-- a token behind -/
theorem LA.add {G : gG} {y s a r q e : Nat} {T : Tk} {w : Wt} {H H1 H2 H3 : Heap} {fs fe fm : Nat → Int32} (h : LA G y w H) (hw : w s = some (a, T)) (hs : s < 2) (hr : r < 3) (f1 : gF (y + 18 + 4 * s + r) (y + 18 + 4 * s + r + 1) H H1) (f2 : gF (y + 27 + 4 * s + r) (y + 27 + 4 * s + r + 1) H1 H2) (f3 : gF (y + 14 + s) (y + 14 + s + 1) H2 H3)
    (hfs : ∀ i, i < (T r).length → fs i = nI (tg (T r) i).1 ∧ fe i = nI (tg (T r) i).2) (hfm : ∀ j, j < 3 → fm j = nI (T j).length)
    (c1 : gI G (y + 18 + 4 * s + r) 1 60 (upd fs (T r).length (nI q)) H3) (c2 : gI G (y + 27 + 4 * s + r) 1 60 (upd fe (T r).length (nI e)) H3) (c3 : gI G (y + 14 + s) 1 3 (upd fm r (nI ((T r).length + 1))) H3) : LA G y (wset w s (a, addT T r (q, e))) H3 := by
  obtain ⟨h1, h2, h3, h4, ⟨fn, h5, h5b⟩, h6, h7⟩ := h
  refine ⟨((h1.fr f1 (by omega)).fr f2 (by omega)).fr f3 (by omega), ((h2.fr f1 (by omega)).fr f2 (by omega)).fr f3 (by omega), ((h3.fr f1 (by omega)).fr f2 (by omega)).fr f3 (by omega), fun j hj => ⟨(((h4 j hj).1.fr f1 (by omega)).fr f2 (by omega)).fr f3 (by omega), (((h4 j hj).2.fr f1 (by omega)).fr f2 (by omega)).fr f3 (by omega)⟩, ⟨fn, ((h5.fr f1 (by omega)).fr f2 (by omega)).fr f3 (by omega), fun j hj z hz => ?_⟩, fun j hj => ?_, fun j hj k hk => ?_⟩
  · by_cases c : j = s
    · subst c
      rw [wset_self] at hz
      cases hz
      exact (h5b j hj (a, T) hw : fn j = some a)
    · rw [wset_ne c] at hz
      exact h5b j hj z hz
  · by_cases c : j = s
    · subst c
      refine ⟨_, c3, fun z hz k hk => ?_⟩
      rw [wset_self] at hz
      cases hz
      show _ = nI (addT T r (q, e) k).length
      by_cases d : k = r
      · subst d; rw [addT_self]; simp [upd]
      · rw [addT_ne d, ← hfm k hk]; simp [upd, d]
    · obtain ⟨fm', g1, g2⟩ := h6 j hj
      refine ⟨fm', ((g1.fr f1 (by omega)).fr f2 (by omega)).fr f3 (by omega), fun z hz => ?_⟩
      rw [wset_ne c] at hz
      exact g2 z hz
  · by_cases c : j = s
    · subst c
      by_cases d : k = r
      · subst d
        refine ⟨_, _, c1, c2, fun z hz i hi => ?_⟩
        rw [wset_self] at hz
        cases hz
        show _ = nI (tg (addT T k (q, e) k) i).1 ∧ _ = nI (tg (addT T k (q, e) k) i).2
        have hi' : i < (addT T k (q, e) k).length := hi
        rw [addT_self] at hi' ⊢
        simp at hi'
        by_cases x : i < (T k).length
        · rw [tg_app x, ← (hfs i x).1, ← (hfs i x).2]
          simp [upd, show i ≠ (T k).length by omega]
        · have x2 : i = (T k).length := by omega
          subst x2
          rw [tg_new]
          simp [upd]
      · obtain ⟨fs', fe', g1, g2, g3⟩ := h7 j hj k hk
        refine ⟨fs', fe', ((g1.fr f1 (by omega)).fr f2 (by omega)).fr f3 (by omega), ((g2.fr f1 (by omega)).fr f2 (by omega)).fr f3 (by omega), fun z hz i hi => ?_⟩
        rw [wset_self] at hz
        cases hz
        have hi' : i < (addT T r (q, e) k).length := hi
        show _ = nI (tg (addT T r (q, e) k) i).1 ∧ _ = nI (tg (addT T r (q, e) k) i).2
        rw [addT_ne d] at hi' ⊢
        exact g3 _ hw i hi'
    · obtain ⟨fs', fe', g1, g2, g3⟩ := h7 j hj k hk
      refine ⟨fs', fe', ((g1.fr f1 (by omega)).fr f2 (by omega)).fr f3 (by omega), ((g2.fr f1 (by omega)).fr f2 (by omega)).fr f3 (by omega), fun z hz => ?_⟩
      rw [wset_ne c] at hz
      exact g3 z hz
theorem growadd {T : Tk} {r q x e : Nat} : growT (addT T r (q, x)) r e = addT T r (q, e) := by
  funext j
  by_cases h : j = r
  · subst h
    rw [growT_self, last_add, addT_self, addT_self]
    simp
  · rw [growT_ne h, addT_ne h, addT_ne h]
/-- a run of signs of one kind is a token -/
theorem pf_run {L : List Nat} {q e : Nat} (hqe : q < e) (hk : kd (cg L q) ≠ 0) (hb : kd (cg L q) ≠ (pf L q).2.1) (hs : ∀ j, q ≤ j → j < e → kd (cg L j) = kd (cg L q)) : pf L e = ((pf L q).1, kd (cg L q), addT (pf L q).2.2 (pf L q).1 (q, e)) := by
  obtain ⟨d, rfl⟩ : ∃ d, e = q + 1 + d := ⟨e - q - 1, by omega⟩
  clear hqe
  induction d with
  | zero =>
    show pstep L q (pf L q) = _
    rw [pstep_new hk hb, growadd]
  | succ d ih =>
    have h1 := ih (fun j a b => hs j a (by omega))
    show pstep L (q + 1 + d) (pf L (q + 1 + d)) = _
    have hkd := hs (q + 1 + d) (by omega) (by omega)
    rw [h1, pstep_old (by rw [hkd]; exact hk) hkd]
    show (_, _, growT (addT _ _ _) _ _) = _
    rw [growadd, hkd]
    rfl
/-- the reference's object -/
def MO (G : gG) (y : Nat) (n th : Int32) (H : Heap) : Prop := gO G y 3 [.ref (y + 1), .int n, .ref (y + 2), .ref (y + 11), .ref (y + 12), .ref (y + 13), .ref (y + 16), .ref (y + 25), .int th] H
theorem MO.fr {G : gG} {y lo hi : Nat} {n th : Int32} {H H1 : Heap} (h : MO G y n th H) (f : gF lo hi H H1) (hd : y < lo ∨ hi ≤ y) : MO G y n th H1 := gO.fr h f hd
theorem kd_eq {a b : Nat} (ha : kd a ≠ 0) (hb : kd b ≠ 0) (h : decide (kd a = 1) = decide (kd b = 1)) : kd a = kd b := by
  have h1 := kd_lt a
  have h2 := kd_lt b
  by_cases x : kd a = 1
  · rw [decide_eq_true x] at h
    rw [x, of_decide_eq_true h.symm]
  · rw [decide_eq_false x] at h
    have := of_decide_eq_false h.symm
    omega
section GM
variable {p : Program} {l : Launch} {e : Env} {R : Room} {s : State} {m : MethodId} {args : Array Value} {below : List Frame} {meth : Method} {c : Code} {H : Heap} {locs : List Loc} {cells slots : Nat} {Q : State → Prop}
variable {cc : ByteArray} {pc : Nat} {ls : Array Slot} {rest : List Value} {H0 : Heap} {G : gG} {lo hi : Nat}
/-- an array of signs into an array of such -/
theorem x_aastA {A : Nat → Prop} {a n i v : Nat} {f : Nat → Option Nat} {z : vp_A} (hx : p.tables.exec = Jvm.exec) (hb : c.code = cc) (hK : gK G s) (hE : gE l G lo hi s) (hC : gQ G a 4 n f H) (hv : gC G v 0 z H) (hi' : i < n) (hn : n < 2147483648) (hS0 : va_S A H0 H locs) (hA : A a) (hdg : decode cc pc = .ok (.aastore, 1))
    (kk : ∀ (H1 : Heap) (locs1 : List Loc), gQ G a 4 n (va_up f i (some v)) H1 → gF a (a + 1) H H1 → H1.size = H.size → va_S A H0 H1 locs1 → W p l e R s m args below meth c H1 locs1 cells slots Q (F0 m (pc + 1) ls rest)) : W p l e R s m args below meth c H locs cells slots Q (F0 m pc ls (.ref v :: .int (nI i) :: .ref a :: rest)) := by
  have hlt : (nI i).toNatClampNeg < n := by rw [nI_clamp (by omega)]; exact hi'
  obtain ⟨comp, c4, k4, e1, -, e2, e3, e4⟩ := arrayOverA_spec hE.2.1.2.2.2.2.2.2.2.1
  have f4 : s.vm.findClass ("[" ++ (FieldType.array .char).toString) = some (G.2.1 4) := (hK.2 4 _ (gTys_at (by decide))).2
  have f0 : s.vm.findClass ("[" ++ FieldType.char.toString) = some (G.2.1 0) := (hK.2 0 _ (gTys_at (by decide))).2
  have hc4 : c4 = G.2.1 4 := Option.some.inj (e4.symm.trans f4)
  subst hc4
  have hcomp : comp = G.2.1 0 := Option.some.inj (e1.symm.trans f0)
  subst hcomp
  obtain ⟨kC, hkC, -⟩ := Vm.findClass_spec f0
  have hcell : ∃ cv : Cell, H[v]? = some cv ∧ cv.cls = G.2.1 0 ∧ cv.vm = .none := by
    obtain ⟨nn, ff | ff | ff | ff | ff⟩ := z <;> exact ⟨_, hv, rfl, rfl⟩
  obtain ⟨cv, g1, g2, g3⟩ := hcell
  refine W.aast hx hb hC (fun q h => by cases h) (fun h => by cases h) e2 e3 rfl hkC ⟨nI_pos (by omega), by show _ < (arrV _ _ _).slots.size; rw [arrV_size]; exact hlt⟩ g1 (fun q h => by rw [g3] at h; cases h) (by rw [g2]; exact hkC) (by rw [g2]; unfold Vm.assignable; rw [Vm.assignableAux, beq_self_eq_true, Bool.true_or]) rfl rfl hdg fun H1 e z oq => ?_
  refine kk H1 _ ?_ ⟨by rw [z]; exact Nat.le_refl _, fun q _ hq => oq q (show @Ne Nat q a by omega)⟩ z (hS0.put z oq hA)
  show H1[a]? = some (vp_cell _ _)
  rw [e, nI_clamp (by omega)]
  show some ((vp_cell _ _).setSlot _ _) = _
  rw [vp_cell_q, vp_cell_q, arrV_store]
  congr 2
  funext q
  by_cases hq : q = i
  · subst hq
    simp [updV, va_up, va_rf]
  · simp [updV, va_up, hq]
end GM
def inB (x a b : Int32) : Bool := decide (a ≤ x) && decide (x ≤ b)
theorem inB_t {x a b : Int32} (h1 : a ≤ x) (h2 : x ≤ b) : bI (inB x a b) = nI 1 := by unfold inB; rw [decide_eq_true h1, decide_eq_true h2]; rfl
theorem inB_f {x a b : Int32} (h : x < a ∨ b < x) : bI (inB x a b) = nI 0 := by
  unfold inB
  rcases h with h | h
  · rw [decide_eq_false (Int32.not_le.mpr h)]; rfl
  · rw [decide_eq_false (Int32.not_le.mpr h), Bool.and_false]; rfl
theorem inB_iff {x a b : Int32} : inB x a b = true ↔ a ≤ x ∧ x ≤ b := by unfold inB; simp
theorem kd_57 {c : Nat} (h : kd c = 1) : c ≤ 57 := by
  unfold kd at h
  split at h
  · omega
  · split at h <;> omega
theorem kd_j {c : Nat} (h : kd c = 0) : c = 46 ∨ c = 45 ∨ c = 43 := by
  unfold kd at h
  split at h
  · omega
  · split at h
    · assumption
    · omega
def isWayB (ch : Nat) : Bool := decide (ch = 110 ∨ ch = 46 ∨ ch = 45 ∨ ch = 43)
theorem isWayB_t {ch : Nat} (h : ch = 110 ∨ ch = 46 ∨ ch = 45 ∨ ch = 43) : bI (isWayB ch) = nI 1 := by unfold isWayB; rw [decide_eq_true h]; rfl
theorem isWayB_f {ch : Nat} (h : ch ≠ 110) (h2 : ¬ kd ch = 0) : bI (isWayB ch) = nI 0 := by
  unfold isWayB
  rw [decide_eq_false]
  · rfl
  · rintro (g | g)
    · exact h g
    · exact h2 (kd_joint g)
theorem isWayB_iff {ch : Nat} : isWayB ch = true ↔ isWay ch := by unfold isWayB isWay; exact decide_eq_true_iff
theorem dig_u {j : Nat} (h : 0 < j) : (0 < j - 1 ∧ nI (j - 1) + Int32.ofInt (-1) = nI (j - 1 - 1)) ∨ (j - 1 = 0 ∧ nI (j - 1) + Int32.ofInt (-1) = -1) := by
  by_cases e : j - 1 = 0
  · exact Or.inr ⟨e, by rw [e]; decide⟩
  · exact Or.inl ⟨by omega, x_dec (by omega)⟩
theorem dig_g {g : Nat → Int32} {fr j m v : Nat} {F : Nat → Nat} (h0 : 0 < j) (hj : j ≤ m) (hv : F (j - 1) = v) (h : ∀ i, j ≤ i → i < m → g (fr + i) = nI (F i)) : ∀ i, j - 1 ≤ i → i < m → upd g (fr + (j - 1)) (nI v) (fr + i) = nI (F i) := by
  intro i h1 h2
  by_cases e : i = j - 1
  · subst e; rw [hv]; exact pk_us
  · rw [pk_un (by omega)]; exact h i (by omega) h2
theorem lt_pow_dgs (n : Nat) : n < 10 ^ dgs n := by
  induction n using Nat.strongRecOn with
  | _ n ih =>
    rcases Nat.lt_or_ge n 10 with h | h
    · rw [dgs_small h]; omega
    · rw [dgs_step h, Nat.pow_succ]
      have := ih (n / 10) (by omega)
      omega
theorem dg_cg : ∀ (n i : Nat), i < dgs n → cg (dg n) i = 48 + n / 10 ^ (dgs n - 1 - i) % 10 := by
  intro n
  induction n using Nat.strongRecOn with
  | _ n ih =>
    intro i hi
    rcases Nat.lt_or_ge n 10 with h | h
    · rw [dgs_small h] at hi ⊢
      have : i = 0 := by omega
      subst this
      rw [dg_small h]
      show 48 + n = _
      rw [Nat.pow_zero, Nat.div_one, Nat.mod_eq_of_lt h]
    · rw [dg_step h]
      rw [dgs_step h] at hi ⊢
      by_cases e : i < dgs (n / 10)
      · rw [cg_app (by exact e), ih (n / 10) (by omega) i e, Nat.div_div_eq_div_mul, Nat.mul_comm, ← Nat.pow_succ]
        congr 4
        omega
      · have e2 : i = (dg (n / 10)).length := by
          show i = dgs (n / 10)
          omega
        rw [e2, cg_new]
        show _ = 48 + n / 10 ^ (dgs (n / 10) + 1 - 1 - dgs (n / 10)) % 10
        rw [Nat.add_sub_cancel, Nat.sub_self, Nat.pow_zero, Nat.div_one]
theorem num_cg {n z j r : Nat} (h0 : 0 < j) (hj : j ≤ z + dgs n) (hr : r = n / 10 ^ (z + dgs n - j)) : cg (num n z) (j - 1) = 48 + r % 10 := by
  unfold num
  by_cases e : j - 1 < z
  · rw [cg_app (by rw [List.length_replicate]; exact e)]
    have hz : n / 10 ^ (z + dgs n - j) = 0 := by
      apply Nat.div_eq_of_lt
      refine Nat.lt_of_lt_of_le (lt_pow_dgs n) (Nat.pow_le_pow_right (by decide) (by omega))
    rw [hr, hz]
    unfold cg
    simp [List.getD, List.getElem?_replicate, e]
  · obtain ⟨d, hd⟩ : ∃ d, j - 1 = (List.replicate z 48).length + d := ⟨j - 1 - z, by rw [List.length_replicate]; omega⟩
    rw [hd, cg_app2]
    rw [List.length_replicate] at hd
    rw [dg_cg n d (by omega), hr]
    congr 4
    omega
theorem pf_J {L : List Nat} {q : Nat} (h : kd (cg L q) = 0) : pf L (q + 1) = (rowB (pf L q).1 (cg L q), 0, (pf L q).2.2) := pstep_joint h
theorem run_ext {L : List Nat} {q t : Nat} (h : ∀ j, q ≤ j → j < t → kd (cg L j) = kd (cg L q)) (h2 : kd (cg L t) = kd (cg L q)) : ∀ j, q ≤ j → j < t + 1 → kd (cg L j) = kd (cg L q) := by
  intro j h3 h4
  by_cases e : j = t
  · subst e; exact h2
  · exact h j h3 (by omega)
